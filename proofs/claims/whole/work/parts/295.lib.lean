section SND7
variable {p : Program} {l : Launch} {e : Env} {R : Room} {s : State} {m : MethodId} {args : Array Value} {below : List Frame} {meth : Method} {c : Code} {H : Heap} {locs : List Loc} {cells slots : Nat} {Q : State → Prop}
variable {M : am_M} {pc len : Nat} {ls : Array Slot} {st st' rest : List Value} {ad : Nat → Nat} {ins : Instr}
variable {D : va_G} {cy : Nat → ClassId} {A : Nat → Prop} {adF : Nat → Nat} {fK : Nat → Nat × Nat} {fI : Nat → Nat → Int32} {σ σ' : am_S}
theorem am_s_len {a x na : Nat} {M' : am_M} (C : am_Ctx p R s m meth c M D cy A adF fK fI) (hQ : am_Q D cy A adF fK fI ad σ H) (hS : va_S A s.heap H locs) (hls : ls.size = am_maxL M) (hf : am_find x (am_callT (am_own M)) = some (4, na, M')) (hk : (am_K σ a).1 = 18) (hcat : (rest.map fun v => v.category).sum ≤ 8)
    (hd : decode (am_code M) pc = .ok (.invokevirtual x, 3)) (hc : cells ≤ R.cells) (hz : slots ≤ R.slots) (kk : W p l e R s m args below meth c H locs cells slots Q (F0 m (pc + 3) ls (.int (Int32.ofNat (am_K σ a).2) :: rest))) : W p l e R s m args below meth c H locs cells slots Q (F0 m pc ls (.ref (ad a) :: rest)) := by
  obtain ⟨hx, hb, hml, hown, -, hG, hA, hfr, hlo⟩ := C
  obtain ⟨h1, h2, h3⟩ := hQ.2.1 a (Or.inl hk)
  have hk2 : fK a = (18, (am_K σ a).2) := by rw [← h2]; exact am_K_eta hk
  have hj : ∀ U : State, U.heap = H → s.WarmedH U.vm → js_P A (adF a) (am_K σ a).2 (fI a) U := fun U hU hW => (hG.at (U := U) hS hU hW).js hk2
  have hrc := js_recv ((hG.2.2.2.1 a _ hk2).kept hS.2.1)
  rw [hQ.2.2 a h1]
  refine vp_callSi (W.runV (As := []) (rest := rest) (Ts := []) ⟨hx, hb, hml, hown, fun _ h => by cases h⟩ (js_length (A := A) (t := adF a) (m := (am_K σ a).2) (f := fI a)) ⟨am_CB hG.1 ((am_link hf (by decide)).2.1 rfl) js_n_RJ0 js_c_length (by decide +kernel) ⟨by show 3 + 1 ≤ R.frames; omega, by show 8 + (1 + 11) + 120 ≤ R.locals; omega⟩ rfl rfl, hG.1.use js_i_length _, hG.1.use js_s_length _⟩
    ⟨fun a U g mk q => ⟨q.1, js_P.same (u := U) rfl rfl q.2⟩, hrc, fun U hU hW => ⟨rfl, hj U hU hW⟩⟩ rfl rfl hls rfl (by show 2 * 0 + _ ≤ 8; omega) hd ⟨hc, hz⟩) (fun r hr0 => ?_)
  subst hr0
  exact kk
theorem am_s_char {a x na : Nat} {i : Int32} {M' : am_M} (C : am_Ctx p R s m meth c M D cy A adF fK fI) (hQ : am_Q D cy A adF fK fI ad σ H) (hS : va_S A s.heap H locs) (hls : ls.size = am_maxL M) (hf : am_find x (am_callT (am_own M)) = some (5, na, M')) (hk : (am_K σ a).1 = 18) (hin : am_in i (am_K σ a).2 = true) (hcat : (rest.map fun v => v.category).sum ≤ 8)
    (hd : decode (am_code M) pc = .ok (.invokevirtual x, 3)) (hc : cells ≤ R.cells) (hz : slots ≤ R.slots) (kk : W p l e R s m args below meth c H locs cells slots Q (F0 m (pc + 3) ls (.int (am_I σ a i.toNatClampNeg) :: rest))) : W p l e R s m args below meth c H locs cells slots Q (F0 m pc ls (.int i :: .ref (ad a) :: rest)) := by
  obtain ⟨hx, hb, hml, hown, -, hG, hA, hfr, hlo⟩ := C
  obtain ⟨h1, h2, h3⟩ := hQ.2.1 a (Or.inl hk)
  have hk2 : fK a = (18, (am_K σ a).2) := by rw [← h2]; exact am_K_eta hk
  have hj : ∀ U : State, U.heap = H → s.WarmedH U.vm → js_P A (adF a) (am_K σ a).2 (fI a) U := fun U hU hW => (hG.at (U := U) hS hU hW).js hk2
  have hrc := js_recv ((hG.2.2.2.1 a _ hk2).kept hS.2.1)
  rw [hQ.2.2 a h1]
  refine vp_callSi (W.runV (As := [.int i]) (rest := rest) (Ts := []) ⟨hx, hb, hml, hown, fun _ h => by cases h⟩ (js_charAt (A := A) (t := adF a) (m := (am_K σ a).2) (f := fI a) (am_in_iff hin)) ⟨am_CB (n := 1) hG.1 ((am_link hf (by decide)).2.2.1 rfl) js_n_RJ0 js_c_charAt (by decide +kernel) ⟨by show 6 + 1 ≤ R.frames; omega, by show 8 + (2 + 11) + 240 ≤ R.locals; omega⟩ rfl rfl, hG.1.use js_i_charAt _, hG.1.use js_s_charAt _⟩
    ⟨fun a U g mk q => ⟨q.1, js_P.same (u := U) rfl rfl q.2⟩, hrc, fun U hU hW => ⟨rfl, hj U hU hW⟩⟩ rfl rfl hls rfl (by show 2 * 0 + _ ≤ 8; omega) hd ⟨hc, hz⟩) (fun r hr0 => ?_)
  subst hr0
  rw [h3] at kk
  exact kk
theorem am_s_math {x kd na : Nat} {M' : am_M} (C : am_Ctx p R s m meth c M D cy A adF fK fI) (hls : ls.size = am_maxL M) (hf : am_find x (am_callT (am_own M)) = some (kd, na, M')) (h : am_math kd st = some st') 
    (hd : decode (am_code M) pc = .ok (.invokestatic x, 3)) (hc : cells ≤ R.cells) (hz : slots ≤ R.slots) (kk : W p l e R s m args below meth c H locs cells slots Q (F0 m (pc + 3) ls (st'.map (am_cv ad)))) : W p l e R s m args below meth c H locs cells slots Q (F0 m pc ls (st.map (am_cv ad))) := by
  obtain ⟨hx, hb, hml, hown, -, hG, hA, hfr, hlo⟩ := C
  have hmls : c.maxLocals = ls.size := hml.trans hls.symm
  unfold am_math at h
  split at h
  · split at h
    · cases h
      exact va_mmax hx hb hmls hown (hG.1.use ((am_link hf (by decide)).2.2.2.2.1 rfl) _) (hG.1.use am_wm_max_s _) (hG.1.use am_wm_i _) (hG.1.use am_wm_max_c _) (by omega) (by rw [am_cats]; omega) hc hz hd kk
    · cases h
  · split at h
    · cases h
      exact va_mmin hx hb hmls hown (hG.1.use ((am_link hf (by decide)).2.2.2.2.2.1 rfl) _) (hG.1.use am_wm_min_s _) (hG.1.use am_wm_i _) (hG.1.use am_wm_min_c _) (by omega) (by rw [am_cats]; omega) hc hz hd kk
    · cases h
  · split at h
    · cases h
      exact va_mabs hx hb hmls hown (hG.1.use ((am_link hf (by decide)).2.2.2.2.2.2.1 rfl) _) (hG.1.use am_wm_abs_s _) (hG.1.use am_wm_i _) (hG.1.use am_wm_abs_c _) (by omega) (by rw [am_cats]; omega) hc hz hd kk
    · cases h
  · split at h
    · cases h
      exact va_mmax_long hx hb hmls hown (hG.1.use ((am_link hf (by decide)).2.2.2.2.2.2.2.1 rfl) _) (hG.1.use am_wm_lmax_s _) (hG.1.use am_wm_i _) (hG.1.use am_wm_lmax_c _) (by omega) (by rw [am_cats]; omega) hc hz hd kk
    · cases h
  · split at h
    · cases h
      exact va_mmin_long hx hb hmls hown (hG.1.use ((am_link hf (by decide)).2.2.2.2.2.2.2.2 rfl) _) (hG.1.use am_wm_lmin_s _) (hG.1.use am_wm_i _) (hG.1.use am_wm_lmin_c _) (by omega) (by rw [am_cats]; omega) hc hz hd kk
    · cases h
  · cases h
set_option maxHeartbeats 4000000 in
theorem am_s_copy {x na a b : Nat} {n sp dp : Int32} {M' : am_M} (C : am_Ctx p R s m meth c M D cy A adF fK fI) (hQ : am_Q D cy A adF fK fI ad σ H) (hS : va_S A s.heap H locs) (hls : ls.size = am_maxL M) (hf : am_find x (am_callT (am_own M)) = some (6, na, M'))
    (h : ((am_K σ a).1 = 20 ∨ (am_K σ a).1 = 19) ∧ (am_K σ b).1 = 20 ∧ ¬ sp < 0 ∧ ¬ dp < 0 ∧ ¬ n < 0 ∧ sp.toNatClampNeg + n.toNatClampNeg ≤ (am_K σ a).2 ∧ dp.toNatClampNeg + n.toNatClampNeg ≤ (am_K σ b).2 ∧ (rest.map fun v => v.category).sum ≤ 8)
    (hd : decode (am_code M) pc = .ok (.invokestatic x, 3)) (kk : ∀ (H1 : Heap) (locs1 : List Loc), am_Q D cy A adF fK fI ad (am_sA σ b (va_cpy (am_I σ a) (am_I σ b) sp.toNatClampNeg dp.toNatClampNeg n.toNatClampNeg)) H1 → va_S A s.heap H1 locs1 → W p l e R s m args below meth c H1 locs1 cells slots Q (F0 m (pc + 3) ls rest)) : W p l e R s m args below meth c H locs cells slots Q (F0 m pc ls (.int n :: .int dp :: .ref (ad b) :: .int sp :: .ref (ad a) :: rest)) := by
  obtain ⟨hx, hb, hml, hown, -, hG, hA, hfr, hlo⟩ := C
  have hmls : c.maxLocals = ls.size := hml.trans hls.symm
  obtain ⟨hka, hkb, g1, g2, g3, g4, g5, g6⟩ := h
  have hbn : b < am_n σ := hQ.1.2.2.1 b (Or.inr (by omega))
  have hwb := am_W_at (cy := cy) (ad := ad) hbn
  rw [am_E_int (am_K_eta hkb) (Or.inl rfl)] at hwb
  have hloc : (rest.map fun v => v.category).sum + (nativeFrameWords "java/lang/System" "arraycopy" 5 + 11) ≤ R.locals := by
    have : nativeFrameWords "java/lang/System" "arraycopy" 5 ≤ 200 := by decide +kernel
    omega
  have fin : ∀ (H1 : Heap) (locs1 : List Loc), va_P D vwCl ((am_W cy ad σ).set b (ad b, .inl (cy 20, (am_K σ b).2, .inl (va_cpy (am_I σ a) (am_I σ b) sp.toNatClampNeg dp.toNatClampNeg n.toNatClampNeg)))) H1 → va_D A ((am_W cy ad σ).set b (ad b, .inl (cy 20, (am_K σ b).2, .inl (va_cpy (am_I σ a) (am_I σ b) sp.toNatClampNeg dp.toNatClampNeg n.toNatClampNeg)))) → va_S A s.heap H1 locs1 → W p l e R s m args below meth c H1 locs1 cells slots Q (F0 m (pc + 3) ls rest) :=
    fun H1 locs1 q1 q2 q3 => kk H1 locs1 (am_s_ist (t0 := 0) (ty := .int) (σ' := am_sA σ b (va_cpy (am_I σ a) (am_I σ b) sp.toNatClampNeg dp.toNatClampNeg n.toNatClampNeg)) hQ (am_K_eta hkb) (Or.inl rfl) am_w_s rfl rfl rfl am_E_sA (fun b2 hb2 => am_w_n hb2) q1 q2) q3
  rcases hka with hka | hka
  · have han : a < am_n σ := hQ.1.2.2.1 a (Or.inr (by omega))
    have hwa := am_W_at (cy := cy) (ad := ad) han
    rw [am_E_int (am_K_eta hka) (Or.inl rfl)] at hwa
    exact va_copyi hx hb hmls hown (hG.1.use ((am_link hf (by decide)).2.2.2.1 rfl) _) (hG.1.use am_w_an _) (hG.1.use am_w_as _) (hG.1.use am_w_ai _) hG.2.1 hQ.1.1 hQ.1.2.1 hS a b 0 0 hwa hwb rfl rfl rfl g1 g2 g3 g4 g5 (fun _ _ => rfl) (by omega) hloc hd fin
  · obtain ⟨h1, h2, h3⟩ := hQ.2.1 a (Or.inr hka)
    have hzz := hG.2.2.1 a (am_K σ a).2 (by rw [← h2]; exact am_K_eta hka)
    rw [← hQ.2.2 a h1, ← h3] at hzz
    exact am_copyT hx hb hmls hown (hG.1.use ((am_link hf (by decide)).2.2.2.1 rfl) _) (hG.1.use am_w_an _) (hG.1.use am_w_as _) (hG.1.use am_w_ai _) hG.2.1 hQ.1.1 hQ.1.2.1 hS hzz b 0 hwb rfl g1 g2 g3 g4 g5 (by omega) hloc hd fin
theorem am_mathok {n kd : Nat} (h : am_math kd st = some st') (hv : ∀ v ∈ st, am_vok n v) : ∀ v ∈ st', am_vok n v := by
  unfold am_math at h
  split at h
  · split at h
    · cases h
      exact am_consok (am_tailok (am_tailok hv)) trivial
    · cases h
  · split at h
    · cases h
      exact am_consok (am_tailok (am_tailok hv)) trivial
    · cases h
  · split at h
    · cases h
      exact am_consok (am_tailok hv) trivial
    · cases h
  · split at h
    · cases h
      exact am_consok (am_tailok (am_tailok hv)) trivial
    · cases h
  · split at h
    · cases h
      exact am_consok (am_tailok (am_tailok hv)) trivial
    · cases h
  · cases h
set_option maxHeartbeats 4000000 in
theorem am_s_lib (C : am_Ctx p R s m meth c M D cy A adF fK fI) (hQ : am_Q D cy A adF fK fI ad σ H) (hS : va_S A s.heap H locs) (hst : ∀ v ∈ st, am_vok (am_n σ) v) (hls : ls.size = am_maxL M) (hi : (∃ x, ins = .invokespecial x) ∨ (∃ x, ins = .invokevirtual x) ∨ ∃ x, ins = .invokestatic x)
    (h : am_mem M σ ins st = some (st', σ')) (hd : decode (am_code M) pc = .ok (ins, 3)) (hc : cells ≤ R.cells) (hz : slots ≤ R.slots)
    (k : am_KK p l e R s m args below meth c Q D cy A adF fK fI ad σ σ' cells slots st' ls (pc + 3)) : W p l e R s m args below meth c H locs cells slots Q (F0 m pc ls (st.map (am_cv ad))) := by
  rcases hi with ⟨x, rfl⟩ | ⟨x, rfl⟩ | ⟨x, rfl⟩
  · obtain ⟨hx, hb, hml, hown, -, hG, hA, hfr, hlo⟩ := C
    have hmls : c.maxLocals = ls.size := hml.trans hls.symm
    have room : ∀ q : List Value, (q.map fun v => v.category).sum ≤ 8 → 2 * 0 + ((q.map (am_cv ad)).map fun v => v.category).sum + 12 ≤ R.locals := by
      intro q hq
      rw [am_cats]
      omega
    rcases st with _ | ⟨v, r⟩
    · simp [am_mem] at h
    · have hr := am_tailok hst
      cases v <;> simp only [am_mem, reduceCtorEq] at h
      cases hf : am_find x (am_callT (am_own M)) with
      | none => rw [hf] at h; simp at h
      | some q =>
        obtain ⟨kd, na, M'⟩ := q
        rw [hf] at h
        split at h
        · rename_i heq
          cases heq
          split at h
          · rename_i hcat
            cases h
            exact W.objInit hx hb hown (hG.1.use ((am_link hf (by decide)).1 rfl) _) (hG.1.use am_w_oi _) (hG.1.use am_w_oc _) rfl hmls.symm rfl hd (by omega) (room _ hcat) (k.go rfl rfl hQ hS hr)
          · cases h
        · cases h
  · have one : ∀ (a : Nat) (r : List Value), st = .ref a :: r → (match am_find x (am_callT (am_own M)) with
        | some (4, _, _) => if (am_K σ a).1 = 18 ∧ (r.map fun v => v.category).sum ≤ 8 then some (.int (Int32.ofNat (am_K σ a).2) :: r, σ) else none
        | _ => none) = some (st', σ') → W p l e R s m args below meth c H locs cells slots Q (F0 m pc ls (st.map (am_cv ad))) := by
      intro a r e1 h9
      clear h
      subst e1
      have hr := am_tailok hst
      cases hf : am_find x (am_callT (am_own M)) with
      | none => rw [hf] at h9; simp at h9
      | some q =>
        obtain ⟨kd, na, M'⟩ := q
        rw [hf] at h9
        split at h9
        · rename_i heq
          cases heq
          split at h9
          · rename_i hcat
            cases h9
            exact am_s_len C hQ hS hls hf hcat.1 (by rw [am_cats]; exact hcat.2) hd hc hz (k.go rfl rfl hQ hS (am_consok hr trivial))
          · cases h9
        · cases h9
    rcases st with _ | ⟨v, _ | ⟨w, r⟩⟩
    · simp [am_mem] at h
    · cases v <;> simp only [am_mem, reduceCtorEq] at h
      exact one _ _ rfl h
    · cases v with
      | ref a => exact one a _ rfl (by cases w <;> exact h)
      | int i =>
        have hr := am_tailok (am_tailok hst)
        cases w <;> simp only [am_mem, reduceCtorEq] at h
        rename_i a
        cases hf : am_find x (am_callT (am_own M)) with
        | none => rw [hf] at h; simp at h
        | some q =>
          obtain ⟨kd, na, M'⟩ := q
          rw [hf] at h
          split at h
          · rename_i heq
            cases heq
            split at h
            · rename_i hcat
              cases h
              exact am_s_char C hQ hS hls hf hcat.1 hcat.2.1 (by rw [am_cats]; exact hcat.2.2) hd hc hz (k.go rfl rfl hQ hS (am_consok hr trivial))
            · cases h
          · cases h
      | _ => simp [am_mem] at h
  · simp only [am_mem] at h
    cases hf : am_find x (am_callT (am_own M)) with
    | none => rw [hf] at h; simp at h
    | some q =>
      obtain ⟨kd, na, M'⟩ := q
      rw [hf] at h
      simp only at h
      by_cases h6 : kd = 6
      · rw [if_pos h6] at h
        subst h6
        split at h
        · split at h
          · rename_i hcat
            cases h
            have hr := am_tailok (am_tailok (am_tailok (am_tailok (am_tailok hst))))
            refine am_s_copy C hQ hS hls hf ?_ hd (fun H1 locs1 q1 q2 => k.go rfl rfl q1 q2 hr)
            rw [am_cats]
            exact hcat
          · cases h
        · cases h
      · rw [if_neg h6] at h
        cases hm : am_math kd st with
        | none => rw [hm] at h; cases h
        | some z =>
          rw [hm] at h
          cases h
          exact am_s_math C hls hf hm hd hc hz (k.go rfl rfl hQ hS (am_mathok hm hst))
end SND7
