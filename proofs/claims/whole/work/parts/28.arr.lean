section SND5
variable {p : Program} {l : Launch} {e : Env} {R : Room} {s : State} {m : MethodId} {args : Array Value} {below : List Frame} {meth : Method} {c : Code} {H : Heap} {locs : List Loc} {cells slots : Nat} {Q : State → Prop}
variable {M : am_M} {pc len : Nat} {ls : Array Slot} {st st' rest : List Value} {ad : Nat → Nat} {ins : Instr}
variable {D : va_G} {cy : Nat → ClassId} {A : Nat → Prop} {adF : Nat → Nat} {fK : Nat → Nat × Nat} {fI : Nat → Nat → Int32} {σ σ' : am_S}
/-- what an instruction's row is told -/
abbrev am_Ctx (p : Program) (R : Room) (s : State) (m : MethodId) (meth : Method) (c : Code) (M : am_M) (D : va_G) (cy : Nat → ClassId) (A : Nat → Prop) (adF : Nat → Nat) (fK : Nat → Nat × Nat) (fI : Nat → Nat → Int32) : Prop :=
  p.tables.exec = Jvm.exec ∧ c.code = am_code M ∧ c.maxLocals = am_maxL M ∧ s.vm.findClass (am_cn (am_own M)) = some m.cls ∧ meth.name = (am_name M).name ∧ am_G D cy A adF fK fI s s.heap ∧ (∀ q, s.heap.size ≤ q → A q) ∧ 10 ≤ R.frames ∧ 300 ≤ R.locals
set_option maxHeartbeats 4000000 in
theorem am_s_load (C : am_Ctx p R s m meth c M D cy A adF fK fI) (hQ : am_Q D cy A adF fK fI ad σ H) (hS : va_S A s.heap H locs) (hst : ∀ v ∈ st, am_vok (am_n σ) v) (hi : ins = .iaload ∨ ins = .laload ∨ ins = .baload ∨ ins = .aaload ∨ ins = .arraylength)
    (h : am_mem M σ ins st = some (st', σ')) (hd : decode (am_code M) pc = .ok (ins, 1)) (k : am_KK p l e R s m args below meth c Q D cy A adF fK fI ad σ σ' cells slots st' ls (pc + 1)) : W p l e R s m args below meth c H locs cells slots Q (F0 m pc ls (st.map (am_cv ad))) := by
  obtain ⟨hx, hb, -, hown, -, hG, -⟩ := C
  rcases hi with rfl | rfl | rfl | rfl | rfl
  · rcases st with _ | ⟨v, _ | ⟨w, r⟩⟩
    · simp [am_mem] at h
    · cases v <;> simp [am_mem] at h
    · have hr := am_tailok (am_tailok hst)
      cases v <;> cases w <;> simp only [am_mem, reduceCtorEq] at h
      rename_i i a
      by_cases h1 : ((am_K σ a).1 = 20 ∨ (am_K σ a).1 = 19) ∧ am_in i (am_K σ a).2 = true
      · rw [if_pos h1] at h
        cases h
        exact am_s_iald hx hb hG hQ hS h1.1 h1.2 hd (k.go rfl rfl hQ hS (am_consok hr trivial))
      · rw [if_neg h1] at h; cases h
  · rcases st with _ | ⟨v, _ | ⟨w, r⟩⟩
    · simp [am_mem] at h
    · cases v <;> simp [am_mem] at h
    · have hr := am_tailok (am_tailok hst)
      cases v <;> cases w <;> simp only [am_mem, reduceCtorEq] at h
      rename_i i a
      by_cases h1 : (am_K σ a).1 = 21 ∧ am_in i (am_K σ a).2 = true
      · rw [if_pos h1] at h
        cases h
        have ha : a < am_n σ := hQ.1.2.2.1 a (Or.inr (by omega))
        have hw := am_W_at (cy := cy) (ad := ad) ha
        rw [am_E_long (am_K_eta h1.1)] at hw
        exact va_lald hx hb hG.2.1 hQ.1.1 a 1 hw rfl (am_in_iff h1.2) hd (k.go rfl rfl hQ hS (am_consok hr trivial))
      · rw [if_neg h1] at h; cases h
  · rcases st with _ | ⟨v, _ | ⟨w, r⟩⟩
    · simp [am_mem] at h
    · cases v <;> simp [am_mem] at h
    · have hr := am_tailok (am_tailok hst)
      cases v <;> cases w <;> simp only [am_mem, reduceCtorEq] at h
      rename_i i a
      by_cases h1 : (am_K σ a).1 = 22 ∧ am_in i (am_K σ a).2 = true
      · rw [if_pos h1] at h
        cases h
        have ha : a < am_n σ := hQ.1.2.2.1 a (Or.inr (by omega))
        have hw := am_W_at (cy := cy) (ad := ad) ha
        rw [am_E_int (am_K_eta h1.1) (Or.inr rfl)] at hw
        exact va_zald hx hb hG.2.1 hQ.1.1 a 2 hw rfl (am_in_iff h1.2) hd (k.go rfl rfl hQ hS (am_consok hr trivial))
      · rw [if_neg h1] at h; cases h
  · rcases st with _ | ⟨v, _ | ⟨w, r⟩⟩
    · simp [am_mem] at h
    · cases v <;> simp [am_mem] at h
    · have hr := am_tailok (am_tailok hst)
      cases v <;> cases w <;> simp only [am_mem, reduceCtorEq] at h
      rename_i i a
      by_cases h1 : (23 ≤ (am_K σ a).1 ∧ (am_K σ a).1 ≤ 25) ∧ am_in i (am_K σ a).2 = true
      · rw [if_pos h1] at h
        cases h
        have ha : a < am_n σ := hQ.1.2.2.1 a (Or.inr (by omega))
        have hw := am_W_at (cy := cy) (ad := ad) ha
        rw [am_E_ref (am_K_eta rfl) h1.1] at hw
        have := k.go rfl rfl hQ hS (am_consok hr (am_ad_ok hQ.1.2.2.2.1 _ rfl))
        rw [List.map_cons, am_cv_rv] at this
        rcases (show (am_K σ a).1 = 23 ∨ (am_K σ a).1 = 24 ∨ (am_K σ a).1 = 25 by omega) with e1 | e1 | e1
        · exact va_aldq (C := RX4) hx hb hG.2.1 hQ.1.1 a 3 hw (by rw [e1]; rfl) (am_in_iff h1.2) hd this
        · exact va_aldq (C := RX5) hx hb hG.2.1 hQ.1.1 a 4 hw (by rw [e1]; rfl) (am_in_iff h1.2) hd this
        · exact va_aldq (C := RX6) hx hb hG.2.1 hQ.1.1 a 5 hw (by rw [e1]; rfl) (am_in_iff h1.2) hd this
      · rw [if_neg h1] at h; cases h
  · rcases st with _ | ⟨v, r⟩
    · simp [am_mem] at h
    · have hr := am_tailok hst
      cases v <;> simp only [am_mem, reduceCtorEq] at h
      rename_i a
      by_cases h1 : 19 ≤ (am_K σ a).1 ∧ (am_K σ a).1 ≤ 25
      · rw [if_pos h1] at h
        cases h
        exact am_s_alen hx hb hG hQ hS h1 hd (k.go rfl rfl hQ hS (am_consok hr trivial))
      · rw [if_neg h1] at h; cases h
set_option maxHeartbeats 4000000 in
theorem am_s_store (C : am_Ctx p R s m meth c M D cy A adF fK fI) (hQ : am_Q D cy A adF fK fI ad σ H) (hS : va_S A s.heap H locs) (hst : ∀ v ∈ st, am_vok (am_n σ) v) (hi : ins = .iastore ∨ ins = .lastore ∨ ins = .bastore ∨ ins = .aastore)
    (h : am_mem M σ ins st = some (st', σ')) (hd : decode (am_code M) pc = .ok (ins, 1)) (k : am_KK p l e R s m args below meth c Q D cy A adF fK fI ad σ σ' cells slots st' ls (pc + 1)) : W p l e R s m args below meth c H locs cells slots Q (F0 m pc ls (st.map (am_cv ad))) := by
  obtain ⟨hx, hb, -, hown, -, hG, -⟩ := C
  rcases hi with rfl | rfl | rfl | rfl
  · rcases st with _ | ⟨v, _ | ⟨w, _ | ⟨u, r⟩⟩⟩
    · simp [am_mem] at h
    · cases v <;> simp [am_mem] at h
    · cases v <;> cases w <;> simp [am_mem] at h
    · have hr := am_tailok (am_tailok (am_tailok hst))
      cases v <;> cases w <;> cases u <;> simp only [am_mem, reduceCtorEq] at h
      rename_i v i a
      by_cases h1 : (am_K σ a).1 = 20 ∧ am_in i (am_K σ a).2 = true
      · rw [if_pos h1] at h
        cases h
        have ha : a < am_n σ := hQ.1.2.2.1 a (Or.inr (by omega))
        have hw := am_W_at (cy := cy) (ad := ad) ha
        rw [am_E_int (am_K_eta h1.1) (Or.inl rfl)] at hw
        exact va_iast hx hb hG.2.1 hQ.1.1 hQ.1.2.1 hS a 0 hw rfl (am_in_iff h1.2) hd (fun H1 locs1 q1 q2 q3 => k.go rfl rfl (am_s_ist (t0 := 0) (ty := .int) hQ (am_K_eta h1.1) (Or.inl rfl) am_u_s rfl rfl rfl am_E_sI (fun b hb2 => am_u_n hb2) q1 q2) q3 hr)
      · rw [if_neg h1] at h; cases h
  · rcases st with _ | ⟨v, _ | ⟨w, _ | ⟨u, r⟩⟩⟩
    · simp [am_mem] at h
    · cases v <;> simp [am_mem] at h
    · cases v <;> cases w <;> simp [am_mem] at h
    · have hr := am_tailok (am_tailok (am_tailok hst))
      cases v <;> cases w <;> cases u <;> simp only [am_mem, reduceCtorEq] at h
      rename_i v i a
      by_cases h1 : (am_K σ a).1 = 21 ∧ am_in i (am_K σ a).2 = true
      · rw [if_pos h1] at h
        cases h
        have ha : a < am_n σ := hQ.1.2.2.1 a (Or.inr (by omega))
        have hw := am_W_at (cy := cy) (ad := ad) ha
        rw [am_E_long (am_K_eta h1.1)] at hw
        exact va_last hx hb hG.2.1 hQ.1.1 hQ.1.2.1 hS a 1 hw rfl (am_in_iff h1.2) hd (fun H1 locs1 q1 q2 q3 => k.go rfl rfl (am_s_lst hQ (am_K_eta h1.1) am_u_s rfl rfl rfl am_E_sL rfl q1 q2) q3 hr)
      · rw [if_neg h1] at h; cases h
  · rcases st with _ | ⟨v, _ | ⟨w, _ | ⟨u, r⟩⟩⟩
    · simp [am_mem] at h
    · cases v <;> simp [am_mem] at h
    · cases v <;> cases w <;> simp [am_mem] at h
    · have hr := am_tailok (am_tailok (am_tailok hst))
      cases v <;> cases w <;> cases u <;> simp only [am_mem, reduceCtorEq] at h
      rename_i v i a
      by_cases h1 : (am_K σ a).1 = 22 ∧ am_in i (am_K σ a).2 = true
      · rw [if_pos h1] at h
        cases h
        have ha : a < am_n σ := hQ.1.2.2.1 a (Or.inr (by omega))
        have hw := am_W_at (cy := cy) (ad := ad) ha
        rw [am_E_int (am_K_eta h1.1) (Or.inr rfl)] at hw
        exact va_zast hx hb hG.2.1 hQ.1.1 hQ.1.2.1 hS a 2 hw rfl (am_in_iff h1.2) hd (fun H1 locs1 q1 q2 q3 => k.go rfl rfl (am_s_ist (t0 := 2) (ty := .boolean) hQ (am_K_eta h1.1) (Or.inr rfl) am_u_s rfl rfl rfl am_E_sI (fun b hb2 => am_u_n hb2) q1 q2) q3 hr)
      · rw [if_neg h1] at h; cases h
  · rcases st with _ | ⟨v, _ | ⟨w, _ | ⟨u, r⟩⟩⟩
    · simp [am_mem] at h
    · cases v <;> simp [am_mem] at h
    · cases v <;> cases w <;> simp [am_mem] at h
    · have hr := am_tailok (am_tailok (am_tailok hst))
      cases v <;> cases w <;> cases u <;> simp only [am_mem, reduceCtorEq] at h
      rename_i v i a
      by_cases h1 : (23 ≤ (am_K σ a).1 ∧ (am_K σ a).1 ≤ 25) ∧ am_in i (am_K σ a).2 = true ∧ (am_K σ v).1 + 19 = (am_K σ a).1
      · rw [if_pos h1] at h
        cases h
        have ha : a < am_n σ := hQ.1.2.2.1 a (Or.inr (by omega))
        have hv9 : (am_K σ v).1 < 9 := by omega
        have hv : v < am_n σ := hQ.1.2.2.1 v (Or.inl hv9)
        have hw := am_W_at (cy := cy) (ad := ad) ha
        have hwv := am_W_at (cy := cy) (ad := ad) hv
        rw [am_E_ref (am_K_eta rfl) h1.1] at hw
        rw [am_E_obj (am_K_eta rfl) hv9] at hwv
        have hR2 : ∀ a2 k2 b2, am_R (am_sR σ a i.toNatClampNeg (some v)) a2 k2 = some b2 → b2 < am_n σ := by
          intro a2 k2 b2 hb2
          by_cases e1 : a2 = a
          · subst e1
            have e2 : am_R (am_sR σ a2 i.toNatClampNeg (some v)) a2 = va_up (am_R σ a2) i.toNatClampNeg (some v) := am_u_s
            rw [e2] at hb2
            unfold va_up at hb2
            by_cases e3 : k2 = i.toNatClampNeg
            · rw [if_pos e3] at hb2
              cases hb2
              exact hv
            · rw [if_neg e3] at hb2
              exact hQ.1.2.2.2.1 a2 k2 b2 hb2
          · have e2 : am_R (am_sR σ a i.toNatClampNeg (some v)) a2 = am_R σ a2 := am_u_n e1
            rw [e2] at hb2
            exact hQ.1.2.2.2.1 a2 k2 b2 hb2
        have he : am_E cy ad (am_sR σ a i.toNatClampNeg (some v)) a = .inl (cy (am_K σ a).1, (am_K σ a).2, .inr (.inr (.inr (.inr (va_up (fun j => (am_R σ a j).map ad) i.toNatClampNeg (some (ad v))))))) := by
          rw [am_E_ref (σ := am_sR σ a i.toNatClampNeg (some v)) (k := (am_K σ a).1) (z := (am_K σ a).2) rfl h1.1]
          have e2 : am_R (am_sR σ a i.toNatClampNeg (some v)) a = va_up (am_R σ a) i.toNatClampNeg (some v) := am_u_s
          rw [e2]
          congr 7
          funext j
          unfold va_up
          by_cases e3 : j = i.toNatClampNeg
          · rw [if_pos e3, if_pos e3]; rfl
          · rw [if_neg e3, if_neg e3]
        have fin : ∀ (H1 : Heap) (locs1 : List Loc), va_P D vwCl ((am_W cy ad σ).set a (ad a, .inl (cy (am_K σ a).1, (am_K σ a).2, .inr (.inr (.inr (.inr (va_up (fun j => (am_R σ a j).map ad) i.toNatClampNeg (some (ad v))))))))) H1 →
            va_D A ((am_W cy ad σ).set a (ad a, .inl (cy (am_K σ a).1, (am_K σ a).2, .inr (.inr (.inr (.inr (va_up (fun j => (am_R σ a j).map ad) i.toNatClampNeg (some (ad v))))))))) → va_S A s.heap H1 locs1 → W p l e R s m args below meth c H1 locs1 cells slots Q (F0 m (pc + 1) ls (st'.map (am_cv ad))) :=
          fun H1 locs1 q1 q2 q3 => k.go rfl rfl (hQ.upd (hQ.1.set (σ' := am_sR σ a i.toNatClampNeg (some v)) rfl rfl hR2 ha am_E_sR he q1 q2) rfl (fun _ _ => rfl)) q3 hr
        rcases (show (am_K σ a).1 = 23 ∨ (am_K σ a).1 = 24 ∨ (am_K σ a).1 = 25 by omega) with e1 | e1 | e1
        · exact va_astq hx hb hG.2.1 hQ.1.1 hQ.1.2.1 hS a 3 v (am_K σ v).1 (r := (am_cn (am_K σ v).1, am_TX (am_K σ v).1, (am_fk (am_K σ v).1).length)) hw (by rw [e1, show (am_K σ v).1 = 4 by omega]; rfl) hwv (am_cl_at _ hv9) (am_in_iff h1.2.1) hd fin
        · exact va_astq hx hb hG.2.1 hQ.1.1 hQ.1.2.1 hS a 4 v (am_K σ v).1 (r := (am_cn (am_K σ v).1, am_TX (am_K σ v).1, (am_fk (am_K σ v).1).length)) hw (by rw [e1, show (am_K σ v).1 = 5 by omega]; rfl) hwv (am_cl_at _ hv9) (am_in_iff h1.2.1) hd fin
        · exact va_astq hx hb hG.2.1 hQ.1.1 hQ.1.2.1 hS a 5 v (am_K σ v).1 (r := (am_cn (am_K σ v).1, am_TX (am_K σ v).1, (am_fk (am_K σ v).1).length)) hw (by rw [e1, show (am_K σ v).1 = 6 by omega]; rfl) hwv (am_cl_at _ hv9) (am_in_iff h1.2.1) hd fin
      · rw [if_neg h1] at h; cases h
end SND5
