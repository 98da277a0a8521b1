/-! ===== one instruction that touches the heap ===== -/
section SND4
variable {p : Program} {l : Launch} {e : Env} {R : Room} {s : State} {m : MethodId} {args : Array Value} {below : List Frame} {meth : Method} {c : Code} {H : Heap} {locs : List Loc} {cells slots : Nat} {Q : State → Prop}
variable {M : am_M} {pc len : Nat} {ls : Array Slot} {st st' rest : List Value} {ad : Nat → Nat} {ins : Instr}
variable {D : va_G} {cy : Nat → ClassId} {A : Nat → Prop} {adF : Nat → Nat} {fK : Nat → Nat × Nat} {fI : Nat → Nat → Int32} {σ σ' : am_S}
theorem am_G.at {U : State} (hG : am_G D cy A adF fK fI s s.heap) (hS : va_S A s.heap H locs) (hU : U.heap = H) (hW : s.WarmedH U.vm) : am_G D cy A adF fK fI U U.heap := by
  rw [hU]
  exact (hG.kept hS.2.1).warm hW
theorem am_G.js {a n : Nat} {U : State} (hG : am_G D cy A adF fK fI U U.heap) (h : fK a = (18, n)) : js_P A (adF a) n (fI a) U := ⟨hG.1, hG.2.2.2.2.2.2.2.2.2.2.2.1, hG.2.2.2.1 a n h, hG.2.2.2.2.2.2.2.2.2.2.2.2⟩
def am_KK (p : Program) (l : Launch) (e : Env) (R : Room) (s : State) (m : MethodId) (args : Array Value) (below : List Frame) (meth : Method) (c : Code) (Q : State → Prop) (D : va_G) (cy : Nat → ClassId) (A : Nat → Prop) (adF : Nat → Nat) (fK : Nat → Nat × Nat) (fI : Nat → Nat → Int32) (ad : Nat → Nat) (σ σ' : am_S) (cells slots : Nat) (st' : List Value) (ls : Array Slot) (pc : Nat) : Prop :=
  ∀ (H1 : Heap) (locs1 : List Loc) (ad1 : Nat → Nat) (c1 z1 : Nat), c1 = cells + (am_c σ' - am_c σ) → z1 = slots + (am_z σ' - am_z σ) → (∀ b, b < am_n σ ∨ 1000000 ≤ b → ad1 b = ad b) → am_Q D cy A adF fK fI ad1 σ' H1 → va_S A s.heap H1 locs1 → (∀ v ∈ st', am_vok (am_n σ') v) →
    W p l e R s m args below meth c H1 locs1 c1 z1 Q (F0 m pc ls (st'.map (am_cv ad1)))
theorem am_KK.go {pc' : Nat} {H1 : Heap} {locs1 : List Loc} (k : am_KK p l e R s m args below meth c Q D cy A adF fK fI ad σ σ' cells slots st' ls pc') (h1 : am_c σ' = am_c σ) (h2 : am_z σ' = am_z σ) (hQ : am_Q D cy A adF fK fI ad σ' H1) (hS : va_S A s.heap H1 locs1) (hv : ∀ v ∈ st', am_vok (am_n σ') v) :
    W p l e R s m args below meth c H1 locs1 cells slots Q (F0 m pc' ls (st'.map (am_cv ad))) := k H1 locs1 ad cells slots (by omega) (by omega) (fun _ _ => rfl) hQ hS hv
theorem am_tailok {n : Nat} {v : Value} {r : List Value} (h : ∀ w ∈ v :: r, am_vok n w) : ∀ w ∈ r, am_vok n w := fun w hw => h w (List.mem_cons_of_mem _ hw)
theorem am_consok {n : Nat} {v : Value} {r : List Value} (h : ∀ w ∈ r, am_vok n w) (hv : am_vok n v) : ∀ w ∈ v :: r, am_vok n w := fun w hw => by
  rcases List.mem_cons.mp hw with rfl | hw
  · exact hv
  · exact h w hw
set_option maxHeartbeats 4000000 in
theorem am_s_getf {x : Nat} (hx : p.tables.exec = Jvm.exec) (hb : c.code = am_code M) (hown : s.vm.findClass (am_cn (am_own M)) = some m.cls) (hG : am_G D cy A adF fK fI s s.heap) (hQ : am_Q D cy A adF fK fI ad σ H) (hS : va_S A s.heap H locs) (hst : ∀ v ∈ st, am_vok (am_n σ) v)
    (h : am_mem M σ (.getfield x) st = some (st', σ')) (hd : decode (am_code M) pc = .ok (.getfield x, 3)) (k : am_KK p l e R s m args below meth c Q D cy A adF fK fI ad σ σ' cells slots st' ls (pc + 3)) : W p l e R s m args below meth c H locs cells slots Q (F0 m pc ls (st.map (am_cv ad))) := by
  rcases st with _ | ⟨v, r⟩
  · simp [am_mem] at h
  · cases v <;> simp only [am_mem, reduceCtorEq] at h
    rename_i a
    cases hf : am_find x (am_fldT (am_own M)) with
    | none => rw [hf] at h; cases h
    | some q =>
      obtain ⟨ci, i⟩ := q
      rw [hf] at h
      simp only at h
      by_cases hk : (am_K σ a).1 = ci
      · rw [if_pos hk] at h
        have hr := am_tailok hst
        cases ht : (am_fk ci)[i]? with
        | none => rw [ht] at h; cases h
        | some t =>
          rw [ht] at h
          match t, ht, h with
          | 0, ht, h =>
            cases h
            exact am_s_get hx hb hown hG hQ.1 hf hk ht hd (k.go rfl rfl hQ hS (am_consok hr trivial))
          | 1, ht, h =>
            cases h
            exact am_s_get hx hb hown hG hQ.1 hf hk ht hd (k.go rfl rfl hQ hS (am_consok hr trivial))
          | 2, ht, h =>
            cases h
            have := k.go rfl rfl hQ hS (am_consok hr (am_ad_ok hQ.1.2.2.2.1 _ rfl))
            rw [List.map_cons, am_cv_rv] at this
            exact am_s_get hx hb hown hG hQ.1 hf hk ht hd this
          | t + 3, ht, h => cases h
      · rw [if_neg hk] at h; cases h
theorem am_bool {v : Int32} (h : v &&& 1 = v) : fits .boolean (.int v) = true := by
  have key : v = 0 ∨ v = 1 := by
    have h1 : v.toBitVec &&& 1#32 = v.toBitVec := by
      have := congrArg Int32.toBitVec h
      simpa using this
    have h2 : v.toBitVec.toNat &&& 1 = v.toBitVec.toNat := by
      have := congrArg BitVec.toNat h1
      simpa using this
    rw [Nat.and_one_is_mod] at h2
    rcases (show v.toBitVec.toNat = 0 ∨ v.toBitVec.toNat = 1 by omega) with h3 | h3
    · exact Or.inl (Int32.toBitVec_inj.mp (BitVec.eq_of_toNat_eq (by simpa using h3)))
    · exact Or.inr (Int32.toBitVec_inj.mp (BitVec.eq_of_toNat_eq (by simpa using h3)))
  rcases key with rfl | rfl <;> rfl
set_option maxHeartbeats 4000000 in
theorem am_s_putf {x : Nat} (hx : p.tables.exec = Jvm.exec) (hb : c.code = am_code M) (hown : s.vm.findClass (am_cn (am_own M)) = some m.cls) (hin : meth.name = (am_name M).name) (hG : am_G D cy A adF fK fI s s.heap) (hQ : am_Q D cy A adF fK fI ad σ H) (hS : va_S A s.heap H locs) (hst : ∀ v ∈ st, am_vok (am_n σ) v)
    (h : am_mem M σ (.putfield x) st = some (st', σ')) (hd : decode (am_code M) pc = .ok (.putfield x, 3)) (k : am_KK p l e R s m args below meth c Q D cy A adF fK fI ad σ σ' cells slots st' ls (pc + 3)) : W p l e R s m args below meth c H locs cells slots Q (F0 m pc ls (st.map (am_cv ad))) := by
  have hint : ∀ (a ci i : Nat) (v : Int32) (r : List Value), am_find x (am_fldT (am_own M)) = some (ci, i) → (am_K σ a).1 = ci → (am_fk ci)[i]? = some 0 → (am_fin ci i = false ∨ ((am_name M).name = "<init>" ∧ am_own M = ci)) → (ci = 8 ∧ (i = 30 ∨ i = 45) → v &&& 1 = v) → (∀ w ∈ r, am_vok (am_n σ) w) →
      st' = r → σ' = am_sI σ a i v → W p l e R s m args below meth c H locs cells slots Q (F0 m pc ls (.int v :: .ref (ad a) :: r.map (am_cv ad))) := by
    intro a ci i v r hf hk ht hfin hbo hr e1 e2
    subst e1; subst e2
    obtain ⟨h1, h2, -⟩ := am_fchk_use hf
    obtain ⟨-, -, h3, -⟩ := am_kind_at h1 h2 ht
    have hty : narrow (am_TY ci i) (.int v) = .int v ∧ fits (am_TY ci i) (.int v) = true := by
      rcases h3 rfl with ⟨h3, -⟩ | ⟨h3, h4⟩
      · rw [h3]; exact ⟨rfl, rfl⟩
      · rw [h3]; exact ⟨by show Value.int (v &&& 1) = _; rw [hbo h4], am_bool (hbo h4)⟩
    have hne : ∀ b, ((am_K σ b).1 = 18 ∨ (am_K σ b).1 = 19) → am_I (am_sI σ a i v) b = am_I σ b := fun b hb2 => am_u_n (fun e3 => by rw [e3, hk] at hb2; omega)
    refine am_s_put (σ' := am_sI σ a i v) hx hb hown hin hG hQ.1 hS hf hk ht hfin hty.1 hty.2 hd rfl rfl hQ.1.2.2.2.1 am_E_sI ?_ ?_ (fun H1 locs1 q1 q2 => k.go rfl rfl (hQ.upd q1 rfl hne) q2 hr)
    · show Value.int (am_u σ.1 a i v a i) = _
      rw [am_u_s, va_up, if_pos rfl]
    · intro j hj t
      match t with
      | 0 =>
        show Value.int (am_u σ.1 a i v a j) = _
        rw [am_u_s, va_up, if_neg hj]
        rfl
      | 1 => rfl
      | t + 2 => rfl
  rcases st with _ | ⟨v, _ | ⟨w, r⟩⟩
  · simp [am_mem] at h
  · cases v <;> simp [am_mem] at h
  · have hr := am_tailok (am_tailok hst)
    cases v <;> cases w <;> simp only [am_mem, reduceCtorEq] at h
    · rename_i v a
      cases hf : am_find x (am_fldT (am_own M)) with
      | none => rw [hf] at h; cases h
      | some q =>
        obtain ⟨ci, i⟩ := q
        rw [hf] at h
        simp only at h
        by_cases h1 : (am_K σ a).1 = ci ∧ (am_fk ci)[i]? = some 0 ∧ am_fin ci i = false ∧ (ci = 8 ∧ (i = 30 ∨ i = 45) → v &&& 1 = v)
        · rw [if_pos h1] at h
          cases h
          exact hint a ci i v _ hf h1.1 h1.2.1 (Or.inl h1.2.2.1) h1.2.2.2 hr rfl rfl
        · rw [if_neg h1] at h
          by_cases h2 : (am_K σ a).1 = ci ∧ (am_fk ci)[i]? = some 0 ∧ am_fin ci i = true ∧ (am_name M).name = "<init>" ∧ am_own M = ci ∧ ci = 4
          · rw [if_pos h2] at h
            cases h
            exact hint a ci i v _ hf h2.1 h2.2.1 (Or.inr ⟨h2.2.2.2.1, h2.2.2.2.2.1⟩) (fun z => by omega) hr rfl rfl
          · rw [if_neg h2] at h; cases h
    · rename_i v a
      cases hf : am_find x (am_fldT (am_own M)) with
      | none => rw [hf] at h; cases h
      | some q =>
        obtain ⟨ci, i⟩ := q
        rw [hf] at h
        simp only at h
        by_cases h1 : (am_K σ a).1 = ci ∧ (am_fk ci)[i]? = some 1 ∧ am_fin ci i = false
        · rw [if_pos h1] at h
          cases h
          obtain ⟨hk, ht, hfin⟩ := h1
          obtain ⟨g1, g2, -⟩ := am_fchk_use hf
          obtain ⟨-, -, -, g3, -⟩ := am_kind_at g1 g2 ht
          refine am_s_put (σ' := am_sL σ a i v) hx hb hown hin hG hQ.1 hS hf hk ht (Or.inl hfin) (by rw [g3 rfl]; rfl) (by rw [g3 rfl]; rfl) hd rfl rfl hQ.1.2.2.2.1 am_E_sL ?_ ?_ (fun H1 locs1 q1 q2 => k.go rfl rfl (hQ.upd q1 rfl (fun _ _ => rfl)) q2 hr)
          · show Value.long (am_u σ.2.1 a i v a i) = _
            rw [am_u_s, va_up, if_pos rfl]
            rfl
          · intro j hj t
            match t with
            | 0 => rfl
            | 1 =>
              show Value.long (am_u σ.2.1 a i v a j) = _
              rw [am_u_s, va_up, if_neg hj]
              rfl
            | t + 2 => rfl
        · rw [if_neg h1] at h; cases h
    · rename_i v a
      cases hf : am_find x (am_fldT (am_own M)) with
      | none => rw [hf] at h; cases h
      | some q =>
        obtain ⟨ci, i⟩ := q
        rw [hf] at h
        simp only at h
        by_cases h1 : (am_K σ a).1 = ci ∧ (am_fk ci)[i]? = some 2 ∧ am_fin ci i = true ∧ (am_name M).name = "<init>" ∧ am_own M = ci ∧ v < 1000000
        · rw [if_pos h1] at h
          cases h
          obtain ⟨hk, ht, hfin, hi1, hi2, hv⟩ := h1
          obtain ⟨g1, g2, -⟩ := am_fchk_use hf
          obtain ⟨-, -, -, -, g3⟩ := am_kind_at g1 g2 ht
          have hvn : v < am_n σ := by
            rcases hst (.ref v) List.mem_cons_self with z | z
            · exact z
            · exact absurd hv (Nat.not_lt.mpr z)
          have hfit : narrow (am_TY ci i) (.ref (ad v)) = .ref (ad v) ∧ fits (am_TY ci i) (.ref (ad v)) = true := by
            have := g3 rfl
            cases hty : am_TY ci i <;> rw [hty] at this <;> first | exact ⟨rfl, rfl⟩ | (simp [am_refty] at this)
          refine am_s_put (σ' := am_sR σ a i (some v)) hx hb hown hin hG hQ.1 hS hf hk ht (Or.inr ⟨hi1, hi2⟩) hfit.1 hfit.2 hd rfl rfl ?_ am_E_sR ?_ ?_ (fun H1 locs1 q1 q2 => k.go rfl rfl (hQ.upd q1 rfl (fun _ _ => rfl)) q2 hr)
          · intro a2 k2 b2 hb2
            by_cases e1 : a2 = a
            · subst e1
              have e2 : am_R (am_sR σ a2 i (some v)) a2 = va_up (am_R σ a2) i (some v) := am_u_s
              rw [e2] at hb2
              unfold va_up at hb2
              by_cases e3 : k2 = i
              · rw [if_pos e3] at hb2
                cases hb2
                exact hvn
              · rw [if_neg e3] at hb2
                exact hQ.1.2.2.2.1 a2 k2 b2 hb2
            · have e2 : am_R (am_sR σ a i (some v)) a2 = am_R σ a2 := am_u_n e1
              rw [e2] at hb2
              exact hQ.1.2.2.2.1 a2 k2 b2 hb2
          · show va_rf ((am_u σ.2.2.1 a i (some v) a i).map ad) = _
            rw [am_u_s, va_up, if_pos rfl]
            rfl
          · intro j hj t
            match t with
            | 0 => rfl
            | 1 => rfl
            | t + 2 =>
              show va_rf ((am_u σ.2.2.1 a i (some v) a j).map ad) = _
              rw [am_u_s, va_up, if_neg hj]
              rfl
        · rw [if_neg h1] at h; cases h
end SND4
