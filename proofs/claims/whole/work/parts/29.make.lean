section SND6
variable {p : Program} {l : Launch} {e : Env} {R : Room} {s : State} {m : MethodId} {args : Array Value} {below : List Frame} {meth : Method} {c : Code} {H : Heap} {locs : List Loc} {cells slots : Nat} {Q : State → Prop}
variable {M : am_M} {pc len : Nat} {ls : Array Slot} {st st' rest : List Value} {ad : Nat → Nat} {ins : Instr}
variable {D : va_G} {cy : Nat → ClassId} {A : Nat → Prop} {adF : Nat → Nat} {fK : Nat → Nat × Nat} {fI : Nat → Nat → Int32} {σ σ' : am_S}
theorem am_map_ad {ad1 : Nat → Nat} {n : Nat} {r : List Value} (h : ∀ v ∈ r, am_vok n v) (h1 : ∀ b, b < n ∨ 1000000 ≤ b → ad1 b = ad b) : r.map (am_cv ad1) = r.map (am_cv ad) :=
  List.map_congr_left (fun v hv => am_cv_ad (h v hv) h1)
theorem am_newok {n : Nat} {r : List Value} (h : ∀ v ∈ r, am_vok n v) : ∀ v ∈ Value.ref n :: r, am_vok (n + 1) v := am_consok (fun v hv => (h v hv).mono (Nat.le_succ n)) (Or.inl (Nat.lt_succ_self n))
set_option maxHeartbeats 4000000 in
theorem am_s_make (C : am_Ctx p R s m meth c M D cy A adF fK fI) (hQ : am_Q D cy A adF fK fI ad σ H) (hS : va_S A s.heap H locs) (hst : ∀ v ∈ st, am_vok (am_n σ) v) (hi : (∃ x, ins = .new x) ∨ (∃ t, ins = .newarray t) ∨ ∃ x, ins = .anewarray x)
    (h : am_mem M σ ins st = some (st', σ')) (hd : decode (am_code M) pc = .ok (ins, len)) (hl : am_lok ins len = true) (hc : cells + (am_c σ' - am_c σ) ≤ R.cells) (hz : slots + (am_z σ' - am_z σ) ≤ R.slots)
    (k : am_KK p l e R s m args below meth c Q D cy A adF fK fI ad σ σ' cells slots st' ls (pc + len)) : W p l e R s m args below meth c H locs cells slots Q (F0 m pc ls (st.map (am_cv ad))) := by
  obtain ⟨hx, hb, -, hown, -, hG, hA, -⟩ := C
  have cnt : ∀ kd ln zs, am_c (am_new σ kd ln zs) - am_c σ = 1 ∧ am_z (am_new σ kd ln zs) - am_z σ = zs := by
    intro kd ln zs
    show am_c σ + 1 - am_c σ = 1 ∧ am_z σ + zs - am_z σ = zs
    omega
  rcases hi with ⟨x, rfl⟩ | ⟨t, rfl⟩ | ⟨x, rfl⟩
  · obtain rfl : len = 3 := of_decide_eq_true hl
    simp only [am_mem] at h
    cases hf : am_find x (am_newT (am_own M)) with
    | none => rw [hf] at h; cases h
    | some ci =>
      rw [hf] at h
      simp only at h
      by_cases hn : am_n σ < 1000000
      · rw [if_pos hn] at h
        cases h
        obtain ⟨e1, e2⟩ := cnt ci 0 (am_fk ci).length
        rw [e1] at hc
        rw [e2] at hz
        refine am_s_new hx hb hown hG hQ hS hA hf hn hc hz hd (fun H1 ad1 q1 q2 q3 => ?_)
        have := k H1 locs ad1 (cells + 1) (slots + (am_fk ci).length) (by rw [e1]) (by rw [e2]) q1 q2 q3 (am_newok hst)
        rw [List.map_cons, am_map_ad hst q1] at this
        exact this
      · rw [if_neg hn] at h; cases h
  · obtain rfl : len = 2 := of_decide_eq_true hl
    rcases st with _ | ⟨v, r⟩
    · simp [am_mem] at h
    · have hr := am_tailok hst
      cases v <;> simp only [am_mem, reduceCtorEq] at h
      rename_i n
      by_cases h1 : ¬ n < 0 ∧ n.toNatClampNeg ≤ 1000 ∧ am_n σ < 1000000
      · rw [if_pos h1] at h
        cases t <;> simp only [reduceCtorEq, Option.some.injEq, Prod.mk.injEq] at h
        · obtain ⟨rfl, rfl⟩ := h
          obtain ⟨e1, e2⟩ := cnt 22 n.toNatClampNeg n.toNatClampNeg
          rw [e1] at hc
          rw [e2] at hz
          refine am_s_newa (kd := 22) (t0 := 2) (ty := .boolean) (a0 := (n.toNatClampNeg, .inl (fun _ => 0))) hx hb hG hQ hS hA rfl (Or.inr (Or.inr rfl)) rfl (by decide) (fun _ => rfl) rfl h1.1 h1.2.1 h1.2.2 hc hz hd (fun H1 ad1 q1 q2 q3 => ?_)
          have := k H1 locs ad1 (cells + 1) (slots + n.toNatClampNeg) (by rw [e1]) (by rw [e2]) q1 q2 q3 (am_newok hr)
          rw [List.map_cons, am_map_ad hr q1] at this
          exact this
        · obtain ⟨rfl, rfl⟩ := h
          obtain ⟨e1, e2⟩ := cnt 20 n.toNatClampNeg n.toNatClampNeg
          rw [e1] at hc
          rw [e2] at hz
          refine am_s_newa (kd := 20) (t0 := 0) (ty := .int) (a0 := (n.toNatClampNeg, .inl (fun _ => 0))) hx hb hG hQ hS hA rfl (Or.inl rfl) rfl (by decide) (fun _ => rfl) rfl h1.1 h1.2.1 h1.2.2 hc hz hd (fun H1 ad1 q1 q2 q3 => ?_)
          have := k H1 locs ad1 (cells + 1) (slots + n.toNatClampNeg) (by rw [e1]) (by rw [e2]) q1 q2 q3 (am_newok hr)
          rw [List.map_cons, am_map_ad hr q1] at this
          exact this
        · obtain ⟨rfl, rfl⟩ := h
          obtain ⟨e1, e2⟩ := cnt 21 n.toNatClampNeg n.toNatClampNeg
          rw [e1] at hc
          rw [e2] at hz
          refine am_s_newa (kd := 21) (t0 := 1) (ty := .long) (a0 := (n.toNatClampNeg, .inr (.inl (fun _ => 0)))) hx hb hG hQ hS hA rfl (Or.inr (Or.inl rfl)) rfl (by decide) (fun _ => rfl) rfl h1.1 h1.2.1 h1.2.2 hc hz hd (fun H1 ad1 q1 q2 q3 => ?_)
          have := k H1 locs ad1 (cells + 1) (slots + n.toNatClampNeg) (by rw [e1]) (by rw [e2]) q1 q2 q3 (am_newok hr)
          rw [List.map_cons, am_map_ad hr q1] at this
          exact this
      · rw [if_neg h1] at h; cases h
  · obtain rfl : len = 3 := of_decide_eq_true hl
    rcases st with _ | ⟨v, r⟩
    · simp [am_mem] at h
    · have hr := am_tailok hst
      cases v <;> simp only [am_mem, reduceCtorEq] at h
      rename_i n
      by_cases h1 : ¬ n < 0 ∧ n.toNatClampNeg ≤ 1000 ∧ am_n σ < 1000000
      · rw [if_pos h1] at h
        cases hf : am_find x (am_anewT (am_own M)) with
        | none => rw [hf] at h; cases h
        | some kd =>
          rw [hf] at h
          cases h
          obtain ⟨e1, e2⟩ := cnt kd n.toNatClampNeg n.toNatClampNeg
          rw [e1] at hc
          rw [e2] at hz
          refine am_s_anew hx hb hown hG hQ hS hA hf h1.1 h1.2.1 h1.2.2 hc hz hd (fun H1 ad1 q1 q2 q3 => ?_)
          have := k H1 locs ad1 (cells + 1) (slots + n.toNatClampNeg) (by rw [e1]) (by rw [e2]) q1 q2 q3 (am_newok hr)
          rw [List.map_cons, am_map_ad hr q1] at this
          exact this
      · rw [if_neg h1] at h; cases h
theorem am_cchk_use {o x kd na : Nat} {M' : am_M} (h : am_find x (am_callT o) = some (kd, na, M')) : ∃ r, am_cchk o (x, kd, na, M') r = true := am_cchk_all o _ (am_find_mem h)
theorem am_cchk_len {o x kd na : Nat} {M' : am_M} {r : List Nat} (h : am_cchk o (x, kd, na, M') r = true) : ∃ p0 p1 p2 p3 p4, r = [p0, p1, p2, p3, p4] := by
  rcases r with _ | ⟨p0, _ | ⟨p1, _ | ⟨p2, _ | ⟨p3, _ | ⟨p4, _ | ⟨p5, r⟩⟩⟩⟩⟩⟩ <;> first | exact ⟨_, _, _, _, _, rfl⟩ | (simp [am_cchk] at h)
theorem am_link {o x kd na : Nat} {M' : am_M} (h : am_find x (am_callT o) = some (kd, na, M')) (hk : ¬ kd ≤ 2) :
    (kd = 3 → Cond.methodLink (am_cn o) x Lib.objectInit ∈ am_T) ∧ (kd = 4 → Cond.methodLink (am_cn o) x yJ0_length_8abf5 ∈ am_T) ∧ (kd = 5 → Cond.methodLink (am_cn o) x yJ0_charAt_5068e ∈ am_T) ∧ (kd = 6 → Cond.methodLink (am_cn o) x arraycopyName ∈ am_T) ∧
    (kd = 10 → Cond.methodLink (am_cn o) x Lib.Math.max.name ∈ am_T) ∧ (kd = 11 → Cond.methodLink (am_cn o) x Lib.Math.min.name ∈ am_T) ∧ (kd = 12 → Cond.methodLink (am_cn o) x Lib.Math.abs.name ∈ am_T) ∧ (kd = 13 → Cond.methodLink (am_cn o) x Lib.MathLoose.max_long.x ∈ am_T) ∧ (kd = 14 → Cond.methodLink (am_cn o) x Lib.MathLoose.min_long.x ∈ am_T) := by
  obtain ⟨r, hr⟩ := am_cchk_use h
  obtain ⟨p0, p1, p2, p3, p4, rfl⟩ := am_cchk_len hr
  simp only [am_cchk, if_neg hk] at hr
  refine ⟨fun e => ?_, fun e => ?_, fun e => ?_, fun e => ?_, fun e => ?_, fun e => ?_, fun e => ?_, fun e => ?_, fun e => ?_⟩ <;> subst e <;> simp only [Nat.reduceEqDiff, if_true, if_false, decide_true, Bool.true_and] at hr <;> exact am_wat_in hr
end SND6
