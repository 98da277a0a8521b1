/-! ===== out of the tables' checks ===== -/
section MORE
variable {o x ci k na kd a : Nat} {M : am_M} {r : List Nat}
theorem am_fchk_use (h : am_find x (am_fldT o) = some (ci, k)) : ci < 9 ∧ k < (am_fk ci).length ∧ (am_TX ci k).1 = am_cn ci ∧ (am_TX ci k).2.2.2 = am_fin ci k ∧
    (Cond.fieldLink (am_cn o) x (am_cn ci) (am_TX ci k).2.1 (am_TX ci k).2.2.1 ∈ am_T ∨ Cond.fieldLinkNest (am_cn o) x (am_cn ci) (am_TX ci k).2.1 (am_TX ci k).2.2.1 "DartHangar" ∈ am_T) := by
  obtain ⟨r, hr⟩ := am_fchk_all o _ (am_find_mem h)
  unfold am_fchk at hr
  split at hr
  · simp only [Bool.and_eq_true, decide_eq_true_eq] at hr
    obtain ⟨⟨⟨⟨h1, h2⟩, h3⟩, h4⟩, h5⟩ := hr
    refine ⟨h1, h2, h3, h4, ?_⟩
    split at h5
    · exact Or.inl (am_wat_in h5)
    · exact Or.inr (am_wat_in h5)
  · cases hr
theorem am_nchk_use (h : am_find x (am_newT o) = some ci) : ci < 9 ∧ Cond.classLink (am_cn o) x (am_cn ci) ∈ am_T ∧ Cond.instantiable (am_cn ci) (am_fk ci).length ∈ am_T ∧ Cond.initialized (am_cn ci) ∈ am_T := by
  obtain ⟨r, hr⟩ := am_nchk_all o _ (am_find_mem h)
  unfold am_nchk at hr
  split at hr
  · simp only [Bool.and_eq_true, decide_eq_true_eq] at hr
    obtain ⟨⟨⟨h1, h2⟩, h3⟩, h4⟩ := hr
    exact ⟨h1, am_wat_in h2, am_wat_in h3, am_wat_in h4⟩
  · cases hr
theorem am_achk_use (h : am_find x (am_anewT o) = some kd) : (23 ≤ kd ∧ kd ≤ 25) ∧ Cond.classLink (am_cn o) x (am_cn (kd - 19)) ∈ am_T := by
  obtain ⟨r, hr⟩ := am_achk_all o _ (am_find_mem h)
  unfold am_achk at hr
  split at hr
  · simp only [Bool.and_eq_true, decide_eq_true_eq] at hr
    exact ⟨hr.1, am_wat_in hr.2⟩
  · cases hr
theorem am_ichk_use {v : Int32} (h : am_find x (am_ciT o) = some v) : Cond.constant (am_cn o) x v ∈ am_T := by
  obtain ⟨r, hr⟩ := am_ichk_all o _ (am_find_mem h)
  unfold am_ichk at hr
  split at hr
  · exact am_wat_in hr
  · cases hr
theorem am_lchk_use {v : Int64} (h : am_find x (am_clT o) = some v) : Cond.constantLong (am_cn o) x v ∈ am_T := by
  obtain ⟨r, hr⟩ := am_lchk_all o _ (am_find_mem h)
  unfold am_lchk at hr
  split at hr
  · exact am_wat_in hr
  · cases hr
def am_stQ : Nat → List (List Nat) := fun o => match o with
  | 3 => [[800], [802], [804], [806]]
  | 5 => [[155]]
  | 7 => [[776], [914], [934]]
  | _ => []
def am_schk (o : Nat) (q : Nat × Nat) (r : List Nat) : Bool := match r with
  | [p] => decide (3000000 ≤ q.2 ∧ q.2 < 3000007) && (if o = 7 then am_wat p (.fieldLink (am_cn o) q.1 RX7 (am_sn (q.2 - 3000000)) "[I") else am_wat p (.fieldLinkNest (am_cn o) q.1 RX7 (am_sn (q.2 - 3000000)) "[I" "DartHangar"))
  | _ => false
theorem am_schk_all (o : Nat) (q : Nat × Nat) (h : q ∈ am_stT o) : ∃ r, am_schk o q r = true := match o, h with
  | 0, h => by cases h
  | 1, h => by cases h
  | 2, h => by cases h
  | 3, h => am_zc_in (f := am_schk 3) (m := am_stQ 3) (by decide +kernel) q h
  | 4, h => by cases h
  | 5, h => am_zc_in (f := am_schk 5) (m := am_stQ 5) (by decide +kernel) q h
  | 6, h => by cases h
  | 7, h => am_zc_in (f := am_schk 7) (m := am_stQ 7) (by decide +kernel) q h
  | _ + 8, h => by cases h
theorem am_schk_use (h : am_find x (am_stT o) = some a) : (3000000 ≤ a ∧ a < 3000007) ∧ (Cond.fieldLink (am_cn o) x RX7 (am_sn (a - 3000000)) "[I" ∈ am_T ∨ Cond.fieldLinkNest (am_cn o) x RX7 (am_sn (a - 3000000)) "[I" "DartHangar" ∈ am_T) := by
  obtain ⟨r, hr⟩ := am_schk_all o _ (am_find_mem h)
  unfold am_schk at hr
  split at hr
  · simp only [Bool.and_eq_true, decide_eq_true_eq] at hr
    refine ⟨hr.1, ?_⟩
    have h5 := hr.2
    split at h5
    · exact Or.inl (am_wat_in h5)
    · exact Or.inr (am_wat_in h5)
  · cases hr
theorem am_sr_big (h : am_find x (am_srT o) = some a) : 1000000 ≤ a := by
  have key : ∀ o, (am_srT o).all (fun q => decide (1000000 ≤ q.2)) = true := fun o => match o with
    | 0 => rfl
    | 1 => rfl
    | 2 => rfl
    | 3 => by decide +kernel
    | 4 => rfl
    | 5 => rfl
    | 6 => rfl
    | 7 => rfl
    | 8 => by decide +kernel
    | _ + 9 => rfl
  have := List.all_eq_true.mp (key o) _ (am_find_mem h)
  simpa using this
def am_TY : Nat → Nat → FieldType := fun ci => match ci with
  | 0 => tyX0
  | 1 => tyX1
  | 2 => tyX2
  | 3 => tyX3
  | 4 => tyX4
  | 5 => tyX5
  | 6 => tyX6
  | 7 => tyX7
  | _ => tyX8
theorem am_TY_ok (ci : Nat) (h : ci < 9) : ∀ k, k < (am_fk ci).length → parseFieldDescriptor (am_TX ci k).2.2.1 = some (am_TY ci k) := match ci, h with
  | 0, _ => tyX0_ok
  | 1, _ => tyX1_ok
  | 2, _ => tyX2_ok
  | 3, _ => tyX3_ok
  | 4, _ => tyX4_ok
  | 5, _ => tyX5_ok
  | 6, _ => tyX6_ok
  | 7, _ => tyX7_ok
  | 8, _ => tyX8_ok
theorem am_nm_ok (ci : Nat) (h : ci < 9) : ∀ a, a < (am_fk ci).length → ∀ b, b < (am_fk ci).length → a ≠ b → (am_TX ci a).2.1 ≠ (am_TX ci b).2.1 := match ci, h with
  | 0, _ => nmX0
  | 1, _ => nmX1
  | 2, _ => nmX2
  | 3, _ => nmX3
  | 4, _ => nmX4
  | 5, _ => nmX5
  | 6, _ => nmX6
  | 7, _ => nmX7
  | 8, _ => nmX8
def am_dvk (t : Nat) : Value := if t = 0 then .int 0 else if t = 1 then .long 0 else .null
def am_refty : FieldType → Bool
  | .object _ => true
  | .array _ => true
  | _ => false
/-- the sort of a field and its type -/
theorem am_kinds : (List.range 9).all (fun ci => (List.range (am_fk ci).length).all (fun k => match (am_fk ci)[k]? with
    | some t => decide (defaultValue (am_TY ci k) = am_dvk t) && decide (t ≤ 2) && (if t = 0 then (decide (am_TY ci k = .int) && decide (¬ (ci = 8 ∧ (k = 30 ∨ k = 45)))) || (decide (am_TY ci k = .boolean) && decide (ci = 8 ∧ (k = 30 ∨ k = 45))) else if t = 1 then decide (am_TY ci k = .long) else am_refty (am_TY ci k))
    | none => false)) = true := by decide +kernel
theorem am_kind_at {t : Nat} (hc : ci < 9) (hk : k < (am_fk ci).length) (ht : (am_fk ci)[k]? = some t) : defaultValue (am_TY ci k) = am_dvk t ∧ t ≤ 2 ∧ (t = 0 → (am_TY ci k = .int ∧ ¬ (ci = 8 ∧ (k = 30 ∨ k = 45))) ∨ (am_TY ci k = .boolean ∧ (ci = 8 ∧ (k = 30 ∨ k = 45)))) ∧ (t = 1 → am_TY ci k = .long) ∧ (t = 2 → am_refty (am_TY ci k) = true) := by
  have h1 := List.all_eq_true.mp (List.all_eq_true.mp am_kinds ci (List.mem_range.mpr hc)) k (List.mem_range.mpr hk)
  rw [ht] at h1
  simp only [Bool.and_eq_true, decide_eq_true_eq] at h1
  obtain ⟨⟨h2, h3⟩, h4⟩ := h1
  refine ⟨h2, h3, fun e => ?_, fun e => ?_, fun e => ?_⟩
  · rw [if_pos e] at h4
    simp only [Bool.or_eq_true, Bool.and_eq_true, decide_eq_true_eq] at h4
    exact h4
  · rw [if_neg (by omega), if_pos e] at h4
    exact of_decide_eq_true h4
  · rw [if_neg (by omega), if_neg (by omega)] at h4
    exact h4
end MORE
