/-! ===== the model's make ===== -/
section MC
variable {s : am_S} {R C n : Nat} {l : List Pos} {P : Ppr}
def mD (s : am_S) (l : List Pos) : Prop := ∀ j, j < 288 → am_I s 64 j = oN (cnk l j)
theorem cnk_snoc {p : Pos} (hp : p.2 < 12) {j : Nat} : cnk (l ++ [p]) j = cnk l j + if j = 12 * p.1 + p.2 then 1 else 0 := by
  unfold cnk
  rw [List.count_append, List.count_cons, List.count_nil, Nat.zero_add]
  congr 1
  obtain ⟨a, b⟩ := p
  simp only at hp
  by_cases hk : j = 12 * a + b
  · have e1 : ((a, b) == (j / 12, j % 12)) = true := by rw [beq_iff_eq, Prod.mk.injEq]; omega
    rw [if_pos e1, if_pos hk]
  · have e1 : ¬ ((a, b) == (j / 12, j % 12)) = true := by rw [beq_iff_eq, Prod.mk.injEq]; omega
    rw [if_neg e1, if_neg hk]
theorem count_a : ∀ (m k : Nat) (s : am_S), 288 - k < m → k ≤ 288 → (∀ j, j < k → am_I s 64 j = 0) →
    ∃ s', L_X8_count_2 m (oN k) s = some (.inr ((), s')) ∧ fr [64] s s' ∧ ∀ j, j < 288 → am_I s' 64 j = 0 := by
  intro m
  induction m with
  | zero => intro k s hm; exact absurd hm (Nat.not_lt_zero _)
  | succ m ih =>
    intro k s hm hk hp
    rw [L_X8_count_2]
    by_cases e : 288 ≤ k
    · rw [if_pos ((oN_leR (by omega) (by omega)).mpr e)]
      exact ⟨s, rfl, fr.refl, fun j hj => hp j (by omega)⟩
    · rw [if_neg (fun hh => e ((oN_leR (by omega) (by omega)).mp hh)), if_pos (by rw [am_in_oN (by omega)]; exact decide_eq_true (by omega)), oN_nat (by omega), oN_addL]
      obtain ⟨s', z1, z2, z3⟩ := ih (k + 1) (am_sI s 64 k 0) (by omega) (by omega) (by
        intro j hj
        rw [I_sI]
        by_cases e2 : j = k
        · rw [if_pos ⟨rfl, e2⟩]
        · rw [if_neg (fun hh => e2 hh.2)]; exact hp j (by omega))
      exact ⟨s', z1, (fr.refl.sI (by simp)).trans z2, z3⟩
theorem count_b (hC : C ≤ 12) (hR : R ≤ 24) (hon : onP R C l) (hl : l.length ≤ 288) : ∀ (m k : Nat) (s : am_S), l.length - k < m → k ≤ l.length → am_I s 55 20 = oN l.length → (∀ k p, l[k]? = some p → am_I s 62 k = oN p.1 ∧ am_I s 63 k = oN p.2) → mD s (l.take k) →
    ∃ s', L_X8_count_26 m (oN k) s = some (.inr ((), s')) ∧ fr [64] s s' ∧ mD s' l := by
  intro m
  induction m with
  | zero => intro k s hm; exact absurd hm (Nat.not_lt_zero _)
  | succ m ih =>
    intro k s hm hk h20 hL hD
    rw [L_X8_count_26, h20]
    by_cases e : l.length ≤ k
    · rw [if_pos ((oN_le (by omega) (by omega)).mpr e)]
      rw [List.take_of_length_le e] at hD
      exact ⟨s, rfl, fr.refl, hD⟩
    · have hin : am_in (oN k) 288 = true := by rw [am_in_oN (by omega)]; exact decide_eq_true (by omega)
      have hk2 : k < l.length := by omega
      have hg : l[k]? = some l[k] := List.getElem?_eq_getElem hk2
      obtain ⟨g1, g2⟩ := hL k _ hg
      have hq := hon _ (List.getElem_mem hk2)
      have hin2 : am_in (oN (12 * l[k].1 + l[k].2)) 288 = true := by rw [am_in_oN (by omega)]; exact decide_eq_true (by omega)
      have ei : (12 : Int32) * oN l[k].1 + oN l[k].2 = oN (12 * l[k].1 + l[k].2) := by rw [oN_mulR, oN_add]
      rw [if_neg (fun hh => e ((oN_le (by omega) (by omega)).mp hh)), if_pos hin, if_pos hin, oN_nat (by omega), g1, g2, ei, if_pos hin2, oN_nat (by omega), hD _ (by omega)]
      simp only [ax_le, if_pos hin2, oN_addL]
      obtain ⟨s', z1, z2, z3⟩ := ih (k + 1) (am_sI s 64 (12 * l[k].1 + l[k].2) (oN (cnk (l.take k) (12 * l[k].1 + l[k].2) + 1))) (by omega) (by omega) (by rw [I_ne (by decide)]; exact h20) (fun k p hk => by rw [I_ne (by decide), I_ne (by decide)]; exact hL k p hk) (by
        intro j hj
        rw [List.take_succ_eq_append_getElem hk2, cnk_snoc (by omega), I_sI]
        by_cases e2 : j = 12 * l[k].1 + l[k].2
        · rw [if_pos ⟨rfl, e2⟩, if_pos e2, e2]
        · rw [if_neg (fun hh => e2 hh.2), if_neg e2, Nat.add_zero]; exact hD j hj)
      exact ⟨s', z1, (fr.refl.sI (by simp)).trans z2, z3⟩
theorem m_count (hk : okP P) (hp : mP s P) : ∃ s', f_X8_count s = some (.inl none, s') ∧ fr [64] s s' ∧ mD s' P.2.2 := by
  obtain ⟨k1, k2, k3, k4, k5, k6, k7, k8⟩ := hk
  unfold f_X8_count
  obtain ⟨s1, w1, w2, w3⟩ := count_a ax_fuel 0 s (by rw [ax_fuel_is]; omega) (by omega) (fun j hj => absurd hj (Nat.not_lt_zero _))
  have w1' : L_X8_count_2 ax_fuel 0 s = some (.inr ((), s1)) := w1
  rw [w1']
  simp only [am_lm]
  obtain ⟨s2, z1, z2, z3⟩ := count_b k4 k2 k5 k8 ax_fuel 0 s1 (by rw [ax_fuel_is]; omega) (by omega) (by rw [w2.I (by decide)]; exact hp.2.2.1) (fun k p hk => by rw [w2.I (by decide), w2.I (by decide)]; exact hp.2.2.2 k p hk) (by intro j hj; rw [w3 j hj]; rfl)
  have z1' : L_X8_count_26 ax_fuel 0 s1 = some (.inr ((), s2)) := z1
  rw [z1']
  exact ⟨s2, rfl, w2.trans z2, z3⟩
/-- a paper that may have too many layers -/
def okQ (P : Ppr) : Prop := 1 ≤ P.1 ∧ P.1 ≤ 24 ∧ 1 ≤ P.2.1 ∧ P.2.1 ≤ 12 ∧ onP P.1 P.2.1 P.2.2 ∧ 1 ≤ P.2.2.length ∧ P.2.2.length ≤ 288
theorem m_countQ (hk : okQ P) (hp : mP s P) : ∃ s', f_X8_count s = some (.inl none, s') ∧ fr [64] s s' ∧ mD s' P.2.2 := by
  obtain ⟨k1, k2, k3, k4, k5, k7, k8⟩ := hk
  unfold f_X8_count
  obtain ⟨s1, w1, w2, w3⟩ := count_a ax_fuel 0 s (by rw [ax_fuel_is]; omega) (by omega) (fun j hj => absurd hj (Nat.not_lt_zero _))
  have w1' : L_X8_count_2 ax_fuel 0 s = some (.inr ((), s1)) := w1
  rw [w1']
  simp only [am_lm]
  obtain ⟨s2, z1, z2, z3⟩ := count_b k4 k2 k5 k8 ax_fuel 0 s1 (by rw [ax_fuel_is]; omega) (by omega) (by rw [w2.I (by decide)]; exact hp.2.2.1) (fun k p hk => by rw [w2.I (by decide), w2.I (by decide)]; exact hp.2.2.2 k p hk) (by intro j hj; rw [w3 j hj]; rfl)
  have z1' : L_X8_count_26 ax_fuel 0 s1 = some (.inr ((), s2)) := z1
  rw [z1']
  exact ⟨s2, rfl, w2.trans z2, z3⟩
theorem mcheck (hb : ∀ j, cnk l j ≤ 288) : ∀ (m k : Nat) (s : am_S), 288 - k < m → k ≤ 288 → mD s l → (∀ j, j < k → cnk l j ≤ 32) →
    ((L_X8_folds_100 m (oN k) s = some (.inr ((), s)) ∧ ∀ j, j < 288 → cnk l j ≤ 32) ∨ (L_X8_folds_100 m (oN k) s = some (.inl (.inl (some (.int 0)), s)) ∧ ∃ j, 32 < cnk l j)) := by
  intro m
  induction m with
  | zero => intro k s hm; exact absurd hm (Nat.not_lt_zero _)
  | succ m ih =>
    intro k s hm hk hD hp
    rw [L_X8_folds_100]
    by_cases e : 288 ≤ k
    · rw [if_pos ((oN_leR (by omega) (by omega)).mpr e)]
      exact Or.inl ⟨rfl, fun j hj => hp j (by omega)⟩
    · have h1 := hb k
      rw [if_neg (fun hh => e ((oN_leR (by omega) (by omega)).mp hh)), if_pos (by rw [am_in_oN (by omega)]; exact decide_eq_true (by omega)), oN_nat (by omega), hD k (by omega), oN_addL]
      by_cases e2 : cnk l k ≤ 32
      · rw [if_pos ((oN_leL (by omega) (by omega)).mpr e2)]
        exact ih (k + 1) s (by omega) (by omega) hD (fun j hj => by
          by_cases e3 : j = k
          · rw [e3]; exact e2
          · exact hp j (by omega))
      · rw [if_neg (fun hh => e2 ((oN_leL (by omega) (by omega)).mp hh))]
        exact Or.inr ⟨rfl, k, by omega⟩
theorem fits_cnk (hon : onP R C l) (hR : R ≤ 24) (hC : C ≤ 12) : fits l = true ↔ ∀ j, j < 288 → cnk l j ≤ 32 := by
  rw [fits_iff]
  constructor
  · intro h j _
    exact h _
  · rintro h ⟨r, c⟩
    by_cases ho : R ≤ r ∨ C ≤ c
    · rw [ct_off hon ho]; omega
    · rw [← cnk_is (by omega)]; exact h _ (by omega)
/-- behind the mapping: count, and look for too many layers -/
theorem m_tail (hk : okQ P) (hp : mP s P) : ∃ s', fr [64] s s' ∧ mD s' P.2.2 ∧
    (am_bu (f_X8_count s) (fun s13 => am_lm (L_X8_folds_100 ax_fuel (0 : Int32) s13) (fun e18 s19 => some (.inl (some (.int (1 : Int32))), s19))) = some (.inl (some (.int (if fits P.2.2 = true then 1 else 0))), s')) := by
  obtain ⟨s1, w1, w2, w3⟩ := m_countQ hk hp
  obtain ⟨k1, k2, k3, k4, k5, k7, k8⟩ := hk
  have hb : ∀ j, cnk P.2.2 j ≤ 288 := fun j => Nat.le_trans (List.count_le_length) k8
  rw [w1]
  simp only [am_bu]
  rcases mcheck hb ax_fuel 0 s1 (by rw [ax_fuel_is]; omega) (by omega) w3 (fun j hj => absurd hj (Nat.not_lt_zero _)) with ⟨q1, q2⟩ | ⟨q1, j, q2⟩
  · have q1' : L_X8_folds_100 ax_fuel 0 s1 = some (.inr ((), s1)) := q1
    rw [q1']
    refine ⟨s1, w2, w3, ?_⟩
    rw [if_pos ((fits_cnk k5 k2 k4).mpr q2)]
    rfl
  · have q1' : L_X8_folds_100 ax_fuel 0 s1 = some (.inl (.inl (some (.int 0)), s1)) := q1
    rw [q1']
    refine ⟨s1, w2, w3, ?_⟩
    rw [if_neg (fun hf => absurd (fits_iff.mp hf (j / 12, j % 12)) (by show ¬ cnk P.2.2 j ≤ 32; omega))]
    rfl
end MC
