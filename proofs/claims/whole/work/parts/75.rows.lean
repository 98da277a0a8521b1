/-! ===== Rows, Stock: numbered rows ===== -/
section RW
variable {s : am_S} {a b i j m n w L : Nat} {x y z v : Int32}
theorem ix_cases (x : Int32) (n : Nat) : (∃ w, w < n ∧ x = oN w) ∨ ¬ (0 ≤ x.toInt ∧ x.toInt < n) := by
  by_cases h : 0 ≤ x.toInt ∧ x.toInt < n
  · obtain ⟨m, e, e2, h3⟩ := oN_of h.1
    exact Or.inl ⟨m, by omega, e⟩
  · exact Or.inr h
theorem f_put (hi : i < 11) (hj : j < 3) : f_X4_put a (oN i) (oN j) v s = some (.inl none, am_sI s (a + 1) (3 * i + j) v) := by
  unfold f_X4_put
  have e : Int32.ofNat i * (3 : Int32) + Int32.ofNat j = Int32.ofNat (3 * i + j) := by rw [oN_mulL, oN_add, Nat.mul_comm]
  simp only [e]
  rw [if_neg (by rw [oN_nonneg (by omega)]; exact id), if_neg (by rw [oN_leR (by omega) (by omega)]; omega), if_pos (by rw [am_in_oN (by omega)]; exact decide_eq_true (by omega)), oN_nat (by omega)]
theorem f_get (hi : i < 11) (hj : j < 3) : f_X4_get a (oN i) (oN j) s = some (.inl (some (.int (am_I s (a + 1) (3 * i + j)))), s) := by
  unfold f_X4_get
  have e : Int32.ofNat i * (3 : Int32) + Int32.ofNat j = Int32.ofNat (3 * i + j) := by rw [oN_mulL, oN_add, Nat.mul_comm]
  simp only [e]
  rw [if_neg (by rw [oN_nonneg (by omega)]; exact id), if_neg (by rw [oN_leR (by omega) (by omega)]; omega), if_pos (by rw [am_in_oN (by omega)]; exact decide_eq_true (by omega)), oN_nat (by omega)]
theorem f_get0 (hi : i < 11) : f_X4_get a (oN i) 0 s = some (.inl (some (.int (am_I s (a + 1) (3 * i)))), s) := f_get (j := 0) hi (by omega)
theorem f_get1 (hi : i < 11) : f_X4_get a (oN i) 1 s = some (.inl (some (.int (am_I s (a + 1) (3 * i + 1)))), s) := f_get (j := 1) hi (by omega)
theorem f_get2 (hi : i < 11) : f_X4_get a (oN i) 2 s = some (.inl (some (.int (am_I s (a + 1) (3 * i + 2)))), s) := f_get (j := 2) hi (by omega)
def addR (a m : Nat) (x y z : Int32) (s : am_S) : am_S := am_sI (am_sI (am_sI (am_sI s a 2 (oN (m + 1))) (a + 1) (3 * m) x) (a + 1) (3 * m + 1) y) (a + 1) (3 * m + 2) z
theorem f_add (hm : am_I s a 2 = oN m) (hl : am_I s a 1 = oN L) (h1 : m ≤ 11) (h2 : L ≤ 11) : f_X4_add a x y z s = if m < L then some (.inl (some (.int (oN m))), addR a m x y z s) else some (.inl (some (.int (-1))), s) := by
  unfold f_X4_add
  rw [hm, hl]
  by_cases h : m < L
  · rw [if_pos ((oN_lt (by omega) (by omega)).mpr h), if_pos h]
    have e0 : ∀ s v, f_X4_put a (Int32.ofNat m) 0 v s = some (.inl none, am_sI s (a + 1) (3 * m) v) := fun s v => f_put (j := 0) (by omega) (by omega)
    have e1 : ∀ s v, f_X4_put a (Int32.ofNat m) 1 v s = some (.inl none, am_sI s (a + 1) (3 * m + 1) v) := fun s v => f_put (j := 1) (by omega) (by omega)
    have e2 : ∀ s v, f_X4_put a (Int32.ofNat m) 2 v s = some (.inl none, am_sI s (a + 1) (3 * m + 2) v) := fun s v => f_put (j := 2) (by omega) (by omega)
    simp only [e0, e1, e2, am_bu, oN_addL]
    rfl
  · rw [if_neg (fun hc => h ((oN_lt (by omega) (by omega)).mp hc)), if_neg h]
theorem addR_fr : fr [a, a + 1] s (addR a m x y z s) := (((fr.refl.sI (by simp)).sI (by simp)).sI (by simp)).sI (by simp)
theorem addR_I {k : Nat} : am_I (addR a m x y z s) a k = if k = 2 then oN (m + 1) else am_I s a k := by
  unfold addR
  rw [I_ne (by omega), I_ne (by omega), I_ne (by omega), I_sI]
  simp
theorem addR_J {k : Nat} : am_I (addR a m x y z s) (a + 1) k = if k = 3 * m + 2 then z else if k = 3 * m + 1 then y else if k = 3 * m then x else am_I s (a + 1) k := by
  unfold addR
  rw [I_sI, I_sI, I_sI, I_ne (show ¬ a + 1 = a by omega)]
  simp
theorem addR_3 {l : List T3} (h : cR3 s a l) : cR3 (addR a l.length x y z s) a (l ++ [(x, y, z)]) := by
  refine ⟨by rw [addR_I, if_pos rfl, List.length_append, List.length_singleton], h.2.push ?_ ?_ ?_ ?_⟩
  · intro i k hi hk
    rw [addR_J, if_neg (by omega), if_neg (by omega), if_neg (by omega)]
  · rw [addR_J, if_neg (by omega), if_neg (by omega), if_pos (by omega)]
  · rw [addR_J, if_neg (by omega), if_pos (by omega)]
  · rw [addR_J, if_pos (by omega)]
theorem addR_2 {l : List T2} (h : cR2 s a l) : cR2 (addR a l.length x y z s) a (l ++ [(x, y)]) := by
  refine ⟨by rw [addR_I, if_pos rfl, List.length_append, List.length_singleton], h.2.push ?_ ?_ ?_⟩
  · intro i k hi hk
    rw [addR_J, if_neg (by omega), if_neg (by omega), if_neg (by omega)]
  · rw [addR_J, if_neg (by omega), if_neg (by omega), if_pos (by omega)]
  · rw [addR_J, if_neg (by omega), if_pos (by omega)]
/-- the things of a way, of a hand -/
theorem k0_way : ∀ w, w < 6 → am_k0 (11 + 2 * w) = (4, 0) ∧ 11 + 2 * w < 72 := fun w hw => ⟨(ways_tab w hw).2.1, by omega⟩
theorem k0_hand : ∀ w, w < 5 → am_k0 (23 + 2 * w) = (4, 0) ∧ 23 + 2 * w < 72 := fun w hw => ⟨(hands_tab w hw).2.1, by omega⟩
theorem wayAt_ok (hn : am_I s 1 5 = oN n) (h6 : n ≤ 6) (hw : w < n) : f_X5_wayAt (oN w) s = some (.inl (some (.ref (11 + 2 * w))), s) := by
  unfold f_X5_wayAt
  rw [hn, if_neg (by rw [oN_nonneg (by omega)]; exact id), if_neg (by rw [oN_le (by omega) (by omega)]; omega), if_neg (by rw [oN_leR (by omega) (by omega)]; omega), if_pos (by rw [am_in_oN (by omega)]; exact decide_eq_true (by omega)), oN_nat (by omega)]
theorem wayAt_no (hn : am_I s 1 5 = oN n) (h6 : n ≤ 6) (hx : ¬ (0 ≤ x.toInt ∧ x.toInt < n)) : f_X5_wayAt x s = some (.inl (some .null), s) := by
  unfold f_X5_wayAt
  rw [hn]
  simp only [Int32.lt_iff_toInt_lt, Int32.le_iff_toInt_le, Int32.toInt_zero, oN_int (show n < 2147483648 by omega)]
  by_cases h1 : x.toInt < 0
  · rw [if_pos h1]
  · rw [if_neg h1, if_pos (by omega)]
theorem needWay_ok (hn : am_I s 1 5 = oN n) (h6 : n ≤ 6) (hw : w < n) : f_X7_needWay (oN w) s = some (.inl (some (.ref (11 + 2 * w))), s) := by
  unfold f_X7_needWay
  rw [wayAt_ok hn h6 hw]
  simp only [am_bv, am_mv]
  rw [if_pos (k0_way w (by omega))]
theorem needWay_no (hn : am_I s 1 5 = oN n) (h6 : n ≤ 6) (hx : ¬ (0 ≤ x.toInt ∧ x.toInt < n)) : f_X7_needWay x s = some (.inr 3, am_tick s) := by
  unfold f_X7_needWay
  rw [wayAt_no hn h6 hx]
  rfl
theorem handAt_ok (hn : am_I s 1 7 = oN n) (h6 : n ≤ 5) (hw : w < n) : f_X5_handAt (oN w) s = some (.inl (some (.ref (23 + 2 * w))), s) := by
  unfold f_X5_handAt
  rw [hn, if_neg (by rw [oN_nonneg (by omega)]; exact id), if_neg (by rw [oN_le (by omega) (by omega)]; omega), if_neg (by rw [oN_leR (by omega) (by omega)]; omega), if_pos (by rw [am_in_oN (by omega)]; exact decide_eq_true (by omega)), oN_nat (by omega)]
theorem handAt_no (hn : am_I s 1 7 = oN n) (h6 : n ≤ 5) (hx : ¬ (0 ≤ x.toInt ∧ x.toInt < n)) : f_X5_handAt x s = some (.inl (some .null), s) := by
  unfold f_X5_handAt
  rw [hn]
  simp only [Int32.lt_iff_toInt_lt, Int32.le_iff_toInt_le, Int32.toInt_zero, oN_int (show n < 2147483648 by omega)]
  by_cases h1 : x.toInt < 0
  · rw [if_pos h1]
  · rw [if_neg h1, if_pos (by omega)]
theorem needHand_ok (hn : am_I s 1 7 = oN n) (h6 : n ≤ 5) (hw : w < n) : f_X7_needHand (oN w) s = some (.inl (some (.ref (23 + 2 * w))), s) := by
  unfold f_X7_needHand
  rw [handAt_ok hn h6 hw]
  simp only [am_bv, am_mv]
  rw [if_pos (k0_hand w (by omega))]
theorem needHand_no (hn : am_I s 1 7 = oN n) (h6 : n ≤ 5) (hx : ¬ (0 ≤ x.toInt ∧ x.toInt < n)) : f_X7_needHand x s = some (.inr 3, am_tick s) := by
  unfold f_X7_needHand
  rw [handAt_no hn h6 hx]
  rfl
/-! the model's -/
theorem oN_sub1 (h : n < 2147483648) : (Int32.ofNat n - (1 : Int32)).toInt = (n : Int) - 1 := by
  rw [Int32.toInt_sub, oN_int h, Int32.toInt_one, Int.bmod_eq_of_le (by omega) (by omega)]
theorem isWay_is (hn : am_I s 56 2 = oN n) (h6 : n ≤ 6) : f_X8_isWay x s = some (.inl (some (.int (if 0 ≤ x.toInt ∧ x.toInt < n then 1 else 0))), s) := by
  unfold f_X8_isWay
  rw [f_within, hn]
  simp only [Int32.toInt_toInt64, oN_sub1 (show n < 2147483648 by omega), litL, wi_t, am_bi]
  by_cases h : 0 ≤ x.toInt ∧ x.toInt < n
  · rw [if_pos h, if_pos (show 0 ≤ x.toInt ∧ x.toInt ≤ (n : Int) - 1 by omega), if_pos (Or.inr rfl)]
  · rw [if_neg h, if_neg (show ¬ (0 ≤ x.toInt ∧ x.toInt ≤ (n : Int) - 1) by omega), if_pos (Or.inl rfl)]
theorem isHand_is (hn : am_I s 56 3 = oN n) (h6 : n ≤ 5) : f_X8_isHand x s = some (.inl (some (.int (if 0 ≤ x.toInt ∧ x.toInt < n then 1 else 0))), s) := by
  unfold f_X8_isHand
  rw [f_within, hn]
  simp only [Int32.toInt_toInt64, oN_sub1 (show n < 2147483648 by omega), litL, wi_t, am_bi]
  by_cases h : 0 ≤ x.toInt ∧ x.toInt < n
  · rw [if_pos h, if_pos (show 0 ≤ x.toInt ∧ x.toInt ≤ (n : Int) - 1 by omega), if_pos (Or.inr rfl)]
  · rw [if_neg h, if_neg (show ¬ (0 ≤ x.toInt ∧ x.toInt ≤ (n : Int) - 1) by omega), if_pos (Or.inl rfl)]
theorem ifT01 {p : Prop} [Decidable p] : ((if p then (1 : Int32) else 0) = 0 ∨ (if p then (1 : Int32) else 0) = 1) := by
  by_cases h : p
  · rw [if_pos h]; exact Or.inr rfl
  · rw [if_neg h]; exact Or.inl rfl
theorem isEars_is : f_X8_isEars x s = some (.inl (some (.int (if wi x.toInt (-9) 9 = true then 1 else 0))), s) := by
  unfold f_X8_isEars
  rw [f_within]
  simp only [Int32.toInt_toInt64, litL, am_bi, if_pos ifT01]
theorem isSpeed_is : f_X8_isSpeed x s = some (.inl (some (.int (if wi x.toInt 10 999 = true then 1 else 0))), s) := by
  unfold f_X8_isSpeed
  rw [f_within]
  simp only [Int32.toInt_toInt64, litL, am_bi, if_pos ifT01]
theorem isSlant_is : f_X8_isSlant x s = some (.inl (some (.int (if wi x.toInt (-16) 16 = true then 1 else 0))), s) := by
  unfold f_X8_isSlant
  rw [f_within]
  simp only [Int32.toInt_toInt64, litL, am_bi, if_pos ifT01]
theorem needEars_is : f_X7_needEars x s = if wi x.toInt (-9) 9 = true then some (.inl none, s) else some (.inr 0, am_tick s) := by
  unfold f_X7_needEars
  rw [f_needWithin]
  simp only [lit32]
  by_cases h : wi x.toInt (-9) 9 = true
  · simp only [if_pos h, am_tu]
  · simp only [if_neg h, am_tu]
end RW
