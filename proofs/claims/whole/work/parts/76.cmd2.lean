/-! ===== draught, crate, still, hand, toss, enter ===== -/
theorem ne10 : ((1 : Int32) = 0) = False := by simp
section C2
variable {s : am_S} {x y z e : Int32} {r c d : Int32} {lw : Nat → Int32} {wy : List (List T2)} {hd : List (List T3)} {dr : List T3} {cr : List T2} {en : List T3} {n w h : Nat}
def okD (x y z : Int32) : Bool := wi x.toInt 1 200 && wi y.toInt x.toInt 200 && wi z.toInt (-20) 20
def okC (x y : Int32) : Bool := wi x.toInt 1 99999 && wi y.toInt 1 9999
theorem f_draught (hm : am_I s 5 2 = oN n) (hl : am_I s 5 1 = 4) (hn : n ≤ 4) : f_X7_draught x y z s = if okD x y z = true then (if n < 4 then some (.inl (some (.int (oN n))), addR 5 n x y z s) else some (.inl (some (.int (-1))), s)) else some (.inr 0, am_tick s) := by
  unfold f_X7_draught okD
  have ea := f_add (x := x) (y := y) (z := z) hm (show am_I s 5 1 = oN 4 from hl) (show n ≤ 11 by omega) (show 4 ≤ 11 by omega)
  simp only [f_needWithin, lit32]
  by_cases h1 : wi x.toInt 1 200 = true <;> by_cases h2 : wi y.toInt x.toInt 200 = true <;> by_cases h3 : wi z.toInt (-20) 20 = true <;> by_cases h4 : n < 4 <;> simp [h1, h2, h3, h4, am_tu, am_bi, ea]
theorem f_crate (hm : am_I s 7 2 = oN n) (hl : am_I s 7 1 = 3) (hn : n ≤ 3) : f_X7_crate x y s = if okC x y = true then (if n < 3 then some (.inl (some (.int (oN n))), addR 7 n x y 0 s) else some (.inl (some (.int (-1))), s)) else some (.inr 0, am_tick s) := by
  unfold f_X7_crate okC
  have ea := f_add (x := x) (y := y) (z := 0) hm (show am_I s 7 1 = oN 3 from hl) (show n ≤ 11 by omega) (show 3 ≤ 11 by omega)
  simp only [f_needWithin, lit32]
  by_cases h1 : wi x.toInt 1 99999 = true <;> by_cases h2 : wi y.toInt 1 9999 = true <;> by_cases h4 : n < 3 <;> simp [h1, h2, h4, am_tu, am_bi, ea]
/-- three (two) numbers put behind each other into told, and the number of them -/
def put3 (p q n : Nat) (x y z : Int32) (s : am_S) : am_S := am_sI (am_sI (am_sI (am_sI s 56 p x) 56 (p + 1) y) 56 (p + 2) z) 56 q (oN (n + 1))
def put2 (p q n : Nat) (x y : Int32) (s : am_S) : am_S := am_sI (am_sI (am_sI s 56 p x) 56 (p + 1) y) 56 q (oN (n + 1))
theorem put3_I {p q n k : Nat} : am_I (put3 p q n x y z s) 56 k = if k = q then oN (n + 1) else if k = p + 2 then z else if k = p + 1 then y else if k = p then x else am_I s 56 k := by
  unfold put3; simp only [I_sI, true_and]
theorem put2_I {p q n k : Nat} : am_I (put2 p q n x y s) 56 k = if k = q then oN (n + 1) else if k = p + 1 then y else if k = p then x else am_I s 56 k := by
  unfold put2; simp only [I_sI, true_and]
theorem put3_fr {p q n : Nat} : fr [56] s (put3 p q n x y z s) := (((fr.refl.sI (by simp)).sI (by simp)).sI (by simp)).sI (by simp)
theorem put2_fr {p q n : Nat} : fr [56] s (put2 p q n x y s) := ((fr.refl.sI (by simp)).sI (by simp)).sI (by simp)
/-- what the model does once the numbers are good: p is where they go, q how many there are -/
theorem put3_is {s1 : am_S} {p q : Nat} (hm : am_I s1 56 q = oN n) (hq : q < p) (hp : p + 3 ≤ 264) (hn : n ≤ 100) :
    (if am_in (Int32.ofNat p) 264 = true then if am_in (Int32.ofNat p + 1) 264 = true then if am_in (Int32.ofNat p + 2) 264 = true then
      (ax_le ((am_I (am_sI (am_sI (am_sI s1 56 (Int32.ofNat p).toNatClampNeg x) 56 (Int32.ofNat p + 1).toNatClampNeg y) 56 (Int32.ofNat p + 2).toNatClampNeg z) 56 q) + 1) (fun v => some (Sum.inl (some (Value.int (v - 1))), am_sI (am_sI (am_sI (am_sI s1 56 (Int32.ofNat p).toNatClampNeg x) 56 (Int32.ofNat p + 1).toNatClampNeg y) 56 (Int32.ofNat p + 2).toNatClampNeg z) 56 q v)) : am_F) else none else none else none)
    = some (.inl (some (.int (oN n))), put3 p q n x y z s1) := by
  simp only [oN_addL]
  rw [if_pos (by rw [am_in_oN (by omega)]; exact decide_eq_true (by omega)), if_pos (by rw [am_in_oN (by omega)]; exact decide_eq_true (by omega)), if_pos (by rw [am_in_oN (by omega)]; exact decide_eq_true (by omega)), oN_nat (by omega), oN_nat (by omega), oN_nat (by omega)]
  simp only [ax_le, put3]
  rw [I_sI, if_neg (by omega), I_sI, if_neg (by omega), I_sI, if_neg (by omega), hm, oN_addL, oN_subL (by omega)]
  rfl
theorem g_draught (hm : am_I s 56 4 = oN n) (hn : n ≤ 4) : f_X8_draught x y z s = if okD x y z = true then (if n < 4 then some (.inl (some (.int (oN n))), put3 (234 + 3 * n) 4 n x y z (am_sI s 55 3 0)) else some (.inl (some (.int (-1))), am_sI s 55 3 0)) else some (.inl (some (.int 0)), am_sI (am_sI s 55 3 0) 55 3 1) := by
  unfold f_X8_draught okD
  have hm' : am_I (am_sI s 55 3 0) 56 4 = oN n := by rw [I_ne (by decide)]; exact hm
  simp only [f_within, litL, Int32.toInt_toInt64]
  by_cases h1 : wi x.toInt 1 200 = true
  · by_cases h2 : wi y.toInt x.toInt 200 = true
    · by_cases h3 : wi z.toInt (-20) 20 = true
      · simp only [h1, h2, h3, am_bi, am_jn, hm', oN_mulR, oN_addR, if_true, Bool.and_true, ne10, if_false]
        by_cases h4 : n < 4
        · rw [if_neg (by rw [oN_eqL (by omega) (by omega)]; omega), if_pos h4]
          exact put3_is hm' (by omega) (by omega) (by omega)
        · rw [if_pos (by rw [oN_eqL (by omega) (by omega)]; omega), if_neg h4]
      · simp [h1, h2, h3, am_bi, am_jn, f_X8_fails]
    · simp [h1, h2, am_bi, am_jn, f_X8_fails]
  · simp [h1, am_bi, am_jn, f_X8_fails]
theorem g_crate (hm : am_I s 56 5 = oN n) (hn : n ≤ 3) : f_X8_crate x y s = if okC x y = true then (if n < 3 then some (.inl (some (.int (oN n))), put2 (246 + 2 * n) 5 n x y (am_sI s 55 3 0)) else some (.inl (some (.int (-1))), am_sI s 55 3 0)) else some (.inl (some (.int 0)), am_sI (am_sI s 55 3 0) 55 3 1) := by
  unfold f_X8_crate okC
  have hm' : am_I (am_sI s 55 3 0) 56 5 = oN n := by rw [I_ne (by decide)]; exact hm
  simp only [f_within, litL, Int32.toInt_toInt64]
  by_cases h1 : wi x.toInt 1 99999 = true
  · by_cases h2 : wi y.toInt 1 9999 = true
    · simp only [h1, h2, am_bi, am_jn, hm', oN_mulR, oN_addR, if_true, Bool.and_true, ne10, if_false]
      by_cases h4 : n < 3
      · have e6 : am_I (am_sI (am_sI s 55 3 0) 56 (246 + 2 * n) x) 56 5 = oN n := by rw [I_sI, if_neg (by omega)]; exact hm'
        rw [if_neg (by rw [oN_eqL (by omega) (by omega)]; omega), if_pos h4, if_pos (by rw [am_in_oN (by omega)]; exact decide_eq_true (by omega)), oN_nat (by omega), e6, oN_mulR, oN_addR, oN_addL, if_pos (by rw [am_in_oN (by omega)]; exact decide_eq_true (by omega)), oN_nat (by omega)]
        simp only [ax_le, put2]
        rw [I_sI, if_neg (by omega), e6, oN_addL, oN_subL (by omega)]
        rfl
      · rw [if_pos (by rw [oN_eqL (by omega) (by omega)]; omega), if_neg h4]
    · simp [h1, h2, am_bi, am_jn, f_X8_fails]
  · simp [h1, am_bi, am_jn, f_X8_fails]
/-! hands -/
theorem f_hand (hm : am_I s 1 7 = oN n) (hn : n ≤ 5) : f_X7_hand s = if n < 5 then some (.inl (some (.int (oN n))), am_sI (am_sI s (23 + 2 * n) 2 0) 1 7 (oN (n + 1))) else some (.inl (some (.int (-1))), s) := by
  unfold f_X7_hand f_X5_addHand
  rw [hm, if_neg (by rw [oN_nonneg (by omega)]; exact id)]
  by_cases h4 : n < 5
  · rw [if_pos ((oN_ltL (by omega) (by omega)).mpr h4), if_pos h4, if_pos (by rw [am_in_oN (by omega)]; exact decide_eq_true (by omega)), oN_nat (by omega), oN_addL]
    rfl
  · rw [if_neg (fun hc => h4 ((oN_ltL (by omega) (by omega)).mp hc)), if_neg h4]
    rfl
theorem g_hand (hm : am_I s 56 3 = oN n) (hn : n ≤ 5) : f_X8_hand s = if n < 5 then some (.inl (some (.int (oN n))), am_sI (am_sI (am_sI s 55 3 0) 56 (169 + 13 * n) 0) 56 3 (oN (n + 1))) else some (.inl (some (.int (-1))), am_sI s 55 3 0) := by
  unfold f_X8_hand
  rw [hm, oN_mulR, oN_addR]
  by_cases h4 : n < 5
  · rw [if_neg (by rw [oN_eqL (by omega) (by omega)]; omega), if_pos h4, if_pos (by rw [am_in_oN (by omega)]; exact decide_eq_true (by omega)), oN_nat (by omega)]
    simp only [ax_le]
    rw [I_sI, if_neg (by omega), I_ne (by decide), hm, oN_addL, oN_subL (by omega)]
    rfl
  · rw [if_pos (by rw [oN_eqL (by omega) (by omega)]; omega), if_neg h4]
def okTh (x y z : Int) : Bool := wi x 10 999 && wi y (-16) 16 && wi z 1 9
theorem isThrow_f {p q t : Int64} : f_X7_isThrow p q t s = some (.inl (some (.int (if okTh p.toInt q.toInt t.toInt = true then 1 else 0))), s) := by
  unfold f_X7_isThrow okTh
  simp only [Int64.lt_iff_toInt_lt, litL, Bool.and_eq_true, wi_t]
  repeat' split
  all_goals first | rfl | (exfalso; omega)
theorem isThrow_g {p q t : Int64} : f_X8_isThrow p q t s = some (.inl (some (.int (if okTh p.toInt q.toInt t.toInt = true then 1 else 0))), s) := by
  unfold f_X8_isThrow okTh
  simp only [f_within, litL]
  by_cases h1 : wi p.toInt 10 999 = true <;> by_cases h2 : wi q.toInt (-16) 16 = true <;> by_cases h3 : wi t.toInt 1 9 = true <;> simp [h1, h2, h3, am_bi]
end C2
