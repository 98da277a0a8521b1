/-! ===== both find that direction ===== -/
section P5
variable {s : am_S} {x y : Int32}
theorem mul_b {p q : Int} (h1 : 0 ≤ p) (h2 : p ≤ 2000) (h3 : 0 ≤ q) (h4 : q ≤ 98) : 0 ≤ p * q ∧ p * q ≤ 196000 := by
  refine ⟨Int.mul_nonneg h1 h3, ?_⟩
  have := Int.mul_le_mul h2 h4 h3 (by omega)
  omega
theorem prod_is {r : Int32} {k : Nat} (hx : 0 ≤ x.toInt ∧ x.toInt ≤ 2000) (hr : r.toInt = rs k) (hk : k < 16) : (x * r).toInt = x.toInt * rs k := by
  have h1 := rs_pos k hk
  have h2 := mul_b hx.1 hx.2 (Int.le_of_lt h1.1) h1.2
  rw [Int32.toInt_mul, hr, Int.bmod_eq_of_le (by omega) (by omega)]
theorem steep_in (hf : cF s) (hx : 0 ≤ x.toInt ∧ x.toInt ≤ 2000) (hy : 0 ≤ y.toInt ∧ y.toInt ≤ 2000) : ∀ (m i lo hi : Nat), 16 - i < m → i ≤ 16 → lo ≤ hi → hi ≤ 16 → hi - lo ≤ 16 - i → (∀ j, j < lo → 0 < Dq x.toInt y.toInt j) → (∀ j, hi ≤ j → j < 16 → Dq x.toInt y.toInt j ≤ 0) →
    ∃ k, L_X7_steepness_8 m x y (oN lo) (oN hi) (oN i) s = some (.inr (oN k, s)) ∧ tp x.toInt y.toInt k := by
  intro m
  induction m with
  | zero => intro i lo hi hm; exact absurd hm (Nat.not_lt_zero _)
  | succ m ih =>
    intro i lo hi hm hi16 hlh hh16 hgap hL hH
    rw [L_X7_steepness_8]
    by_cases e : 16 ≤ i
    · have : lo = hi := by omega
      subst this
      rw [if_pos ((oN_leR (by omega) (by omega)).mpr e)]
      exact ⟨lo, rfl, hh16, hL, hH⟩
    · rw [if_neg (fun hh => e ((oN_leR (by omega) (by omega)).mp hh))]
      by_cases e2 : hi ≤ lo
      · have : lo = hi := by omega
        subst this
        rw [if_pos ((oN_le (by omega) (by omega)).mpr (Nat.le_refl _))]
        exact ⟨lo, rfl, hh16, hL, hH⟩
      · have em : (oN lo + oN hi) / 2 = oN ((lo + hi) / 2) := by rw [oN_add]; exact half_is (by omega)
        have e15 : (15 : Int32) - oN ((lo + hi) / 2) = oN (15 - (lo + hi) / 2) := oN_sub (a := 15) (by omega)
        have p1 := prod_is hy (hf.2 ((lo + hi) / 2) (by omega)) (by omega)
        have p2 := prod_is hx (hf.2 (15 - (lo + hi) / 2) (by omega)) (by omega)
        rw [if_neg (fun hh => e2 ((oN_le (by omega) (by omega)).mp hh)), em, if_pos (by rw [am_in_oN (by omega)]; exact decide_eq_true (by omega)), e15, if_pos (by rw [am_in_oN (by omega)]; exact decide_eq_true (by omega)), oN_nat (by omega), oN_nat (by omega), oN_addL, oN_addL]
        have hD : Dq x.toInt y.toInt ((lo + hi) / 2) = y.toInt * rs ((lo + hi) / 2) - x.toInt * rs (15 - (lo + hi) / 2) := rfl
        by_cases e3 : Dq x.toInt y.toInt ((lo + hi) / 2) ≤ 0
        · rw [if_pos (by rw [Int32.le_iff_toInt_le, p1, p2]; omega)]
          refine ih (i + 1) lo ((lo + hi) / 2) (by omega) (by omega) (by omega) (by omega) (by omega) hL ?_
          intro j h1 h2
          have := Dle hx.1 hy.1 h1 h2
          omega
        · rw [if_neg (by rw [Int32.le_iff_toInt_le, p1, p2]; omega)]
          refine ih (i + 1) ((lo + hi) / 2 + 1) hi (by omega) (by omega) (by omega) hh16 (by omega) ?_ hH
          intro j h1
          have := Dle hx.1 hy.1 (show j ≤ (lo + hi) / 2 by omega) (by omega)
          omega
theorem c_steep (hf : cF s) (hx : 0 ≤ x.toInt ∧ x.toInt ≤ 2000) (hy : 0 ≤ y.toInt ∧ y.toInt ≤ 2000) : ∃ k, f_X7_steepness x y s = some (.inl (some (.int (oN k))), s) ∧ tp x.toInt y.toInt k := by
  obtain ⟨k, h1, h2⟩ := steep_in hf hx hy ax_fuel 0 0 16 (by rw [ax_fuel_is]; omega) (by omega) (by omega) (by omega) (by omega) (fun j hj => absurd hj (Nat.not_lt_zero _)) (fun j a b => absurd a (by omega))
  have h1' : L_X7_steepness_8 ax_fuel x y 0 16 0 s = some (.inr (oN k, s)) := h1
  unfold f_X7_steepness
  rw [h1']
  exact ⟨k, rfl, h2⟩
theorem abs_is (hx : -2000 ≤ x.toInt ∧ x.toInt ≤ 2000) : (am_abs x).toInt = if 0 ≤ x.toInt then x.toInt else - x.toInt := by
  unfold am_abs
  by_cases e : 0 ≤ x.toInt
  · rw [if_pos (by rw [Int32.le_iff_toInt_le, Int32.toInt_zero]; exact e), if_pos e]
  · rw [if_neg (by rw [Int32.le_iff_toInt_le, Int32.toInt_zero]; exact e), if_neg e, Int32.toInt_sub, Int32.toInt_zero, Int.bmod_eq_of_le (by omega) (by omega)]
    omega
theorem neg0 : x < 0 ↔ x.toInt < 0 := by rw [Int32.lt_iff_toInt_lt, Int32.toInt_zero]
theorem pos0 : 0 ≤ x ↔ 0 ≤ x.toInt := by rw [Int32.le_iff_toInt_le, Int32.toInt_zero]
theorem c_path (hf : cF s) (hx : -2000 ≤ x.toInt ∧ x.toInt ≤ 2000) (hy : -2000 ≤ y.toInt ∧ y.toInt ≤ 2000) : f_X7_pathOf x y s = some (.inl (some (.int (oN (pth x.toInt y.toInt)))), s) := by
  have ax := abs_is hx
  have ay := abs_is hy
  have bx : 0 ≤ (am_abs x).toInt ∧ (am_abs x).toInt ≤ 2000 := by rw [ax]; split <;> omega
  have by' : 0 ≤ (am_abs y).toInt ∧ (am_abs y).toInt ≤ 2000 := by rw [ay]; split <;> omega
  obtain ⟨k, h1, h2⟩ := c_steep hf bx by'
  have hk := h2.1
  unfold f_X7_pathOf
  rw [h1]
  unfold am_bi am_jn
  /- the mirrored quarters -/
  have tail : ∀ (z : Int32) (hz : z.toInt = x.toInt), (0 < (am_abs x).toInt ∨ 0 < (am_abs y).toInt) → ∃ k', lm (am_abs x).toInt (am_abs y).toInt k k' ∧
      ((if (16 : Int32) ≤ oN k then (if 0 ≤ x then (some (Sum.inl (some (Value.int ((64 : Int32) - oN k))), s) : am_F) else some (Sum.inl (some (Value.int ((32 : Int32) - oN k))), s))
        else if am_in (oN k) 16 = true then if am_in ((15 : Int32) - oN k) 16 = true then if (am_abs y * am_I s 3000006 (oN k).toNatClampNeg) = (am_abs x * am_I s 3000006 ((15 : Int32) - oN k).toNatClampNeg) then (if 0 ≤ x then some (Sum.inl (some (Value.int ((64 : Int32) - (oN k + 1)))), s) else some (Sum.inl (some (Value.int ((32 : Int32) - (oN k + 1)))), s)) else (if 0 ≤ x then some (Sum.inl (some (Value.int ((64 : Int32) - oN k))), s) else some (Sum.inl (some (Value.int ((32 : Int32) - oN k))), s)) else none else none)
        = some (Sum.inl (some (Value.int (if 0 ≤ x then oN (64 - k') else oN (32 - k')))), s)) := by
    intro z hz hs
    have hl := tp_last bx.1 by'.1 hs h2
    by_cases e : 16 ≤ k
    · have : k = 16 := by omega
      subst this
      rw [if_neg (fun hh => absurd hh.1 (by omega))] at hl
      refine ⟨16, hl, ?_⟩
      rw [if_pos ((oN_leR (by omega) (by omega)).mpr e)]
      by_cases h0 : 0 ≤ x
      · rw [if_pos h0, if_pos h0]; rfl
      · rw [if_neg h0, if_neg h0]; rfl
    · have e15 : (15 : Int32) - oN k = oN (15 - k) := oN_sub (a := 15) (by omega)
      have q1 := prod_is by' (hf.2 k (by omega)) (by omega)
      have q2 := prod_is bx (hf.2 (15 - k) (by omega)) (by omega)
      rw [if_neg (fun hh => e ((oN_leR (by omega) (by omega)).mp hh)), if_pos (by rw [am_in_oN (by omega)]; exact decide_eq_true (by omega)), e15, if_pos (by rw [am_in_oN (by omega)]; exact decide_eq_true (by omega)), oN_nat (by omega), oN_nat (by omega)]
      by_cases e3 : (am_abs y).toInt * rs k = (am_abs x).toInt * rs (15 - k)
      · have e4 : (64 : Int32) - (oN k + 1) = oN (64 - (k + 1)) := by rw [oN_addL]; exact oN_sub (a := 64) (by show k + 1 ≤ 64; omega)
        have e5 : (32 : Int32) - (oN k + 1) = oN (32 - (k + 1)) := by rw [oN_addL]; exact oN_sub (a := 32) (by show k + 1 ≤ 32; omega)
        rw [if_pos ⟨by omega, e3⟩] at hl
        refine ⟨k + 1, hl, ?_⟩
        rw [if_pos (by rw [← Int32.toInt_inj, q1, q2]; exact e3)]
        by_cases h0 : 0 ≤ x
        · rw [if_pos h0, if_pos h0, e4]
        · rw [if_neg h0, if_neg h0, e5]
      · have e4 : (64 : Int32) - oN k = oN (64 - k) := oN_sub (a := 64) (by omega)
        have e5 : (32 : Int32) - oN k = oN (32 - k) := oN_sub (a := 32) (by omega)
        rw [if_neg (fun hh => e3 hh.2)] at hl
        refine ⟨k, hl, ?_⟩
        rw [if_neg (by rw [← Int32.toInt_inj, q1, q2]; exact e3)]
        by_cases h0 : 0 ≤ x
        · rw [if_pos h0, if_pos h0, e4]
        · rw [if_neg h0, if_neg h0, e5]
  by_cases sx : x.toInt < 0
  · have hx0 : ¬ 0 ≤ x.toInt := by omega
    rw [if_neg hx0] at ax
    show (if x < 0 then _ else _) = _
    rw [if_pos (neg0.mpr sx)]
    show (if 0 ≤ x then _ else _) = _
    rw [if_neg (fun hh => hx0 (pos0.mp hh))]
    by_cases sy : y.toInt < 0
    · have hy0 : ¬ 0 ≤ y.toInt := by omega
      rw [if_neg hy0] at ay
      rw [if_neg (fun hh => hy0 (pos0.mp hh)), p3 sx sy (by rw [← ax, ← ay]; exact h2)]
      have e5 : (32 : Int32) + oN k = oN (32 + k) := by rw [oN_addR]
      rw [e5]
    · have hy0 : 0 ≤ y.toInt := by omega
      rw [if_pos hy0] at ay
      rw [if_pos (pos0.mpr hy0)]
      show (if x < 0 then _ else _) = _
      rw [if_pos (neg0.mpr sx)]
      obtain ⟨k', t1, t2⟩ := tail x rfl (Or.inl (by rw [ax]; omega))
      rw [p2 sx hy0 (by rw [← ax, ← ay]; exact h2) (by rw [← ax, ← ay]; exact t1)]
      refine Eq.trans t2 ?_
      rw [if_neg (fun hh => hx0 (pos0.mp hh))]
  · have hx0 : 0 ≤ x.toInt := by omega
    rw [if_pos hx0] at ax
    show (if x < 0 then _ else _) = _
    rw [if_neg (fun hh => sx (neg0.mp hh))]
    by_cases sy : y.toInt < 0
    · have hy0 : ¬ 0 ≤ y.toInt := by omega
      rw [if_neg hy0] at ay
      rw [if_pos (neg0.mpr sy)]
      show (if 0 ≤ x then _ else _) = _
      rw [if_pos (pos0.mpr hx0)]
      show (if x < 0 then _ else _) = _
      rw [if_neg (fun hh => sx (neg0.mp hh))]
      by_cases ek : k = 0
      · subst ek
        rw [if_pos (show oN 0 = 0 from rfl), p4z hx0 sy (by rw [← ax, ← ay]; exact h2)]
        rfl
      · rw [if_neg (show ¬ oN k = 0 from fun hh => ek ((oN_eq (a := k) (b := 0) (by omega) (by omega)).mp hh))]
        obtain ⟨k', t1, t2⟩ := tail x rfl (Or.inr (by rw [ay]; omega))
        rw [p4 hx0 sy (by rw [← ax, ← ay]; exact h2) (by omega) (by rw [← ax, ← ay]; exact t1)]
        refine Eq.trans t2 ?_
        rw [if_pos (pos0.mpr hx0)]
    · have hy0 : 0 ≤ y.toInt := by omega
      rw [if_pos hy0] at ay
      rw [if_neg (fun hh => sy (neg0.mp hh)), p1 hx0 hy0 (by rw [← ax, ← ay]; exact h2)]
theorem val64 {v : Int64} {d : Nat} (hx : -2000 ≤ x.toInt ∧ x.toInt ≤ 2000) (hy : -2000 ≤ y.toInt ∧ y.toInt ≤ 2000) (hd : d < 64) (hv : v = x.toInt64 * (Int32.ofInt (cs d)).toInt64 + y.toInt64 * (Int32.ofInt (sn d)).toInt64) : v.toInt = pval x.toInt y.toInt d := by
  have b1 := cs_b d hd
  have b2 := sn_b d hd
  have t1 : (Int32.ofInt (cs d)).toInt64.toInt = cs d := by rw [Int32.toInt_toInt64, Int32.toInt_ofInt_of_le (by omega) (by omega)]
  have t2 : (Int32.ofInt (sn d)).toInt64.toInt = sn d := by rw [Int32.toInt_toInt64, Int32.toInt_ofInt_of_le (by omega) (by omega)]
  have mm : ∀ p q : Int, -2000 ≤ p → p ≤ 2000 → -1000 ≤ q → q ≤ 1000 → -2000000 ≤ p * q ∧ p * q ≤ 2000000 := by
    intro p q h1 h2 h3 h4
    have k1 : (p * q).natAbs ≤ 2000000 := by
      rw [Int.natAbs_mul]
      have := Nat.mul_le_mul (show p.natAbs ≤ 2000 by omega) (show q.natAbs ≤ 1000 by omega)
      omega
    omega
  have m1 := mm x.toInt (cs d) hx.1 hx.2 b1.1 b1.2
  have m2 := mm y.toInt (sn d) hy.1 hy.2 b2.1 b2.2
  have g1 : (x.toInt64 * (Int32.ofInt (cs d)).toInt64).toInt = x.toInt * cs d := by
    rw [Int64.toInt_mul, t1, Int32.toInt_toInt64, Int.bmod_eq_of_le (by omega) (by omega)]
  have g2 : (y.toInt64 * (Int32.ofInt (sn d)).toInt64).toInt = y.toInt * sn d := by
    rw [Int64.toInt_mul, t2, Int32.toInt_toInt64, Int.bmod_eq_of_le (by omega) (by omega)]
  rw [hv, Int64.toInt_add, g1, g2, Int.bmod_eq_of_le (by omega) (by omega)]
  rfl
theorem path_in (hx : -2000 ≤ x.toInt ∧ x.toInt ≤ 2000) (hy : -2000 ≤ y.toInt ∧ y.toInt ≤ 2000) (h1 : am_I s 55 33 = x) (h2 : am_I s 55 34 = y) (hs : mSn s 64) : ∀ (m k : Nat) (v : Int64), 64 - k < m → k ≤ 64 → (0 < k → v.toInt = pval x.toInt y.toInt (am64 (pval x.toInt y.toInt) k)) →
    L_X8_path_7 m (oN (am64 (pval x.toInt y.toInt) k)) v (oN k) s = some (.inr (oN (pth x.toInt y.toInt), s)) := by
  intro m
  induction m with
  | zero => intro k v hm; exact absurd hm (Nat.not_lt_zero _)
  | succ m ih =>
    intro k v hm hk hv
    rw [L_X8_path_7]
    by_cases e : 64 ≤ k
    · have : k = 64 := by omega
      subst this
      rw [if_pos ((oN_leR (by omega) (by omega)).mpr e)]
      rfl
    · have hin : am_in (oN k) 64 = true := by rw [am_in_oN (by omega)]; exact decide_eq_true (by omega)
      have en : (oN k).toNatClampNeg = k := oN_nat (by omega)
      have hk2 := hs k (by omega)
      have hV := val64 (d := k) hx hy (by omega) rfl
      have hA : am64 (pval x.toInt y.toInt) (k + 1) = if k = 0 then 0 else if pval x.toInt y.toInt (am64 (pval x.toInt y.toInt) k) < pval x.toInt y.toInt k then k else am64 (pval x.toInt y.toInt) k := rfl
      rw [if_neg (fun hh => e ((oN_leR (by omega) (by omega)).mp hh)), if_pos hin, if_pos hin, en, h1, h2, hk2.1, hk2.2]
      unfold ax_le am_jn
      by_cases e0 : k = 0
      · show (if oN k ≤ 0 then _ else _) = _
        rw [if_pos (by rw [e0]; exact Int32.le_refl 0)]
        show L_X8_path_7 m (oN k) _ (oN k + 1) s = _
        rw [if_pos e0] at hA
        have := ih (k + 1) (x.toInt64 * (Int32.ofInt (cs k)).toInt64 + y.toInt64 * (Int32.ofInt (sn k)).toInt64) (by omega) (by omega) (fun _ => by rw [hA, hV, e0])
        rw [hA] at this
        rw [oN_addL]
        rw [e0] at this ⊢
        exact this
      · show (if oN k ≤ 0 then _ else _) = _
        rw [if_neg (fun hh => e0 (by have := (oN_le (a := k) (b := 0) (by omega) (by omega)).mp hh; omega))]
        rw [if_neg e0] at hA
        by_cases e2 : pval x.toInt y.toInt (am64 (pval x.toInt y.toInt) k) < pval x.toInt y.toInt k
        · rw [if_pos (by rw [Int64.lt_iff_toInt_lt, hv (by omega), hV]; exact e2)]
          show L_X8_path_7 m (oN k) _ (oN k + 1) s = _
          rw [if_pos e2] at hA
          have := ih (k + 1) (x.toInt64 * (Int32.ofInt (cs k)).toInt64 + y.toInt64 * (Int32.ofInt (sn k)).toInt64) (by omega) (by omega) (fun _ => by rw [hA]; exact hV)
          rw [hA] at this
          rw [oN_addL]
          exact this
        · rw [if_neg (by rw [Int64.lt_iff_toInt_lt, hv (by omega), hV]; exact e2)]
          rw [if_neg e2] at hA
          have := ih (k + 1) v (by omega) (by omega) (fun _ => by rw [hA]; exact hv (by omega))
          rw [hA] at this
          rw [oN_addL]
          exact this
theorem m_path (hx : -2000 ≤ x.toInt ∧ x.toInt ≤ 2000) (hy : -2000 ≤ y.toInt ∧ y.toInt ≤ 2000) (h1 : am_I s 55 33 = x) (h2 : am_I s 55 34 = y) (hs : mSn s 64) : f_X8_path s = some (.inl (some (.int (oN (pth x.toInt y.toInt)))), s) := by
  have h := path_in hx hy h1 h2 hs ax_fuel 0 0 (by rw [ax_fuel_is]; omega) (by omega) (fun h0 => absurd h0 (by omega))
  have h' : L_X8_path_7 ax_fuel 0 0 0 s = some (.inr (oN (pth x.toInt y.toInt), s)) := h
  unfold f_X8_path
  rw [h']
  rfl
end P5
