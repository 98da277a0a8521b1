/-! ===== throws taken from a tray ===== -/
section TAK
variable {s s1 t t1 : am_S} {A B : List Nat} {T T' : hT} {X X' : hX} {x y z x1 x2 x3 x4 x5 : Int32} {r c d : Int32} {lw : Nat → Int32} {wy : List (List T2)} {hd : List (List T3)} {dr : List T3} {cr : List T2} {en : List T3} {j q a b : Nat} {g : Nat → Int64}
def gT (g : Nat → Int64) (i : Nat) : T3 := ((g (3 * i)).toInt32, (g (3 * i + 1)).toInt32, (g (3 * i + 2)).toInt32)
def gO (g : Nat → Int64) (i : Nat) : Bool := okTh (g (3 * i)).toInt (g (3 * i + 1)).toInt (g (3 * i + 2)).toInt
def thr (g : Nat → Int64) (n : Nat) : List T3 := (List.range n).map (gT g)
theorem thr_len {n : Nat} : (thr g n).length = n := by unfold thr; rw [List.length_map, List.length_range]
theorem thr_succ {n : Nat} : thr g (n + 1) = thr g n ++ [gT g n] := by unfold thr; rw [List.range_succ, List.map_append]; rfl
theorem tget_is {p : Nat} (h : p < 12) : f_X6_get a (oN p) s = some (.inl (some (.long (am_L s (a + 1) p))), s) := by
  unfold f_X6_get
  rw [if_neg (by rw [oN_nonneg (by omega)]; exact id), if_neg (by rw [oN_leR (by omega) (by omega)]; omega), if_pos (in_o (by omega) (by omega)), oN_nat (by omega)]
theorem to32 {v : Int64} {lo hi : Int} (h : lo ≤ v.toInt ∧ v.toInt ≤ hi) (h1 : -2147483648 ≤ lo) (h2 : hi < 2147483648) : v.toInt32.toInt = v.toInt := by
  rw [Int64.toInt_toInt32, Int.bmod_eq_of_le (by omega) (by omega)]
theorem gO_ok {i : Nat} (h : gO g i = true) : okT (gT g i) := by
  unfold gO okTh at h
  simp only [Bool.and_eq_true, wi_t] at h
  obtain ⟨⟨h1, h2⟩, h3⟩ := h
  refine ⟨?_, ?_, ?_⟩
  · show 10 ≤ (g (3 * i)).toInt32.toInt ∧ (g (3 * i)).toInt32.toInt ≤ 999
    rw [to32 h1 (by omega) (by omega)]; exact h1
  · show -16 ≤ (g (3 * i + 1)).toInt32.toInt ∧ (g (3 * i + 1)).toInt32.toInt ≤ 16
    rw [to32 h2 (by omega) (by omega)]; exact h2
  · show 1 ≤ (g (3 * i + 2)).toInt32.toInt ∧ (g (3 * i + 2)).toInt32.toInt ≤ 9
    rw [to32 h3 (by omega) (by omega)]; exact h3
/-- are they all throws? -/
theorem tk1 (hq : q ≤ 4) (hj : j < 4) (ha : am_I s a 2 = oN (3 * q)) (hg : ∀ k, k < 12 → am_L s (a + 1) k = g k) (hg2 : ∀ k, k < 12 → am_L t 70 (12 * j + k) = g k) : ∀ (n m1 m2 i : Nat), n < m1 → n < m2 → i + n = q →
    ((∀ p, i ≤ p → p < q → gO g p = true) ∧ L_X7_take_40 m1 a b (oN (3 * i)) s = some (.inr ((), s)) ∧ L_X8_take_74 m2 (oN j) x2 (oN q) (oN (12 * j + 3 * i)) t = some (.inr ((), t))) ∨
    (L_X7_take_40 m1 a b (oN (3 * i)) s = some (.inl (.inr 0, am_tick s)) ∧ L_X8_take_74 m2 (oN j) x2 (oN q) (oN (12 * j + 3 * i)) t = some (.inl (.inl (some (.int 0)), am_sI t 55 3 4))) := by
  have ea : (12 : Int32) * oN j + (3 : Int32) * oN q = oN (12 * j + 3 * q) := by rw [oN_mulR, oN_mulR, oN_add]
  intro n
  induction n with
  | zero =>
    intro m1 m2 i h1 h2 hi
    obtain ⟨m1, rfl⟩ : ∃ q, m1 = q + 1 := ⟨m1 - 1, by omega⟩
    obtain ⟨m2, rfl⟩ : ∃ q, m2 = q + 1 := ⟨m2 - 1, by omega⟩
    refine Or.inl ⟨fun p _ _ => by omega, ?_, ?_⟩
    · rw [L_X7_take_40, ha, if_pos ((oN_le (by omega) (by omega)).mpr (by omega))]
    · rw [L_X8_take_74, ea, if_pos ((oN_le (by omega) (by omega)).mpr (by omega))]
  | succ n ih =>
    intro m1 m2 i h1 h2 hi
    obtain ⟨m1, rfl⟩ : ∃ q, m1 = q + 1 := ⟨m1 - 1, by omega⟩
    obtain ⟨m2, rfl⟩ : ∃ q, m2 = q + 1 := ⟨m2 - 1, by omega⟩
    have e1 : oN (3 * i) + 1 = oN (3 * i + 1) := oN_addL
    have e2 : oN (3 * i) + 2 = oN (3 * i + 2) := oN_addL
    have e3 : oN (3 * i) + 3 = oN (3 * (i + 1)) := oN_addL
    have d1 : oN (12 * j + 3 * i) + 1 = oN (12 * j + (3 * i + 1)) := oN_addL
    have d2 : oN (12 * j + 3 * i) + 2 = oN (12 * j + (3 * i + 2)) := oN_addL
    have d3 : oN (12 * j + 3 * i) + 3 = oN (12 * j + 3 * (i + 1)) := oN_addL
    have eC : L_X7_take_40 (m1 + 1) a b (oN (3 * i)) s = if gO g i = true then L_X7_take_40 m1 a b (oN (3 * (i + 1))) s else some (.inl (.inr 0, am_tick s)) := by
      rw [L_X7_take_40, ha, if_neg (by rw [oN_le (by omega) (by omega)]; omega), tget_is (by omega), bl_s, e1, tget_is (by omega), bl_s, e2, tget_is (by omega), bl_s, isThrow_f, bi_s, hg _ (by omega), hg _ (by omega), hg _ (by omega), e3]
      show (if (if gO g i = true then (1 : Int32) else 0) = 0 then _ else _) = _
      by_cases c : gO g i = true
      · rw [if_pos c, if_pos c, if_neg n10]
      · rw [if_neg c, if_neg c, if_pos rfl]
    have eM : L_X8_take_74 (m2 + 1) (oN j) x2 (oN q) (oN (12 * j + 3 * i)) t = if gO g i = true then L_X8_take_74 m2 (oN j) x2 (oN q) (oN (12 * j + 3 * (i + 1))) t else some (.inl (.inl (some (.int 0)), am_sI t 55 3 4)) := by
      rw [L_X8_take_74, ea, if_neg (by rw [oN_le (by omega) (by omega)]; omega), if_pos (in_o (by omega) (by omega)), d1, if_pos (in_o (by omega) (by omega)), d2, if_pos (in_o (by omega) (by omega)), oN_nat (by omega), oN_nat (by omega), oN_nat (by omega), isThrow_g, bi_s, hg2 _ (by omega), hg2 _ (by omega), hg2 _ (by omega), d3]
      show (if (if gO g i = true then (1 : Int32) else 0) = 0 then _ else _) = _
      by_cases c : gO g i = true
      · rw [if_pos c, if_pos c, if_neg n10]
      · rw [if_neg c, if_neg c, if_pos rfl]; rfl
    rw [eC, eM]
    by_cases c : gO g i = true
    · rw [if_pos c, if_pos c]
      rcases ih m1 m2 (i + 1) (by omega) (by omega) (by omega) with ⟨k1, k2, k3⟩ | k
      · refine Or.inl ⟨?_, k2, k3⟩
        intro p hp1 hp2
        by_cases e : p = i
        · subst e; exact c
        · exact k1 p (by omega) hp2
      · exact Or.inr k
    · rw [if_neg c, if_neg c]
      exact Or.inr ⟨rfl, rfl⟩
theorem tk2 (hq : q ≤ 4) (hab : b ≠ a ∧ b + 1 ≠ a ∧ b ≠ a + 1 ∧ b + 1 ≠ a + 1) (hg : ∀ k, k < 12 → am_L s (a + 1) k = g k) : ∀ (n m i : Nat) (s1 : am_S), n < m → i + n = q → am_L s1 (a + 1) = am_L s (a + 1) → am_I s1 a 2 = oN (3 * q) → cR3 s1 b (thr g i) → am_I s1 b 1 = 4 →
    ∃ s2, L_X7_take_103 m a b (oN (3 * i)) s1 = some (.inr ((), s2)) ∧ fr [b, b + 1] s1 s2 ∧ cR3 s2 b (thr g q) ∧ am_I s2 b 1 = 4 := by
  intro n
  induction n with
  | zero =>
    intro m i s1 hm hi hL ha hR h1
    obtain ⟨m, rfl⟩ : ∃ q, m = q + 1 := ⟨m - 1, by omega⟩
    obtain rfl : i = q := by omega
    refine ⟨s1, ?_, fr.refl, hR, h1⟩
    rw [L_X7_take_103, ha, if_pos ((oN_le (by omega) (by omega)).mpr (by omega))]
  | succ n ih =>
    intro m i s1 hm hi hL ha hR h1
    obtain ⟨m, rfl⟩ : ∃ q, m = q + 1 := ⟨m - 1, by omega⟩
    have e1 : oN (3 * i) + 1 = oN (3 * i + 1) := oN_addL
    have e2 : oN (3 * i) + 2 = oN (3 * i + 2) := oN_addL
    have e3 : oN (3 * i) + 3 = oN (3 * (i + 1)) := oN_addL
    have hR1 : am_I s1 b 2 = oN i := by have := hR.1; rw [thr_len] at this; exact this
    have hnew : cR3 (addR b i (g (3 * i)).toInt32 (g (3 * i + 1)).toInt32 (g (3 * i + 2)).toInt32 s1) b (thr g (i + 1)) := by
      rw [thr_succ]
      have := addR_3 (x := (g (3 * i)).toInt32) (y := (g (3 * i + 1)).toInt32) (z := (g (3 * i + 2)).toInt32) hR
      rw [thr_len] at this
      exact this
    have f1 : fr [b, b + 1] s1 (addR b i (g (3 * i)).toInt32 (g (3 * i + 1)).toInt32 (g (3 * i + 2)).toInt32 s1) := addR_fr
    obtain ⟨s2, k1, k2, k3, k4⟩ := ih m (i + 1) _ (by omega) (by omega) ((f1.L (by simp; omega)).trans hL) (by rw [f1.I (by simp; omega)]; exact ha) hnew (by rw [addR_I, if_neg (by omega)]; exact h1)
    refine ⟨s2, ?_, f1.trans k2, k3, k4⟩
    rw [L_X7_take_103, ha, if_neg (by rw [oN_le (by omega) (by omega)]; omega), tget_is (by omega), bl_s, e1, tget_is (by omega), bl_s, e2, tget_is (by omega), bl_s, hL, hg _ (by omega), hg _ (by omega), hg _ (by omega), f_add (L := 4) hR1 h1 (by omega) (by omega), if_pos (by omega), bi_s, e3]
    exact k1
theorem tk3 {h : Nat} (hh : h < 5) (hq : q ≤ 4) (hj : j < 4) (hg2 : ∀ k, k < 12 → am_L t 70 (12 * j + k) = g k) : ∀ (n m i : Nat) (t1 : am_S), n < m → i + n = q → am_L t1 70 = am_L t 70 → hp3 (am_I t1 56) (170 + 13 * h) 3 (thr g i) →
    ∃ t2, L_X8_take_133 m (oN j) (oN h) (oN q) (oN i) t1 = some (.inr ((), t2)) ∧ fr [56] t1 t2 ∧ hp3 (am_I t2 56) (170 + 13 * h) 3 (thr g q) ∧ ∀ k, k < 170 + 13 * h ∨ 182 + 13 * h ≤ k → am_I t2 56 k = am_I t1 56 k := by
  intro n
  induction n with
  | zero =>
    intro m i t1 hm hi hL hR
    obtain ⟨m, rfl⟩ : ∃ q, m = q + 1 := ⟨m - 1, by omega⟩
    obtain rfl : i = q := by omega
    refine ⟨t1, ?_, fr.refl, hR, fun k _ => rfl⟩
    rw [L_X8_take_133, if_pos ((oN_le (by omega) (by omega)).mpr (by omega))]
  | succ n ih =>
    intro m i t1 hm hi hL hR
    obtain ⟨m, rfl⟩ : ∃ q, m = q + 1 := ⟨m - 1, by omega⟩
    have d0 : (12 : Int32) * oN j + (3 : Int32) * oN i = oN (12 * j + 3 * i) := by rw [oN_mulR, oN_mulR, oN_add]
    have d1 : oN (12 * j + 3 * i) + 1 = oN (12 * j + (3 * i + 1)) := oN_addL
    have d2 : oN (12 * j + 3 * i) + 2 = oN (12 * j + (3 * i + 2)) := oN_addL
    have hnew : hp3 (am_I (putT h i (g (3 * i)).toInt32 (g (3 * i + 1)).toInt32 (g (3 * i + 2)).toInt32 t1) 56) (170 + 13 * h) 3 (thr g (i + 1)) := by
      rw [thr_succ]
      refine hR.push ?_ ?_ ?_ ?_
      · intro p k hp hk
        rw [thr_len] at hp
        rw [putT_I, if_neg (by omega), if_neg (by omega), if_neg (by omega)]
      · rw [thr_len, putT_I, if_neg (by omega), if_neg (by omega), if_pos rfl]; rfl
      · rw [thr_len, putT_I, if_neg (by omega), if_pos rfl]; rfl
      · rw [thr_len, putT_I, if_pos rfl]; rfl
    obtain ⟨t2, k1, k2, k3, k4⟩ := ih m (i + 1) _ (by omega) (by omega) ((putT_fr.L (by decide)).trans hL) hnew
    refine ⟨t2, ?_, putT_fr.trans k2, k3, ?_⟩
    · rw [L_X8_take_133, if_neg (by rw [oN_le (by omega) (by omega)]; omega), d0, if_pos (in_o (by omega) (by omega)), d1, if_pos (in_o (by omega) (by omega)), d2, if_pos (in_o (by omega) (by omega)), oN_nat (by omega), oN_nat (by omega), oN_nat (by omega), hL, hg2 _ (by omega), hg2 _ (by omega), hg2 _ (by omega), puts_is hh (by omega), bu_s, oN_addL]
      exact k1
    · intro k hk
      rw [k4 k hk, putT_I, if_neg (by omega), if_neg (by omega), if_neg (by omega)]
theorem mod3 {m : Nat} (h : m ≤ 12) : (oN m - oN m / (3 : Int32) * (3 : Int32) = 0 ↔ m % 3 = 0) ∧ oN m / 3 = oN (m / 3) := by
  have e1 : oN m / 3 = oN (m / 3) := (Int32.ofNat_div (a := m) (b := 3) (by omega) (by omega)).symm
  refine ⟨?_, e1⟩
  rw [e1, oN_mulL, oN_sub (by omega), show (0 : Int32) = oN 0 from rfl, oN_eq (by omega) (by omega)]
  omega
theorem W_take (hC : cZ s T X) (hM : mZ t T X) (oT : tO T) (oX : xO X) : JW (fun v => some (Value.int v)) kW s t (f_X7_take x1 x2 s) (f_X8_take x1 x2 t) := by
  obtain ⟨r, c, d, lw, wy, hd, dr, cr, en⟩ := T
  have oS : okS r c d lw wy hd dr cr en := oT
  obtain ⟨b1, b2, b3, b4, b5, b6, b7⟩ := oB oS
  have hN : am_I s 1 7 = oN hd.length := hC.1.2.2.1.1
  have hQ := hC.1.2.2.1.2
  have hN2 : am_I t 56 3 = oN hd.length := hM.1.2.2.1.1
  have hQ2 := hM.1.2.2.1.2
  have hL := hC.1.2.2.2.2.2.2.2.1
  have hN3 : am_I (am_sI t 55 3 0) 56 3 = oN hd.length := by rw [I_ne (by decide)]; exact hN2
  unfold f_X7_take f_X8_take
  rw [isTray_is, bi_s, jn_s]
  rcases ix_cases x1 4 with ⟨j, hj, e⟩ | hx
  · subst e
    obtain ⟨p1, p2, p3⟩ := hC.2.2.2.2.1 j hj
    obtain ⟨q1, q2, q3⟩ := hM.2.2.2.1 j hj
    have oY := oX.2.1 j hj
    have q1' : am_I (am_sI t 55 3 0) 68 j = (X.2.2.2.2.1 j).1 := by rw [I_ne (by decide)]; exact q1
    have q2' : am_I (am_sI t 55 3 0) 69 j = (X.2.2.2.2.1 j).2.1 := by rw [I_ne (by decide)]; exact q2
    rw [needTray_ok hj, tv_s, mv_r, if_pos ⟨(trays_tab j hj).2, by omega⟩, if_pos (show 0 ≤ (oN j).toInt ∧ (oN j).toInt < (4 : Nat) by rw [oN_int (by omega)]; omega), if_neg n10, isHand_is hN3 b3, bi_s]
    rcases hand_cases oS x2 with ⟨a, l, e, g1, g2, g3, g4, g5⟩ | hy
    · subst e
      have hl : cR3 s (23 + 2 * a) l := by have := hQ a l g3; rw [show 1 + 22 + 2 * a = 23 + 2 * a by omega] at this; exact this
      have hlim : am_I s (23 + 2 * a) 1 = 4 := by have := hL a (by omega); rw [show 1 + 22 + 2 * a = 23 + 2 * a by omega] at this; exact this
      have hl2 := hQ2 a l g3
      rw [needHand_ok hN g2 g1, tv_s, mv_r, if_pos (k0_hand a (by omega)), if_pos (show 0 ≤ (oN a).toInt ∧ (oN a).toInt < hd.length by rw [oN_int (by omega)]; omega), if_neg n10, if_pos (in_o (by omega) (by omega)), oN_nat (by omega), q1']
      unfold f_X7_needThere
      rw [p1]
      by_cases c1 : (X.2.2.2.2.1 j).1 = -1
      · rw [if_pos c1, if_pos c1, tu_x]
        exact JW_x (v := 0) oT oX (fr.refl (A := [])) (by decide) hC rfl (B := [55]) ((fr.refl.sI (by simp)).sI (by simp)) (by decide) hM.thr.thr rfl thr0
      · obtain ⟨o1, o2⟩ := oY.resolve_left c1
        obtain ⟨m, em, em2, em3⟩ := oN_of o2.1
        have hm12 : m ≤ 12 := by omega
        rw [if_neg c1, if_neg c1, tu_s, if_pos (in_o (by omega) (by omega)), p2, q2', em]
        by_cases c2 : m % 3 = 0
        · obtain ⟨q, rfl⟩ : ∃ q, m = 3 * q := ⟨m / 3, by omega⟩
          have e3 : oN (3 * q) / 3 = oN q := by rw [(mod3 hm12).2, show 3 * q / 3 = q by omega]
          have hq : q ≤ 4 := by omega
          have e12 : (12 : Int32) * oN j = oN (12 * j + 3 * 0) := oN_mulR
          rw [if_pos ((mod3 hm12).1.mpr c2), if_pos ((mod3 hm12).1.mpr c2), if_pos (in_o (by omega) (by omega)), e3, e12]
          have tk := tk1 (s := s) (t := am_sI t 55 3 0) (a := 47 + 2 * j) (b := 23 + 2 * a) (x2 := oN a) (g := (X.2.2.2.2.1 j).2.2) hq hj (p2.trans em) (fun k hk => by rw [show 47 + 2 * j + 1 = 48 + 2 * j by omega]; exact p3 k hk) (fun k hk => q3 k hk) q ax_fuel ax_fuel 0 (by rw [ax_fuel_is]; omega) (by rw [ax_fuel_is]; omega) (by omega)
          rcases tk with ⟨k1, k2, k3⟩ | ⟨k2, k3⟩
          · have k2' : L_X7_take_40 ax_fuel (47 + 2 * j) (23 + 2 * a) 0 s = some (.inr ((), s)) := k2
            rw [k2', k3, lm_e, lm_e]
            have f0 : fr [23 + 2 * a, 23 + 2 * a + 1] s (am_sI s (23 + 2 * a) 2 (oN (3 * 0))) := fr.refl.sI (by simp)
            obtain ⟨s2, u1, u2, u3, u4⟩ := tk2 (s := s) (a := 47 + 2 * j) (b := 23 + 2 * a) (g := (X.2.2.2.2.1 j).2.2) hq (by omega) (fun k hk => by rw [show 47 + 2 * j + 1 = 48 + 2 * j by omega]; exact p3 k hk) q ax_fuel 0 (am_sI s (23 + 2 * a) 2 (oN (3 * 0))) (by rw [ax_fuel_is]; omega) (by omega) rfl (by rw [I_ne (by omega)]; exact p2.trans em) ⟨by rw [I_sI, if_pos (by omega), thr_len], fun i q h => by cases h⟩ (by rw [I_sI, if_neg (by omega)]; exact hlim)
            obtain ⟨t2, v1, v2, v3, v4⟩ := tk3 (t := am_sI t 55 3 0) (h := a) (g := (X.2.2.2.2.1 j).2.2) (by omega) hq hj (fun k hk => q3 k hk) q ax_fuel 0 (am_sI t 55 3 0) (by rw [ax_fuel_is]; omega) (by omega) rfl (fun i q h => by cases h)
            have e169 : (169 : Int32) + (13 : Int32) * oN a = oN (169 + 13 * a) := by rw [oN_mulR, oN_addR]
            have u1' : L_X7_take_103 ax_fuel (47 + 2 * j) (23 + 2 * a) 0 (am_sI s (23 + 2 * a) 2 0) = some (.inr ((), s2)) := u1
            have v1' : L_X8_take_133 ax_fuel (oN j) (oN a) (oN q) 0 (am_sI t 55 3 0) = some (.inr ((), t2)) := v1
            have u3a : am_I s2 (23 + 2 * a) 2 = oN q := by have := u3.1; rw [thr_len] at this; exact this
            rw [u1', lm_e, u3a, v1', lm_e, e169, if_pos (in_o (by omega) (by omega)), oN_nat (by omega)]
            have f1 : fr [23 + 2 * a, 23 + 2 * a + 1] s s2 := f0.trans u2
            have f2 : fr [55, 56] t (am_sI t2 56 (169 + 13 * a) (oN q)) := (fr.trans (fr.refl.sI (by simp)) (v2.mono (by decide))).sI (by simp)
            have ha : (hd.set a (thr (X.2.2.2.2.1 j).2.2 q)).length = hd.length := List.length_set
            refine JW_v (v := oN q) (T := (r, c, d, lw, wy, hd.set a (thr (X.2.2.2.2.1 j).2.2 q), dr, cr, en)) (X := X) ?_ oX f1 (by simp [cA]; omega) (hC.upd oX f1 (by simp; omega) ?_) rfl f2 (by decide) (hM.upd f2 (by decide) ?_ ?_) rfl ?_
            · obtain ⟨o1, o2, o3, o4, o5, o6, o7, o8, o9⟩ := oS
              refine ⟨o1, o2, o3, o4, o5, ⟨by rw [ha]; exact o6.1, ?_⟩, o7, o8, by rw [ha]; exact o9⟩
              intro p hm
              obtain ⟨i, hi⟩ := List.mem_iff_getElem?.mp hm
              rcases get_set hi with ⟨h1, h2⟩ | ⟨h1, h2⟩
              · exact o6.2 p (List.mem_of_getElem? h2)
              · subst h2
                refine ⟨by rw [thr_len]; omega, ?_⟩
                intro f hf
                unfold thr at hf
                obtain ⟨z, hz1, hz2⟩ := List.mem_map.mp hf
                rw [← hz2]
                exact gO_ok (k1 z (by omega) (List.mem_range.mp hz1))
            · refine cS.hands (hd' := hd.set a (thr (X.2.2.2.2.1 j).2.2 q)) hC.1 b1 b3 ?_ ?_ ?_ ?_ ?_
              · intro j h1 h2; exact f1.I (by simp; omega)
              · intro k hk; rw [f1.I (by simp; omega)]
              · rw [f1.I (by simp; omega), ha]; exact hN
              · intro w p hp
                have hwl := (List.getElem?_eq_some_iff.mp hp).1
                rw [ha] at hwl
                rcases get_set hp with ⟨h1, h2⟩ | ⟨h1, h2⟩
                · exact (hQ w p h2).same (by rw [f1.I (by simp; omega)]) (by rw [f1.I (by simp; omega)])
                · subst h1 h2
                  rw [show 1 + 22 + 2 * w = 23 + 2 * w by omega]
                  exact u3
              · intro w hw
                by_cases hwa : w = a
                · subst hwa
                  rw [show 1 + 22 + 2 * w = 23 + 2 * w by omega, u4, hlim]
                · rw [f1.I (by simp; omega)]
            · intro k hk; rw [I_ne (by decide), v2.I (by decide), I_sI, if_neg (by omega)]
            · have key : ∀ k, k ≠ 169 + 13 * a → (k < 170 + 13 * a ∨ 182 + 13 * a ≤ k) → am_I (am_sI t2 56 (169 + 13 * a) (oN q)) 56 k = am_I t 56 k := by
                intro k h1 h2
                rw [I_sI, if_neg (by omega), v4 k h2, I_ne (by decide)]
              refine mS.hands (hd' := hd.set a (thr (X.2.2.2.2.1 j).2.2 q)) hM.1 b1 b2 b3 b4 b5 b6 b7 ?_ ?_ ?_
              · intro k hk; exact key k (by omega) (by omega)
              · rw [ha, key 3 (by omega) (by omega)]; exact hN2
              · intro w p hp
                have hwl := (List.getElem?_eq_some_iff.mp hp).1
                rw [ha] at hwl
                rcases get_set hp with ⟨h1, h2⟩ | ⟨h1, h2⟩
                · have h3 := hQ2 w p h2
                  have h5 := b4 w p h2
                  exact ⟨(key _ (by omega) (by omega)).trans h3.1, h3.2.same (fun i k hi hk => key _ (by omega) (by omega))⟩
                · subst h1 h2
                  refine ⟨by rw [I_sI, if_pos (by omega), thr_len], v3.same ?_⟩
                  intro i k hi hk
                  rw [I_sI, if_neg (by omega)]
            · rw [I_ne (by decide), v2.I (by decide), thr0]
          · have k2' : L_X7_take_40 ax_fuel (47 + 2 * j) (23 + 2 * a) 0 s = some (.inl (.inr 0, am_tick s)) := k2
            rw [k2', k3, lm_r, lm_r]
            exact JW_x (v := 0) oT oX (fr.refl (A := [])) (by decide) hC rfl (B := [55]) ((fr.refl.sI (by simp)).sI (by simp)) (by decide) hM.thr.thr rfl thr0
        · rw [if_neg (fun h => c2 ((mod3 hm12).1.mp h)), if_neg (fun h => c2 ((mod3 hm12).1.mp h))]
          exact JW_x (v := 0) oT oX (fr.refl (A := [])) (by decide) hC rfl (B := [55]) ((fr.refl.sI (by simp)).sI (by simp)) (by decide) hM.thr.thr rfl thr0
    · rw [needHand_no hN b3 hy, tv_x, if_neg hy, if_pos rfl]
      exact JW_x (v := 0) oT oX (fr.refl (A := [])) (by decide) hC rfl (B := [55]) ((fr.refl.sI (by simp)).sI (by simp)) (by decide) hM.thr.thr rfl thr0
  · rw [needTray_no hx, tv_x, if_neg hx, if_pos rfl]
    exact JW_x (v := 0) oT oX (fr.refl (A := [])) (by decide) hC rfl (B := [55]) ((fr.refl.sI (by simp)).sI (by simp)) (by decide) hM.thr.thr rfl thr0
end TAK
