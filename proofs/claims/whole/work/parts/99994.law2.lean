/-! ===== law ===== -/
def lA (k : Nat) : Int32 := (([0, 10, 20, 30, 40, 45, 40, 25, 10] : List Int32)[k]?).getD 0
def lB (k : Nat) : Int32 := (([2, 3, 4, 6, 9, 14, 22, 34, 50] : List Int32)[k]?).getD 0
def lF (k : Nat) : Int32 := (([0, 10, 20, 30, 40, 45, 40, 25, 10, 2, 3, 4, 6, 9, 14, 22, 34, 50, 10, 10, 10, 3, -1] : List Int32)[k]?).getD 0
section LW2
variable {s s1 s2 t t1 t2 : am_S} {A B : List Nat} {T T' : hT} {X X' : hX} {x y z x1 x2 x3 x4 x5 : Int32} {n p b e k j d i m : Nat} {tp : Nat → Int32} {fk fp : Int32}
theorem pl0 : L_X8_plainLaw_40 (m + 1) (oN 0) t = L_X8_plainLaw_40 m (oN 1) (am_sI (am_sI t 60 (5 + 0) (lA 0)) 60 (14 + 0) (lB 0)) := by
  rw [L_X8_plainLaw_40, if_neg (by decide), jn_s, if_neg (by decide)]
  dsimp only
  rw [if_pos (by decide), jn_s, if_pos (by decide)]
  dsimp only
  rw [if_pos (by decide)]
  rfl
theorem pl1 : L_X8_plainLaw_40 (m + 1) (oN 1) t = L_X8_plainLaw_40 m (oN 2) (am_sI (am_sI t 60 (5 + 1) (lA 1)) 60 (14 + 1) (lB 1)) := by
  rw [L_X8_plainLaw_40, if_neg (by decide), jn_s, if_neg (by decide)]
  dsimp only
  rw [if_pos (by decide), jn_s, if_neg (by decide), if_pos (by decide)]
  dsimp only
  rw [if_pos (by decide)]
  rfl
theorem pl2 : L_X8_plainLaw_40 (m + 1) (oN 2) t = L_X8_plainLaw_40 m (oN 3) (am_sI (am_sI t 60 (5 + 2) (lA 2)) 60 (14 + 2) (lB 2)) := by
  rw [L_X8_plainLaw_40, if_neg (by decide), jn_s, if_neg (by decide)]
  dsimp only
  rw [if_pos (by decide), jn_s, if_neg (by decide), if_neg (by decide), if_pos (by decide)]
  dsimp only
  rw [if_pos (by decide)]
  rfl
theorem pl3 : L_X8_plainLaw_40 (m + 1) (oN 3) t = L_X8_plainLaw_40 m (oN 4) (am_sI (am_sI t 60 (5 + 3) (lA 3)) 60 (14 + 3) (lB 3)) := by
  rw [L_X8_plainLaw_40, if_neg (by decide), jn_s, if_neg (by decide)]
  dsimp only
  rw [if_pos (by decide), jn_s, if_neg (by decide), if_neg (by decide), if_neg (by decide), if_pos (by decide)]
  dsimp only
  rw [if_pos (by decide)]
  rfl
theorem pl4 : L_X8_plainLaw_40 (m + 1) (oN 4) t = L_X8_plainLaw_40 m (oN 5) (am_sI (am_sI t 60 (5 + 4) (lA 4)) 60 (14 + 4) (lB 4)) := by
  rw [L_X8_plainLaw_40, if_neg (by decide), jn_s, if_neg (by decide)]
  dsimp only
  rw [if_pos (by decide), jn_s, if_neg (by decide), if_neg (by decide), if_neg (by decide), if_neg (by decide), if_pos (by decide)]
  dsimp only
  rw [if_pos (by decide)]
  rfl
theorem pl5 : L_X8_plainLaw_40 (m + 1) (oN 5) t = L_X8_plainLaw_40 m (oN 6) (am_sI (am_sI t 60 (5 + 5) (lA 5)) 60 (14 + 5) (lB 5)) := by
  rw [L_X8_plainLaw_40, if_neg (by decide), jn_s, if_pos (by decide), if_pos (by decide)]
  dsimp only
  rw [if_pos (by decide), jn_s, if_neg (by decide), if_neg (by decide), if_neg (by decide), if_neg (by decide), if_neg (by decide), if_pos (by decide)]
  dsimp only
  rw [if_pos (by decide)]
  rfl
theorem pl6 : L_X8_plainLaw_40 (m + 1) (oN 6) t = L_X8_plainLaw_40 m (oN 7) (am_sI (am_sI t 60 (5 + 6) (lA 6)) 60 (14 + 6) (lB 6)) := by
  rw [L_X8_plainLaw_40, if_neg (by decide), jn_s, if_pos (by decide), if_neg (by decide), if_pos (by decide)]
  dsimp only
  rw [if_pos (by decide), jn_s, if_neg (by decide), if_neg (by decide), if_neg (by decide), if_neg (by decide), if_neg (by decide), if_neg (by decide), if_pos (by decide)]
  dsimp only
  rw [if_pos (by decide)]
  rfl
theorem pl7 : L_X8_plainLaw_40 (m + 1) (oN 7) t = L_X8_plainLaw_40 m (oN 8) (am_sI (am_sI t 60 (5 + 7) (lA 7)) 60 (14 + 7) (lB 7)) := by
  rw [L_X8_plainLaw_40, if_neg (by decide), jn_s, if_pos (by decide), if_neg (by decide), if_neg (by decide), if_pos (by decide)]
  dsimp only
  rw [if_pos (by decide), jn_s, if_neg (by decide), if_neg (by decide), if_neg (by decide), if_neg (by decide), if_neg (by decide), if_neg (by decide), if_neg (by decide), if_pos (by decide)]
  dsimp only
  rw [if_pos (by decide)]
  rfl
theorem pl8 : L_X8_plainLaw_40 (m + 1) (oN 8) t = L_X8_plainLaw_40 m (oN 9) (am_sI (am_sI t 60 (5 + 8) (lA 8)) 60 (14 + 8) (lB 8)) := by
  rw [L_X8_plainLaw_40, if_neg (by decide), jn_s, if_pos (by decide), if_neg (by decide), if_neg (by decide), if_neg (by decide)]
  dsimp only
  rw [if_pos (by decide), jn_s, if_neg (by decide), if_neg (by decide), if_neg (by decide), if_neg (by decide), if_neg (by decide), if_neg (by decide), if_neg (by decide), if_neg (by decide)]
  dsimp only
  rw [if_pos (by decide)]
  rfl
theorem pl_step (hk : k < 9) : L_X8_plainLaw_40 (m + 1) (oN k) t = L_X8_plainLaw_40 m (oN (k + 1)) (am_sI (am_sI t 60 (5 + k) (lA k)) 60 (14 + k) (lB k)) := by
  have : k = 0 ∨ k = 1 ∨ k = 2 ∨ k = 3 ∨ k = 4 ∨ k = 5 ∨ k = 6 ∨ k = 7 ∨ k = 8 := by omega
  rcases this with e | e | e | e | e | e | e | e | e
  · subst e; exact pl0
  · subst e; exact pl1
  · subst e; exact pl2
  · subst e; exact pl3
  · subst e; exact pl4
  · subst e; exact pl5
  · subst e; exact pl6
  · subst e; exact pl7
  · subst e; exact pl8
theorem pl_in : ∀ (d m k : Nat) (t : am_S), d < m → k + d = 9 → ∃ t', L_X8_plainLaw_40 m (oN k) t = some (.inr ((), t')) ∧ fr [60] t t' ∧ (∀ j, k ≤ j → j < 9 → am_I t' 60 (5 + j) = lA j ∧ am_I t' 60 (14 + j) = lB j) ∧ (∀ j, j < 5 + k → am_I t' 60 j = am_I t 60 j) ∧ (∀ j, 14 ≤ j → j < 14 + k → am_I t' 60 j = am_I t 60 j) := by
  intro d
  induction d with
  | zero =>
    intro m k t h1 h2
    obtain ⟨m, rfl⟩ : ∃ q, m = q + 1 := ⟨m - 1, by omega⟩
    obtain rfl : k = 9 := by omega
    rw [L_X8_plainLaw_40, if_pos (by decide)]
    exact ⟨t, rfl, fr.refl, fun j h1 h2 => by omega, fun j hj => rfl, fun j h1 h2 => rfl⟩
  | succ d ih =>
    intro m k t h1 h2
    obtain ⟨m, rfl⟩ : ∃ q, m = q + 1 := ⟨m - 1, by omega⟩
    obtain ⟨t', z1, z2, z3, z4, z5⟩ := ih m (k + 1) (am_sI (am_sI t 60 (5 + k) (lA k)) 60 (14 + k) (lB k)) (by omega) (by omega)
    rw [pl_step (by omega)]
    refine ⟨t', z1, fr.trans ((fr.refl.sI (by simp)).sI (by simp)) z2, ?_, ?_, ?_⟩
    · intro j h3 h4
      by_cases c : j = k
      · subst c
        refine ⟨?_, ?_⟩
        · rw [z4 _ (by omega), I_sI, if_neg (by omega), I_sI, if_pos ⟨rfl, rfl⟩]
        · rw [z5 _ (by omega) (by omega), I_sI, if_pos ⟨rfl, rfl⟩]
      · exact z3 j (by omega) h4
    · intro j hj
      rw [z4 j (by omega), I_sI, if_neg (by omega), I_sI, if_neg (by omega)]
    · intro j h3 h4
      rw [z5 j h3 (by omega), I_sI, if_neg (by omega), I_sI, if_neg (by omega)]
theorem fA9 : ∀ j, j < 9 → lA j = lF j ∧ lB j = lF (9 + j) := by decide
theorem plain_m : ∃ t1, f_X8_plainLaw t = some (.inl none, t1) ∧ fr [60] t t1 ∧ ∀ k, k < 23 → am_I t1 60 (lp k - 8) = lF k := by
  unfold f_X8_plainLaw
  obtain ⟨t1, z1, z2, z3, z4, z5⟩ := pl_in 9 ax_fuel 0 (am_sI (am_sI (am_sI (am_sI (am_sI t 60 0 (10 : Int32)) 60 1 (10 : Int32)) 60 2 (10 : Int32)) 60 3 (3 : Int32)) 60 4 (-1 : Int32)) (by rw [ax_fuel_is]; omega) (by omega)
  rw [show L_X8_plainLaw_40 ax_fuel (0 : Int32) _ = _ from z1, lm_e]
  refine ⟨t1, rfl, fr.trans (((((fr.refl.sI (by simp)).sI (by simp)).sI (by simp)).sI (by simp)).sI (by simp)) z2, ?_⟩
  intro k hk
  by_cases c : k < 9
  · rw [show lp k - 8 = 5 + k by unfold lp; rw [if_pos (by omega)]; omega, (z3 k (by omega) c).1]; exact (fA9 k c).1
  · by_cases c2 : k < 18
    · rw [show lp k - 8 = 14 + (k - 9) by unfold lp; rw [if_pos c2]; omega, (z3 (k - 9) (by omega) (by omega)).2, (fA9 (k - 9) (by omega)).2, show 9 + (k - 9) = k by omega]
    · rw [show lp k - 8 = k - 18 by unfold lp; rw [if_neg c2]; omega, z4 _ (by omega)]
      have : k = 18 ∨ k = 19 ∨ k = 20 ∨ k = 21 ∨ k = 22 := by omega
      rcases this with e | e | e | e | e
      · subst e; rw [I_sI, if_neg (by omega), I_sI, if_neg (by omega), I_sI, if_neg (by omega), I_sI, if_neg (by omega), I_sI, if_pos ⟨rfl, rfl⟩]; rfl
      · subst e; rw [I_sI, if_neg (by omega), I_sI, if_neg (by omega), I_sI, if_neg (by omega), I_sI, if_pos ⟨rfl, rfl⟩]; rfl
      · subst e; rw [I_sI, if_neg (by omega), I_sI, if_neg (by omega), I_sI, if_pos ⟨rfl, rfl⟩]; rfl
      · subst e; rw [I_sI, if_neg (by omega), I_sI, if_pos ⟨rfl, rfl⟩]; rfl
      · subst e; rw [I_sI, if_pos ⟨rfl, rfl⟩]; rfl
theorem lF_ok : okL lF := by
  refine ⟨?_, by decide, by decide, by decide, by decide, Or.inl rfl⟩
  have : ∀ k, k < 18 → 0 ≤ (lF k).toInt ∧ (lF k).toInt ≤ 99 := by decide
  exact this
theorem cpy_law : ∀ (d m k : Nat) (t : am_S), d < m → k + d = 23 → ∃ t', L_X8_law_216 m x (oN k) t = some (.inr ((), t')) ∧ fr [56] t t' ∧ (∀ j, (8 + k ≤ j ∧ j < 31) → am_I t' 56 j = am_I t 60 (j - 8)) ∧ (∀ j, ¬ (8 + k ≤ j ∧ j < 31) → am_I t' 56 j = am_I t 56 j) := by
  intro d
  induction d with
  | zero =>
    intro m k t h1 h2
    obtain ⟨m, rfl⟩ : ∃ q, m = q + 1 := ⟨m - 1, by omega⟩
    obtain rfl : k = 23 := by omega
    rw [L_X8_law_216, if_pos (by decide)]
    exact ⟨t, rfl, fr.refl, fun j hj => by omega, fun j hj => rfl⟩
  | succ d ih =>
    intro m k t h1 h2
    obtain ⟨m, rfl⟩ : ∃ q, m = q + 1 := ⟨m - 1, by omega⟩
    rw [L_X8_law_216, if_neg (by rw [oN_leR (by omega) (by omega)]; omega), if_pos (in_o (by omega) (by omega)), oN_addR, if_pos (in_o (by omega) (by omega)), oN_nat (by omega), oN_nat (by omega), oN_addL]
    obtain ⟨t', z1, z2, z3, z4⟩ := ih m (k + 1) (am_sI t 56 (8 + k) (am_I t 60 k)) (by omega) (by omega)
    refine ⟨t', z1, fr.trans (fr.refl.sI (by simp)) z2, ?_, ?_⟩
    · intro j hj
      by_cases c : j = 8 + k
      · rw [z4 j (by omega), I_sI, if_pos ⟨rfl, c⟩, c]
        congr 1
        omega
      · rw [z3 j (by omega), I_ne (by decide)]
    · intro j hj
      rw [z4 j (by omega), I_sI, if_neg (by omega)]
theorem W_law (hC : cZ s T X) (hM : mZ t T X) (oT : tO T) (oX : xO X) (hx : txS s) (hy : txS t) : JW (fun v => some (Value.int v)) k01 s t (f_X7_law x1 s) (f_X8_law x1 t) := by
  obtain ⟨r, c, d, lw, wy, hd, dr, cr, en⟩ := T
  obtain ⟨N, tp, fk, fp, tr, im⟩ := X
  have oS : okS r c d lw wy hd dr cr en := oT
  obtain ⟨b1, b2, b3, b4, b5, b6, b7⟩ := oB oS
  have hN : N ≤ 400 := oX.1.1
  have hb : ∀ k, k < N → 0 ≤ (tp k).toInt := fun k hk => (oX.1.2 k hk).1
  have e1 : am_I s 34 1 = oN N := hC.2.2.2.1.1
  have e2 : am_I t 55 7 = oN N := hM.2.2.1.1
  unfold f_X7_law f_X8_law
  rw [e1, e2, f_needWithin, f_within, Int32.toInt_toInt64, Int32.toInt_toInt64, oN_int (show N < 2147483648 by omega), show (0 : Int32).toInt = 0 from rfl, show (0 : Int64).toInt = 0 from rfl]
  by_cases hw : wi x1.toInt 0 (N : Int) = true
  · rw [if_pos hw, if_pos hw, tu_s, bi_s, if_neg n10]
    rw [wi_t] at hw
    obtain ⟨n, hn1, hn2, hn3⟩ := oN_of (x := x1) hw.1
    subst hn1
    have f0 : fr [55] t (am_sI t 55 3 0) := fr.refl.sI (by simp)
    have fa : fr [44] s (am_sA s 44 (va_cpy (am_I s 3000000) (am_I s 44) 0 0 23)) := fr.refl.sA (by simp)
    have a44 : ∀ k, k < 23 → am_I (am_sA s 44 (va_cpy (am_I s 3000000) (am_I s 44) 0 0 23)) 44 k = lF k := by
      intro k hk
      rw [I_sA, if_pos rfl]
      unfold va_cpy
      rw [if_pos (by omega), show 0 + (k - 0) = k by omega]
      exact hC.2.2.1.1 k hk
    generalize am_sA s 44 (va_cpy (am_I s 3000000) (am_I s 44) 0 0 23) = u at fa a44
    obtain ⟨s1, t1, q1, z1, z2, z3, z4, z5, z6, z7, z8⟩ := j_beg (s := u) (t := am_sI t 55 3 0) (n := n) (tp := tp) hN (by omega) (by rw [fa.I (by decide)]; exact e1) (by rw [fa.I (by decide)]; exact hC.2.2.2.1.2.1) (by rw [I_ne (by decide)]; exact hM.2.2.1.2.1) hb
    obtain ⟨t2, p1, p2, p3⟩ := plain_m (t := t1)
    unfold f_X3_readLaw
    rw [z1, z2, bu_s, bu_s, p1, bu_s]
    have fs1 : fr [34, 44] s s1 := (fa.mono (by decide)).trans (z3.mono (by decide))
    have ft2 : fr [55, 60] t t2 := ((f0.trans z5).mono (by decide)).trans (p2.mono (by decide))
    have hL : jL s1 t2 lF := ⟨fun k hk => by rw [z3.I (by decide)]; exact a44 k hk, p3, lF_ok⟩
    obtain ⟨s2, t3, i1, i0, y1, y2, y3, y4, y5⟩ := l_in (n := n) (tp := tp) (fun k hk => hb k (by omega)) n ax_fuel ax_fuel 0 lF q1 s1 t2 (by omega) (by rw [ax_fuel_is]; omega) (by rw [ax_fuel_is]; omega) (by omega) (z8.to (A := []) fr.refl (by decide) (by decide) p2 (by decide) (by decide)) (hx.to fs1 (by decide)) (hy.to ft2 (by decide)) (hC.2.2.1.keep fs1 (by decide)) hL
    rw [show L_X3_readLaw_10 ax_fuel (0 : Int32) (0 : Int32) s1 = _ from y1, show L_X8_law_36 ax_fuel (0 : Int32) t2 = _ from y2, lm_e, lm_e, jn_s]
    have fs2 : fr [34, 44] s s2 := fs1.trans y3.1
    have ft3 : fr [55, 60] t t3 := ft2.trans y4.1
    have s34 : am_I s2 34 1 = oN 0 := by rw [y3.2, z4]; rfl
    have tk : ∀ k, k < 7 ∧ k ≠ 3 ∨ 14 < k → am_I t3 55 k = am_I t 55 k := by
      intro k hk
      rw [y4.2 k (by omega), p2.I (by decide), z7 k (by omega), I_sI, if_neg (by omega)]
    have t7 : am_I t3 55 7 = oN 0 := by rw [y4.2 7 (by omega), p2.I (by decide), z6]; rfl
    have tt3 : am_I t3 55 3 = 0 := by rw [y4.2 3 (by omega), p2.I (by decide), z7 3 (by omega), I_sI, if_pos ⟨rfl, rfl⟩]
    have t56 : am_I t3 56 = am_I t 56 := ft3.I (by decide)
    rcases y5 with ⟨lw', a1, a5, a6, a7⟩ | y5
    · obtain ⟨t4, v1, v2, v3, v4⟩ := cpy_law (x := oN i1) 23 ax_fuel 0 t3 (by rw [ax_fuel_is]; omega) (by omega)
      rw [if_pos a5, if_pos a7, show L_X8_law_216 ax_fuel (oN i1) (0 : Int32) t3 = _ from v1, lm_e, bi_s, if_neg (by rw [oN_neg1 (by omega)]; exact id)]
      dsimp only
      rw [ends_ok (by rw [v2.I (by decide)]; exact a7), bi_s]
      have cz2 : cZ s2 (r, c, d, lw, wy, hd, dr, cr, en) (0, tp, 0, -1, tr, im) := cZ.rd (X := (N, tp, fk, fp, tr, im)) hC oT oX fs2 (by decide) (by rw [fs2.I (by decide)]) ⟨s34, fun k hk => by omega, a5, a6⟩
      have oX2 : xO (0, tp, 0, -1, tr, im) := ⟨⟨by show 0 ≤ 400; omega, fun k hk => by have : k < 0 := hk; omega⟩, oX.2⟩
      have fs3 : fr [2] s2 (am_sA s2 2 (va_cpy (am_I s2 44) (am_I s2 2) 0 0 23)) := fr.refl.sA (by simp)
      have fs4 : fr [34, 44, 2] s (am_sA s2 2 (va_cpy (am_I s2 44) (am_I s2 2) 0 0 23)) := (fs2.mono (by decide)).trans (fs3.mono (by decide))
      have ft5 : fr [55, 56, 60] t (am_sI (am_sI t4 55 15 0) 55 16 (-1)) := fr.sI (fr.sI (fr.trans (ft3.mono (by decide)) (v2.mono (by decide))) (by simp)) (by simp)
      have k55 : ∀ k, k ≠ 15 → k ≠ 16 → am_I (am_sI (am_sI t4 55 15 0) 55 16 (-1)) 55 k = am_I t3 55 k := by
        intro k h1 h2
        rw [I_sI, if_neg (by omega), I_sI, if_neg (by omega), v2.I (by decide)]
      refine JW_v (v := oN i1) (T := (r, c, d, lw', wy, hd, dr, cr, en)) (X := (0, tp, 0, -1, tr, im)) ?_ oX2 fs4 (by decide) (cz2.upd oX2 fs3 (by decide) ?_) rfl ft5 (by decide) (mZ.rd (X := (N, tp, fk, fp, tr, im)) hM ft5 (by decide) ?_ ?_ ?_ ⟨?_, ?_, ?_, ?_⟩) rfl ?_
      · obtain ⟨o1, o2, o3, o4, o5, o6, o7, o8, o9⟩ := oS
        exact ⟨o1, o2, o3, a1.2.2, o5, o6, o7, o8, o9⟩
      · refine cS.law (lw' := lw') cz2.1 b1 b3 ?_ ?_
        · intro j h1 h2; exact fs3.I (by simp; omega)
        · intro k hk
          rw [show 1 + 1 = 2 from rfl, I_sA, if_pos rfl]
          unfold va_cpy
          rw [if_pos (by omega), show 0 + (k - 0) = k by omega]
          exact a1.1 k hk
      · rw [k55 42 (by omega) (by omega)]; exact tk 42 (by omega)
      · rw [k55 30 (by omega) (by omega)]; exact tk 30 (by omega)
      · refine mS.law (lw' := lw') hM.1 b1 b2 b3 b4 b5 b6 b7 ?_ ?_
        · intro k hk; rw [I_ne (by decide), I_ne (by decide), v4 k (by omega), t56]
        · intro k hk
          have hlp : 8 ≤ lp k ∧ lp k < 31 := by unfold lp; split <;> omega
          rw [I_ne (by decide), I_ne (by decide), v3 _ (by omega)]
          exact a1.2.1 k hk
      · rw [k55 7 (by omega) (by omega)]; exact t7
      · intro k hk; omega
      · rw [I_sI, if_neg (by omega), I_sI, if_pos ⟨rfl, rfl⟩]
      · rw [I_sI, if_pos ⟨rfl, rfl⟩]
      · rw [k55 3 (by omega) (by omega)]; exact tt3
    · rw [if_neg y5.c, if_neg y5.m, bi_s, if_pos rfl]
      dsimp only
      rw [ends_no y5.m, bi_s]
      obtain ⟨fk', b', h1, h2, h3, h4, h5, h7, h8⟩ := y5
      have cz2 : cZ s2 (r, c, d, lw, wy, hd, dr, cr, en) (0, tp, oN fk', oN b', tr, im) := cZ.rd (X := (N, tp, fk, fp, tr, im)) hC oT oX fs2 (by decide) (by rw [fs2.I (by decide)]) ⟨s34, fun k hk => by omega, h4, h5⟩
      have oX2 : xO (0, tp, oN fk', oN b', tr, im) := ⟨⟨by show 0 ≤ 400; omega, fun k hk => by have : k < 0 := hk; omega⟩, oX.2⟩
      rw [h4, h7, h8]
      have ft5 : fr [55, 60] t (am_sI (am_sI t3 55 15 (oN fk')) 55 16 (oN b')) := fr.sI (fr.sI ft3 (by simp)) (by simp)
      have k55 : ∀ k, k ≠ 15 → k ≠ 16 → am_I (am_sI (am_sI t3 55 15 (oN fk')) 55 16 (oN b')) 55 k = am_I t3 55 k := by
        intro k h1 h2
        rw [I_sI, if_neg (by omega), I_sI, if_neg (by omega)]
      refine JW_v (v := (-10 : Int32) - oN fk') (T := (r, c, d, lw, wy, hd, dr, cr, en)) (X := (0, tp, oN fk', oN b', tr, im)) oT oX2 fs2 (by decide) cz2 rfl ft5 (by decide) (mZ.rd (X := (N, tp, fk, fp, tr, im)) hM ft5 (by decide) ?_ ?_ ?_ ⟨?_, ?_, ?_, ?_⟩) rfl ?_
      · rw [k55 42 (by omega) (by omega)]; exact tk 42 (by omega)
      · rw [k55 30 (by omega) (by omega)]; exact tk 30 (by omega)
      · rw [I_ne (by decide), I_ne (by decide), t56]; exact hM.1
      · rw [k55 7 (by omega) (by omega)]; exact t7
      · intro k hk; omega
      · rw [I_sI, if_neg (by omega), I_sI, if_pos ⟨rfl, rfl⟩]
      · rw [I_sI, if_pos ⟨rfl, rfl⟩]
      · rw [k55 3 (by omega) (by omega)]; exact tt3
  · rw [if_neg hw, if_neg hw, tu_x, bi_s, if_pos rfl]
    exact JW_x (e := 0) (v := 0) oT oX (fr.refl (A := [])) (by decide) hC rfl (B := [55]) ((fr.refl.sI (by simp)).sI (by simp)) (by decide) hM.thr.thr rfl thr2
end LW2
