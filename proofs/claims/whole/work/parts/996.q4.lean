/-! ===== rests, and why there is none ===== -/
section Q4
variable {s s1 t t1 t2 : am_S} {x x1 x2 x3 x4 x5 x6 x7 e v sl la : Int32} {r c d : Int32} {lw : Nat → Int32} {wy : List (List T2)} {hd : List (List T3)} {dr : List T3} {cr : List T2} {en : List T3} {P : Ppr} {l : List T3} {a : Nat}
theorem lever_b (oP : okP P) : -470 ≤ (lever P.2.2).toInt ∧ (lever P.2.2).toInt ≤ 470 := by
  obtain ⟨p1, p2, p3, p4, p5, p6, p7, p8⟩ := oP
  have hw : sm (fW P.2.2) 288 ≤ sm (fA P.2.2) 288 * 47 := by
    rw [← sm_mul]
    apply sm_le
    intro k hk
    unfold fW fA
    by_cases c : cnk P.2.2 k = 0
    · rw [if_pos c, if_pos c]; omega
    · rw [if_neg c, if_neg c]; omega
  have hf := sm_fF_le p5 p2 p4
  have ha := sm_fA_pos p5 p2 p4 p7
  unfold lever
  generalize sm (fW P.2.2) 288 = W at *
  generalize sm (fF P.2.2) 288 = F at *
  generalize sm (fA P.2.2) 288 = A at *
  generalize P.2.2.length = n at *
  have k1 : W * n ≤ A * 47 * n := Nat.mul_le_mul_right n hw
  have k2 : F * A ≤ n * 47 * A := Nat.mul_le_mul_right A hf
  have k3 : A * 47 * n = 47 * (A * n) := by rw [Nat.mul_comm A 47, Nat.mul_assoc]
  have k4 : n * 47 * A = 47 * (A * n) := by rw [Nat.mul_comm n 47, Nat.mul_assoc, Nat.mul_comm n A]
  have k5 : 1 * 1 ≤ A * n := Nat.mul_le_mul ha p7
  have d1 : ((W : Int) * n) = ((W * n : Nat) : Int) := by rw [Int.natCast_mul]
  have d2 : ((F : Int) * A) = ((F * A : Nat) : Int) := by rw [Int.natCast_mul]
  have d3 : ((A : Int) * n) = ((A * n : Nat) : Int) := by rw [Int.natCast_mul]
  rw [d1, d2, d3]
  have hb : ((10 * (((W * n : Nat) : Int) - ((F * A : Nat) : Int))).tdiv ((A * n : Nat) : Int)).natAbs ≤ 470 := by
    rw [Int.natAbs_tdiv, Int.natAbs_natCast]
    have : (10 * (((W * n : Nat) : Int) - ((F * A : Nat) : Int))).natAbs ≤ 470 * (A * n) := by omega
    calc _ ≤ 470 * (A * n) / (A * n) := Nat.div_le_div_right this
      _ = 470 := Nat.mul_div_cancel _ (by omega)
  rw [Int32.toInt_ofInt_of_le (by omega) (by omega)]
  omega
theorem mulb {p q : Int} {m n : Nat} (hp : p.natAbs ≤ m) (hq : q.natAbs ≤ n) : (p * q).natAbs ≤ m * n := by
  rw [Int.natAbs_mul]; exact Nat.mul_le_mul hp hq
theorem tq_eq {dw th V A g : Int32} (h1 : -9 ≤ e.toInt ∧ e.toInt ≤ 9) (h2 : 0 ≤ dw.toInt ∧ dw.toInt ≤ 432) (h3 : 1 ≤ th.toInt ∧ th.toInt ≤ 99) (h4 : -470 ≤ V.toInt ∧ V.toInt ≤ 470) (h5 : 0 ≤ A.toInt ∧ A.toInt ≤ 288) (h6 : -99 ≤ g.toInt ∧ g.toInt ≤ 99) :
    ((e.toInt64 * dw.toInt64) * th.toInt64) - ((V.toInt64 * A.toInt64) * g.toInt64) = (((e * dw) * th) - ((V * A) * g)).toInt64 := by
  have b1 := mulb (p := e.toInt) (q := dw.toInt) (m := 9) (n := 432) (by omega) (by omega)
  have b2 := mulb (p := e.toInt * dw.toInt) (q := th.toInt) (m := 9 * 432) (n := 99) b1 (by omega)
  have b3 := mulb (p := V.toInt) (q := A.toInt) (m := 470) (n := 288) (by omega) (by omega)
  have b4 := mulb (p := V.toInt * A.toInt) (q := g.toInt) (m := 470 * 288) (n := 99) b3 (by omega)
  apply Int64.toInt_inj.mp
  rw [Int32.toInt_toInt64, Int32.toInt_sub, Int32.toInt_mul, Int32.toInt_mul, Int32.toInt_mul, Int32.toInt_mul, Int64.toInt_sub, Int64.toInt_mul, Int64.toInt_mul, Int64.toInt_mul, Int64.toInt_mul, Int32.toInt_toInt64, Int32.toInt_toInt64, Int32.toInt_toInt64, Int32.toInt_toInt64, Int32.toInt_toInt64, Int32.toInt_toInt64]
  rw [Int.bmod_eq_of_le (n := e.toInt * dw.toInt) (m := 2 ^ 32) (by omega) (by omega), Int.bmod_eq_of_le (n := V.toInt * A.toInt) (m := 2 ^ 32) (by omega) (by omega), Int.bmod_eq_of_le (n := e.toInt * dw.toInt) (m := 2 ^ 64) (by omega) (by omega), Int.bmod_eq_of_le (n := V.toInt * A.toInt) (m := 2 ^ 64) (by omega) (by omega)]
  rw [Int.bmod_eq_of_le (n := e.toInt * dw.toInt * th.toInt) (m := 2 ^ 32) (by omega) (by omega), Int.bmod_eq_of_le (n := V.toInt * A.toInt * g.toInt) (m := 2 ^ 32) (by omega) (by omega), Int.bmod_eq_of_le (n := e.toInt * dw.toInt * th.toInt) (m := 2 ^ 64) (by omega) (by omega), Int.bmod_eq_of_le (n := V.toInt * A.toInt * g.toInt) (m := 2 ^ 64) (by omega) (by omega)]
  rw [Int.bmod_eq_of_le (m := 2 ^ 32) (by omega) (by omega), Int.bmod_eq_of_le (m := 2 ^ 64) (by omega) (by omega)]
/-- what turns the nose -/
def tqS (lw : Nat → Int32) (d : Int32) (P : Ppr) (e k : Int32) : Int32 := ((e * (oN P.2.2.length + ((oN P.2.2.length * d) / (100 : Int32)))) * lw 19) - ((lever P.2.2 * oN (sm (fA P.2.2) 288)) * (if 0 ≤ k then lw (am_abs k).toNatClampNeg else -(lw (am_abs k).toNatClampNeg)))
def rsS (lw : Nat → Int32) (d : Int32) (P : Ppr) (e k : Int32) : Int32 := if tqS lw d P e k = 0 then 1 else if tqS lw d P e k ≤ 0 then 0 else if 8 ≤ k then 0 else if 0 ≤ tqS lw d P e (k + 1) then 0 else 1
theorem abs8 {k : Int32} (hk : -8 ≤ k.toInt ∧ k.toInt ≤ 8) : ∃ n, am_abs k = oN n ∧ n ≤ 8 ∧ (am_abs k).toNatClampNeg = n := abs_b (b := 8) (by omega) (by omega)
theorem torque_is {k : Int32} (hC : CI s r c d lw wy hd dr cr en P) (hk : -8 ≤ k.toInt ∧ k.toInt ≤ 8) : f_X7_torque e k s = some (.inl (some (.int (tqS lw d P e k))), s) := by
  obtain ⟨n, n1, n2, n3⟩ := abs8 hk
  obtain ⟨h1, h2, h3⟩ := hC
  have e8 : (8 : Int32) = oN 8 := rfl
  have e0 : (0 : Int32) + am_min (oN n) 8 = oN n := by
    have em : am_min (oN n) 8 = oN n := by
      rw [e8, min_is (by omega) (by omega), Nat.min_eq_left n2]
    rw [em, oN_addR, Nat.zero_add]
  have ed : ∀ x s, f_X2_dampWeight x s = some (.inl (some (.int ((am_I s 37 5) + (((am_I s 37 5) * x) / (100 : Int32))))), s) := fun x s => rfl
  unfold f_X7_torque tqS
  rw [n1, e0, if_pos (by rw [am_in_oN (by omega)]; exact decide_eq_true (by omega)), le_s, jn_s, oN_nat (by omega), h1.1.2.2.2 n (by omega)]
  by_cases c1 : 0 ≤ k
  · rw [if_pos c1, if_pos c1]
    dsimp only
    rw [ed, bi_s, h1.1.2.2.1, h3.2.2.1, h1.1.2.2.2 19 (by omega), h3.2.1, h3.2.2.2.2.2]
  · rw [if_neg c1, if_neg c1]
    dsimp only
    rw [ed, bi_s, h1.1.2.2.1, h3.2.2.1, h1.1.2.2.2 19 (by omega), h3.2.1, h3.2.2.2.2.2]
theorem turns_is {k : Int32} (hM : MI t r c d lw wy hd dr cr en P) (oS : okS r c d lw wy hd dr cr en) (oP : okP P) (he : wi e.toInt (-9) 9 = true) (hk : -8 ≤ k.toInt ∧ k.toInt ≤ 8) : f_X8_turns e k t = some (.inl (some (.long (tqS lw d P e k).toInt64)), t) := by
  obtain ⟨n, n1, n2, n3⟩ := abs8 hk
  obtain ⟨h1, h2, h3⟩ := hM
  obtain ⟨o1, o2, o3, o4, o5⟩ := oS
  have e1 : (13 : Int32) + oN n = oN (13 + n) := oN_addR
  have eh : f_X8_heavy t = some (.inl (some (.long ((am_I t 55 24) + (((am_I t 55 24) * (am_I t 56 7)) / (100 : Int32))).toInt64)), t) := rfl
  have hl := lever_b oP
  have hA : sm (fA P.2.2) 288 ≤ 288 := sm_fA_le
  have hn : am_I t 56 (13 + n) = lw n := by
    have := h1.1.2.2.2 n (by omega)
    unfold lp at this
    rw [if_pos (by omega)] at this
    exact this
  have h9 : am_I t 56 9 = lw 19 := h1.1.2.2.2 19 (by omega)
  have hlw := o4.1 n (by omega)
  have hdw : 0 ≤ (oN P.2.2.length + ((oN P.2.2.length * d) / (100 : Int32))).toInt ∧ (oN P.2.2.length + ((oN P.2.2.length * d) / (100 : Int32))).toInt ≤ 432 := by
    obtain ⟨D, d1, d2, d3⟩ := oN_of o3.1
    have hW := oP.2.2.2.2.2.2.2
    have hb : P.2.2.length * D ≤ 288 * 50 := Nat.mul_le_mul hW (by omega)
    have h100 : oN (P.2.2.length * D) / 100 = oN (P.2.2.length * D / 100) := (Int32.ofNat_div (a := P.2.2.length * D) (b := 100) (by omega) (by omega)).symm
    rw [d1, oN_mul, h100, oN_add, oN_int (by omega)]
    omega
  unfold f_X8_turns tqS
  rw [n1, e1, if_pos (by rw [am_in_oN (by omega)]; exact decide_eq_true (by omega)), eh, bl_s, oN_nat (by omega), oN_nat (by omega), hn, h9, h1.1.2.2.1, h3.2.2.2.1, h3.2.2.1, h3.2.2.2.2.2.2]
  by_cases c1 : 0 ≤ k
  · rw [if_pos c1, if_pos c1, tq_eq (wi_t.mp he) hdw o4.2.2.1 hl (by rw [oN_int (by omega)]; omega) (by omega)]
  · have en : (-(lw n)).toInt = -(lw n).toInt := by rw [Int32.toInt_neg, Int.bmod_eq_of_le (by omega) (by omega)]
    have en64 : -(lw n).toInt64 = (-(lw n)).toInt64 := by
      apply Int64.toInt_inj.mp
      rw [Int64.toInt_neg, Int32.toInt_toInt64, Int32.toInt_toInt64, en, Int.bmod_eq_of_le (by omega) (by omega)]
    rw [if_neg c1, if_neg c1, en64, tq_eq (wi_t.mp he) hdw o4.2.2.1 hl (by rw [oN_int (by omega)]; omega) (by rw [en]; omega)]
theorem z64 {y : Int32} : (y.toInt64 = 0 ↔ y = 0) ∧ (y.toInt64 ≤ 0 ↔ y ≤ 0) ∧ (0 ≤ y.toInt64 ↔ 0 ≤ y) := by
  refine ⟨?_, ?_, ?_⟩
  · rw [← Int64.toInt_inj, ← Int32.toInt_inj, Int32.toInt_toInt64]; rfl
  · rw [Int64.le_iff_toInt_le, Int32.le_iff_toInt_le, Int32.toInt_toInt64]; rfl
  · rw [Int64.le_iff_toInt_le, Int32.le_iff_toInt_le, Int32.toInt_toInt64]; rfl
theorem le8 {k : Int32} (h : ¬ 8 ≤ k) : k.toInt ≤ 7 := by
  have t8 : (8 : Int32).toInt = 8 := rfl
  rw [Int32.le_iff_toInt_le, t8] at h
  omega
theorem isRest_c {k : Int32} (hC : CI s r c d lw wy hd dr cr en P) (hk : -8 ≤ k.toInt ∧ k.toInt ≤ 8) : f_X7_isRest e k s = some (.inl (some (.int (rsS lw d P e k))), s) := by
  unfold f_X7_isRest rsS
  rw [torque_is hC hk, bi_s]
  by_cases c1 : tqS lw d P e k = 0
  · rw [if_pos c1, if_pos c1]
  · rw [if_neg c1, if_neg c1]
    by_cases c2 : tqS lw d P e k ≤ 0
    · rw [if_pos c2, if_pos c2]
    · rw [if_neg c2, if_neg c2]
      by_cases c3 : 8 ≤ k
      · rw [if_pos c3, if_pos c3]
      · have h7 := le8 c3
        rw [if_neg c3, if_neg c3, torque_is hC (by rw [inc1 (by omega)]; omega), bi_s]
        by_cases c4 : 0 ≤ tqS lw d P e (k + 1)
        · rw [if_pos c4, if_pos c4]
        · rw [if_neg c4, if_neg c4]
theorem isRest_m {k : Int32} (hM : MI t r c d lw wy hd dr cr en P) (oS : okS r c d lw wy hd dr cr en) (oP : okP P) (he : wi e.toInt (-9) 9 = true) (hk : -8 ≤ k.toInt ∧ k.toInt ≤ 8) : f_X8_isRest e k t = some (.inl (some (.int (rsS lw d P e k))), t) := by
  unfold f_X8_isRest rsS
  rw [turns_is hM oS oP he hk, bl_s]
  by_cases c1 : tqS lw d P e k = 0
  · rw [if_pos (z64.1.mpr c1), if_pos c1]
  · rw [if_neg (fun h => c1 (z64.1.mp h)), if_neg c1]
    by_cases c3 : 8 ≤ k
    · rw [if_pos c3, if_pos c3]
      by_cases c2 : tqS lw d P e k ≤ 0
      · rw [if_pos c2]
      · rw [if_neg c2]
    · have h7 := le8 c3
      rw [if_neg c3, if_neg c3]
      by_cases c2 : tqS lw d P e k ≤ 0
      · rw [if_pos (z64.2.1.mpr c2), if_pos c2]
      · rw [if_neg (fun h => c2 (z64.2.1.mp h)), if_neg c2, turns_is hM oS oP he (by rw [inc1 (by omega)]; omega), bl_s]
        by_cases c4 : 0 ≤ tqS lw d P e (k + 1)
        · rw [if_pos (z64.2.2.mpr c4), if_pos c4]
        · rw [if_neg (fun h => c4 (z64.2.2.mp h)), if_neg c4]
theorem t8 {k : Int32} : (8 : Int32) < k ↔ 8 < k.toInt := by rw [Int32.lt_iff_toInt_lt]; exact Iff.rfl
theorem rest_in (oS : okS r c d lw wy hd dr cr en) (oP : okP P) (he : wi e.toInt (-9) 9 = true) (hC : CI s r c d lw wy hd dr cr en P) (hM : MI t r c d lw wy hd dr cr en P) : ∀ (n m1 m2 : Nat) (k x4 : Int32), n < m1 → n < m2 → k.toInt + n = 9 → n ≤ 17 →
    (∃ b, L_X7_rest_20 m1 e x3 x4 k s = some (.inr (b, s)) ∧ L_X8_rest_38 m2 e x3 x4 k t = some (.inr (b, t))) ∨ (∃ b, L_X7_rest_20 m1 e x3 x4 k s = some (.inl (.inl (some (.int b)), s)) ∧ L_X8_rest_38 m2 e x3 x4 k t = some (.inl (.inl (some (.int b)), t))) := by
  intro n
  induction n with
  | zero =>
    intro m1 m2 k x4 h1 h2 hx hn
    obtain ⟨m1, rfl⟩ := Nat.exists_eq_add_of_lt h1
    obtain ⟨m2, rfl⟩ := Nat.exists_eq_add_of_lt h2
    have c1 : (8 : Int32) < k := t8.mpr (by omega)
    rw [L_X7_rest_20, L_X8_rest_38, if_pos c1, if_pos c1]
    exact Or.inl ⟨x4, rfl, rfl⟩
  | succ n ih =>
    intro m1 m2 k x4 h1 h2 hx hn
    obtain ⟨m1, rfl⟩ := Nat.exists_eq_add_of_lt h1
    obtain ⟨m2, rfl⟩ := Nat.exists_eq_add_of_lt h2
    have c1 : ¬ (8 : Int32) < k := fun h => by have := t8.mp h; omega
    have hi := inc1 (x := k) (by omega)
    rw [L_X7_rest_20, L_X8_rest_38, if_neg c1, if_neg c1, isRest_c hC (by omega), bi_s, isRest_m hM oS oP he (by omega), bi_s]
    by_cases c2 : rsS lw d P e k = 0
    · rw [if_pos c2, if_pos c2]
      exact ih _ _ (k + 1) x4 (by omega) (by omega) (by omega) (by omega)
    · rw [if_neg c2, if_neg c2]
      by_cases c3 : x4 = x3
      · rw [if_pos c3, if_pos c3]
        exact Or.inr ⟨_, rfl, rfl⟩
      · rw [if_neg c3, if_neg c3]
        exact ih _ _ (k + 1) (x4 + 1) (by omega) (by omega) (by omega) (by omega)
theorem J_rest (hS : cS s 1 r c d lw wy hd dr cr en) (oS : okS r c d lw wy hd dr cr en) (hX : cX s) (hT : mS (am_I t 56) r c d lw wy hd dr cr en) (hY : mX t) : ∃ o, cQ Value.int s (f_X7_rest x1 x2 x3 s) o ∧ mQ Value.int k312 t (f_X8_rest x1 x2 x3 t) o := by
  unfold f_X7_rest f_X8_rest
  refine q_way (z0 := 0) hS oS hT rfl rfl ?_
  intro w0 fs P s1 t1 _ _ _ oP q1 hM q2 hN
  have q3 : qm t1 (am_sI t1 55 3 0) := qm.thr qm.refl
  rw [needEars_is, isEars_is, bi_s]
  by_cases g : wi x2.toInt (-9) 9 = true
  · rw [if_pos g, if_pos g, tu_s, if_neg n10]
    have hC : CI s1 r c d lw wy hd dr cr en P := ⟨hS.qc oS q1, hX.qc q1, hM⟩
    have hD : MI (am_sI t1 55 3 0) r c d lw wy hd dr cr en P := MI.thr ⟨by rw [q2.I]; exact hT, hY.qm q2, hN⟩
    rcases rest_in (x3 := x3) oS oP g hC hD 17 ax_fuel ax_fuel (-8) 0 (by rw [ax_fuel_is]; omega) (by rw [ax_fuel_is]; omega) rfl (by omega) with ⟨b, k1, k2⟩ | ⟨b, k1, k2⟩
    · rw [k1, lm_e, k2, lm_e]
      by_cases c1 : x3 = -1
      · rw [if_pos c1, if_pos c1]
        exact ⟨.inr b, cQ_v qc.refl rfl, mQ_v q3 rfl thr0⟩
      · rw [if_neg c1, if_neg c1]
        exact ⟨.inr (-1), cQ_v qc.refl rfl, mQ_v q3 rfl thr0⟩
    · rw [k1, lm_r, k2, lm_r]
      exact ⟨.inr b, cQ_v qc.refl rfl, mQ_v q3 rfl thr0⟩
  · rw [if_neg g, if_neg g, tu_x, if_pos rfl]
    exact ⟨.inl 0, cQ_x qc.refl rfl, mQ_thr (u := 0) (x := 3) q3 rfl rfl⟩
/-- the model, once a rest is found -/
theorem why_m1 (oS : okS r c d lw wy hd dr cr en) (oP : okP P) (he : wi e.toInt (-9) 9 = true) (hM : MI t r c d lw wy hd dr cr en P) : ∀ (n m : Nat) (k b o : Int32), n < m → k.toInt + n = 9 → n ≤ 17 →
    ∃ q, L_X8_why_43 m e 1 b o k t = some (.inr ((1, q), t)) := by
  intro n
  induction n with
  | zero =>
    intro m k b o h1 hx hn
    obtain ⟨m, rfl⟩ := Nat.exists_eq_add_of_lt h1
    have c1 : (8 : Int32) < k := t8.mpr (by omega)
    rw [L_X8_why_43, if_pos c1]
    exact ⟨(b, o), rfl⟩
  | succ n ih =>
    intro m k b o h1 hx hn
    obtain ⟨m, rfl⟩ := Nat.exists_eq_add_of_lt h1
    have c1 : ¬ (8 : Int32) < k := fun h => by have := t8.mp h; omega
    have hi := inc1 (x := k) (by omega)
    have fin : ∀ b', ∃ q, (if o = 0 then L_X8_why_43 (n + 1 + m) e 1 b' 0 (k + 1) t else am_bl (f_X8_turns e k t) (fun v16 s15 => if v16 ≤ (0 : Int64) then L_X8_why_43 (n + 1 + m) e 1 b' 0 (k + 1) s15 else L_X8_why_43 (n + 1 + m) e 1 b' 1 (k + 1) s15)) = some (.inr ((1, q), t)) := by
      intro b'
      by_cases c2 : o = 0
      · rw [if_pos c2]
        exact ih _ (k + 1) b' 0 (by omega) (by omega) (by omega)
      · rw [if_neg c2, turns_is hM oS oP he (by omega), bl_s]
        by_cases c3 : (tqS lw d P e k).toInt64 ≤ 0
        · rw [if_pos c3]
          exact ih _ (k + 1) b' 0 (by omega) (by omega) (by omega)
        · rw [if_neg c3]
          exact ih _ (k + 1) b' 1 (by omega) (by omega) (by omega)
    rw [L_X8_why_43, if_neg c1, jn_s, jn_s, if_neg n10]
    show ∃ q, (if b = 0 then (if o = 0 then L_X8_why_43 (n + 1 + m) e 1 0 0 (k + 1) t else am_bl (f_X8_turns e k t) (fun v16 s15 => if v16 ≤ (0 : Int64) then L_X8_why_43 (n + 1 + m) e 1 0 0 (k + 1) s15 else L_X8_why_43 (n + 1 + m) e 1 0 1 (k + 1) s15)) else am_bl (f_X8_turns e k t) (fun v23 s22 => if (0 : Int64) ≤ v23 then (if o = 0 then L_X8_why_43 (n + 1 + m) e 1 0 0 (k + 1) s22 else am_bl (f_X8_turns e k s22) (fun v16 s15 => if v16 ≤ (0 : Int64) then L_X8_why_43 (n + 1 + m) e 1 0 0 (k + 1) s15 else L_X8_why_43 (n + 1 + m) e 1 0 1 (k + 1) s15)) else (if o = 0 then L_X8_why_43 (n + 1 + m) e 1 1 0 (k + 1) s22 else am_bl (f_X8_turns e k s22) (fun v16 s15 => if v16 ≤ (0 : Int64) then L_X8_why_43 (n + 1 + m) e 1 1 0 (k + 1) s15 else L_X8_why_43 (n + 1 + m) e 1 1 1 (k + 1) s15)))) = some (.inr ((1, q), t))
    by_cases c2 : b = 0
    · rw [if_pos c2]; exact fin 0
    · rw [if_neg c2, turns_is hM oS oP he (by omega), bl_s]
      by_cases c3 : 0 ≤ (tqS lw d P e k).toInt64
      · rw [if_pos c3]; exact fin 0
      · rw [if_neg c3]; exact fin 1
theorem why_in (oS : okS r c d lw wy hd dr cr en) (oP : okP P) (he : wi e.toInt (-9) 9 = true) (hC : CI s r c d lw wy hd dr cr en P) (hM : MI t r c d lw wy hd dr cr en P) : ∀ (n m1 m2 : Nat) (k : Int32) (lo ab : Nat), n < m1 → n < m2 → k.toInt + n = 9 → n ≤ 17 → lo + ab + n ≤ 17 →
    (∃ lo' ab', lo' ≤ 17 ∧ ab' ≤ 17 ∧ L_X7_why_22 m1 e (oN lo) (oN ab) k s = some (.inr ((oN lo', oN ab'), s)) ∧ L_X8_why_43 m2 e 0 (if ab = 0 then 1 else 0) (if lo = 0 then 1 else 0) k t = some (.inr ((0, (if ab' = 0 then 1 else 0), (if lo' = 0 then 1 else 0)), t))) ∨
    (∃ q, L_X7_why_22 m1 e (oN lo) (oN ab) k s = some (.inl (.inl (some (.int 0)), s)) ∧ L_X8_why_43 m2 e 0 (if ab = 0 then 1 else 0) (if lo = 0 then 1 else 0) k t = some (.inr ((1, q), t))) := by
  intro n
  induction n with
  | zero =>
    intro m1 m2 k lo ab h1 h2 hx hn hl
    obtain ⟨m1, rfl⟩ := Nat.exists_eq_add_of_lt h1
    obtain ⟨m2, rfl⟩ := Nat.exists_eq_add_of_lt h2
    have c1 : (8 : Int32) < k := t8.mpr (by omega)
    rw [L_X7_why_22, L_X8_why_43, if_pos c1, if_pos c1]
    exact Or.inl ⟨lo, ab, by omega, by omega, rfl, rfl⟩
  | succ n ih =>
    intro m1 m2 k lo ab h1 h2 hx hn hl
    obtain ⟨m1, rfl⟩ := Nat.exists_eq_add_of_lt h1
    obtain ⟨m2, rfl⟩ := Nat.exists_eq_add_of_lt h2
    have c1 : ¬ (8 : Int32) < k := fun h => by have := t8.mp h; omega
    have hi := inc1 (x := k) (by omega)
    have ht := turns_is (e := e) hM oS oP he (k := k) (by omega)
    rw [L_X7_why_22, if_neg c1, isRest_c hC (by omega), bi_s]
    have hm : L_X8_why_43 (n + 1 + m2 + 1) e 0 (if ab = 0 then 1 else 0) (if lo = 0 then 1 else 0) k t = (if rsS lw d P e k = 0 then
        L_X8_why_43 (n + 1 + m2) e 0 (if ab = 0 ∧ tqS lw d P e k < 0 then 1 else 0) (if lo = 0 ∧ 0 < tqS lw d P e k then 1 else 0) (k + 1) t else L_X8_why_43 (n + 1 + m2) e 1 (if ab = 0 ∧ tqS lw d P e k < 0 then 1 else 0) (if lo = 0 ∧ 0 < tqS lw d P e k then 1 else 0) (k + 1) t) := by
      have fin : ∀ z b' : Int32, (if (if lo = 0 then (1 : Int32) else 0) = 0 then L_X8_why_43 (n + 1 + m2) e z b' 0 (k + 1) t else am_bl (f_X8_turns e k t) (fun v16 s15 => if v16 ≤ (0 : Int64) then L_X8_why_43 (n + 1 + m2) e z b' 0 (k + 1) s15 else L_X8_why_43 (n + 1 + m2) e z b' 1 (k + 1) s15)) = L_X8_why_43 (n + 1 + m2) e z b' (if lo = 0 ∧ 0 < tqS lw d P e k then 1 else 0) (k + 1) t := by
        intro z b'
        by_cases c2 : lo = 0
        · rw [if_pos c2, if_neg n10, ht, bl_s]
          by_cases c3 : tqS lw d P e k ≤ 0
          · rw [if_pos (z64.2.1.mpr c3), if_neg (fun h => Int32.not_lt.mpr c3 h.2)]
          · rw [if_neg (fun h => c3 (z64.2.1.mp h)), if_pos ⟨c2, Int32.not_le.mp c3⟩]
        · rw [if_neg c2, if_pos rfl, if_neg (fun h => c2 h.1)]
      have fin2 : ∀ z : Int32, (if (if ab = 0 then (1 : Int32) else 0) = 0 then (if (if lo = 0 then (1 : Int32) else 0) = 0 then L_X8_why_43 (n + 1 + m2) e z 0 0 (k + 1) t else am_bl (f_X8_turns e k t) (fun v16 s15 => if v16 ≤ (0 : Int64) then L_X8_why_43 (n + 1 + m2) e z 0 0 (k + 1) s15 else L_X8_why_43 (n + 1 + m2) e z 0 1 (k + 1) s15)) else am_bl (f_X8_turns e k t) (fun v23 s22 => if (0 : Int64) ≤ v23 then (if (if lo = 0 then (1 : Int32) else 0) = 0 then L_X8_why_43 (n + 1 + m2) e z 0 0 (k + 1) s22 else am_bl (f_X8_turns e k s22) (fun v16 s15 => if v16 ≤ (0 : Int64) then L_X8_why_43 (n + 1 + m2) e z 0 0 (k + 1) s15 else L_X8_why_43 (n + 1 + m2) e z 0 1 (k + 1) s15)) else (if (if lo = 0 then (1 : Int32) else 0) = 0 then L_X8_why_43 (n + 1 + m2) e z 1 0 (k + 1) s22 else am_bl (f_X8_turns e k s22) (fun v16 s15 => if v16 ≤ (0 : Int64) then L_X8_why_43 (n + 1 + m2) e z 1 0 (k + 1) s15 else L_X8_why_43 (n + 1 + m2) e z 1 1 (k + 1) s15)))) = L_X8_why_43 (n + 1 + m2) e z (if ab = 0 ∧ tqS lw d P e k < 0 then 1 else 0) (if lo = 0 ∧ 0 < tqS lw d P e k then 1 else 0) (k + 1) t := by
        intro z
        rw [fin z 0]
        by_cases c2 : ab = 0
        · rw [if_pos c2, if_neg n10, ht, bl_s]
          rw [fin z 0, fin z 1]
          by_cases c3 : 0 ≤ tqS lw d P e k
          · rw [if_pos (z64.2.2.mpr c3), if_neg (show ¬ (ab = 0 ∧ tqS lw d P e k < 0) from fun h => Int32.not_lt.mpr c3 h.2)]
          · rw [if_neg (fun h => c3 (z64.2.2.mp h)), if_pos (show ab = 0 ∧ tqS lw d P e k < 0 from ⟨c2, Int32.not_le.mp c3⟩)]
        · rw [if_neg c2, if_pos rfl, if_neg (show ¬ (ab = 0 ∧ tqS lw d P e k < 0) from fun h => c2 h.1)]
      rw [L_X8_why_43, if_neg c1, jn_s, jn_s, if_pos rfl, isRest_m hM oS oP he (by omega), bi_s]
      by_cases c2 : rsS lw d P e k = 0
      · rw [if_pos c2, if_pos c2]; exact fin2 0
      · rw [if_neg c2, if_neg c2]; exact fin2 1
    rw [hm]
    by_cases c2 : rsS lw d P e k = 0
    · rw [if_pos c2, if_pos c2, torque_is hC (by omega), bi_s]
      have c0 : ¬ tqS lw d P e k = 0 := fun h => by
        unfold rsS at c2
        rw [if_pos h] at c2
        exact n10 c2
      by_cases c3 : 0 ≤ tqS lw d P e k
      · have c4 : 0 < tqS lw d P e k := by
          rw [Int32.lt_iff_toInt_lt]; rw [Int32.le_iff_toInt_le] at c3
          have : ¬ (tqS lw d P e k).toInt = (0 : Int32).toInt := fun h => c0 (Int32.toInt_inj.mp h)
          omega
        have c5 : ¬ tqS lw d P e k < 0 := Int32.not_lt.mpr c3
        have e1 : (if ab = 0 ∧ tqS lw d P e k < 0 then (1 : Int32) else 0) = if ab + 1 = 0 then 1 else 0 := by
          rw [if_neg (fun h => c5 h.2), if_neg (by omega)]
        have e2 : (if lo = 0 ∧ 0 < tqS lw d P e k then (1 : Int32) else 0) = if lo = 0 then 1 else 0 := by
          by_cases z : lo = 0
          · rw [if_pos ⟨z, c4⟩, if_pos z]
          · rw [if_neg (fun h => z h.1), if_neg z]
        rw [if_pos c3, oN_addL, e1, e2]
        exact ih _ _ (k + 1) lo (ab + 1) (by omega) (by omega) (by omega) (by omega) (by omega)
      · have c5 : tqS lw d P e k < 0 := Int32.not_le.mp c3
        have c4 : ¬ 0 < tqS lw d P e k := by
          rw [Int32.lt_iff_toInt_lt] at c5 ⊢
          omega
        have e1 : (if lo = 0 ∧ 0 < tqS lw d P e k then (1 : Int32) else 0) = if lo + 1 = 0 then 1 else 0 := by
          rw [if_neg (fun h => c4 h.2), if_neg (by omega)]
        have e2 : (if ab = 0 ∧ tqS lw d P e k < 0 then (1 : Int32) else 0) = if ab = 0 then 1 else 0 := by
          by_cases z : ab = 0
          · rw [if_pos ⟨z, c5⟩, if_pos z]
          · rw [if_neg (fun h => z h.1), if_neg z]
        rw [if_neg c3, oN_addL, e1, e2]
        exact ih _ _ (k + 1) (lo + 1) ab (by omega) (by omega) (by omega) (by omega) (by omega)
    · rw [if_neg c2, if_neg c2]
      obtain ⟨q, hq⟩ := why_m1 oS oP he hM n (n + 1 + m2) (k + 1) (if ab = 0 ∧ tqS lw d P e k < 0 then 1 else 0) (if lo = 0 ∧ 0 < tqS lw d P e k then 1 else 0) (by omega) (by omega) (by omega)
      exact Or.inr ⟨q, rfl, hq⟩
theorem J_why (hS : cS s 1 r c d lw wy hd dr cr en) (oS : okS r c d lw wy hd dr cr en) (hX : cX s) (hT : mS (am_I t 56) r c d lw wy hd dr cr en) (hY : mX t) : ∃ o, cQ Value.int s (f_X7_why x1 x2 s) o ∧ mQ Value.int k312 t (f_X8_why x1 x2 t) o := by
  unfold f_X7_why f_X8_why
  refine q_way (z0 := 0) hS oS hT rfl rfl ?_
  intro w0 fs P s1 t1 _ _ _ oP q1 hM q2 hN
  have q3 : qm t1 (am_sI t1 55 3 0) := qm.thr qm.refl
  rw [needEars_is, isEars_is, bi_s]
  by_cases g : wi x2.toInt (-9) 9 = true
  · rw [if_pos g, if_pos g, tu_s, if_neg n10]
    have hC : CI s1 r c d lw wy hd dr cr en P := ⟨hS.qc oS q1, hX.qc q1, hM⟩
    have hD : MI (am_sI t1 55 3 0) r c d lw wy hd dr cr en P := MI.thr ⟨by rw [q2.I]; exact hT, hY.qm q2, hN⟩
    rcases why_in oS oP g hC hD 17 ax_fuel ax_fuel (-8) 0 0 (by rw [ax_fuel_is]; omega) (by rw [ax_fuel_is]; omega) rfl (by omega) (by omega) with ⟨lo, ab, b1, b2, k1, k2⟩ | ⟨q, k1, k2⟩
    · have k1' : L_X7_why_22 ax_fuel x2 0 0 (-8) s1 = some (.inr ((oN lo, oN ab), s1)) := k1
      have k2' : L_X8_why_43 ax_fuel x2 0 1 1 (-8) (am_sI t1 55 3 0) = some (.inr ((0, (if ab = 0 then 1 else 0), (if lo = 0 then 1 else 0)), am_sI t1 55 3 0)) := k2
      rw [k1', lm_e, k2', lm_e, if_pos rfl]
      have z1 : oN ab = 0 ↔ ab = 0 := oN_eqL (by omega) (by omega)
      have z2 : oN lo = 0 ↔ lo = 0 := oN_eqL (by omega) (by omega)
      by_cases c1 : ab = 0
      · rw [if_pos (z1.mpr c1), if_pos c1, if_neg n10]
        exact ⟨.inr 1, cQ_v qc.refl rfl, mQ_v q3 rfl thr0⟩
      · rw [if_neg (fun h => c1 (z1.mp h)), if_neg c1, if_pos rfl]
        by_cases c2 : lo = 0
        · rw [if_pos (z2.mpr c2), if_pos c2, if_neg n10]
          exact ⟨.inr 2, cQ_v qc.refl rfl, mQ_v q3 rfl thr0⟩
        · rw [if_neg (fun h => c2 (z2.mp h)), if_neg c2, if_pos rfl]
          exact ⟨.inr 3, cQ_v qc.refl rfl, mQ_v q3 rfl thr0⟩
    · have k1' : L_X7_why_22 ax_fuel x2 0 0 (-8) s1 = some (.inl (.inl (some (.int 0)), s1)) := k1
      have k2' : L_X8_why_43 ax_fuel x2 0 1 1 (-8) (am_sI t1 55 3 0) = some (.inr ((1, q), am_sI t1 55 3 0)) := k2
      rw [k1', lm_r, k2', lm_e, if_neg n10]
      exact ⟨.inr 0, cQ_v qc.refl rfl, mQ_v q3 rfl thr0⟩
  · rw [if_neg g, if_neg g, tu_x, if_pos rfl]
    exact ⟨.inl 0, cQ_x qc.refl rfl, mQ_thr (u := 0) (x := 3) q3 rfl rfl⟩
end Q4
