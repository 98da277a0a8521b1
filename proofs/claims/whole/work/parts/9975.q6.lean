/-! ===== odds ===== -/
def pwS (x : Int64) : Int64 → Nat → Int64
  | acc, 0 => acc
  | acc, n + 1 => pwS x (acc * x) n
section Q6
variable {s s1 t t1 t2 : am_S} {x x1 x2 x3 x4 x5 x6 x7 e v sl la hx lo hi : Int32} {r c d : Int32} {lw : Nat → Int32} {wy : List (List T2)} {hd : List (List T3)} {dr : List T3} {cr : List T2} {en : List T3} {P : Ppr} {l : List T3} {a : Nat}
theorem in_o {n m : Nat} (h : n < m) (h2 : n < 2147483648) : am_in (oN n) m = true := by rw [am_in_oN h2]; exact decide_eq_true h
theorem pow_c {z : Int64} {n : Nat} (hn : n ≤ 100) : ∀ (k m i : Nat) (acc : Int64), k < m → i + k = n → L_X7_power_5 m z (oN n) acc (oN i) s = some (.inr (pwS z acc k, s)) := by
  intro k
  induction k with
  | zero =>
    intro m i acc h1 h2
    obtain ⟨m, rfl⟩ := Nat.exists_eq_add_of_lt h1
    rw [L_X7_power_5, if_pos ((oN_le (by omega) (by omega)).mpr (by omega))]
    rfl
  | succ k ih =>
    intro m i acc h1 h2
    obtain ⟨m, rfl⟩ := Nat.exists_eq_add_of_lt h1
    rw [L_X7_power_5, if_neg (fun hh => by have := (oN_le (by omega) (by omega)).mp hh; omega), oN_addL]
    exact ih _ (i + 1) (acc * z) (by omega) (by omega)
theorem pow_m {z y : Int64} {n : Nat} (hn : n ≤ 100) : ∀ (k m i : Nat) (acc bcc : Int64), k < m → i + k = n → L_X8_odds_165 m (oN n) z y acc bcc (oN i) t = some (.inr ((pwS z acc k, pwS y bcc k), t)) := by
  intro k
  induction k with
  | zero =>
    intro m i acc bcc h1 h2
    obtain ⟨m, rfl⟩ := Nat.exists_eq_add_of_lt h1
    rw [L_X8_odds_165, if_pos ((oN_le (by omega) (by omega)).mpr (by omega))]
    rfl
  | succ k ih =>
    intro m i acc bcc h1 h2
    obtain ⟨m, rfl⟩ := Nat.exists_eq_add_of_lt h1
    rw [L_X8_odds_165, if_neg (fun hh => by have := (oN_le (by omega) (by omega)).mp hh; omega), oN_addL]
    exact ih _ (i + 1) (acc * z) (bcc * y) (by omega) (by omega)
theorem odds_in (oS : okS r c d lw wy hd dr cr en) (oP : okP P) (ha : hd[a]? = some l) (h1x : 1 ≤ hx.toInt) : ∀ (n m1 m2 i : Nat) (s t : am_S) (A B : Int64), n < m1 → n < m2 → i + n = l.length → CI s r c d lw wy hd dr cr en P → MI t r c d lw wy hd dr cr en P →
    ∃ A' B' s' t', L_X7_odds_49 m1 e x4 hx lo hi (23 + 2 * a) A B (oN i) s = some (.inr ((A', B'), s')) ∧ L_X8_odds_67 m2 e (oN a) x4 hx lo hi A B (oN i) t = some (.inr ((A', B'), t')) ∧ fr [41] s s' ∧ qm t t' ∧ am_I t' 55 3 = am_I t 55 3 := by
  have hal := (List.getElem?_eq_some_iff.mp ha).1
  have h5 := oS.2.2.2.2.2.1.1
  have hm := oS.2.2.2.2.2.1.2 l (List.mem_of_getElem? ha)
  have ea : 1 + 22 + 2 * a = 23 + 2 * a := by omega
  intro n
  induction n with
  | zero =>
    intro m1 m2 i s t A B h1 h2 hi' hC hM
    obtain ⟨m1, rfl⟩ := Nat.exists_eq_add_of_lt h1
    obtain ⟨m2, rfl⟩ := Nat.exists_eq_add_of_lt h2
    have hr := hC.1.2.2.1.2 a l ha
    rw [ea] at hr
    have ht := hM.1.2.2.1.2 a l ha
    have c1 : oN l.length ≤ oN i := (oN_le (by omega) (by omega)).mpr (by omega)
    rw [L_X7_odds_49, L_X8_odds_67, hr.1, throwsOf_is (by omega) ht.1, bi_s, if_pos c1, if_pos c1]
    exact ⟨A, B, s, t, rfl, rfl, fr.refl, qm.refl, rfl⟩
  | succ n ih =>
    intro m1 m2 i s t A B h1 h2 hi' hC hM
    obtain ⟨m1, rfl⟩ := Nat.exists_eq_add_of_lt h1
    obtain ⟨m2, rfl⟩ := Nat.exists_eq_add_of_lt h2
    have hr := hC.1.2.2.1.2 a l ha
    rw [ea] at hr
    have ht := hM.1.2.2.1.2 a l ha
    have hil : i < l.length := by omega
    have hq := hm.2 _ (List.getElem_mem hil)
    obtain ⟨g1, g2, g3⟩ := hr.2 i l[i] (List.getElem?_eq_getElem hil)
    obtain ⟨k1, k2, k3⟩ := ht.2 i l[i] (List.getElem?_eq_getElem hil)
    rw [Nat.zero_add] at g1 g2 g3
    have c1 : ¬ oN l.length ≤ oN i := fun hh => by have := (oN_le (by omega) (by omega)).mp hh; omega
    have e1 : oN (170 + 13 * a + 3 * i) + 1 = oN (170 + 13 * a + 3 * i + 1) := oN_addL
    have e2 : oN (170 + 13 * a + 3 * i) + 2 = oN (170 + 13 * a + 3 * i + 2) := oN_addL
    obtain ⟨s1, s2, z1, z2, z3⟩ := gthC (e := e) (v := l[i].1) (sl := l[i].2.1) (lo := lo) (hi := hi) hC oS oP (wi_t.mpr hq.1) (wi_t.mpr hq.2.1) h1x
    obtain ⟨t1, y1, y2, y3, y4⟩ := gthM (e := e) (v := l[i].1) (sl := l[i].2.1) (hx := hx) (lo := lo) (hi := hi) hM oS oP (wi_t.mpr hq.1) (wi_t.mpr hq.2.1)
    have hl4 := hm.1
    have k3' : am_I t1 56 (170 + 13 * a + 3 * i + 2) = l[i].2.2 := by rw [y2.I]; exact k3
    rw [L_X7_odds_49, L_X8_odds_67, hr.1, throwsOf_is (by omega) ht.1, bi_s, if_neg c1, if_neg c1, f_get2 (by omega), bi_s, f_get0 (by omega), bi_s, f_get1 (by omega), bi_s, g1, g2, g3, z1, bu_s, z2, bi_s, throwAt_is, bi_s, e1, e2, if_pos (in_o (n := 170 + 13 * a + 3 * i + 2) (by omega) (by omega)), if_pos (in_o (n := 170 + 13 * a + 3 * i) (by omega) (by omega)), if_pos (in_o (n := 170 + 13 * a + 3 * i + 1) (by omega) (by omega)), oN_nat (by omega), oN_nat (by omega), oN_nat (by omega), k1, k2, k3, y1, bi_s, oN_addL]
    by_cases k : gtS (EoS lw d dr cr P e) hx lo hi 200 (fl0 l[i].1 (dirOf l[i].2.1)) = true
    · rw [if_pos k, if_neg n10, if_neg n10, Int64.add_zero]
      obtain ⟨A', B', s', t', j1, j2, j3, j4, j5⟩ := ih (n + 1 + m1) (n + 1 + m2) (i + 1) s2 t1 (A + l[i].2.2.toInt64) B (by omega) (by omega) (by omega) (hC.fl oS z3) y3
      exact ⟨A', B', s', t', j1, j2, z3.trans j3, y2.trans j4, j5.trans y4⟩
    · rw [if_neg k, if_pos rfl, if_pos rfl, if_pos (in_o (n := 170 + 13 * a + 3 * i + 2) (by omega) (by omega)), k3']
      obtain ⟨A', B', s', t', j1, j2, j3, j4, j5⟩ := ih (n + 1 + m1) (n + 1 + m2) (i + 1) s2 t1 (A + l[i].2.2.toInt64) (B + l[i].2.2.toInt64) (by omega) (by omega) (by omega) (hC.fl oS z3) y3
      exact ⟨A', B', s', t', j1, j2, z3.trans j3, y2.trans j4, j5.trans y4⟩
theorem J_odds (hS : cS s 1 r c d lw wy hd dr cr en) (oS : okS r c d lw wy hd dr cr en) (hX : cX s) (hT : mS (am_I t 56) r c d lw wy hd dr cr en) (hY : mX t) : ∃ o, cQ Value.long s (f_X7_odds x1 x2 x3 x4 x5 x6 x7 s) o ∧ mQ Value.long k312 t (f_X8_odds x1 x2 x3 x4 x5 x6 x7 t) o := by
  unfold f_X7_odds f_X8_odds
  refine q_hand (z0 := 0) (K := fun t3 t9 s13 => am_tu (f_X7_needEars x2 s13) (fun s15 => am_tu (f_X7_needWithin x4 (1 : Int32) (4 : Int32) s15) (fun s17 => am_tu (f_X7_needHoop x5 x6 x7 s17) (fun s19 => am_lm (L_X7_odds_49 ax_fuel x2 x4 x5 x6 x7 t9 (0 : Int64) (0 : Int64) (0 : Int32) s19) (fun e33 s34 => am_bl (f_X7_power e33.1 x4 s34) (fun v36 s35 => am_bl (f_X7_power e33.2 x4 s35) (fun v38 s37 => some (.inl (some (.long (v36 - v38))), s37)))))))) hS oS hT rfl rfl ?_
  intro w0 a fs l P s1 t1 _ ey _ _ _ ha hl4 _ _ oP q1 hM q2 hN
  subst ey
  have q3 : qm t1 (am_sI t1 55 3 0) := qm.thr qm.refl
  have hC : CI s1 r c d lw wy hd dr cr en P := ⟨hS.qc oS q1, hX.qc q1, hM⟩
  have hD : MI (am_sI t1 55 3 0) r c d lw wy hd dr cr en P := MI.thr ⟨by rw [q2.I]; exact hT, hY.qm q2, hN⟩
  rw [needEars_is, isEars_is, bi_s, jn_s]
  by_cases g : wi x2.toInt (-9) 9 = true
  · rw [if_pos g, if_pos g, tu_s, if_neg n10, nW (a := 1) (b := 4) rfl rfl, mW (a := 1) (b := 4) rfl rfl, bi_s]
    by_cases g5 : wi x4.toInt 1 4 = true
    · rw [if_pos g5, if_pos g5, tu_s, if_neg n10, needHoop_is, isHoop_is, bi_s]
      by_cases g6 : okH x5 x6 x7 = true
      · obtain ⟨A, B, s2, t2, z1, z2, z3, z4, z5⟩ := odds_in (x4 := x4) (e := x2) (lo := x6) (hi := x7) oS oP ha (okH_1 g6) l.length ax_fuel ax_fuel 0 s1 (am_sI t1 55 3 0) 0 0 (by rw [ax_fuel_is]; omega) (by rw [ax_fuel_is]; omega) (by omega) hC hD
        have z1' : L_X7_odds_49 ax_fuel x2 x4 x5 x6 x7 (23 + 2 * a) 0 0 0 s1 = some (.inr ((A, B), s2)) := z1
        have z2' : L_X8_odds_67 ax_fuel x2 (oN a) x4 x5 x6 x7 0 0 0 (am_sI t1 55 3 0) = some (.inr ((A, B), t2)) := z2
        rw [wi_t] at g5
        obtain ⟨n, e1, e2, e3⟩ := oN_of (show 0 ≤ x4.toInt by omega)
        have p1 : ∀ z, f_X7_power z x4 s2 = some (.inl (some (.long (pwS z 1 n))), s2) := by
          intro z
          have := pow_c (s := s2) (z := z) (show n ≤ 100 by omega) n ax_fuel 0 1 (by rw [ax_fuel_is]; omega) (by omega)
          have h' : L_X7_power_5 ax_fuel z (oN n) 1 0 s2 = some (.inr (pwS z 1 n, s2)) := this
          unfold f_X7_power
          rw [e1, h', lm_e]
        have p2 := pow_m (t := t2) (z := A) (y := B) (show n ≤ 100 by omega) n ax_fuel 0 1 1 (by rw [ax_fuel_is]; omega) (by omega)
        have p2' : L_X8_odds_165 ax_fuel x4 A B 1 1 0 t2 = some (.inr ((pwS A 1 n, pwS B 1 n), t2)) := by rw [e1]; exact p2
        rw [if_pos g6, if_pos g6, tu_s, if_neg n10, z1', lm_e, z2', lm_e, p2', lm_e, p1, bl_s, p1, bl_s]
        exact ⟨.inr _, cQ_v (qc.of z3 (by decide)) rfl, mQ_v (q3.trans z4) rfl (z5.trans thr0)⟩
      · rw [if_neg g6, if_neg g6, tu_x, if_pos rfl]
        exact ⟨.inl 0, cQ_x qc.refl rfl, mQ_thr (u := 0) (x := 3) q3 rfl rfl⟩
    · rw [if_neg g5, if_neg g5, tu_x, if_pos rfl]
      exact ⟨.inl 0, cQ_x qc.refl rfl, mQ_thr (u := 0) (x := 3) q3 rfl rfl⟩
  · rw [if_neg g, if_neg g, tu_x, if_pos rfl]
    exact ⟨.inl 0, cQ_x qc.refl rfl, mQ_thr (u := 0) (x := 3) q3 rfl rfl⟩
end Q6
