/-! ===== slant, seen, hours ===== -/
section Q3
variable {s s1 t t1 t2 : am_S} {x x1 x2 x3 x4 x5 x6 x7 e v sl la : Int32} {r c d : Int32} {lw : Nat → Int32} {wy : List (List T2)} {hd : List (List T3)} {dr : List T3} {cr : List T2} {en : List T3} {P : Ppr} {l : List T3} {a : Nat}
theorem J_slant (hS : cS s 1 r c d lw wy hd dr cr en) (oS : okS r c d lw wy hd dr cr en) (hX : cX s) (hT : mS (am_I t 56) r c d lw wy hd dr cr en) (hY : mX t) : ∃ o, cQ Value.int s (f_X7_slant x1 x2 x3 x4 s) o ∧ mQ Value.int k312 t (f_X8_slant x1 x2 x3 x4 t) o := by
  unfold f_X7_slant f_X8_slant
  refine q_way (z0 := 0) hS oS hT rfl rfl ?_
  intro w0 fs P s1 t1 _ _ _ oP q1 hM q2 hN
  have q3 : qm t1 (am_sI t1 55 3 0) := qm.thr qm.refl
  rw [needEars_is, isEars_is, bi_s, jn_s]
  by_cases g : wi x2.toInt (-9) 9 = true
  · rw [if_pos g, if_pos g, tu_s, if_neg n10, nW (a := 10) (b := 999) rfl rfl, isSpeed_is, bi_s]
    by_cases g5 : wi x3.toInt 10 999 = true
    · rw [if_pos g5, if_pos g5, tu_s, if_neg n10]
      have hC : CI s1 r c d lw wy hd dr cr en P := ⟨hS.qc oS q1, hX.qc q1, hM⟩
      have hD : MI (am_sI t1 55 3 0) r c d lw wy hd dr cr en P := MI.thr ⟨by rw [q2.I]; exact hT, hY.qm q2, hN⟩
      have h16 : wi (-16 : Int32).toInt (-16) 16 = true := rfl
      obtain ⟨s2, z1, z2, _, _, z3⟩ := flyC (e := x2) (la := x4) hC oS oP g5 h16
      obtain ⟨t2, y1, y2, _, _, y3⟩ := flyM (e := x2) (la := x4) hD oS oP g5 h16
      have n16 : ¬ (16 : Int32) < -16 := by decide
      have e15 : (-16 : Int32) + 1 = -15 := by decide
      rw [show ax_fuel = 999 + 1 from ax_fuel_is, L_X7_slant_33, if_neg n16, z1, bu_s, z3, bi_s, jn_s, if_pos rfl, y3, bi_s, e15]
      obtain ⟨b', s', t', k1, k2, k3, k4⟩ := slant_in (e := x2) (la := x4) oS oP g5 32 999 (999 + 1) (-15) (-16) (scS x4 (flS (EoS lw d dr cr P x2) 200 (fl0 x3 (dirOf (-16))))) s2 t2 (by omega) (by omega) rfl (by omega) (hC.fl oS z2) (hD.fl y2)
      dsimp only
      rw [k1, lm_e, k2, lm_e]
      exact ⟨.inr b', cQ_v (qc.of (z2.trans k3) (by decide)) rfl, mQ_v (q3.trans (y2.trans k4).qm) rfl (((y2.trans k4).2.1 3 (by omega)).trans thr0)⟩
    · rw [if_neg g5, tu_x, if_neg g5, if_pos rfl]
      exact ⟨.inl 0, cQ_x qc.refl rfl, mQ_thr (u := 0) (x := 3) q3 rfl rfl⟩
  · rw [if_neg g, if_neg g, tu_x, if_pos rfl]
    exact ⟨.inl 0, cQ_x qc.refl rfl, mQ_thr (u := 0) (x := 3) q3 rfl rfl⟩
theorem seen_in (oS : okS r c d lw wy hd dr cr en) (oP : okP P) (hv : wi v.toInt 10 999 = true) (hs : wi sl.toInt (-16) 16 = true) : ∀ (n m1 m2 : Nat) (x7 b : Int32) (s t : am_S), n < m1 → n < m2 → x7.toInt + n = 10 → n ≤ 19 → CI s r c d lw wy hd dr cr en P → MI t r c d lw wy hd dr cr en P →
    ∃ b' s' t', L_X7_seen_33 m1 v sl x4 x5 b x7 s = some (.inr (b', s')) ∧ L_X8_seen_45 m2 v sl x4 x5 b x7 t = some (.inr (b', t')) ∧ fr [41] s s' ∧ mfl t t' := by
  intro n
  induction n with
  | zero =>
    intro m1 m2 x7 b s t h1 h2 hx hn hC hM
    obtain ⟨m1, rfl⟩ := Nat.exists_eq_add_of_lt h1
    obtain ⟨m2, rfl⟩ := Nat.exists_eq_add_of_lt h2
    have t16 : (9 : Int32).toInt = 9 := rfl
    have c1 : (9 : Int32) < x7 := by rw [Int32.lt_iff_toInt_lt, t16]; omega
    rw [L_X7_seen_33, L_X8_seen_45, if_pos c1, if_pos c1]
    exact ⟨b, s, t, rfl, rfl, fr.refl, mfl.refl⟩
  | succ n ih =>
    intro m1 m2 x7 b s t h1 h2 hx hn hC hM
    obtain ⟨m1, rfl⟩ := Nat.exists_eq_add_of_lt h1
    obtain ⟨m2, rfl⟩ := Nat.exists_eq_add_of_lt h2
    have t16 : (9 : Int32).toInt = 9 := rfl
    have c1 : ¬ (9 : Int32) < x7 := by rw [Int32.lt_iff_toInt_lt, t16]; omega
    have hi := inc1 (x := x7) (by omega)
    have o0 : b ||| (0 : Int32) = b := Int32.or_zero
    rw [L_X7_seen_33, L_X8_seen_45, if_neg c1, if_neg c1]
    obtain ⟨s1, z1, z2, z4, z5, z3⟩ := flyC (e := x7) (la := 0) hC oS oP hv hs
    obtain ⟨t1, y1, y2, y4, y5, y3⟩ := flyM (e := x7) (la := 0) hM oS oP hv hs
    rw [z1, bu_s, y1, bu_s, z4, z5, y4, y5, o0]
    obtain ⟨b1, s1', t1', k1, k2, k3, k4⟩ := ih (n + 1 + m1) (n + 1 + m2) (x7 + 1) b s1 t1 (by omega) (by omega) (by omega) (by omega) (hC.fl oS z2) (hM.fl y2)
    by_cases c3 : (flS (EoS lw d dr cr P x7) 200 (fl0 v (dirOf sl))).1 = x4
    · rw [if_pos c3, if_pos c3]
      by_cases c4 : (flS (EoS lw d dr cr P x7) 200 (fl0 v (dirOf sl))).2.2.2.2.2.2.1 = x5
      · obtain ⟨b2, s2', t2', j1, j2, j3, j4⟩ := ih (n + 1 + m1) (n + 1 + m2) (x7 + 1) (b ||| ((1 : Int32) <<< ((x7 + (9 : Int32)) &&& 31))) s1 t1 (by omega) (by omega) (by omega) (by omega) (hC.fl oS z2) (hM.fl y2)
        rw [if_pos c4, if_pos c4]
        exact ⟨b2, s2', t2', j1, j2, z2.trans j3, y2.trans j4⟩
      · rw [if_neg c4, if_neg c4]
        exact ⟨b1, s1', t1', k1, k2, z2.trans k3, y2.trans k4⟩
    · rw [if_neg c3, if_neg c3]
      exact ⟨b1, s1', t1', k1, k2, z2.trans k3, y2.trans k4⟩
theorem J_seen (hS : cS s 1 r c d lw wy hd dr cr en) (oS : okS r c d lw wy hd dr cr en) (hX : cX s) (hT : mS (am_I t 56) r c d lw wy hd dr cr en) (hY : mX t) : ∃ o, cQ Value.int s (f_X7_seen x1 x2 x3 x4 x5 s) o ∧ mQ Value.int k312 t (f_X8_seen x1 x2 x3 x4 x5 t) o := by
  unfold f_X7_seen f_X8_seen
  refine q_way (z0 := 0) hS oS hT rfl rfl ?_
  intro w0 fs P s1 t1 _ _ _ oP q1 hM q2 hN
  have q3 : qm t1 (am_sI t1 55 3 0) := qm.thr qm.refl
  rw [nW (a := 10) (b := 999) rfl rfl, isSpeed_is, bi_s, jn_s]
  by_cases g : wi x2.toInt 10 999 = true
  · rw [if_pos g, if_pos g, tu_s, if_neg n10, nW (a := -16) (b := 16) rfl rfl, isSlant_is, bi_s]
    by_cases g5 : wi x3.toInt (-16) 16 = true
    · rw [if_pos g5, if_pos g5, tu_s, if_neg n10]
      have hC : CI s1 r c d lw wy hd dr cr en P := ⟨hS.qc oS q1, hX.qc q1, hM⟩
      have hD : MI (am_sI t1 55 3 0) r c d lw wy hd dr cr en P := MI.thr ⟨by rw [q2.I]; exact hT, hY.qm q2, hN⟩
      obtain ⟨b', s', t', k1, k2, k3, k4⟩ := seen_in (x4 := x4) (x5 := x5) oS oP g g5 19 ax_fuel ax_fuel (-9) 0 s1 (am_sI t1 55 3 0) (by rw [ax_fuel_is]; omega) (by rw [ax_fuel_is]; omega) rfl (by omega) hC hD
      rw [k1, lm_e, k2, lm_e]
      exact ⟨.inr b', cQ_v (qc.of k3 (by decide)) rfl, mQ_v (q3.trans k4.qm) rfl ((k4.2.1 3 (by omega)).trans thr0)⟩
    · rw [if_neg g5, tu_x, if_neg g5, if_pos rfl]
      exact ⟨.inl 0, cQ_x qc.refl rfl, mQ_thr (u := 0) (x := 3) q3 rfl rfl⟩
  · rw [if_neg g, if_neg g, tu_x, if_pos rfl]
    exact ⟨.inl 0, cQ_x qc.refl rfl, mQ_thr (u := 0) (x := 3) q3 rfl rfl⟩
theorem maxc : am_max x 0 = am_max 0 x := by
  unfold am_max
  by_cases c1 : x < 0
  · rw [if_pos c1, if_neg (fun h => by rw [Int32.lt_iff_toInt_lt] at h c1; omega)]
  · rw [if_neg c1]
    by_cases c2 : 0 < x
    · rw [if_pos c2]
    · rw [if_neg c2]
      apply Int32.toInt_inj.mp
      rw [Int32.lt_iff_toInt_lt] at c1 c2
      omega
def lftE (x2 : Int32) (j : Nat) : Int32 := if 0 ≤ x2 then am_max (am_abs x2 - oN j) 0 else -(am_max (am_abs x2 - oN j) 0)
theorem half2 {n : Nat} (h : n ≤ 100) : oN n / 2 = oN (n / 2) := (Int32.ofNat_div (a := n) (b := 2) (by omega) (by omega)).symm
theorem hours_in {lim : Int64} (oS : okS r c d lw wy hd dr cr en) (oP : okP P) (ha : hd[a]? = some l) : ∀ (n m1 m2 j : Nat) (s t : am_S), n < m1 → 2 * n < m2 → j + n = 10 → CI s r c d lw wy hd dr cr en P → MI t r c d lw wy hd dr cr en P →
    ∃ s' t', fr [41] s s' ∧ mfl t t' ∧ ((L_X7_hours_27 m1 x2 la lim (23 + 2 * a) (oN (2 * j)) s = some (.inr ((), s')) ∧ L_X8_hours_35 m2 x2 (oN a) la lim (oN (2 * j)) t = some (.inr ((), t'))) ∨ ∃ v, L_X7_hours_27 m1 x2 la lim (23 + 2 * a) (oN (2 * j)) s = some (.inl (.inl (some (.int v)), s')) ∧ L_X8_hours_35 m2 x2 (oN a) la lim (oN (2 * j)) t = some (.inl (.inl (some (.int v)), t'))) := by
  intro n
  induction n with
  | zero =>
    intro m1 m2 j s t h1 h2 hx hC hM
    obtain ⟨m1, rfl⟩ := Nat.exists_eq_add_of_lt h1
    obtain ⟨m2, rfl⟩ := Nat.exists_eq_add_of_lt h2
    have c1 : (18 : Int32) < oN (2 * j) := (oN_ltR (by omega) (by omega)).mpr (show 18 < 2 * j by omega)
    rw [L_X7_hours_27, L_X8_hours_35, if_pos c1, if_pos c1]
    exact ⟨s, t, fr.refl, mfl.refl, Or.inl ⟨rfl, rfl⟩⟩
  | succ n ih =>
    intro m1 m2 j s t h1 h2 hx hC hM
    obtain ⟨m1, rfl⟩ := Nat.exists_eq_add_of_lt h1
    obtain ⟨m2, rfl⟩ := Nat.exists_eq_add_of_lt h2
    have c1 : ¬ (18 : Int32) < oN (2 * j) := fun h => by have h' : 18 < 2 * j := (oN_ltR (by omega) (by omega)).mp h; omega
    have e1 : oN (2 * j) / 2 = oN j := by rw [half2 (by omega), show 2 * j / 2 = j by omega]
    have e3 : oN (2 * j + 1) / 2 = oN j := by rw [half2 (by omega), show (2 * j + 1) / 2 = j by omega]
    have e2 : oN (2 * j) + 2 = oN (2 * (j + 1)) := by rw [oN_addL]; rfl
    have e4 : oN (2 * j) + 1 = oN (2 * j + 1) := oN_addL
    have e5 : oN (2 * j + 1) + 1 = oN (2 * (j + 1)) := by rw [oN_addL]; rfl
    obtain ⟨s1, z1, z2⟩ := rchC (e := lftE x2 j) (la := la) hC oS oP ha
    obtain ⟨t1, y1, y2⟩ := rchM (e := lftE x2 j) (la := la) hM oS oP ha
    obtain ⟨t2, w1, w2⟩ := rchM (e := lftE x2 j) (la := la) (hM.fl y2) oS oP ha
    have hc : L_X7_hours_27 (n + 1 + m1 + 1) x2 la lim (23 + 2 * a) (oN (2 * j)) s = am_bl (f_X7_reachOf (23 + 2 * a) (lftE x2 j) la s) (fun v22 s21 => if lim ≤ v22 then L_X7_hours_27 (n + 1 + m1) x2 la lim (23 + 2 * a) (oN (2 * (j + 1))) s21 else some (.inl (.inl (some (.int (oN (2 * j)))), s21))) := by
      rw [L_X7_hours_27, if_neg c1, jn_s, e1, e2]
      unfold lftE
      by_cases c2 : 0 ≤ x2
      · rw [if_pos c2, if_pos c2]
      · rw [if_neg c2, if_neg c2]
    have hm : ∀ (m q : Nat) (u : am_S), ¬ (18 : Int32) < oN q → oN q / 2 = oN j → L_X8_hours_35 (m + 1) x2 (oN a) la lim (oN q) u = am_bl (f_X8_reachOf (lftE x2 j) (oN a) la u) (fun v12 s11 => if lim ≤ v12 then L_X8_hours_35 m x2 (oN a) la lim (oN q + 1) s11 else some (.inl (.inl (some (.int (oN q))), s11))) := by
      intro m q u hq hh
      rw [L_X8_hours_35, if_neg hq, jn_s, hh]
      unfold lftE
      by_cases c2 : 0 ≤ x2
      · rw [if_pos c2, if_pos c2, maxc]
      · rw [if_neg c2, if_neg c2, maxc]
    rw [hc, z1, bl_s, hm _ _ _ c1 e1, y1, bl_s]
    by_cases c3 : lim ≤ rcS (EoS lw d dr cr P (lftE x2 j)) la 0 l
    · rw [if_pos c3, if_pos c3, e4, show 2 * (n + 1) + m2 = (2 * n + 1 + m2) + 1 by omega]
      by_cases c4 : j = 9
      · have c5 : (18 : Int32) < oN (2 * j + 1) := (oN_ltR (by omega) (by omega)).mpr (show 18 < 2 * j + 1 by omega)
        have c6 : (18 : Int32) < oN (2 * (j + 1)) := (oN_ltR (by omega) (by omega)).mpr (show 18 < 2 * (j + 1) by omega)
        rw [L_X8_hours_35, if_pos c5, show n + 1 + m1 = (n + m1) + 1 by omega, L_X7_hours_27, if_pos c6]
        exact ⟨s1, t1, z2, y2, Or.inl ⟨rfl, rfl⟩⟩
      · have c5 : ¬ (18 : Int32) < oN (2 * j + 1) := fun h => by have h' : 18 < 2 * j + 1 := (oN_ltR (by omega) (by omega)).mp h; omega
        rw [hm _ _ _ c5 e3, w1, bl_s, if_pos c3, e5]
        obtain ⟨s', t', k1, k2, k3⟩ := ih (n + 1 + m1) (2 * n + 1 + m2) (j + 1) s1 t2 (by omega) (by omega) (by omega) (hC.fl oS z2) ((hM.fl y2).fl w2)
        exact ⟨s', t', z2.trans k1, (y2.trans w2).trans k2, k3⟩
    · rw [if_neg c3, if_neg c3]
      exact ⟨s1, t1, z2, y2, Or.inr ⟨_, rfl, rfl⟩⟩
theorem J_hours {lim : Int64} (hS : cS s 1 r c d lw wy hd dr cr en) (oS : okS r c d lw wy hd dr cr en) (hX : cX s) (hT : mS (am_I t 56) r c d lw wy hd dr cr en) (hY : mX t) : ∃ o, cQ Value.int s (f_X7_hours x1 x2 x3 x4 lim s) o ∧ mQ Value.int k312 t (f_X8_hours x1 x2 x3 x4 lim t) o := by
  unfold f_X7_hours f_X8_hours
  refine q_hand (z0 := 0) (K := fun t3 t9 s13 => am_tu (f_X7_needEars x2 s13) (fun s15 => am_lm (L_X7_hours_27 ax_fuel x2 x4 lim t9 (0 : Int32) s15) (fun e25 s26 => some (.inl (some (.int (-1 : Int32))), s26)))) hS oS hT rfl rfl ?_
  intro w0 a fs l P s1 t1 _ ey _ _ _ ha _ _ _ oP q1 hM q2 hN
  subst ey
  have q3 : qm t1 (am_sI t1 55 3 0) := qm.thr qm.refl
  rw [needEars_is, isEars_is, bi_s]
  by_cases g : wi x2.toInt (-9) 9 = true
  · rw [if_pos g, if_pos g, tu_s, if_neg n10]
    have hC : CI s1 r c d lw wy hd dr cr en P := ⟨hS.qc oS q1, hX.qc q1, hM⟩
    have hD : MI (am_sI t1 55 3 0) r c d lw wy hd dr cr en P := MI.thr ⟨by rw [q2.I]; exact hT, hY.qm q2, hN⟩
    obtain ⟨s', t', k1, k2, k3⟩ := hours_in (x2 := x2) (la := x4) (lim := lim) oS oP ha 10 ax_fuel ax_fuel 0 s1 (am_sI t1 55 3 0) (by rw [ax_fuel_is]; omega) (by rw [ax_fuel_is]; omega) rfl hC hD
    have e0 : oN (2 * 0) = 0 := rfl
    rw [e0] at k3
    rcases k3 with ⟨j1, j2⟩ | ⟨v, j1, j2⟩
    · rw [j1, lm_e, j2, lm_e]
      exact ⟨.inr (-1), cQ_v (qc.of k1 (by decide)) rfl, mQ_v (q3.trans k2.qm) rfl ((k2.2.1 3 (by omega)).trans thr0)⟩
    · rw [j1, lm_r, j2, lm_r]
      exact ⟨.inr v, cQ_v (qc.of k1 (by decide)) rfl, mQ_v (q3.trans k2.qm) rfl ((k2.2.1 3 (by omega)).trans thr0)⟩
  · rw [if_neg g, if_neg g, tu_x, if_pos rfl]
    exact ⟨.inl 0, cQ_x qc.refl rfl, mQ_thr (u := 0) (x := 3) q3 rfl rfl⟩
end Q3
