/-! ===== the best ears, the best way ===== -/
def bst (rc : Int32 → Int64) (b : Int32 × Int64) (e : Int32) : Int32 × Int64 := if rc e ≤ b.2 then b else (e, rc e)
def beL (rc : Int32 → Int64) : Nat → Nat → Int32 × Int64 → Int32 × Int64
  | 0, _, b => b
  | n + 1, i, b => beL rc n (i + 1) (bst rc (bst rc b (-(oN i))) (oN i))
theorem bst_rc {rc : Int32 → Int64} {b : Int32 × Int64} {e : Int32} (h : b.2 = rc b.1) : (bst rc b e).2 = rc (bst rc b e).1 := by
  unfold bst
  by_cases c : rc e ≤ b.2
  · rw [if_pos c]; exact h
  · rw [if_neg c]
theorem beL_rc {rc : Int32 → Int64} : ∀ {n i : Nat} {b : Int32 × Int64}, b.2 = rc b.1 → (beL rc n i b).2 = rc (beL rc n i b).1
  | 0, _, _, h => h
  | n + 1, i, b, h => by rw [beL]; exact beL_rc (bst_rc (bst_rc h))
theorem ebv_s {R : Type} {v : Value} {s : am_S} {g : Value → am_S → Option R} : am_bv (some (.inl (some v), s)) g = g v s := rfl
section BE
variable {s s1 t t1 t2 : am_S} {x x1 x2 x3 x4 x5 x6 x7 e v sl la : Int32} {r c d : Int32} {lw : Nat → Int32} {wy : List (List T2)} {hd : List (List T3)} {dr : List T3} {cr : List T2} {en : List T3} {P : Ppr} {l : List T3} {a : Nat}
def rcE (lw : Nat → Int32) (d : Int32) (dr : List T3) (cr : List T2) (P : Ppr) (la : Int32) (l : List T3) (e : Int32) : Int64 := rcS (EoS lw d dr cr P e) la 0 l
theorem mfl.sL {k : Nat} {v : Int64} (h : mfl t t1) : mfl t (am_sL t1 55 k v) := ⟨h.1.sL (by simp), h.2.1, h.2.2⟩
theorem be_c (oS : okS r c d lw wy hd dr cr en) (oP : okP P) (ha : hd[a]? = some l) : ∀ (n m i : Nat) (b : Int32 × Int64) (s : am_S), n < m → i + n = 10 → CI s r c d lw wy hd dr cr en P →
    ∃ s', L_X7_bestEarsOf_14 m (23 + 2 * a) la b.1 b.2 (oN i) s = some (.inr ((beL (rcE lw d dr cr P la l) n i b).1, s')) ∧ fr [41] s s' := by
  intro n
  induction n with
  | zero =>
    intro m i b s hm hi hC
    obtain ⟨m, rfl⟩ : ∃ q, m = q + 1 := ⟨m - 1, by omega⟩
    obtain rfl : i = 10 := by omega
    rw [L_X7_bestEarsOf_14, if_pos (by decide)]
    exact ⟨s, rfl, fr.refl⟩
  | succ n ih =>
    intro m i b s hm hi hC
    obtain ⟨m, rfl⟩ : ∃ q, m = q + 1 := ⟨m - 1, by omega⟩
    obtain ⟨s1, e1, f1⟩ := rchC (e := -(oN i)) (la := la) hC oS oP ha
    have hC1 := hC.fl oS f1
    obtain ⟨s2, e2, f2⟩ := rchC (e := oN i) (la := la) hC1 oS oP ha
    have hC2 := hC1.fl oS f2
    have e1' : f_X7_reachOf (23 + 2 * a) (-(oN i)) la s = some (.inl (some (.long (rcE lw d dr cr P la l (-(oN i))))), s1) := e1
    have e2' : f_X7_reachOf (23 + 2 * a) (oN i) la s1 = some (.inl (some (.long (rcE lw d dr cr P la l (oN i)))), s2) := e2
    obtain ⟨s3, e3, f3⟩ := ih m (i + 1) (bst (rcE lw d dr cr P la l) (bst (rcE lw d dr cr P la l) b (-(oN i))) (oN i)) s2 (by omega) (by omega) hC2
    refine ⟨s3, ?_, f1.trans (f2.trans f3)⟩
    have key : ∀ q : Int32 × Int64, (am_bl (f_X7_reachOf (23 + 2 * a) (oN i) la s1) (fun v10 s9 => if v10 ≤ q.2 then L_X7_bestEarsOf_14 m (23 + 2 * a) la q.1 q.2 (oN i + (1 : Int32)) s9 else L_X7_bestEarsOf_14 m (23 + 2 * a) la (oN i) v10 (oN i + (1 : Int32)) s9) : am_FE Int32) = L_X7_bestEarsOf_14 m (23 + 2 * a) la (bst (rcE lw d dr cr P la l) q (oN i)).1 (bst (rcE lw d dr cr P la l) q (oN i)).2 (oN (i + 1)) s2 := by
      intro q
      rw [e2', bl_s, oN_addL]
      unfold bst
      by_cases c : rcE lw d dr cr P la l (oN i) ≤ q.2
      · rw [if_pos c, if_pos c]
      · rw [if_neg c, if_neg c]
    rw [L_X7_bestEarsOf_14, if_neg (by rw [oN_ltR (by omega) (by omega)]; omega), e1', bl_s, jn_s, beL, ← e3]
    by_cases c : rcE lw d dr cr P la l (-(oN i)) ≤ b.2
    · have hb : bst (rcE lw d dr cr P la l) b (-(oN i)) = b := by unfold bst; rw [if_pos c]
      rw [if_pos c, hb]
      exact key (b.1, b.2)
    · have hb : bst (rcE lw d dr cr P la l) b (-(oN i)) = (-(oN i), rcE lw d dr cr P la l (-(oN i))) := by unfold bst; rw [if_neg c]
      rw [if_neg c, hb]
      exact key (-(oN i), rcE lw d dr cr P la l (-(oN i)))
theorem bestC (oS : okS r c d lw wy hd dr cr en) (oP : okP P) (ha : hd[a]? = some l) (hC : CI s r c d lw wy hd dr cr en P) :
    ∃ s', f_X7_bestEarsOf (23 + 2 * a) la s = some (.inl (some (.int (beL (rcE lw d dr cr P la l) 9 1 (0, rcE lw d dr cr P la l 0)).1)), s') ∧ fr [41] s s' := by
  obtain ⟨s1, e1, f1⟩ := rchC (e := 0) (la := la) hC oS oP ha
  have e1' : f_X7_reachOf (23 + 2 * a) 0 la s = some (.inl (some (.long (rcE lw d dr cr P la l 0))), s1) := e1
  obtain ⟨s2, e2, f2⟩ := be_c (la := la) oS oP ha 9 ax_fuel 1 (0, rcE lw d dr cr P la l 0) s1 (by rw [ax_fuel_is]; omega) (by omega) (hC.fl oS f1)
  have e2' : L_X7_bestEarsOf_14 ax_fuel (23 + 2 * a) la 0 (rcE lw d dr cr P la l 0) 1 s1 = some (.inr ((beL (rcE lw d dr cr P la l) 9 1 (0, rcE lw d dr cr P la l 0)).1, s2)) := e2
  unfold f_X7_bestEarsOf
  rw [e1', bl_s, e2', lm_e]
  exact ⟨s2, rfl, f1.trans f2⟩
theorem be_m1 (oS : okS r c d lw wy hd dr cr en) (oP : okP P) (ha : hd[a]? = some l) (e : Int32) {m : Nat} {b : Int32 × Int64} {x4 : Int32} (hM : MI t r c d lw wy hd dr cr en P) (hb : am_L t 55 46 = b.2) :
    ∃ t', (am_bl (f_X8_reachOf e (oN a) la t) (fun v8 s7 => if (am_L s7 55 46) < v8 then L_X8_bestEars_16 m (oN a) la e (x4 + (1 : Int32)) (am_sL s7 55 46 v8) else L_X8_bestEars_16 m (oN a) la b.1 (x4 + (1 : Int32)) s7) : am_FE Int32) = L_X8_bestEars_16 m (oN a) la (bst (rcE lw d dr cr P la l) b e).1 (x4 + (1 : Int32)) t' ∧ mfl t t' ∧ am_L t' 55 46 = (bst (rcE lw d dr cr P la l) b e).2 := by
  obtain ⟨t1, y1, y2⟩ := rchM (e := e) (la := la) hM oS oP ha
  have y1' : f_X8_reachOf e (oN a) la t = some (.inl (some (.long (rcE lw d dr cr P la l e))), t1) := y1
  have hL : am_L t1 55 46 = b.2 := by
    have := n_f_X8_reachOf e (oN a) la t _ y1
    rw [← hb, ← this]
  rw [y1', bl_s, hL]
  unfold bst
  by_cases c : rcE lw d dr cr P la l e ≤ b.2
  · rw [if_pos c, if_neg (Int64.not_lt.mpr c)]
    exact ⟨t1, rfl, y2, hL⟩
  · rw [if_neg c, if_pos (Int64.not_le.mp c)]
    exact ⟨am_sL t1 55 46 (rcE lw d dr cr P la l e), rfl, y2.sL, by rw [L_sL, if_pos ⟨rfl, rfl⟩]⟩
theorem eodd : ∀ i : Nat, i < 10 → 1 ≤ i → (oN (2 * i - 1) - oN (2 * i - 1) / (2 : Int32) * (2 : Int32) = 1) ∧ ((-(oN (2 * i - 1) + (1 : Int32))) / (2 : Int32)) = -(oN i) ∧ ¬ (oN (2 * i - 1) + 1 - (oN (2 * i - 1) + 1) / (2 : Int32) * (2 : Int32) = 1) ∧ (oN (2 * i - 1) + 1) / (2 : Int32) = oN i ∧ ¬ (18 : Int32) < oN (2 * i - 1) ∧ ¬ (18 : Int32) < oN (2 * i - 1) + 1 ∧ oN (2 * i - 1) + 1 + 1 = oN (2 * (i + 1) - 1) := by decide
theorem be_m (oS : okS r c d lw wy hd dr cr en) (oP : okP P) (ha : hd[a]? = some l) : ∀ (n m i : Nat) (b : Int32 × Int64) (t : am_S), 2 * n < m → i + n = 10 → 1 ≤ i → MI t r c d lw wy hd dr cr en P → am_L t 55 46 = b.2 →
    ∃ t', L_X8_bestEars_16 m (oN a) la b.1 (oN (2 * i - 1)) t = some (.inr ((beL (rcE lw d dr cr P la l) n i b).1, t')) ∧ mfl t t' ∧ am_L t' 55 46 = (beL (rcE lw d dr cr P la l) n i b).2 := by
  intro n
  induction n with
  | zero =>
    intro m i b t hm hi h1 hM hb
    obtain ⟨m, rfl⟩ : ∃ q, m = q + 1 := ⟨m - 1, by omega⟩
    obtain rfl : i = 10 := by omega
    rw [L_X8_bestEars_16, if_pos (by decide)]
    exact ⟨t, rfl, mfl.refl, hb⟩
  | succ n ih =>
    intro m i b t hm hi h1 hM hb
    obtain ⟨m, rfl⟩ : ∃ q, m = q + 1 + 1 := ⟨m - 2, by omega⟩
    obtain ⟨o1, o2, o3, o4, o5, o6, o7⟩ := eodd i (by omega) h1
    obtain ⟨t1, y1, y2, y3⟩ := be_m1 (la := la) oS oP ha (-(oN i)) (m := m + 1) (x4 := oN (2 * i - 1)) hM hb
    obtain ⟨t2, z1, z2, z3⟩ := be_m1 (la := la) oS oP ha (oN i) (m := m) (x4 := oN (2 * i - 1) + 1) (hM.fl y2) y3
    obtain ⟨t3, w1, w2, w3⟩ := ih m (i + 1) (bst (rcE lw d dr cr P la l) (bst (rcE lw d dr cr P la l) b (-(oN i))) (oN i)) t2 (by omega) (by omega) (by omega) ((hM.fl y2).fl z2) z3
    refine ⟨t3, ?_, y2.trans (z2.trans w2), by rw [beL]; exact w3⟩
    rw [beL, ← w1, ← o7, ← z1, L_X8_bestEars_16, if_neg o5, jn_s, if_pos o1, o2]
    refine Eq.trans y1 ?_
    rw [L_X8_bestEars_16, if_neg o6, jn_s, if_neg o3, o4]
theorem bestM (oS : okS r c d lw wy hd dr cr en) (oP : okP P) (ha : hd[a]? = some l) (hM : MI t r c d lw wy hd dr cr en P) :
    ∃ t', f_X8_bestEars (oN a) la t = some (.inl (some (.int (beL (rcE lw d dr cr P la l) 9 1 (0, rcE lw d dr cr P la l 0)).1)), t') ∧ mfl t t' ∧ am_L t' 55 46 = (beL (rcE lw d dr cr P la l) 9 1 (0, rcE lw d dr cr P la l 0)).2 := by
  obtain ⟨t1, y1, y2⟩ := rchM (e := 0) (la := la) hM oS oP ha
  have y1' : f_X8_reachOf 0 (oN a) la t = some (.inl (some (.long (rcE lw d dr cr P la l 0))), t1) := y1
  obtain ⟨t2, z1, z2, z3⟩ := be_m (la := la) oS oP ha 9 ax_fuel 1 (0, rcE lw d dr cr P la l 0) (am_sL t1 55 46 (rcE lw d dr cr P la l 0)) (by rw [ax_fuel_is]; omega) (by omega) (by omega) (hM.fl y2.sL) (by rw [L_sL, if_pos ⟨rfl, rfl⟩])
  have z1' : L_X8_bestEars_16 ax_fuel (oN a) la 0 1 (am_sL t1 55 46 (rcE lw d dr cr P la l 0)) = some (.inr ((beL (rcE lw d dr cr P la l) 9 1 (0, rcE lw d dr cr P la l 0)).1, t2)) := z1
  unfold f_X8_bestEars
  rw [y1', bl_s, z1', lm_e]
  exact ⟨t2, rfl, y2.sL.trans z2, z3⟩
theorem J_ears (hS : cS s 1 r c d lw wy hd dr cr en) (oS : okS r c d lw wy hd dr cr en) (hX : cX s) (hT : mS (am_I t 56) r c d lw wy hd dr cr en) (hY : mX t) : ∃ o, cQ Value.int s (f_X7_ears x1 x2 x3 s) o ∧ mQ Value.int k312 t (f_X8_ears x1 x2 x3 t) o := by
  unfold f_X7_ears f_X8_ears
  refine q_hand (z0 := 0) (K := fun t3 t9 s13 => am_bi (f_X7_bestEarsOf t9 x3 s13) (fun v16 s15 => some (.inl (some (.int v16)), s15))) hS oS hT rfl rfl ?_
  intro w0 a fs l P s1 t1 _ ey _ _ _ ha _ _ _ oP q1 hM q2 hN
  subst ey
  have q3 : qm t1 (am_sI t1 55 3 0) := qm.thr qm.refl
  obtain ⟨s2, z1, z2⟩ := bestC (la := x3) oS oP ha ⟨hS.qc oS q1, hX.qc q1, hM⟩
  obtain ⟨t2, y1, y2, _⟩ := bestM (la := x3) oS oP ha (MI.thr (x := 0) ⟨by rw [q2.I]; exact hT, hY.qm q2, hN⟩)
  rw [z1, bi_s, y1, bi_s]
  exact ⟨.inr _, cQ_v (qc.of z2 (by decide)) rfl, mQ_v (q3.trans y2.qm) rfl ((y2.2.1 3 (by omega)).trans thr0)⟩
theorem best_in (oS : okS r c d lw wy hd dr cr en) (ha : hd[a]? = some l) : ∀ (n m1 m2 w : Nat) (b : Int32) (mo : Int64) (s t : am_S), n < m1 → n < m2 → w + n = wy.length → cS s 1 r c d lw wy hd dr cr en → cX s → mS (am_I t 56) r c d lw wy hd dr cr en → mX t →
    ∃ b' s' t', L_X7_best_15 m1 la (23 + 2 * a) b mo (oN w) s = some (.inr (b', s')) ∧ L_X8_best_27 m2 (oN a) la b mo (oN w) t = some (.inr (b', t')) ∧ qc s s' ∧ qm t t' ∧ am_I t' 55 3 = am_I t 55 3 := by
  have b1 := (oB oS).1
  intro n
  induction n with
  | zero =>
    intro m1 m2 w b mo s t h1 h2 hw hS hX hT hY
    obtain ⟨m1, rfl⟩ : ∃ q, m1 = q + 1 := ⟨m1 - 1, by omega⟩
    obtain ⟨m2, rfl⟩ : ∃ q, m2 = q + 1 := ⟨m2 - 1, by omega⟩
    rw [L_X7_best_15, L_X8_best_27, hS.2.1.1, hT.2.1.1, if_pos ((oN_le (by omega) (by omega)).mpr (by omega)), if_pos ((oN_le (by omega) (by omega)).mpr (by omega))]
    exact ⟨b, s, t, rfl, rfl, qc.refl, qm.refl, rfl⟩
  | succ n ih =>
    intro m1 m2 w b mo s t h1 h2 hw hS hX hT hY
    obtain ⟨m1, rfl⟩ : ∃ q, m1 = q + 1 := ⟨m1 - 1, by omega⟩
    obtain ⟨m2, rfl⟩ : ∃ q, m2 = q + 1 := ⟨m2 - 1, by omega⟩
    have hwl : w < wy.length := by omega
    have hfs : wy[w]? = some wy[w] := List.getElem?_eq_getElem hwl
    rw [L_X7_best_15, L_X8_best_27, hS.2.1.1, hT.2.1.1, if_neg (by rw [oN_le (by omega) (by omega)]; omega), if_neg (by rw [oN_le (by omega) (by omega)]; omega), wayAt_ok hS.2.1.1 b1 hwl, ebv_s, mv_r, if_pos (k0_way w (by omega)), oN_addL]
    obtain ⟨s1, f1, ⟨j, e1, e2, e3⟩ | ⟨P, e1, e2, e3, e4⟩⟩ := c_breakW hS oS hfs
    · obtain ⟨t1, f2, kk, ⟨j', d1, d2, d3⟩ | ⟨P, d1, d2, d3, d4⟩⟩ := m_makesW hT oS hfs
      · have q1 : qc s s1 := qc.of f1 (by decide)
        have q2 : qm t t1 := qm.mk1 f2 kk
        obtain ⟨b', s', t', g1, g2, g3, g4, g5⟩ := ih m1 m2 (w + 1) b mo s1 t1 (by omega) (by omega) (by omega) (hS.qc oS q1) (hX.qc q1) (by rw [q2.I]; exact hT) (hY.qm q2)
        refine ⟨b', s', t', ?_, ?_, q1.trans g3, q2.trans g4, g5.trans (kk 3 (by omega))⟩
        · rw [e2, bi_s, if_neg (oN_not (by omega))]; exact g1
        · rw [d2, bi_s, if_neg (oN_not (by omega))]; exact g2
      · rw [e1] at d1; cases d1
    · obtain ⟨t1, f2, kk, ⟨j', d1, d2, d3⟩ | ⟨P', d1, d2, d3, d4⟩⟩ := m_makesW hT oS hfs
      · rw [e1] at d1; cases d1
      · rw [e1] at d1
        cases d1
        have q1 : qc s s1 := qc.of f1 (by decide)
        have q2 : qm t t1 := qm.mk1 f2 kk
        have hC : CI s1 r c d lw wy hd dr cr en P := ⟨hS.qc oS q1, hX.qc q1, e4⟩
        have hM : MI t1 r c d lw wy hd dr cr en P := ⟨by rw [q2.I]; exact hT, hY.qm q2, d4⟩
        obtain ⟨s2, z1, z2⟩ := bestC (la := la) oS e3 ha hC
        have hC2 := hC.fl oS z2
        obtain ⟨s3, y1, y2⟩ := rchC (e := (beL (rcE lw d dr cr P la l) 9 1 (0, rcE lw d dr cr P la l 0)).1) (la := la) hC2 oS e3 ha
        obtain ⟨t2, w1, w2, w3⟩ := bestM (la := la) oS e3 ha hM
        have hrc : am_L t2 55 46 = rcE lw d dr cr P la l (beL (rcE lw d dr cr P la l) 9 1 (0, rcE lw d dr cr P la l 0)).1 := w3.trans (beL_rc rfl)
        have y1' : f_X7_reachOf (23 + 2 * a) (beL (rcE lw d dr cr P la l) 9 1 (0, rcE lw d dr cr P la l 0)).1 la s2 = some (.inl (some (.long (am_L t2 55 46))), s3) := by rw [hrc]; exact y1
        have q3 : qc s s3 := q1.trans ((qc.of z2 (by decide)).trans (qc.of y2 (by decide)))
        have q4 : qm t t2 := q2.trans w2.qm
        have k3 : am_I t2 55 3 = am_I t 55 3 := (w2.2.1 3 (by omega)).trans (kk 3 (by omega))
        have fin : ∀ (bb : Int32) (mm : Int64), ∃ b' s' t', L_X7_best_15 m1 la (23 + 2 * a) bb mm (oN (w + 1)) s3 = some (.inr (b', s')) ∧ L_X8_best_27 m2 (oN a) la bb mm (oN (w + 1)) t2 = some (.inr (b', t')) ∧ qc s s' ∧ qm t t' ∧ am_I t' 55 3 = am_I t 55 3 := by
          intro bb mm
          obtain ⟨b', s', t', g1, g2, g3, g4, g5⟩ := ih m1 m2 (w + 1) bb mm s3 t2 (by omega) (by omega) (by omega) (hS.qc oS q3) (hX.qc q3) (by rw [q4.I]; exact hT) (hY.qm q4)
          exact ⟨b', s', t', g1, g2, q3.trans g3, q4.trans g4, g5.trans k3⟩
        rw [e2, bi_s, if_pos rfl, z1, bi_s, y1', bl_s, d2, bi_s, if_pos rfl, w1, bi_s, jn_s, jn_s]
        by_cases c1 : b = -1
        · rw [if_pos c1, if_pos c1]
          exact fin (oN w) (am_L t2 55 46)
        · rw [if_neg c1, if_neg c1]
          by_cases c2 : am_L t2 55 46 ≤ mo
          · rw [if_pos c2, if_neg (Int64.not_lt.mpr c2)]
            exact fin b mo
          · rw [if_neg c2, if_pos (Int64.not_le.mp c2)]
            exact fin (oN w) (am_L t2 55 46)
theorem J_best (hS : cS s 1 r c d lw wy hd dr cr en) (oS : okS r c d lw wy hd dr cr en) (hX : cX s) (hT : mS (am_I t 56) r c d lw wy hd dr cr en) (hY : mX t) : ∃ o, cQ Value.int s (f_X7_best x1 x2 s) o ∧ mQ Value.int k312 t (f_X8_best x1 x2 t) o := by
  unfold f_X7_best f_X8_best
  have b3 := (oB oS).2.2.1
  have b1 := (oB oS).1
  have q3 : qm t (am_sI t 55 3 0) := qm.thr qm.refl
  have hT3 : mS (am_I (am_sI t 55 3 0) 56) r c d lw wy hd dr cr en := by rw [I_ne (by decide)]; exact hT
  rw [isHand_is hT3.2.2.1.1 b3, bi_s]
  rcases hand_cases oS x1 with ⟨a, l, e, g1, g2, g3, g4, g5⟩ | hx
  · subst e
    rw [needHand_ok hS.2.2.1.1 g2 g1, tv_s, mv_r, if_pos (k0_hand a (by omega)), if_pos (show 0 ≤ (oN a).toInt ∧ (oN a).toInt < hd.length by rw [oN_int (by omega)]; omega), if_neg n10]
    obtain ⟨b', s', t', z1, z2, z3, z4, z5⟩ := best_in (la := x2) oS g3 wy.length ax_fuel ax_fuel 0 (-1) 0 s (am_sI t 55 3 0) (by rw [ax_fuel_is]; omega) (by rw [ax_fuel_is]; omega) (by omega) hS hX hT3 (hY.qm q3)
    have z1' : L_X7_best_15 ax_fuel x2 (23 + 2 * a) (-1) 0 0 s = some (.inr (b', s')) := z1
    have z2' : L_X8_best_27 ax_fuel (oN a) x2 (-1) 0 0 (am_sI t 55 3 0) = some (.inr (b', t')) := z2
    rw [z1', z2', lm_e, lm_e]
    exact ⟨.inr b', cQ_v z3 rfl, mQ_v (q3.trans z4) rfl (z5.trans thr0)⟩
  · rw [needHand_no hS.2.2.1.1 b3 hx, tv_x, if_neg hx, if_pos rfl]
    exact ⟨.inl 3, cQ_x qc.refl rfl, mQ_thr (u := 0) (x := 1) q3 rfl rfl⟩
end BE
