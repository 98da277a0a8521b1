/-! ===== questions about makes and flights ===== -/
section Q1
variable {s t : am_S} {x x1 x2 x3 x4 x5 x6 x7 e v sl la : Int32} {r c d : Int32} {lw : Nat → Int32} {wy : List (List T2)} {hd : List (List T3)} {dr : List T3} {cr : List T2} {en : List T3} {P : Ppr}
theorem nW {lo hi : Int32} {a b : Int} (ha : lo.toInt = a) (hb : hi.toInt = b) : f_X7_needWithin x lo hi s = if wi x.toInt a b = true then some (.inl none, s) else some (.inr 0, am_tick s) := by
  rw [f_needWithin, ha, hb]
theorem mW {lo hi : Int64} {a b : Int} (ha : lo.toInt = a) (hb : hi.toInt = b) : f_X8_within x.toInt64 lo hi s = some (.inl (some (.int (if wi x.toInt a b = true then 1 else 0))), s) := by
  rw [f_within, ha, hb, Int32.toInt_toInt64]
theorem n10 : ¬ ((1 : Int32) = 0) := by decide
theorem c_flyP (hS : cS s 1 r c d lw wy hd dr cr en) (oS : okS r c d lw wy hd dr cr en) (hX : cX s) (oP : okP P) (hM : cM s P) (hv : wi v.toInt 10 999 = true) (hs : wi sl.toInt (-16) 16 = true) :
    ∃ s', f_X1_flyOut e v sl s = some (.inl none, s') ∧ fr [41] s s' ∧ cFl s' (flS (EoS lw d dr cr P e) 200 (fl0 v (dirOf sl))) :=
  c_fly hX.1 (cB_of hS hM) (EoS_ok oS oP).1 (wi_t.mp hv) (wi_t.mp hs)
theorem m_flyP {n : Nat} (hn : n ≤ 200) (hT : mS (am_I t 56) r c d lw wy hd dr cr en) (oS : okS r c d lw wy hd dr cr en) (hY : mX t) (oP : okP P) (hM : mM t P) (hv : wi v.toInt 10 999 = true) (hs : wi sl.toInt (-16) 16 = true) :
    ∃ t', f_X8_flies e v sl (oN n) t = some (.inl none, t') ∧ fr [55, 65, 66] t t' ∧ (∀ k, k < 30 ∨ (41 < k ∧ k ≠ 45) → am_I t' 55 k = am_I t 55 k) ∧ qm t t' ∧ mFl t' (flS (EoS lw d dr cr P e) n (fl0 v (dirOf sl))) := by
  obtain ⟨t', z1, z2, z3, z4, z5⟩ := m_fly (e := e) hn (mB_of hT hM hY.2) (EoS_ok (e := e) oS oP).2 (EoS_ok (e := e) oS oP).1 (wi_t.mp hv) (wi_t.mp hs)
  exact ⟨t', z1, z2, z5, qm.fl z2 z5 (Or.inr z4), z3⟩
theorem mM.keep {t1 : am_S} (h : mM t P) (e1 : am_I t1 62 = am_I t 62) (e2 : am_I t1 63 = am_I t 63) (e3 : am_I t1 64 = am_I t 64) (hk : ∀ k, 19 < k ∧ k < 28 → am_I t1 55 k = am_I t 55 k) : mM t1 P :=
  ⟨⟨(hk 21 (by omega)).trans h.1.1, (hk 22 (by omega)).trans h.1.2.1, (hk 20 (by omega)).trans h.1.2.2.1, fun k p hp => by rw [e1, e2]; exact h.1.2.2.2 k p hp⟩, fun j hj => by rw [e3]; exact h.2.1 j hj, (hk 23 (by omega)).trans h.2.2.1, (hk 24 (by omega)).trans h.2.2.2.1, (hk 25 (by omega)).trans h.2.2.2.2.1, (hk 26 (by omega)).trans h.2.2.2.2.2.1, (hk 27 (by omega)).trans h.2.2.2.2.2.2⟩
theorem mM.thr {y : Int32} (h : mM t P) : mM (am_sI t 55 3 y) P := h.keep (I_ne (by decide)) (I_ne (by decide)) (I_ne (by decide)) (fun k hk => by rw [I_sI, if_neg (by omega)])
theorem mM.fl {t1 : am_S} (h : mM t P) (f : fr [55, 65, 66] t t1) (hk : ∀ k, k < 30 ∨ (41 < k ∧ k ≠ 45) → am_I t1 55 k = am_I t 55 k) : mM t1 P := h.keep (f.I (by decide)) (f.I (by decide)) (f.I (by decide)) (fun k h' => hk k (by omega))
theorem cM.fl {s1 : am_S} (h : cM s P) (f : fr [41] s s1) : cM s1 P := by
  obtain ⟨⟨G, g1, g2, g3, g4, g5, g6⟩, h2⟩ := h
  unfold cM cP
  rw [f.I (a := 37) (by decide), f.I (a := 38) (by decide)]
  exact ⟨⟨G, g1, g2, g3, g4, g5, g6⟩, h2⟩
theorem thr0 {y : Int32} : am_I (am_sI t 55 3 y) 55 3 = y := by rw [I_sI, if_pos ⟨rfl, rfl⟩]
theorem J_breaks (hS : cS s 1 r c d lw wy hd dr cr en) (oS : okS r c d lw wy hd dr cr en) (hT : mS (am_I t 56) r c d lw wy hd dr cr en) : ∃ o, cQ Value.int s (f_X7_breaks x1 s) o ∧ mQ Value.int k312 t (f_X8_breaks x1 t) o := by
  have hT' : mS (am_I (am_sI t 55 3 0) 56) r c d lw wy hd dr cr en := by rw [I_ne (by decide)]; exact hT
  unfold f_X7_breaks f_X8_breaks
  rw [isWay_is hT'.2.1.1 oS.2.2.2.2.1.1, bi_s]
  rcases way_cases oS x1 with ⟨w0, fs, e, h1, h2, h3⟩ | hx
  · subst e
    rw [needWay_ok hS.2.1.1 h2 h1, tv_s, mv_r, if_pos (k0_way w0 (by omega)), if_pos (show 0 ≤ (oN w0).toInt ∧ (oN w0).toInt < wy.length by rw [oN_int (by omega)]; omega), if_neg n10]
    obtain ⟨s1, f1, z⟩ := c_breakW hS oS h3
    obtain ⟨t1, f2, kk, y⟩ := m_makesW hT' oS h3
    have q2 : qm t t1 := (qm.thr qm.refl).trans (qm.mk1 f2 kk)
    have q3 : am_I t1 55 3 = 0 := (kk 3 (by omega)).trans thr0
    rcases z with ⟨j, e1, e2, e3⟩ | ⟨P, e1, e2, e3, e4⟩
    · rcases y with ⟨j', d1, d2, d3⟩ | ⟨P, d1, d2, d3⟩
      · rw [e1] at d1
        cases d1
        exact ⟨.inr (oN j), cQ_v (qc.of f1 (by decide)) (by rw [e2, bi_s]), mQ_v q2 (by rw [d2, bi_s]) q3⟩
      · rw [e1] at d1; cases d1
    · rcases y with ⟨j', d1, d2, d3⟩ | ⟨P, d1, d2, d3⟩
      · rw [e1] at d1; cases d1
      · exact ⟨.inr (-1), cQ_v (qc.of f1 (by decide)) (by rw [e2, bi_s]), mQ_v q2 (by rw [d2, bi_s]) q3⟩
  · refine ⟨.inl 3, cQ_x qc.refl (by rw [needWay_no hS.2.1.1 oS.2.2.2.2.1.1 hx, tv_x]), mQ_thr (u := 0) (x := 1) (qm.thr qm.refl) (by rw [if_neg hx, if_pos rfl]; rfl) rfl⟩
theorem J_fold (hS : cS s 1 r c d lw wy hd dr cr en) (oS : okS r c d lw wy hd dr cr en) (hT : mS (am_I t 56) r c d lw wy hd dr cr en) : ∃ o, cQ Value.int s (f_X7_fold x1 x2 s) o ∧ mQ Value.int k312 t (f_X8_fold x1 x2 t) o := by
  have hT' : mS (am_I (am_sI t 55 3 0) 56) r c d lw wy hd dr cr en := by rw [I_ne (by decide)]; exact hT
  unfold f_X7_fold f_X8_fold
  rw [isWay_is hT'.2.1.1 oS.2.2.2.2.1.1, bi_s]
  rcases way_cases oS x1 with ⟨w0, fs, e, h1, h2, h3⟩ | hx
  · subst e
    have hr := hS.2.1.2 w0 fs h3
    have ea : 1 + 10 + 2 * w0 = 11 + 2 * w0 := by omega
    rw [ea] at hr
    have hm := hT'.2.1.2 w0 fs h3
    have h11 := (oS.2.2.2.2.1.2 fs (List.mem_of_getElem? h3)).1
    have fo : ∀ u, u = am_sI t 55 3 0 → f_X8_foldsOf (oN w0) u = some (.inl (some (.int (oN fs.length))), u) := by
      intro u hu
      subst hu
      unfold f_X8_foldsOf
      have e1 : (31 : Int32) + (23 : Int32) * oN w0 = oN (31 + 23 * w0) := by rw [oN_mulR, oN_addR]
      rw [e1, if_pos (by rw [am_in_oN (by omega)]; exact decide_eq_true (by omega)), oN_nat (by omega), hm.1]
    rw [needWay_ok hS.2.1.1 h2 h1, tv_s, mv_r, if_pos (k0_way w0 (by omega)), if_pos (show 0 ≤ (oN w0).toInt ∧ (oN w0).toInt < wy.length by rw [oN_int (by omega)]; omega), if_neg n10]
    have q2 : qm t (am_sI t 55 3 0) := qm.thr qm.refl
    by_cases c1 : x2 = -1
    · rw [if_pos c1, if_pos c1, hr.1, fo _ rfl, bi_s]
      exact ⟨.inr (oN fs.length), cQ_v qc.refl rfl, mQ_v q2 rfl thr0⟩
    · rw [if_neg c1, if_neg c1, fo _ rfl, bi_s]
      unfold f_X7_codeOf
      rw [hr.1, mW (a := 0) (b := (fs.length : Int) - 1) rfl (by rw [Int32.toInt_toInt64, oN_sub1 (by omega)]), bi_s]
      rcases ix_cases x2 fs.length with ⟨i, i1, i2⟩ | hx
      · subst i2
        have hi := List.getElem?_eq_getElem i1
        obtain ⟨g1, g2⟩ := hr.2 i _ hi
        obtain ⟨m1, m2⟩ := hm.2 i _ hi
        rw [Nat.zero_add] at g1 g2
        have e2 : ∀ u, f_X8_foldAt (oN w0) (oN i) u = some (.inl (some (.int (oN (32 + 23 * w0 + 2 * i)))), u) := by
          intro u
          unfold f_X8_foldAt
          have e1 : (31 : Int32) + (23 : Int32) * oN w0 + 1 + 2 * oN i = oN (31 + 23 * w0 + 1 + 2 * i) := by rw [oN_mulR, oN_addR, oN_addL, oN_mulR, oN_add]
          rw [e1, show 31 + 23 * w0 + 1 + 2 * i = 32 + 23 * w0 + 2 * i by omega]
        rw [if_neg (by rw [oN_nonneg (by omega)]; exact id), if_pos ((oN_lt (by omega) (by omega)).mpr i1), f_get0 (by omega), bi_s, f_get1 (by omega), bi_s, g1, g2, if_pos (wi_t.mpr (by rw [oN_int (by omega)]; omega)), if_neg n10, e2, bi_s, bi_s, if_pos (by rw [am_in_oN (by omega)]; exact decide_eq_true (by omega)), e2, bi_s, oN_addL, if_pos (by rw [am_in_oN (by omega)]; exact decide_eq_true (by omega)), oN_nat (by omega), oN_nat (by omega), m1, m2]
        exact ⟨.inr _, cQ_v qc.refl rfl, mQ_v q2 rfl thr0⟩
      · rw [if_neg (show ¬ wi x2.toInt 0 ((fs.length : Int) - 1) = true by rw [wi_t]; omega), if_pos rfl]
        have hc : (if x2 < 0 then some (.inl (some (.int (-1 : Int32))), s) else if x2 < oN fs.length then am_bi (f_X4_get (11 + 2 * w0) x2 (0 : Int32) s) (fun v4 s3 => am_bi (f_X4_get (11 + 2 * w0) x2 (1 : Int32) s3) (fun v6 s5 => some (.inl (some (.int (((100 : Int32) * v4) + v6))), s5))) else some (.inl (some (.int (-1 : Int32))), s) : am_F) = some (.inl (some (.int (-1 : Int32))), s) := by
          by_cases c2 : x2 < 0
          · rw [if_pos c2]
          · rw [if_neg c2, if_neg]
            intro h
            rw [Int32.lt_iff_toInt_lt, oN_int (by omega)] at h
            rw [Int32.lt_iff_toInt_lt, Int32.toInt_zero] at c2
            omega
        rw [hc, bi_s]
        exact ⟨.inr (-1), cQ_v qc.refl rfl, mQ_v q2 rfl thr0⟩
  · refine ⟨.inl 3, cQ_x qc.refl (by rw [needWay_no hS.2.1.1 oS.2.2.2.2.1.1 hx, tv_x]), mQ_thr (u := 0) (x := 1) (qm.thr qm.refl) (by rw [if_neg hx, if_pos rfl]; rfl) rfl⟩
theorem J_make (hS : cS s 1 r c d lw wy hd dr cr en) (oS : okS r c d lw wy hd dr cr en) (hT : mS (am_I t 56) r c d lw wy hd dr cr en) : ∃ o, cQ Value.int s (f_X7_make x1 x2 s) o ∧ mQ Value.int k312 t (f_X8_make x1 x2 t) o := by
  unfold f_X7_make f_X8_make
  refine q_way (z0 := 0) hS oS hT rfl rfl ?_
  intro w0 fs P s1 t1 _ _ _ oP q1 hM q2 hN
  rw [nW (a := 0) (b := 6) rfl rfl]
  have q3 : qm t1 (am_sI t1 55 3 0) := qm.thr qm.refl
  obtain ⟨⟨G, g1, g2, g3, g4⟩, m1, m2, m3, m4, m5⟩ := hM
  obtain ⟨⟨n1, n2, n3, n4⟩, n5, n6, n7, n8, n9, n10'⟩ := hN
  by_cases g : wi x2.toInt 0 6 = true
  · rw [if_pos g, tu_s]
    by_cases c0 : x2 = 0
    · rw [if_pos c0, if_pos c0, g2, n1]; exact ⟨.inr _, cQ_v qc.refl rfl, mQ_v q3 rfl thr0⟩
    · rw [if_neg c0, if_neg c0]
      by_cases c1 : x2 = 1
      · rw [if_pos c1, if_pos c1, g3, n2]; exact ⟨.inr _, cQ_v qc.refl rfl, mQ_v q3 rfl thr0⟩
      · rw [if_neg c1, if_neg c1]
        by_cases c2 : x2 = 2
        · rw [if_pos c2, if_pos c2, m1, n6]; exact ⟨.inr _, cQ_v qc.refl rfl, mQ_v q3 rfl thr0⟩
        · rw [if_neg c2, if_neg c2]
          by_cases c3 : x2 = 3
          · rw [if_pos c3, if_pos c3, m2, n7]; exact ⟨.inr _, cQ_v qc.refl rfl, mQ_v q3 rfl thr0⟩
          · rw [if_neg c3, if_neg c3]
            by_cases c4 : x2 = 4
            · rw [if_pos c4, if_pos c4, m3, n8]; exact ⟨.inr _, cQ_v qc.refl rfl, mQ_v q3 rfl thr0⟩
            · rw [if_neg c4, if_neg c4]
              by_cases c5 : x2 = 5
              · rw [if_pos c5, if_pos c5, m4, n9]; exact ⟨.inr _, cQ_v qc.refl rfl, mQ_v q3 rfl thr0⟩
              · rw [if_neg c5, if_neg c5]
                by_cases c6 : x2 = 6
                · rw [if_pos c6, m5, n10']; exact ⟨.inr _, cQ_v qc.refl rfl, mQ_v q3 rfl thr0⟩
                · exfalso; rw [wi_t] at g; have k0 : ¬ x2.toInt = 0 := fun h => c0 (Int32.toInt_inj.mp h); have k1 : ¬ x2.toInt = 1 := fun h => c1 (Int32.toInt_inj.mp h); have k2 : ¬ x2.toInt = 2 := fun h => c2 (Int32.toInt_inj.mp h); have k3 : ¬ x2.toInt = 3 := fun h => c3 (Int32.toInt_inj.mp h); have k4 : ¬ x2.toInt = 4 := fun h => c4 (Int32.toInt_inj.mp h); have k5 : ¬ x2.toInt = 5 := fun h => c5 (Int32.toInt_inj.mp h); have k6 : ¬ x2.toInt = 6 := fun h => c6 (Int32.toInt_inj.mp h); omega
  · rw [if_neg g, tu_x]
    rw [wi_t] at g
    have hne : ∀ (z : Int32), 0 ≤ z.toInt ∧ z.toInt ≤ 6 → ¬ x2 = z := fun z hz h => g (by rw [h]; exact hz)
    rw [if_neg (hne 0 (by decide)), if_neg (hne 1 (by decide)), if_neg (hne 2 (by decide)), if_neg (hne 3 (by decide)), if_neg (hne 4 (by decide)), if_neg (hne 5 (by decide)), if_neg (hne 6 (by decide))]
    exact ⟨.inl 0, cQ_x qc.refl rfl, mQ_thr (u := 0) (x := 3) q3 rfl rfl⟩
theorem J_layers (hS : cS s 1 r c d lw wy hd dr cr en) (oS : okS r c d lw wy hd dr cr en) (hT : mS (am_I t 56) r c d lw wy hd dr cr en) : ∃ o, cQ Value.int s (f_X7_layers x1 x2 x3 s) o ∧ mQ Value.int k312 t (f_X8_layers x1 x2 x3 t) o := by
  unfold f_X7_layers f_X8_layers
  refine q_way (z0 := 0) hS oS hT rfl rfl ?_
  intro w0 fs P s1 t1 _ _ _ oP q1 hM q2 hN
  have q3 : qm t1 (am_sI t1 55 3 0) := qm.thr qm.refl
  obtain ⟨⟨G, g1, g2, g3, g4⟩, m1, m2, m3, m4, m5⟩ := hM
  obtain ⟨⟨n1, n2, n3, n4⟩, n5, n6, n7, n8, n9, n10'⟩ := hN
  obtain ⟨p1, p2, p3, p4, p5, p6, p7, p8⟩ := oP
  rw [n1, mW (a := 0) (b := (P.1 : Int) - 1) rfl (by rw [Int32.toInt_toInt64, oN_sub1 (by omega)]), bi_s]
  have hno : ¬ (0 ≤ x2.toInt ∧ x2.toInt < P.1) ∨ ¬ (0 ≤ x3.toInt ∧ x3.toInt < P.2.1) → f_X2_layersAt x2 x3 s1 = some (.inl (some (.int (-1))), s1) := by
    intro h
    unfold f_X2_layersAt
    rw [g2, g3]
    by_cases c1 : x2 < 0
    · rw [if_pos c1]
    · rw [if_neg c1]
      by_cases c2 : oN P.1 ≤ x2
      · rw [if_pos c2]
      · rw [if_neg c2]
        by_cases c3 : x3 < 0
        · rw [if_pos c3]
        · rw [if_neg c3, if_neg]
          intro c4
          rw [Int32.lt_iff_toInt_lt, Int32.toInt_zero] at c1 c3
          rw [Int32.le_iff_toInt_le, oN_int (by omega)] at c2
          rw [Int32.lt_iff_toInt_lt, oN_int (by omega)] at c4
          omega
  rcases ix_cases x2 P.1 with ⟨i, i1, i2⟩ | hx
  · have e22 : am_I (am_sI t1 55 3 0) 55 22 = oN P.2.1 := by rw [I_sI, if_neg (by omega)]; exact n2
    rw [if_pos (wi_t.mpr (by rw [i2, oN_int (by omega)]; omega)), if_neg n10, e22, mW (a := 0) (b := (P.2.1 : Int) - 1) rfl (by rw [Int32.toInt_toInt64, oN_sub1 (by omega)]), bi_s]
    rcases ix_cases x3 P.2.1 with ⟨j, j1, j2⟩ | hy
    · have e1 : (12 : Int32) * oN i + oN j = oN (12 * i + j) := by rw [oN_mulR, oN_add]
      rw [if_pos (wi_t.mpr (by rw [j2, oN_int (by omega)]; omega)), if_neg n10, i2, j2, layers_in ⟨g1, g2, g3, g4⟩ i1 j1, bi_s, e1, if_pos (by rw [am_in_oN (by omega)]; exact decide_eq_true (by omega)), oN_nat (by omega), I_ne (by decide), n5 _ (by omega), cnk_is (by omega)]
      exact ⟨.inr _, cQ_v qc.refl rfl, mQ_v q3 rfl thr0⟩
    · rw [hno (Or.inr hy), bi_s, if_neg (show ¬ wi x3.toInt 0 ((P.2.1 : Int) - 1) = true by rw [wi_t]; omega), if_pos rfl]
      exact ⟨.inr (-1), cQ_v qc.refl rfl, mQ_v q3 rfl thr0⟩
  · rw [hno (Or.inl hx), bi_s, if_neg (show ¬ wi x2.toInt 0 ((P.1 : Int) - 1) = true by rw [wi_t]; omega), if_pos rfl]
    exact ⟨.inr (-1), cQ_v qc.refl rfl, mQ_v q3 rfl thr0⟩
theorem subsub {a b : Int32} : a - (a - b) = b := by grind
theorem J_fly (hS : cS s 1 r c d lw wy hd dr cr en) (oS : okS r c d lw wy hd dr cr en) (hX : cX s) (hT : mS (am_I t 56) r c d lw wy hd dr cr en) (hY : mX t) : ∃ o, cQ Value.int s (f_X7_fly x1 x2 x3 x4 x5 s) o ∧ mQ Value.int k312 t (f_X8_fly x1 x2 x3 x4 x5 t) o := by
  unfold f_X7_fly f_X8_fly
  refine q_way (z0 := 0) hS oS hT rfl rfl ?_
  intro w0 fs P s1 t1 _ _ _ oP q1 hM q2 hN
  have q3 : qm t1 (am_sI t1 55 3 0) := qm.thr qm.refl
  rw [needThrow_is, mThrow]
  by_cases g : wi x2.toInt (-9) 9 = true ∧ wi x3.toInt 10 999 = true ∧ wi x4.toInt (-16) 16 = true
  · rw [if_pos g, if_pos g, tu_s, nW (a := 0) (b := 5) rfl rfl, mW (a := 0) (b := 5) rfl rfl, bi_s]
    by_cases g5 : wi x5.toInt 0 5 = true
    · rw [if_pos g5, if_pos g5, tu_s, if_neg n10]
      obtain ⟨s2, z1, z2, z3⟩ := c_flyP (e := x2) (hS.qc oS q1) oS (hX.qc q1) oP hM g.2.1 g.2.2
      obtain ⟨t2, y1, y2, y3, y4, y5⟩ := m_flyP (n := 200) (e := x2) (Nat.le_refl _) (t := am_sI t1 55 3 0) (by rw [(q2.thr).I]; exact hT) oS (hY.qm q2.thr) oP hN.thr g.2.1 g.2.2
      have y1' : f_X8_flies x2 x3 x4 200 (am_sI t1 55 3 0) = some (.inl none, t2) := y1
      obtain ⟨a1, a2, a3, a4, a5, a6, a7, a8, a9, a10, a11⟩ := z3
      obtain ⟨b1, b2, b3, b4, b5, b6, b7, b8, b9, b10, b11⟩ := y5
      have h3 : am_I t2 55 3 = 0 := (y3 3 (by omega)).trans thr0
      rw [z1, bu_s, y1', bu_s]
      refine ⟨.inr (if x5 = 0 then am_I s2 41 4 else if x5 = 1 then am_I s2 41 11 else if x5 = 2 then am_I s2 41 12 else if x5 = 3 then am_I s2 41 15 else if x5 = 4 then am_abs (am_I s2 41 13) / 1024 else if am_I s2 41 11 - am_I s2 41 14 < 20 then -1 else am_I s2 41 14 + 1), cQ_v (qc.of z2 (by decide)) ?_, mQ_v (q3.trans y4) ?_ h3⟩
      · unfold f_X1_loops f_X1_evenFrom
        by_cases c0 : x5 = 0
        · rw [if_pos c0, if_pos c0]
        · rw [if_neg c0, if_neg c0]
          by_cases c1 : x5 = 1
          · rw [if_pos c1, if_pos c1]
          · rw [if_neg c1, if_neg c1]
            by_cases c2 : x5 = 2
            · rw [if_pos c2, if_pos c2]
            · rw [if_neg c2, if_neg c2]
              by_cases c3 : x5 = 3
              · rw [if_pos c3, if_pos c3]
              · rw [if_neg c3, if_neg c3]
                by_cases c4 : x5 = 4
                · rw [if_pos c4, if_pos c4, bi_s]
                · rw [if_neg c4, if_neg c4]
                  by_cases c6 : am_I s2 41 11 - am_I s2 41 14 < 20
                  · rw [if_pos c6, if_pos c6, bi_s]
                  · rw [if_neg c6, if_neg c6, bi_s]
      · rw [b1, b7, b8, b11, b9, b10, a1, a7, a8, a11, a9, a10]
        by_cases c0 : x5 = 0
        · rw [if_pos c0, if_pos c0]
        · rw [if_neg c0, if_neg c0]
          by_cases c1 : x5 = 1
          · rw [if_pos c1, if_pos c1]
          · rw [if_neg c1, if_neg c1]
            by_cases c2 : x5 = 2
            · rw [if_pos c2, if_pos c2]
            · rw [if_neg c2, if_neg c2]
              by_cases c3 : x5 = 3
              · rw [if_pos c3, if_pos c3]
              · rw [if_neg c3, if_neg c3]
                by_cases c4 : x5 = 4
                · rw [if_pos c4, if_pos c4]
                · rw [if_neg c4, if_neg c4]
                  generalize (flS (EoS lw d dr cr P x2) 200 (fl0 x3 (dirOf x4))) = F
                  by_cases c6 : F.2.2.2.2.2.2.1 - F.2.2.2.2.2.2.2.2.2.1 < 20
                  · rw [if_pos c6, if_pos c6]
                  · rw [if_neg c6, if_neg c6, subsub]
    · rw [if_neg g5, tu_x, if_neg g5, if_pos rfl]
      exact ⟨.inl 0, cQ_x qc.refl rfl, mQ_thr (u := 0) (x := 3) q3 rfl rfl⟩
  · rw [if_neg g, if_neg g, tu_x]
    exact ⟨.inl 0, cQ_x qc.refl rfl, mQ_thr (u := 0) (x := 3) q3 rfl rfl⟩
end Q1
