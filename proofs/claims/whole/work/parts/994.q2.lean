/-! ===== several flights ===== -/
def mfl (t t1 : am_S) : Prop := fr [55, 65, 66] t t1 ∧ (∀ k, k < 30 ∨ (41 < k ∧ k ≠ 45) → am_I t1 55 k = am_I t 55 k) ∧ (mSi t → mSi t1)
def CI (s : am_S) (r c d : Int32) (lw : Nat → Int32) (wy : List (List T2)) (hd : List (List T3)) (dr : List T3) (cr : List T2) (en : List T3) (P : Ppr) : Prop := cS s 1 r c d lw wy hd dr cr en ∧ cX s ∧ cM s P
def MI (t : am_S) (r c d : Int32) (lw : Nat → Int32) (wy : List (List T2)) (hd : List (List T3)) (dr : List T3) (cr : List T2) (en : List T3) (P : Ppr) : Prop := mS (am_I t 56) r c d lw wy hd dr cr en ∧ mX t ∧ mM t P
section Q2
variable {s s1 t t1 t2 : am_S} {x x1 x2 x3 x4 x5 x6 x7 e v sl la : Int32} {r c d : Int32} {lw : Nat → Int32} {wy : List (List T2)} {hd : List (List T3)} {dr : List T3} {cr : List T2} {en : List T3} {P : Ppr} {l : List T3} {a : Nat}
theorem mfl.refl : mfl t t := ⟨fr.refl, fun _ _ => rfl, id⟩
theorem mfl.trans (h : mfl t t1) (h' : mfl t1 t2) : mfl t t2 := ⟨h.1.trans h'.1, fun k hk => (h'.2.1 k hk).trans (h.2.1 k hk), fun x => h'.2.2 (h.2.2 x)⟩
theorem mfl.qm (h : mfl t t1) : qm t t1 := ⟨h.1.mono (by decide), fun k hk => h.2.1 k (by omega), h.2.1 42 (by omega), h.2.2⟩
theorem CI.fl (h : CI s r c d lw wy hd dr cr en P) (oS : okS r c d lw wy hd dr cr en) (f : fr [41] s s1) : CI s1 r c d lw wy hd dr cr en P := ⟨h.1.qc oS (qc.of f (by decide)), h.2.1.qc (qc.of f (by decide)), h.2.2.fl f⟩
theorem MI.fl (h : MI t r c d lw wy hd dr cr en P) (f : mfl t t1) : MI t1 r c d lw wy hd dr cr en P := ⟨by rw [f.qm.I]; exact h.1, h.2.1.qm f.qm, h.2.2.fl f.1 f.2.1⟩
theorem MI.thr (h : MI t r c d lw wy hd dr cr en P) : MI (am_sI t 55 3 x) r c d lw wy hd dr cr en P := ⟨by rw [I_ne (by decide)]; exact h.1, h.2.1.qm (qm.thr qm.refl), h.2.2.thr⟩
theorem inc1 (h : -1000 ≤ x.toInt ∧ x.toInt ≤ 1000) : (x + 1).toInt = x.toInt + 1 := by
  rw [Int32.toInt_add, Int32.toInt_one, Int.bmod_eq_of_le (by omega) (by omega)]
theorem flyC (h : CI s r c d lw wy hd dr cr en P) (oS : okS r c d lw wy hd dr cr en) (oP : okP P) (hv : wi v.toInt 10 999 = true) (hs : wi sl.toInt (-16) 16 = true) :
    ∃ s', f_X1_flyOut e v sl s = some (.inl none, s') ∧ fr [41] s s' ∧ am_I s' 41 4 = (flS (EoS lw d dr cr P e) 200 (fl0 v (dirOf sl))).1 ∧ am_I s' 41 11 = (flS (EoS lw d dr cr P e) 200 (fl0 v (dirOf sl))).2.2.2.2.2.2.1 ∧ f_X1_score la s' = some (.inl (some (.int (scS la (flS (EoS lw d dr cr P e) 200 (fl0 v (dirOf sl)))))), s') := by
  obtain ⟨s', z1, z2, z3⟩ := c_flyP (e := e) h.1 oS h.2.1 oP h.2.2 hv hs
  exact ⟨s', z1, z2, z3.1, z3.2.2.2.2.2.2.1, score_is z3.1 z3.2.2.2.2.2.2.1⟩
theorem flyM (h : MI t r c d lw wy hd dr cr en P) (oS : okS r c d lw wy hd dr cr en) (oP : okP P) (hv : wi v.toInt 10 999 = true) (hs : wi sl.toInt (-16) 16 = true) :
    ∃ t', f_X8_flies e v sl 200 t = some (.inl none, t') ∧ mfl t t' ∧ am_I t' 55 31 = (flS (EoS lw d dr cr P e) 200 (fl0 v (dirOf sl))).1 ∧ am_I t' 55 37 = (flS (EoS lw d dr cr P e) 200 (fl0 v (dirOf sl))).2.2.2.2.2.2.1 ∧ f_X8_far e v sl la t = some (.inl (some (.int (scS la (flS (EoS lw d dr cr P e) 200 (fl0 v (dirOf sl)))))), t') := by
  obtain ⟨t', y1, y2, y3, y4, y5⟩ := m_flyP (n := 200) (e := e) (Nat.le_refl _) h.1 oS h.2.1 oP h.2.2 hv hs
  have y1' : f_X8_flies e v sl 200 t = some (.inl none, t') := y1
  refine ⟨t', y1', ⟨y2, y3, y4.2.2.2⟩, y5.1, y5.2.2.2.2.2.2.1, ?_⟩
  unfold f_X8_far scS
  rw [y1', bu_s]
  by_cases c : la = 0
  · rw [if_pos c, if_pos c, y5.1]
  · rw [if_neg c, if_neg c, y5.2.2.2.2.2.2.1]
theorem rchC (h : CI s r c d lw wy hd dr cr en P) (oS : okS r c d lw wy hd dr cr en) (oP : okP P) (ha : hd[a]? = some l) :
    ∃ s', f_X7_reachOf (23 + 2 * a) e la s = some (.inl (some (.long (rcS (EoS lw d dr cr P e) la 0 l))), s') ∧ fr [41] s s' := by
  have hal := (List.getElem?_eq_some_iff.mp ha).1
  have h5 := oS.2.2.2.2.2.1.1
  have hm := oS.2.2.2.2.2.1.2 l (List.mem_of_getElem? ha)
  have hr := h.1.2.2.1.2 a l ha
  have ea : 1 + 22 + 2 * a = 23 + 2 * a := by omega
  rw [ea] at hr
  exact c_reach (by omega) hm.1 hm.2 (EoS_ok (e := e) oS oP).1 h.2.1.1 (cB_of h.1 h.2.2) hr
theorem rchM (h : MI t r c d lw wy hd dr cr en P) (oS : okS r c d lw wy hd dr cr en) (oP : okP P) (ha : hd[a]? = some l) :
    ∃ t', f_X8_reachOf e (oN a) la t = some (.inl (some (.long (rcS (EoS lw d dr cr P e) la 0 l))), t') ∧ mfl t t' := by
  have hal := (List.getElem?_eq_some_iff.mp ha).1
  have h5 := oS.2.2.2.2.2.1.1
  have hm := oS.2.2.2.2.2.1.2 l (List.mem_of_getElem? ha)
  have hr := h.1.2.2.1.2 a l ha
  obtain ⟨t', z1, z2, z3, z4⟩ := m_reach (la := la) (show a < 5 by omega) hm.1 hm.2 (EoS_ok (e := e) oS oP).2 (EoS_ok (e := e) oS oP).1 (mB_of h.1 h.2.2 h.2.1.2) hr.1 hr.2
  exact ⟨t', z1, z2, z4, fun _ => z3⟩
theorem at_in {E : hE} (oE : okE E) {n : Nat} (hn : n ≤ 200) : ∀ (m i : Nat) (s : am_S) (F : hF), n - i < m → i ≤ n → cF s → cE s E → cFl s F → okFl F → F.2.2.2.2.2.2.1 = oN i →
    ∃ s', L_X7_at_46 m (oN n) x6 (oN i) s = some (.inr ((), s')) ∧ fr [41] s s' ∧ cE s' E ∧ cFl s' (flS E (n - i) F) := by
  intro m
  induction m with
  | zero => intro i s F hm; exact absurd hm (Nat.not_lt_zero _)
  | succ m ih =>
    intro i s F hm hi hf hE hF oF ht
    rw [L_X7_at_46]
    by_cases e : n ≤ i
    · rw [if_pos ((oN_le (by omega) (by omega)).mpr e), show n - i = 0 by omega]
      exact ⟨s, rfl, fr.refl, hE, hF⟩
    · have hg := goesOn_is (F := F) (i := i) hF.2.2.2.2.2.2.2.2.2.2 (hF.2.2.2.2.2.2.1.trans ht) (by omega)
      rw [if_neg (fun hh => e ((oN_le (by omega) (by omega)).mp hh))]
      by_cases c : F.2.2.2.2.2.2.2.2.2.2 = 0
      · rw [if_pos ⟨c, by omega⟩] at hg
        rw [hg, bi_s, if_neg n10]
        obtain ⟨s1, z1, z2, z3, z4, z5⟩ := c_tick hf hE oE hF oF c
        rw [z1, bu_s, oN_addL]
        obtain ⟨s', y1, y2, y3, y4⟩ := ih (i + 1) s1 (tkF E F) (by omega) (by omega) (cF_fr hf z2 (by decide) (by decide)) z3 z4 (okFl_tk oF) (by rw [tk_ticks, ht, oN_addL])
        refine ⟨s', y1, z2.trans y2, y3, ?_⟩
        rw [show n - i = (n - (i + 1)) + 1 by omega, flS, if_pos c]
        exact y4
      · rw [if_neg (fun hh => c hh.1)] at hg
        rw [hg, bi_s, if_pos rfl, flS_stop c]
        exact ⟨s, rfl, fr.refl, hE, hF⟩
theorem J_at (hS : cS s 1 r c d lw wy hd dr cr en) (oS : okS r c d lw wy hd dr cr en) (hX : cX s) (hT : mS (am_I t 56) r c d lw wy hd dr cr en) (hY : mX t) : ∃ o, cQ Value.int s (f_X7_at x1 x2 x3 x4 x5 x6 s) o ∧ mQ Value.int k312 t (f_X8_at x1 x2 x3 x4 x5 x6 t) o := by
  unfold f_X7_at f_X8_at
  refine q_way (z0 := 0) hS oS hT rfl rfl ?_
  intro w0 fs P s1 t1 _ _ _ oP q1 hM q2 hN
  have q3 : qm t1 (am_sI t1 55 3 0) := qm.thr qm.refl
  rw [needThrow_is, mThrow]
  by_cases g : wi x2.toInt (-9) 9 = true ∧ wi x3.toInt 10 999 = true ∧ wi x4.toInt (-16) 16 = true
  · rw [if_pos g, if_pos g, tu_s, nW (a := 0) (b := 200) rfl rfl, mW (a := 0) (b := 200) rfl rfl, bi_s]
    by_cases g5 : wi x5.toInt 0 200 = true
    · rw [if_pos g5, if_pos g5, tu_s, if_neg n10, nW (a := 0) (b := 5) rfl rfl, mW (a := 0) (b := 5) rfl rfl, bi_s]
      by_cases g6 : wi x6.toInt 0 5 = true
      · rw [if_pos g6, if_pos g6, tu_s, if_neg n10]
        rw [wi_t] at g5
        obtain ⟨n, e1, e2, e3⟩ := oN_of g5.1
        subst e1
        have hX1 := hX.qc q1
        have hs := wi_t.mp g.2.2
        obtain ⟨s2, z1, z2, z3, z4⟩ := begin_is (e := x2) (v := x3) hX1.1 (cB_of (hS.qc oS q1) hM) (dir_and hs) (dir_lt hs)
        obtain ⟨s3, w1, w2, w3, w4⟩ := at_in (x6 := x6) (EoS_ok (e := x2) oS oP).1 (show n ≤ 200 by omega) ax_fuel 0 s2 (fl0 x3 (dirOf x4)) (by rw [ax_fuel_is]; omega) (by omega) (cF_fr hX1.1 z2 (by decide) (by decide)) z3 z4 (okFl_0 (wi_t.mp g.2.1) (dir_lt hs)) rfl
        have w1' : L_X7_at_46 ax_fuel (oN n) x6 0 s2 = some (.inr ((), s3)) := w1
        obtain ⟨t2, y1, y2, y3, y4, y5⟩ := m_flyP (n := n) (e := x2) (by omega) (t := am_sI t1 55 3 0) (by rw [(q2.thr).I]; exact hT) oS (hY.qm q2.thr) oP hN.thr g.2.1 g.2.2
        obtain ⟨a1, a2, a3, a4, a5, a6, a7, a8, a9, a10, a11⟩ := w4
        obtain ⟨b1, b2, b3, b4, b5, b6, b7, b8, b9, b10, b11⟩ := y5
        have h3 : am_I t2 55 3 = 0 := (y3 3 (by omega)).trans thr0
        rw [z1, bu_s, w1', lm_e, y1, bu_s]
        refine ⟨.inr (if x6 = 0 then am_I s3 41 4 else if x6 = 1 then am_I s3 41 5 else if x6 = 2 then am_I s3 41 6 else if x6 = 3 then am_I s3 41 7 else if x6 = 4 then am_I s3 41 8 else am_I s3 41 9), cQ_v (qc.of (z2.trans w2) (by decide)) ?_, mQ_v (q3.trans y4) ?_ h3⟩
        · by_cases c0 : x6 = 0
          · rw [if_pos c0, if_pos c0]
          · rw [if_neg c0, if_neg c0]
            by_cases c1 : x6 = 1
            · rw [if_pos c1, if_pos c1]
            · rw [if_neg c1, if_neg c1]
              by_cases c2 : x6 = 2
              · rw [if_pos c2, if_pos c2]
              · rw [if_neg c2, if_neg c2]
                by_cases c3 : x6 = 3
                · rw [if_pos c3, if_pos c3]
                · rw [if_neg c3, if_neg c3]
                  by_cases c4 : x6 = 4
                  · rw [if_pos c4, if_pos c4]
                  · rw [if_neg c4, if_neg c4]
        · rw [b1, b2, b3, b4, b5, b6, a1, a2, a3, a4, a5, a6, Nat.sub_zero]
          by_cases c0 : x6 = 0
          · rw [if_pos c0, if_pos c0]
          · rw [if_neg c0, if_neg c0]
            by_cases c1 : x6 = 1
            · rw [if_pos c1, if_pos c1]
            · rw [if_neg c1, if_neg c1]
              by_cases c2 : x6 = 2
              · rw [if_pos c2, if_pos c2]
              · rw [if_neg c2, if_neg c2]
                by_cases c3 : x6 = 3
                · rw [if_pos c3, if_pos c3]
                · rw [if_neg c3, if_neg c3]
                  by_cases c4 : x6 = 4
                  · rw [if_pos c4, if_pos c4]
                  · rw [if_neg c4, if_neg c4]
      · rw [if_neg g6, tu_x, if_neg g6, if_pos rfl]
        exact ⟨.inl 0, cQ_x qc.refl rfl, mQ_thr (u := 0) (x := 3) q3 rfl rfl⟩
    · rw [if_neg g5, tu_x, if_neg g5, if_pos rfl]
      exact ⟨.inl 0, cQ_x qc.refl rfl, mQ_thr (u := 0) (x := 3) q3 rfl rfl⟩
  · rw [if_neg g, if_neg g, tu_x]
    exact ⟨.inl 0, cQ_x qc.refl rfl, mQ_thr (u := 0) (x := 3) q3 rfl rfl⟩
theorem J_reach (hS : cS s 1 r c d lw wy hd dr cr en) (oS : okS r c d lw wy hd dr cr en) (hX : cX s) (hT : mS (am_I t 56) r c d lw wy hd dr cr en) (hY : mX t) : ∃ o, cQ Value.long s (f_X7_reach x1 x2 x3 x4 s) o ∧ mQ Value.long k312 t (f_X8_reach x1 x2 x3 x4 t) o := by
  unfold f_X7_reach f_X8_reach
  refine q_hand (z0 := 0) (K := fun t3 t9 s13 => am_tu (f_X7_needEars x2 s13) (fun s15 => am_bl (f_X7_reachOf t9 x2 x4 s15) (fun v18 s17 => some (.inl (some (.long v18)), s17)))) hS oS hT rfl rfl ?_
  intro w0 a fs l P s1 t1 _ ey _ _ _ ha _ _ _ oP q1 hM q2 hN
  subst ey
  have q3 : qm t1 (am_sI t1 55 3 0) := qm.thr qm.refl
  rw [needEars_is, isEars_is, bi_s]
  by_cases g : wi x2.toInt (-9) 9 = true
  · rw [if_pos g, if_pos g, tu_s, if_neg n10]
    obtain ⟨s2, z1, z2⟩ := rchC (e := x2) (la := x4) ⟨hS.qc oS q1, hX.qc q1, hM⟩ oS oP ha
    obtain ⟨t2, y1, y2⟩ := rchM (e := x2) (la := x4) (MI.thr (x := 0) ⟨by rw [q2.I]; exact hT, hY.qm q2, hN⟩) oS oP ha
    rw [z1, bl_s, y1, bl_s]
    exact ⟨.inr _, cQ_v (qc.of z2 (by decide)) rfl, mQ_v (q3.trans y2.qm) rfl ((y2.2.1 3 (by omega)).trans thr0)⟩
  · rw [if_neg g, if_neg g, tu_x, if_pos rfl]
    exact ⟨.inl 0, cQ_x qc.refl rfl, mQ_thr (u := 0) (x := 3) q3 rfl rfl⟩
theorem slant_in (oS : okS r c d lw wy hd dr cr en) (oP : okP P) (hv : wi v.toInt 10 999 = true) : ∀ (n m1 m2 : Nat) (x7 b mo : Int32) (s t : am_S), n < m1 → n < m2 → x7.toInt + n = 17 → n ≤ 32 → CI s r c d lw wy hd dr cr en P → MI t r c d lw wy hd dr cr en P →
    ∃ b' s' t', L_X7_slant_33 m1 e v la b mo x7 s = some (.inr (b', s')) ∧ L_X8_slant_58 m2 e v la b mo x7 t = some (.inr (b', t')) ∧ fr [41] s s' ∧ mfl t t' := by
  intro n
  induction n with
  | zero =>
    intro m1 m2 x7 b mo s t h1 h2 hx hn hC hM
    obtain ⟨m1, rfl⟩ := Nat.exists_eq_add_of_lt h1
    obtain ⟨m2, rfl⟩ := Nat.exists_eq_add_of_lt h2
    have t16 : (16 : Int32).toInt = 16 := rfl
    have c1 : (16 : Int32) < x7 := by rw [Int32.lt_iff_toInt_lt, t16]; omega
    rw [L_X7_slant_33, L_X8_slant_58, if_pos c1, if_pos c1]
    exact ⟨b, s, t, rfl, rfl, fr.refl, mfl.refl⟩
  | succ n ih =>
    intro m1 m2 x7 b mo s t h1 h2 hx hn hC hM
    obtain ⟨m1, rfl⟩ := Nat.exists_eq_add_of_lt h1
    obtain ⟨m2, rfl⟩ := Nat.exists_eq_add_of_lt h2
    have t16 : (16 : Int32).toInt = 16 := rfl
    have t17 : (-16 : Int32).toInt = -16 := rfl
    have c1 : ¬ (16 : Int32) < x7 := by rw [Int32.lt_iff_toInt_lt, t16]; omega
    have c2 : ¬ x7 = -16 := fun h => by rw [h, t17] at hx; omega
    have hs : wi x7.toInt (-16) 16 = true := wi_t.mpr (by omega)
    have hi := inc1 (x := x7) (by omega)
    rw [L_X7_slant_33, L_X8_slant_58, if_neg c1, if_neg c1]
    obtain ⟨s1, z1, z2, _, _, z3⟩ := flyC (e := e) (la := la) hC oS oP hv hs
    obtain ⟨t1, y1, y2, _, _, y3⟩ := flyM (e := e) (la := la) hM oS oP hv hs
    rw [z1, bu_s, z3, bi_s, jn_s, if_neg c2, y3, bi_s]
    generalize scS la (flS (EoS lw d dr cr P e) 200 (fl0 v (dirOf x7))) = w
    by_cases c3 : w ≤ mo
    · obtain ⟨b', s', t', k1, k2, k3, k4⟩ := ih (n + 1 + m1) (n + 1 + m2) (x7 + 1) b mo s1 t1 (by omega) (by omega) (by omega) (by omega) (hC.fl oS z2) (hM.fl y2)
      rw [if_pos c3, if_neg (fun hh => Int32.not_lt.mpr c3 hh)]
      exact ⟨b', s', t', k1, k2, z2.trans k3, y2.trans k4⟩
    · obtain ⟨b', s', t', k1, k2, k3, k4⟩ := ih (n + 1 + m1) (n + 1 + m2) (x7 + 1) x7 w s1 t1 (by omega) (by omega) (by omega) (by omega) (hC.fl oS z2) (hM.fl y2)
      rw [if_neg c3, if_pos (Int32.not_le.mp c3)]
      exact ⟨b', s', t', k1, k2, z2.trans k3, y2.trans k4⟩
end Q2
