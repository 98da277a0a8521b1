/-! ===== change, mend ===== -/
section MEND
variable {s s1 t t1 t2 : am_S} {T : hT} {X : hX} {x y x1 x2 x3 x4 x5 x6 x7 e v sl la : Int32} {r c d : Int32} {lw : Nat → Int32} {wy : List (List T2)} {hd : List (List T3)} {dr : List T3} {cr : List T2} {en : List T3} {P : Ppr} {l : List T3} {fs fs' : List T2} {q q0 : T2} {a w i f : Nat} {B : hB} {α : Type} {wv : α → Option Value} {k : Nat → Int32}
theorem cZ.qc (h : cZ s T X) (oT : tO T) (oX : xO X) (q : qc s s1) : cZ s1 T X := ⟨cS.qc h.1 oT q, h.2.1.qc q, h.2.2.1.keep q.1 (by decide), h.2.2.2.keep oX q.1 (by decide)⟩
theorem mZ.qm (h : mZ t T X) (q : qm t t1) : mZ t1 T X := ⟨by rw [q.I]; exact h.1, h.2.1.qm q, h.2.2.keep q.1 (by decide) (q.2.1 7 (by omega)) (q.2.1 15 (by omega)) (q.2.1 16 (by omega))⟩
theorem mZ.qw {T' : hT} (h : mZ t T X) (q : qw t t1) (hT : tM (am_I t1 56) T') : mZ t1 T' X := ⟨hT, h.2.1.qw q, h.2.2.keep q.1 (by decide) (q.2.1 7 (by omega)) (q.2.1 15 (by omega)) (q.2.1 16 (by omega))⟩
theorem JW.pre {fc fm : am_F} (h1 : fr cA s s1) (h2 : fr mA t t1) (h : JW wv k s1 t1 fc fm) : JW wv k s t fc fm := by
  obtain ⟨o, T, X, oT, oX, ⟨s2, f2, c2, e2⟩, ⟨t2, v, g2, m2, d2, d3⟩⟩ := h
  exact ⟨o, T, X, oT, oX, ⟨s2, h1.trans f2, c2, e2⟩, ⟨t2, v, h2.trans g2, m2, d2, d3⟩⟩
theorem qc.cA (q : qc s s1) : fr cA s s1 := q.1.mono (by decide)
theorem qm.mA (q : qm t t1) : fr mA t t1 := q.1.mono (by decide)
theorem qw.mA (q : qw t t1) : fr mA t t1 := q.1.mono (by decide)
theorem q_handW {K : Nat → Nat → am_S → am_F} {G : Int32 → am_S → am_F} {z0 : α} (hC : cZ s (r, c, d, lw, wy, hd, dr, cr, en) X) (hM : mZ t (r, c, d, lw, wy, hd, dr, cr, en) X) (oS : okS r c d lw wy hd dr cr en) (oX : xO X) (hk3 : k 3 = 1) (hk1 : k 1 = 2)
    (hk : ∀ (w0 a : Nat) (fs : List T2) (l : List T3) (P : Ppr) (s1 t1 : am_S), x = oN w0 → y = oN a → w0 < 6 → a < 5 → wy[w0]? = some fs → hd[a]? = some l → mkS r c fs = .inr P → okP P → cZ s1 (r, c, d, lw, wy, hd, dr, cr, en) X → cM s1 P → mZ t1 (r, c, d, lw, wy, hd, dr, cr, en) X → mM t1 P → JW wv k s1 t1 (K (11 + 2 * w0) (23 + 2 * a) s1) (G 0 t1)) :
    JW wv k s t (am_tv (f_X7_needWay x s) (fun v2 s1 => am_mv v2 none (fun t3 => if am_k0 t3 = (4, 0) ∧ t3 < 72 then am_tv (f_X7_needHand y s1) (fun v8 s7 => am_mv v8 none (fun t9 => if am_k0 t9 = (4, 0) ∧ t9 < 72 then am_tu (f_X7_needMake t3 s7) (K t3 t9) else none)) else none)))
      (am_bi (f_X8_handFault x y t) (fun v2 s1 => if v2 ≤ 0 then G v2 s1 else some (.inl (wv z0), am_sI s1 55 3 v2))) := by
  have hS : cS s 1 r c d lw wy hd dr cr en := hC.1
  have hT : mS (am_I t 56) r c d lw wy hd dr cr en := hM.1
  rcases way_cases oS x with ⟨w0, fs, e, h1, h2, h3⟩ | hx
  · subst e
    rw [needWay_ok hS.2.1.1 h2 h1, tv_s, mv_r, if_pos (k0_way w0 (by omega))]
    rcases hand_cases oS y with ⟨a, l, e, g1, g2, g3, g4, g5⟩ | hy
    · subst e
      rw [needHand_ok hS.2.2.1.1 g2 g1, tv_s, mv_r, if_pos (k0_hand a (by omega)), handFault_is hT oS h1 g1]
      obtain ⟨s1, f1, ⟨j, e1, e2⟩ | ⟨P, e1, e2, e3, e4⟩⟩ := c_needMake hS oS h3
      · obtain ⟨t1, f2, kk, ⟨j', d1, d2⟩ | ⟨P, d1, d2, d3, d4⟩⟩ := m_wayFault hT oS h3
        · have q1 : qc s s1 := qc.of f1 (by decide)
          have q2 : qm t t1 := qm.mk1 f2 kk
          rw [e2, tu_x, d2, bi_s, bi_s, if_neg (le0 (Or.inr (Or.inl rfl)))]
          exact ⟨.inl 1, (r, c, d, lw, wy, hd, dr, cr, en), X, oS, oX, ⟨s1, q1.cA, hC.qc oS oX q1, rfl⟩, ⟨_, z0, q2.mA.sI (by decide), (hM.qm q2).thr, rfl, thr0.trans hk1.symm⟩⟩
        · rw [e1] at d1; cases d1
      · obtain ⟨t1, f2, kk, ⟨j', d1, d2⟩ | ⟨P', d1, d2, d3, d4⟩⟩ := m_wayFault hT oS h3
        · rw [e1] at d1; cases d1
        · rw [e1] at d1
          cases d1
          have q1 : qc s s1 := qc.of f1 (by decide)
          have q2 : qm t t1 := qm.mk1 f2 kk
          have l0 : (0 : Int32) ≤ 0 := by decide
          rw [e2, tu_s, d2, bi_s, bi_s, if_pos l0]
          exact JW.pre q1.cA q2.mA (hk w0 a fs l P s1 t1 rfl rfl (by omega) (by omega) h3 g3 e1 e3 (hC.qc oS oX q1) e4 (hM.qm q2) d4)
    · rw [needHand_no hS.2.2.1.1 oS.2.2.2.2.2.1.1 hy, tv_x, handFault_no hT oS (Or.inr hy), bi_s, if_neg (le0 (Or.inl rfl))]
      exact ⟨.inl 3, (r, c, d, lw, wy, hd, dr, cr, en), X, oS, oX, ⟨s, fr.refl, hC, rfl⟩, ⟨_, z0, fr.refl.sI (by decide), hM.thr, rfl, thr0.trans hk3.symm⟩⟩
  · rw [needWay_no hS.2.1.1 oS.2.2.2.2.1.1 hx, tv_x, handFault_no hT oS (Or.inl hx), bi_s, if_neg (le0 (Or.inl rfl))]
    exact ⟨.inl 3, (r, c, d, lw, wy, hd, dr, cr, en), X, oS, oX, ⟨s, fr.refl, hC, rfl⟩, ⟨_, z0, fr.refl.sI (by decide), hM.thr, rfl, thr0.trans hk3.symm⟩⟩
theorem W_change (hC : cZ s T X) (hM : mZ t T X) (oT : tO T) (oX : xO X) : JW (fun v => some (Value.long v)) k312 s t (f_X7_change x1 x2 x3 x4 x5 s) (f_X8_change x1 x2 x3 x4 x5 t) := by
  obtain ⟨r, c, d, lw, wy, hd, dr, cr, en⟩ := T
  have oS : okS r c d lw wy hd dr cr en := oT
  unfold f_X7_change f_X8_change
  refine q_handW (z0 := 0) (K := fun t3 t9 s13 => am_tu (f_X7_needEars x2 s13) (fun s15 => am_tu (f_X7_needWithin x5 (0 : Int32) (2 : Int32) s15) (fun s17 => am_bu (f_X7_findBestChange t3 t9 x2 x4 s17) (fun s19 => if (am_I s19 45 0) = (-1 : Int32) then some (.inl (some (.long (-1 : Int64))), s19) else if x5 = (0 : Int32) then some (.inl (some (.long (am_I s19 45 0).toInt64)), s19) else if x5 = (1 : Int32) then some (.inl (some (.long (((100 : Int32) * (am_I s19 45 1)) + (am_I s19 45 2)).toInt64)), s19) else some (.inl (some (.long (am_L s19 45 3))), s19))))) hC hM oS oX rfl rfl ?_
  intro w0 a fs l P s1 t1 ex ey hw5 ha5 hw ha hmk oP hC1 hP1 hM1 hQ1
  subst ex ey
  have hM1' : mZ (am_sI t1 55 3 0) (r, c, d, lw, wy, hd, dr, cr, en) X := hM1.thr
  have f3 : fr mA t1 (am_sI t1 55 3 0) := fr.refl.sI (by decide)
  rw [needEars_is, isEars_is, bi_s, jn_s]
  by_cases g : wi x2.toInt (-9) 9 = true
  · rw [if_pos g, if_pos g, tu_s, if_neg n10, nW (a := 0) (b := 2) rfl rfl, mW (a := 0) (b := 2) rfl rfl, bi_s]
    by_cases g2 : wi x5.toInt 0 2 = true
    · rw [if_pos g2, if_pos g2, tu_s, if_neg n10]
      obtain ⟨s2, z1, z2, z3⟩ := chgC (e := x2) (la := x4) oS ha hw hC1.1 hC1.2.1
      obtain ⟨t2, y1, y2, y3, y4⟩ := chgM (e := x2) (la := x4) oS ha hw hM1'.1 hM1'.2.1
      have k3 : am_I t2 55 3 = 0 := (y2.2.1 3 (by omega)).trans thr0
      have hfo := fcW_o (lw := lw) (d := d) (dr := dr) (cr := cr) (la := x4) (l := l) (e := x2) (r := r) (c := c) (fs := fs)
      have hfl := (oB oS).2.1 w0 fs hw
      have fin : ∀ v : Int64, JW (fun v => some (Value.long v)) k312 s1 t1 (some (.inl (some (.long v)), s2)) (some (.inl (some (.long v)), t2)) := fun v =>
        ⟨.inr v, _, X, oT, oX, ⟨s2, z2.cA, hC1.qc oS oX z2, rfl⟩, ⟨t2, v, f3.trans y2.mA, hM1'.qw y2 y3, rfl, k3, rfl⟩⟩
      rw [z1, bu_s, y1, bu_s]
      generalize hB : fcW lw d dr cr x4 l x2 r c fs = B at z3 y4 hfo
      cases B with
      | none =>
        rw [if_pos (show am_I s2 45 0 = -1 from z3), if_pos (show am_I t2 55 47 = -1 from y4)]
        exact fin _
      | some b =>
        have hbo := hfo b rfl
        rw [z3.1, z3.2.1, z3.2.2.1, z3.2.2.2, y4.1, y4.2.1, y4.2.2, if_neg (oN_not (by omega)), if_neg (oN_not (by omega))]
        by_cases c0 : x5 = 0
        · rw [if_pos c0, if_pos c0]; exact fin _
        · rw [if_neg c0, if_neg c0]
          by_cases c1 : x5 = 1
          · have e100 : (100 : Int32) * (kf b.2.1).1 + (kf b.2.1).2 = oN (100 * (b.2.1 / 6) + (b.2.1 % 6 + 1)) := by
              show (100 : Int32) * oN (b.2.1 / 6) + oN (b.2.1 % 6 + 1) = _
              rw [oN_mulR, oN_add]
            rw [if_pos c1, if_pos c1, e100]; exact fin _
          · rw [if_neg c1, if_neg c1]; exact fin _
    · rw [if_neg g2, if_neg g2, tu_x, if_pos rfl]
      exact ⟨.inl 0, _, X, oT, oX, ⟨s1, fr.refl, hC1, rfl⟩, ⟨_, 0, f3.sI (by decide), hM1'.thr, rfl, thr0⟩⟩
  · rw [if_neg g, if_neg g, tu_x, if_pos rfl]
    exact ⟨.inl 0, _, X, oT, oX, ⟨s1, fr.refl, hC1, rfl⟩, ⟨_, 0, f3.sI (by decide), hM1'.thr, rfl, thr0⟩⟩
theorem cS_set (hS : cS s 1 r c d lw wy hd dr cr en) (oS : okS r c d lw wy hd dr cr en) (hw : wy[w]? = some fs) (hi : i < fs.length) : cS (putF (11 + 2 * w) i q s) 1 r c d lw (wy.set w (fs.set i q)) hd dr cr en := by
  obtain ⟨b1, b2, b3, b4, b5, b6, b7⟩ := oB oS
  have hwl := (List.getElem?_eq_some_iff.mp hw).1
  have hr : cR2 s (11 + 2 * w) fs := by have := hS.2.1.2 w fs hw; rw [show 1 + 10 + 2 * w = 11 + 2 * w by omega] at this; exact this
  have f1 : fr [11 + 2 * w + 1] s (putF (11 + 2 * w) i q s) := putF_fr
  refine cS.ways (wy' := wy.set w (fs.set i q)) hS b1 b3 ?_ ?_ ?_ ?_ ?_
  · intro j h1 h2; exact f1.I (by simp; omega)
  · intro k hk; rw [f1.I (by simp)]
  · rw [f1.I (by simp), List.length_set]; exact hS.2.1.1
  · intro w' p hp
    have hl' := (List.getElem?_eq_some_iff.mp hp).1
    rw [List.length_set] at hl'
    rcases get_set hp with ⟨h1, h2⟩ | ⟨h1, h2⟩
    · exact (hS.2.1.2 w' p h2).same (by rw [f1.I (by simp; omega)]) (by rw [f1.I (by simp; omega)])
    · subst h1 h2
      rw [show 1 + 10 + 2 * w' = 11 + 2 * w' by omega]
      exact putF_2 hr hi
  · intro w' hw'; rw [f1.I (by simp; omega)]
theorem d100 : ∀ f : Nat, f < 18 → oN (100 * (f / 6) + (f % 6 + 1)) / (100 : Int32) = oN (f / 6) ∧ oN (100 * (f / 6) + (f % 6 + 1)) - oN (100 * (f / 6) + (f % 6 + 1)) / (100 : Int32) * (100 : Int32) = oN (f % 6 + 1) := by decide
theorem mend_in (ha : hd[a]? = some l) (oX : xO X) : ∀ (n m1 m2 j : Nat) (now : Int64) (wy : List (List T2)) (fs : List T2) (s t : am_S), n < m1 → n + 1 < m2 → j + n = 4 → okS r c d lw wy hd dr cr en → wy[w]? = some fs → cZ s (r, c, d, lw, wy, hd, dr, cr, en) X → mZ t (r, c, d, lw, wy, hd, dr, cr, en) X →
    ∃ k s' t' wy', L_X7_mend_38 m1 e la (11 + 2 * w) (23 + 2 * a) now (oN j) s = some (.inr (k, s')) ∧ L_X8_mend_48 m2 (oN w) e (oN a) la now (oN j) 1 t = some (.inr (k, t')) ∧ okS r c d lw wy' hd dr cr en ∧ fr cA s s' ∧ fr mA t t' ∧ cZ s' (r, c, d, lw, wy', hd, dr, cr, en) X ∧ mZ t' (r, c, d, lw, wy', hd, dr, cr, en) X ∧ am_I t' 55 3 = am_I t 55 3 := by
  intro n
  induction n with
  | zero =>
    intro m1 m2 j now wy fs s t h1 h2 hj oS hw hC hM
    obtain ⟨m1, rfl⟩ : ∃ q, m1 = q + 1 := ⟨m1 - 1, by omega⟩
    obtain ⟨m2, rfl⟩ : ∃ q, m2 = q + 1 := ⟨m2 - 1, by omega⟩
    obtain rfl : j = 4 := by omega
    rw [L_X7_mend_38, L_X8_mend_48, if_pos (by decide), if_neg n10, if_pos (by decide)]
    exact ⟨_, s, t, wy, rfl, rfl, oS, fr.refl, fr.refl, hC, hM, rfl⟩
  | succ n ih =>
    intro m1 m2 j now wy fs s t h1 h2 hj oS hw hC hM
    obtain ⟨m1, rfl⟩ : ∃ q, m1 = q + 1 := ⟨m1 - 1, by omega⟩
    obtain ⟨m2, rfl⟩ : ∃ q, m2 = q + 1 + 1 := ⟨m2 - 2, by omega⟩
    have hwl := (List.getElem?_eq_some_iff.mp hw).1
    obtain ⟨b1, b2, b3, b4, b5, b6, b7⟩ := oB oS
    have hfl := b2 w fs hw
    have hok := oS.2.2.2.2.1.2 fs (List.mem_of_getElem? hw)
    obtain ⟨s2, z1, z2, z3⟩ := chgC (e := e) (la := la) oS ha hw hC.1 hC.2.1
    obtain ⟨t2, y1, y2, y3, y4⟩ := chgM (e := e) (la := la) oS ha hw hM.1 hM.2.1
    have hfo := fcW_o (lw := lw) (d := d) (dr := dr) (cr := cr) (la := la) (l := l) (e := e) (r := r) (c := c) (fs := fs)
    have hC2 := hC.qc oS oX z2
    have hM2 : mZ t2 (r, c, d, lw, wy, hd, dr, cr, en) X := hM.qw y2 y3
    have k3 : am_I t2 55 3 = am_I t 55 3 := y2.2.1 3 (by omega)
    have stop : ∃ k s' t' wy', (some (.inr (oN j, s2)) : am_FE Int32) = some (.inr (k, s')) ∧ L_X8_mend_48 (m2 + 1) (oN w) e (oN a) la now (oN j) 0 t2 = some (.inr (k, t')) ∧ okS r c d lw wy' hd dr cr en ∧ fr cA s s' ∧ fr mA t t' ∧ cZ s' (r, c, d, lw, wy', hd, dr, cr, en) X ∧ mZ t' (r, c, d, lw, wy', hd, dr, cr, en) X ∧ am_I t' 55 3 = am_I t 55 3 := by
      rw [L_X8_mend_48, if_pos rfl]
      exact ⟨_, s2, t2, wy, rfl, rfl, oS, z2.cA, y2.mA, hC2, hM2, k3⟩
    rw [L_X7_mend_38, L_X8_mend_48, if_neg (by rw [oN_leR (by omega) (by omega)]; omega), if_neg n10, if_neg (by rw [oN_leR (by omega) (by omega)]; omega), z1, bu_s, y1, bu_s, jn_s, jn_s]
    generalize hB : fcW lw d dr cr la l e r c fs = B at z3 y4 hfo
    cases B with
    | none =>
      rw [if_pos (show am_I s2 45 0 = -1 from z3), if_pos (show am_I t2 55 47 = -1 from y4)]
      dsimp only
      rw [if_pos rfl]
      exact stop
    | some b =>
      have hbo := hfo b rfl
      rw [z3.1, z3.2.1, z3.2.2.1, z3.2.2.2, y4.1, y4.2.2, if_neg (oN_not (by omega)), if_neg (oN_not (by omega))]
      by_cases c0 : b.2.2 ≤ now
      · rw [if_neg (Int64.not_lt.mpr c0), if_pos c0]
        dsimp only
        rw [if_pos rfl]
        exact stop
      · rw [if_pos (Int64.not_le.mp c0), if_neg c0]
        dsimp only
        obtain ⟨g1, g2⟩ := d100 b.2.1 hbo.2
        have p1 : oN (32 + 23 * w + 2 * b.1) + 1 = oN (32 + 23 * w + 2 * b.1 + 1) := oN_addL
        have in1 : am_in (oN (32 + 23 * w + 2 * b.1)) 264 = true := in_o (by omega) (by omega)
        have in2 : am_in (oN (32 + 23 * w + 2 * b.1 + 1)) 264 = true := in_o (by omega) (by omega)
        have e1 : ∀ {p : Nat} {z : Int32}, am_I (am_sI t2 56 p z) 55 = am_I t2 55 := fun {p z} => I_ne (by decide)
        have eL : ∀ {p : Nat} {z : Int32}, am_L (am_sI t2 56 p z) = am_L t2 := rfl
        have ept : am_sI (am_sI t2 56 (32 + 23 * w + 2 * b.1) (oN (b.2.1 / 6))) 56 (32 + 23 * w + 2 * b.1 + 1) (oN (b.2.1 % 6 + 1)) = putM w b.1 (kf b.2.1) t2 := rfl
        rw [if_neg n10, y4.1, foldAt_is, bi_s, if_pos in1, y4.1, y4.2.1, g1, oN_nat (a := 32 + 23 * w + 2 * b.1) (by omega), foldAt_is, bi_s, p1, if_pos in2, e1, y4.2.1, g2, oN_nat (a := 32 + 23 * w + 2 * b.1 + 1) (by omega), ept, putF_is (by omega), bu_s, oN_addL]
        have eL2 : am_L (am_sI t2 56 (32 + 23 * w + 2 * b.1) (oN (b.2.1 / 6))) 55 49 = b.2.2 := y4.2.2
        rw [eL2]
        have oS' : okS r c d lw (wy.set w (fs.set b.1 (kf b.2.1))) hd dr cr en := okS_set oS (by rw [List.length_set]; exact hok.1) (set_ok hok.2 (kf_ok hbo.2))
        have fp : fr [11 + 2 * w + 1] s2 (putF (11 + 2 * w) b.1 (kf b.2.1) s2) := putF_fr
        have hC3 : cZ (putF (11 + 2 * w) b.1 (kf b.2.1) s2) (r, c, d, lw, wy.set w (fs.set b.1 (kf b.2.1)), hd, dr, cr, en) X := hC2.upd oX fp (by simp; omega) (cS_set hC2.1 oS hw hbo.1)
        have hM3 : mZ (putM w b.1 (kf b.2.1) t2) (r, c, d, lw, wy.set w (fs.set b.1 (kf b.2.1)), hd, dr, cr, en) X := hM2.qw putM_qw (putM_S hM2.1 oS hw hbo.1)
        obtain ⟨k, s', t', wy', u1, u2, u3, u4, u5, u6, u7, u8⟩ := ih m1 (m2 + 1) (j + 1) b.2.2 (wy.set w (fs.set b.1 (kf b.2.1))) (fs.set b.1 (kf b.2.1)) _ _ (by omega) (by omega) (by omega) oS' (List.getElem?_set_self hwl) hC3 hM3
        refine ⟨k, s', t', wy', u1, u2, u3, z2.cA.trans ((fp.mono (by simp [cA]; omega)).trans u4), y2.mA.trans (putM_qw.mA.trans u5), u6, u7, ?_⟩
        rw [u8, putM_fr.I (by decide)]; exact k3
theorem W_mend (hC : cZ s T X) (hM : mZ t T X) (oT : tO T) (oX : xO X) : JW (fun v => some (Value.int v)) k312 s t (f_X7_mend x1 x2 x3 x4 s) (f_X8_mend x1 x2 x3 x4 t) := by
  obtain ⟨r, c, d, lw, wy, hd, dr, cr, en⟩ := T
  have oS : okS r c d lw wy hd dr cr en := oT
  unfold f_X7_mend f_X8_mend
  refine q_handW (z0 := 0) (K := fun t3 t9 s13 => am_tu (f_X7_needEars x2 s13) (fun s15 => am_bl (f_X7_reachOf t9 x2 x4 s15) (fun v18 s17 => am_lm (L_X7_mend_38 ax_fuel x2 x4 t3 t9 v18 (0 : Int32) s17) (fun e26 s27 => some (.inl (some (.int e26)), s27))))) hC hM oS oX rfl rfl ?_
  intro w0 a fs l P s1 t1 ex ey hw5 ha5 hw ha hmk oP hC1 hP1 hM1 hQ1
  subst ex ey
  have hM1' : mZ (am_sI t1 55 3 0) (r, c, d, lw, wy, hd, dr, cr, en) X := hM1.thr
  have f3 : fr mA t1 (am_sI t1 55 3 0) := fr.refl.sI (by decide)
  rw [needEars_is, isEars_is, bi_s]
  by_cases g : wi x2.toInt (-9) 9 = true
  · rw [if_pos g, if_pos g, tu_s, if_neg n10]
    obtain ⟨s2, z1, z2⟩ := rchC (e := x2) (la := x4) ⟨hC1.1, hC1.2.1, hP1⟩ oS oP ha
    obtain ⟨t2, y1, y2⟩ := rchM (e := x2) (la := x4) (MI.thr (x := 0) ⟨hM1.1, hM1.2.1, hQ1⟩) oS oP ha
    have q2 : qc s1 s2 := qc.of z2 (by decide)
    obtain ⟨k, s', t', wy', u1, u2, u3, u4, u5, u6, u7, u8⟩ := mend_in (w := w0) (e := x2) (la := x4) (r := r) (c := c) (d := d) (lw := lw) (dr := dr) (cr := cr) (en := en) ha oX 4 ax_fuel ax_fuel 0 (rcS (EoS lw d dr cr P x2) x4 0 l) wy fs s2 t2 (by rw [ax_fuel_is]; omega) (by rw [ax_fuel_is]; omega) (by omega) oS hw (hC1.qc oS oX q2) (hM1'.qm y2.qm)
    have u1' : L_X7_mend_38 ax_fuel x2 x4 (11 + 2 * w0) (23 + 2 * a) (rcS (EoS lw d dr cr P x2) x4 0 l) 0 s2 = some (.inr (k, s')) := u1
    have u2' : L_X8_mend_48 ax_fuel (oN w0) x2 (oN a) x4 (rcS (EoS lw d dr cr P x2) x4 0 l) 0 1 t2 = some (.inr (k, t')) := u2
    rw [z1, bl_s, u1', lm_e, y1, bl_s, u2', lm_e]
    exact ⟨.inr k, (r, c, d, lw, wy', hd, dr, cr, en), X, u3, oX, ⟨s', q2.cA.trans u4, u6, rfl⟩, ⟨t', k, f3.trans (y2.qm.mA.trans u5), u7, rfl, u8.trans ((y2.2.1 3 (by omega)).trans thr0), rfl⟩⟩
  · rw [if_neg g, if_neg g, tu_x, if_pos rfl]
    exact ⟨.inl 0, _, X, oT, oX, ⟨s1, fr.refl, hC1, rfl⟩, ⟨_, 0, f3.sI (by decide), hM1'.thr, rfl, thr0⟩⟩
end MEND
