/-! ===== ways of two folds ===== -/
section FN2
variable {s s1 t t1 t2 : am_S} {T : hT} {X : hX} {x y x1 x2 x3 x4 x5 : Int32} {r c d : Int32} {lw : Nat → Int32} {wy : List (List T2)} {hd : List (List T3)} {dr : List T3} {cr : List T2} {en : List T3} {P P1 : Ppr} {L : List T2} {q : T2} {f g : Nat}
theorem t18b : ∀ f : Nat, f < 18 → (oN f - oN (f / 6) * (6 : Int32)) = oN (f % 6) := by decide
theorem e100 (f : Nat) : (100 : Int32) * oN (f / 6) + oN (f % 6) + 1 = (100 : Int32) * (kf f).1 + (kf f).2 := by
  show _ = (100 : Int32) * oN (f / 6) + oN (f % 6 + 1)
  rw [oN_mulR, oN_add, oN_add, oN_addL]; rfl
theorem n01 : ¬ ((0 : Int32) = -1) := by decide
theorem n1m : ¬ ((1 : Int32) = -1) := by decide
theorem cod2 (hf : f < 18) (hg : g < 18) : ((if x3 = 0 then
                      if x3 = (-1 : Int32) then
                        some (.inl (.inl (some (.int (2 : Int32))), t))
                      else
                        am_bi (f_X8_within x3.toInt64 (0 : Int64) (1 : Int64) t) (fun v39 s38 =>
                          if v39 = 0 then
                            some (.inl (.inl (some (.int (-1 : Int32))), s38))
                          else
                            some (.inl (.inl (some (.int ((((100 : Int32) * oN (f / 6)) + (oN f - oN (f / 6) * (6 : Int32))) + (1 : Int32)))), s38))
                        )
                    else
                      if x3 = (-1 : Int32) then
                        some (.inl (.inl (some (.int (2 : Int32))), t))
                      else
                        am_bi (f_X8_within x3.toInt64 (0 : Int64) (1 : Int64) t) (fun v35 s34 =>
                          if v35 = 0 then
                            some (.inl (.inl (some (.int (-1 : Int32))), s34))
                          else
                            some (.inl (.inl (some (.int ((((100 : Int32) * oN (g / 6)) + (oN g - oN (g / 6) * (6 : Int32))) + (1 : Int32)))), s34))
                        ) : am_FE Unit)) = some (.inl (.inl (some (.int (codS [kf f, kf g] x3))), t)) := by
  rw [t18b f hf, t18b g hg, e100, e100, f_within, bi_s, bi_s]
  unfold codS
  by_cases c1 : x3 = -1
  · rw [if_pos c1, if_pos c1, if_pos c1]
    by_cases c2 : x3 = 0
    · rw [if_pos c2]; rfl
    · rw [if_neg c2]; rfl
  · rw [if_neg c1, if_neg c1, if_neg c1]
    by_cases c2 : x3 = 0
    · rw [if_pos c2, if_pos c2]
      subst c2
      rw [if_pos (show wi (0 : Int32).toInt64.toInt (0 : Int64).toInt (1 : Int64).toInt = true by decide), if_neg n10]; rfl
    · rw [if_neg c2, if_neg c2]
      by_cases c3 : x3 = 1
      · rw [if_pos c3]
        subst c3
        rw [if_pos (show wi (1 : Int32).toInt64.toInt (0 : Int64).toInt (1 : Int64).toInt = true by decide), if_neg n10]; rfl
      · rw [if_neg c3]
        have hw : ¬ wi x3.toInt64.toInt (0 : Int64).toInt (1 : Int64).toInt = true := by
          rw [Int32.toInt_toInt64, wi_t, show (0 : Int64).toInt = 0 from rfl, show (1 : Int64).toInt = 1 from rfl]
          intro h
          have : x3.toInt = 0 ∨ x3.toInt = 1 := by omega
          rcases this with h | h
          · exact c2 (Int32.toInt_inj.mp (by rw [h]; rfl))
          · exact c3 (Int32.toInt_inj.mp (by rw [h]; rfl))
        rw [if_neg hw, if_pos rfl]
theorem no_in (oS : okS r c d lw wy hd dr cr en) (hf : f < 18) (h0 : ff f (flR r c) = none) : ∀ (n m g : Nat) (t : am_S), n < m → g + n = 18 → mS (am_I t 56) r c d lw wy hd dr cr en →
    ∃ t', qm3 t t' ∧ L_X8_found_124 m x1 x2 x3 (oN f) (oN g) t = some (.inr ((), t')) := by
  intro n
  induction n with
  | zero =>
    intro m g t h1 hg hT
    obtain ⟨m, rfl⟩ : ∃ q, m = q + 1 := ⟨m - 1, by omega⟩
    obtain rfl : g = 18 := by omega
    rw [L_X8_found_124, if_pos (by decide)]
    exact ⟨t, qm3.refl, rfl⟩
  | succ n ih =>
    intro m g t h1 hg hT
    obtain ⟨m, rfl⟩ : ∃ q, m = q + 1 := ⟨m - 1, by omega⟩
    have hle : ¬ (18 : Int32) ≤ oN g := by rw [oN_leR (by omega) (by omega)]; omega
    obtain ⟨k1, k2⟩ := t18 f hf
    obtain ⟨t1, y1, y2, y3⟩ := flat_m hT oS
    obtain ⟨t2, w1, w2⟩ := fold_m (f := f) (flR_ok oS) y3 hf
    rcases w2 with ⟨P', e1, e2, e3, e4⟩ | ⟨e1, e2⟩
    · rw [h0] at e1; cases e1
    · obtain ⟨t', g1, g2⟩ := ih m (g + 1) t2 (by omega) (by omega) (by rw [(y2.trans w1).1.I]; exact hT)
      rw [L_X8_found_124, if_neg hle, y1, bu_s, k2, k1, e2, bi_s, if_pos rfl, oN_addL]
      exact ⟨t', (y2.trans w1).trans g1, g2⟩
theorem sec_in (oS : okS r c d lw wy hd dr cr en) (hf : f < 18) (h0 : ff f (flR r c) = some P1) (oP : okP P1) (G : Nat) : ∀ (n m1 m2 g : Nat) (s t : am_S), n < m1 → n < m2 → g + n = 18 → am_I s 42 1 = 11 → cR2 s 42 [kf f] → cPp s G P1.1 P1.2.1 (ct P1.2.2) → mS (am_I t 56) r c d lw wy hd dr cr en →
    ∃ s' t', qc s s' ∧ qm3 t t' ∧ ((L_X7_findSecond_13 m1 x1 x2 (oN g) s = some (.inr ((), s')) ∧ L_X8_found_124 m2 x1 x2 x3 (oN f) (oN g) t = some (.inr ((), t'))) ∨ (∃ L, L.length ≤ 2 ∧ L_X7_findSecond_13 m1 x1 x2 (oN g) s = some (.inl (.inl (some (.int 1)), s')) ∧ cR2 s' 42 L ∧ L_X8_found_124 m2 x1 x2 x3 (oN f) (oN g) t = some (.inl (.inl (some (.int (codS L x3))), t')))) := by
  intro n
  induction n with
  | zero =>
    intro m1 m2 g s t h1 h2 hg h11 hR hp hT
    obtain ⟨m1, rfl⟩ : ∃ q, m1 = q + 1 := ⟨m1 - 1, by omega⟩
    obtain ⟨m2, rfl⟩ : ∃ q, m2 = q + 1 := ⟨m2 - 1, by omega⟩
    obtain rfl : g = 18 := by omega
    rw [L_X7_findSecond_13, L_X8_found_124, if_pos (by decide), if_pos (by decide)]
    exact ⟨s, t, qc.refl, qm3.refl, Or.inl ⟨rfl, rfl⟩⟩
  | succ n ih =>
    intro m1 m2 g s t h1 h2 hg h11 hR hp hT
    obtain ⟨m1, rfl⟩ : ∃ q, m1 = q + 1 := ⟨m1 - 1, by omega⟩
    obtain ⟨m2, rfl⟩ : ∃ q, m2 = q + 1 := ⟨m2 - 1, by omega⟩
    have hle : ¬ (18 : Int32) ≤ oN g := by rw [oN_leR (by omega) (by omega)]; omega
    have hg8 : g < 18 := by omega
    obtain ⟨k1, k2⟩ := t18 f hf
    obtain ⟨j1, j2⟩ := t18 g hg8
    obtain ⟨s1, z1, z2, z3⟩ := pcp_from hp
    obtain ⟨s2, v1, v2⟩ := c_fold (k := g / 6) (n := g % 6 + 1) z3 oP (by omega) (by omega)
    obtain ⟨t1, y1, y2, y3⟩ := flat_m hT oS
    obtain ⟨t2, w1, w2⟩ := fold_m (f := f) (flR_ok oS) y3 hf
    have f2 : fr [37, 38] s s2 := z2.trans v1
    have hR2 : cR2 s2 42 [kf f] := hR.same (by rw [f2.I (by decide)]) (f2.I (by decide))
    have h112 : am_I s2 42 1 = 11 := by rw [f2.I (by decide)]; exact h11
    have hpp : ∀ {s3}, fr [37, 38] s s3 → cPp s3 G P1.1 P1.2.1 (ct P1.2.2) := by
      intro s3 fq
      unfold cPp
      rw [fq.I (by decide), fq.I (by decide)]
      exact hp
    rcases w2 with ⟨P', e1, e2, e3, e4⟩ | ⟨e1, e2⟩
    · rw [h0] at e1
      cases e1
      obtain ⟨t3, u1, u2⟩ := fold_m (f := g) oP e3 hg8
      have qt3 := (y2.trans w1).trans u1
      rw [L_X7_findSecond_13, L_X8_found_124, if_neg hle, if_neg hle, z1, bu_s, y1, bu_s, k2, k1, j2, j1, e2, bi_s, if_neg n10]
      unfold f_X7_triedKind f_X7_triedN
      rw [bi_s, bi_s, j2, j1, oN_addL]
      rcases v2 with ⟨P2, G', a1, a2, a3⟩ | ⟨a1, a2⟩
      · rcases u2 with ⟨P3, b1, b2, b3, b4⟩ | ⟨b1, b2⟩
        · have : P3 = P2 := Option.some.inj (b1.symm.trans a1)
          subst this
          obtain ⟨s3, l1, l2, l3⟩ := c_weigh b4 a3
          obtain ⟨t4, i1, i2⟩ := found_m (x1 := x1) (x2 := x2) b4 b3
          have f3 : fr [37, 38] s s3 := f2.trans (l2.mono (by decide))
          rw [a2, bi_s, if_neg n10, l1, bu_s, like_c l3, bi_s, bi_s, bi_s, b2, bi_s, if_neg n10, i1, bi_s]
          rcases lk01 (x1 := x1) (x2 := x2) (P := P3) with h | h
          · rw [h, if_pos rfl, if_pos rfl]
            obtain ⟨s', t', g1, g2, g3⟩ := ih m1 m2 (g + 1) s3 t4 (by omega) (by omega) (by omega) (by rw [f3.I (by decide)]; exact h11) (hR.same (by rw [f3.I (by decide)]) (f3.I (by decide))) (hpp f3) (by rw [(qt3.trans i2).1.I]; exact hT)
            exact ⟨s', t', (qc.of f3 (by decide)).trans g1, (qt3.trans i2).trans g2, g3⟩
          · have hR3 : cR2 s3 42 [kf f] := hR.same (by rw [f3.I (by decide)]) (f3.I (by decide))
            have ha := f_add (x := oN (g / 6)) (y := oN (g % 6 + 1)) (z := 0) (m := 1) (L := 11) (a := 42) hR3.1 (show am_I s3 42 1 = oN 11 by rw [f3.I (by decide)]; exact h11) (by decide) (by decide)
            rw [if_pos (by decide)] at ha
            rw [h, if_neg n10, if_neg n10, ha, bi_s, cod2 hf hg8]
            refine ⟨_, t4, ?_, qt3.trans i2, Or.inr ⟨[kf f, kf g], Nat.le_refl 2, rfl, addR_2 hR3, rfl⟩⟩
            refine (qc.of f3 (by decide)).trans ⟨addR_fr.mono (by decide), ?_⟩
            rw [addR_I, if_neg (by omega)]
        · have : some P2 = none := a1.symm.trans b1
          cases this
      · rcases u2 with ⟨P3, b1, b2, b3, b4⟩ | ⟨b1, b2⟩
        · have : none = some P3 := a1.symm.trans b1
          cases this
        · rw [a2, bi_s, if_pos rfl, b2, bi_s, if_pos rfl]
          obtain ⟨s', t', g1, g2, g3⟩ := ih m1 m2 (g + 1) s2 t3 (by omega) (by omega) (by omega) h112 hR2 (hpp f2) (by rw [qt3.1.I]; exact hT)
          exact ⟨s', t', (qc.of f2 (by decide)).trans g1, qt3.trans g2, g3⟩
    · rw [h0] at e1; cases e1
theorem ll_r {E E' : Type} {r : am_O × am_S} {g : E → am_S → am_FE E'} : am_ll (some (.inl r)) g = some (.inl r) := rfl
theorem two_in (oS : okS r c d lw wy hd dr cr en) : ∀ (n m1 m2 f : Nat) (s t : am_S), n < m1 → n < m2 → f + n = 18 → cS s 1 r c d lw wy hd dr cr en → cX s → mS (am_I t 56) r c d lw wy hd dr cr en →
    ∃ s' t', qc s s' ∧ qm3 t t' ∧ ((L_X7_findTwoFolds_2 m1 x1 x2 (oN f) s = some (.inr ((), s')) ∧ L_X8_found_114 m2 x1 x2 x3 (oN f) t = some (.inr ((), t'))) ∨ (∃ L, L.length ≤ 2 ∧ L_X7_findTwoFolds_2 m1 x1 x2 (oN f) s = some (.inl (.inl (some (.int 1)), s')) ∧ cR2 s' 42 L ∧ L_X8_found_114 m2 x1 x2 x3 (oN f) t = some (.inl (.inl (some (.int (codS L x3))), t')))) := by
  intro n
  induction n with
  | zero =>
    intro m1 m2 f s t h1 h2 hf hS hX hT
    obtain ⟨m1, rfl⟩ : ∃ q, m1 = q + 1 := ⟨m1 - 1, by omega⟩
    obtain ⟨m2, rfl⟩ : ∃ q, m2 = q + 1 := ⟨m2 - 1, by omega⟩
    obtain rfl : f = 18 := by omega
    rw [L_X7_findTwoFolds_2, L_X8_found_114, if_pos (by decide), if_pos (by decide)]
    exact ⟨s, t, qc.refl, qm3.refl, Or.inl ⟨rfl, rfl⟩⟩
  | succ n ih =>
    intro m1 m2 f s t h1 h2 hf hS hX hT
    obtain ⟨m1, rfl⟩ : ∃ q, m1 = q + 1 := ⟨m1 - 1, by omega⟩
    obtain ⟨m2, rfl⟩ : ∃ q, m2 = q + 1 := ⟨m2 - 1, by omega⟩
    have hf8 : f < 18 := by omega
    have hle : ¬ (18 : Int32) ≤ oN f := by rw [oN_leR (by omega) (by omega)]; omega
    obtain ⟨s1, z1, z2, z3⟩ := try1 (f := f) hX hf8
    have hS1 := hS.qc oS z2
    obtain ⟨s2, v1, v2⟩ := cbrk42 hS1 oS (fs := [kf f]) (by show 1 ≤ 11; omega) (by intro q hq; rw [List.mem_singleton.mp hq]; exact kf_ok hf8) z3
    rw [mk1_is hf8] at v2
    have q2 : qc s s2 := z2.trans (qc.of v1 (by decide))
    rw [L_X7_findTwoFolds_2, L_X8_found_114, if_neg hle, if_neg hle, z1, bu_s, oN_addL]
    cases h0 : ff f (flR r c) with
    | none =>
      rw [h0] at v2
      rcases v2 with ⟨j, d1, d2, d3⟩ | ⟨P, d1, d2, d3, d4⟩
      · obtain ⟨t1, g1, g2⟩ := no_in (x1 := x1) (x2 := x2) (x3 := x3) oS hf8 h0 18 ax_fuel 0 t (by rw [ax_fuel_is]; omega) (by omega) hT
        rw [d2, bi_s, if_neg (oN_not (by omega)), show L_X8_found_124 ax_fuel x1 x2 x3 (oN f) (0 : Int32) t = _ from g2, ll_e]
        obtain ⟨s', t', i1, i2, i3⟩ := ih m1 m2 (f + 1) s2 t1 (by omega) (by omega) (by omega) (hS.qc oS q2) (hX.qc q2) (by rw [g1.1.I]; exact hT)
        exact ⟨s', t', q2.trans i1, g1.trans i2, i3⟩
      · cases d1
    | some P1 =>
      rw [h0] at v2
      rcases v2 with ⟨j, d1, d2, d3⟩ | ⟨P, d1, d2, d3, d4⟩
      · cases d1
      · have : P1 = P := Sum.inr.inj d1
        subst this
        obtain ⟨G, hp⟩ := d4.1
        obtain ⟨s3, p1, p2, p3⟩ := pcp_to hp
        have hR3 : cR2 s3 42 [kf f] := z3.same (by rw [p2.I (by decide), v1.I (by decide)]) (by rw [p2.I (by decide), v1.I (by decide)])
        have q3 : qc s s3 := q2.trans (qc.of p2 (by decide))
        obtain ⟨s4, t1, i1, i2, i3⟩ := sec_in (x1 := x1) (x2 := x2) (x3 := x3) oS hf8 h0 d3 G 18 ax_fuel ax_fuel 0 s3 t (by rw [ax_fuel_is]; omega) (by rw [ax_fuel_is]; omega) (by omega) (hX.qc q3).2 hR3 p3 hT
        have q4 := q3.trans i1
        rw [d2, bi_s, if_pos rfl]
        unfold f_X7_findSecond
        rw [p1, bu_s]
        rcases i3 with ⟨a1, a2⟩ | ⟨L, a0, a1, a2, a3⟩
        · rw [show L_X7_findSecond_13 ax_fuel x1 x2 (0 : Int32) s3 = _ from a1, show L_X8_found_124 ax_fuel x1 x2 x3 (oN f) (0 : Int32) t = _ from a2, lm_e, ll_e, bi_s, if_pos rfl]
          obtain ⟨s', t', b1, b2, b3⟩ := ih m1 m2 (f + 1) s4 t1 (by omega) (by omega) (by omega) (hS.qc oS q4) (hX.qc q4) (by rw [i2.1.I]; exact hT)
          exact ⟨s', t', q4.trans b1, i2.trans b2, b3⟩
        · rw [show L_X7_findSecond_13 ax_fuel x1 x2 (0 : Int32) s3 = _ from a1, show L_X8_found_124 ax_fuel x1 x2 x3 (oN f) (0 : Int32) t = _ from a3, lm_r, ll_r, bi_s, if_neg n10]
          exact ⟨s4, t1, q4, i2, Or.inr ⟨L, a0, rfl, a2, rfl⟩⟩
theorem J_found (hS : cS s 1 r c d lw wy hd dr cr en) (oS : okS r c d lw wy hd dr cr en) (hX : cX s) (hT : mS (am_I t 56) r c d lw wy hd dr cr en) : ∃ o, cQ Value.int s (f_X7_found x1 x2 x3 s) o ∧ mQ Value.int k312 t (f_X8_found x1 x2 x3 t) o := by
  have qs : qc s (am_sI s 42 2 0) := ⟨fr.mono (fr.refl.sI (A := [42]) (by simp)) (by decide), by rw [I_sI, if_neg (by omega)]⟩
  have h0 : cR2 (am_sI s 42 2 0) 42 [] := ⟨by rw [I_sI, if_pos ⟨rfl, rfl⟩]; rfl, fun i q h => by cases h⟩
  have hS0 := hS.qc oS qs
  obtain ⟨s1, v1, v2⟩ := cbrk42 hS0 oS (fs := []) (by show 0 ≤ 11; omega) (by intro q hq; cases hq) h0
  have q1 : qc s s1 := qs.trans (qc.of v1 (by decide))
  have hT0 : mS (am_I (am_sI t 55 3 0) 56) r c d lw wy hd dr cr en := by rw [I_ne (by decide)]; exact hT
  obtain ⟨t1, y1, y2, y3⟩ := flat_m hT0 oS
  obtain ⟨t2, u1, u2⟩ := found_m (x1 := x1) (x2 := x2) (flR_ok oS) y3
  have qt := y2.trans u2
  have m3 : ∀ {t3}, qm3 (am_sI t 55 3 0) t3 → qm t t3 ∧ am_I t3 55 3 = 0 := by
    intro t3 h
    exact ⟨(qm.thr qm.refl).trans h.1, h.2.trans (by rw [I_sI, if_pos ⟨rfl, rfl⟩])⟩
  have hm : mkS r c [] = .inr (flR r c) := rfl
  rw [hm] at v2
  rcases v2 with ⟨j, d1, d2, d3⟩ | ⟨P, d1, d2, d3, d4⟩
  · cases d1
  · cases d1
    have hno : f_X7_findNoFold x1 x2 s = some (.inl (some (.int (lkS x1 x2 (flR r c)))), s1) := by
      unfold f_X7_findNoFold
      rw [d2, bi_s, like_c d4, bi_s, if_pos lk01]
    unfold f_X7_found f_X8_found
    rw [hno, bi_s, jn_s, y1, bu_s, u1, bi_s]
    rcases lk01 (x1 := x1) (x2 := x2) (P := flR r c) with h | h
    · rw [h, if_pos rfl, if_pos rfl]
      unfold f_X7_findOneFold
      obtain ⟨s3, t3, i1, i2, i3⟩ := one_in (x1 := x1) (x2 := x2) (x3 := x3) oS 18 ax_fuel ax_fuel 0 s1 t2 (by rw [ax_fuel_is]; omega) (by rw [ax_fuel_is]; omega) (by omega) (hS.qc oS q1) (hX.qc q1) (by rw [qt.1.I]; exact hT0)
      rcases i3 with ⟨a1, a2⟩ | ⟨L, a0, a1, a2, a3⟩
      · rw [show L_X7_findOneFold_2 ax_fuel x1 x2 (0 : Int32) s1 = _ from a1, show L_X8_found_32 ax_fuel x1 x2 x3 (0 : Int32) t2 = _ from a2, lm_e, lm_e, bi_s, if_pos rfl]
        unfold f_X7_findTwoFolds
        have q3 := q1.trans i1
        have qt3 := qt.trans i2
        obtain ⟨s4, t4, b1, b2, b3⟩ := two_in (x1 := x1) (x2 := x2) (x3 := x3) oS 18 ax_fuel ax_fuel 0 s3 t3 (by rw [ax_fuel_is]; omega) (by rw [ax_fuel_is]; omega) (by omega) (hS.qc oS q3) (hX.qc q3) (by rw [qt3.1.I]; exact hT0)
        rcases b3 with ⟨c1, c2⟩ | ⟨L, c0, c1, c2, c3⟩
        · rw [show L_X7_findTwoFolds_2 ax_fuel x1 x2 (0 : Int32) s3 = _ from c1, show L_X8_found_114 ax_fuel x1 x2 x3 (0 : Int32) t3 = _ from c2, lm_e, lm_e, bi_s, if_pos rfl]
          exact ⟨.inr (-1), ⟨s4, q3.trans b1, rfl⟩, ⟨t4, -1, (m3 (qt3.trans b2)).1, rfl, (m3 (qt3.trans b2)).2, rfl⟩⟩
        · rw [show L_X7_findTwoFolds_2 ax_fuel x1 x2 (0 : Int32) s3 = _ from c1, show L_X8_found_114 ax_fuel x1 x2 x3 (0 : Int32) t3 = _ from c3, lm_r, lm_r, bi_s, if_neg n10]
          exact ⟨.inr (codS L x3), ⟨s4, q3.trans b1, code_c c2 c0⟩, ⟨t4, codS L x3, (m3 (qt3.trans b2)).1, rfl, (m3 (qt3.trans b2)).2, rfl⟩⟩
      · rw [show L_X7_findOneFold_2 ax_fuel x1 x2 (0 : Int32) s1 = _ from a1, show L_X8_found_32 ax_fuel x1 x2 x3 (0 : Int32) t2 = _ from a3, lm_r, lm_r, bi_s, if_neg n10]
        exact ⟨.inr (codS L x3), ⟨s3, q1.trans i1, code_c a2 a0⟩, ⟨t3, codS L x3, (m3 (qt.trans i2)).1, rfl, (m3 (qt.trans i2)).2, rfl⟩⟩
    · have hR1 : cR2 s1 42 [] := h0.same (by rw [v1.I (by decide)]) (v1.I (by decide))
      rw [h, if_neg n10, if_neg n10]
      refine ⟨.inr (codS [] x3), ⟨s1, q1, code_c hR1 (by decide)⟩, ⟨t2, codS [] x3, (m3 qt).1, ?_, (m3 qt).2, rfl⟩⟩
      unfold codS
      by_cases c1 : x3 = -1
      · rw [if_pos c1, if_pos c1]; rfl
      · rw [if_neg c1, if_neg c1]
        by_cases c2 : x3 = 0
        · rw [if_pos c2]; rfl
        · rw [if_neg c2]
          by_cases c3 : x3 = 1
          · rw [if_pos c3]; rfl
          · rw [if_neg c3]
end FN2
