section CT3
variable {s : am_S} {E : hE} {F : hF}
theorem cE_fr {s' : am_S} (h : cE s E) (f : fr [41] s s') (hL : am_L s' = am_L s) (h2 : am_I s' 41 2 = am_I s 41 2) : cE s' E := by
  obtain ⟨h1, h3, h4, h5, h6, h7, h8⟩ := h
  exact ⟨fun k hk => by rw [f.I (by decide)]; exact h1 k hk, by rw [f.I (by decide)]; exact h3, by rw [f.I (by decide)]; exact h4, by rw [hL]; exact h5, h2.trans h6, h7.same (by rw [f.I (by decide)]) (by rw [f.I (by decide)]), h8.same (by rw [f.I (by decide)]) (by rw [f.I (by decide)])⟩
theorem pth_lt (a c : Int) : pth a c < 64 := (am64_is (val := pval a c) 64 (by omega)).1
theorem c_tick (hf : cF s) (hE : cE s E) (oE : okE E) (hF : cFl s F) (oF : okFl F) (h0 : F.2.2.2.2.2.2.2.2.2.2 = 0) :
    ∃ s', f_X1_tick s = some (.inl none, s') ∧ fr [41] s s' ∧ cE s' E ∧ cFl s' (tkF E F) ∧ am_I s' 41 10 = F.1 := by
  obtain ⟨lw, A, V, Ld, e, dr, cr⟩ := E
  obtain ⟨x, y, vx, vy, ns, sp, tk, hi, tu, un, en⟩ := F
  have hE0 := hE
  obtain ⟨hlw, hA, hV, hLd, he, hdr, hcr⟩ := hE
  obtain ⟨oL, odr, ocr, oc1⟩ := oE
  obtain ⟨f4, f5, f6, f7, f8, f9, f11, f12, f13, f14, f15⟩ := hF
  obtain ⟨o1, o2, o3, o4⟩ := oF
  simp only at hlw hA hV hLd he hdr hcr oL odr ocr oc1 f4 f5 f6 f7 f8 f9 f11 f12 f13 f14 f15 o1 o2 o3 o4 h0
  have hp := pth_lt vx.toInt vy.toInt
  have ha := atk_b ns (pth vx.toInt vy.toInt)
  obtain ⟨n, a1, a2, a3⟩ := abs_b (b := 8) (by omega) ha
  unfold f_X1_tick
  rw [f6, f7, c_path hf o1 o2, bi_s, f8, attack_is, bi_s, f6, f7, q_32 o1 o2, le_s]
  have i1 : (0 : Int32) + am_abs (atk ns (pth vx.toInt vy.toInt)) = oN n := by
    rw [a1]
    show oN 0 + oN n = oN n
    rw [oN_add, Nat.zero_add]
  have i2 : (9 : Int32) + am_abs (atk ns (pth vx.toInt vy.toInt)) = oN (9 + n) := by rw [a1]; exact oN_addR
  rw [i1, if_pos (by rw [am_in_oN (by omega)]; exact decide_eq_true (by omega)), oN_nat (by omega), hlw n (by omega), force_is hLd oL hA, bl_s, jn_s]
  /- both signs go on alike -/
  have rest : ∃ s', (if am_in ((9 : Int32) + am_abs (atk ns (pth vx.toInt vy.toInt))) 23 = true then
      am_bl (f_X1_force (am_I s 2 ((9 : Int32) + am_abs (atk ns (pth vx.toInt vy.toInt))).toNatClampNeg) (qv vx vy) s) (fun v14 s13 =>
        am_bu (f_X1_turnNose (((((am_I s13 41 2).toInt64 * qv vx vy) - ((am_I s13 37 8).toInt64 * lft lw A Ld (atk ns (pth vx.toInt vy.toInt)) (qv vx vy))) * (am_I s13 2 20).toInt64) / (1000 : Int64)) (am_sI s13 41 11 ((am_I s13 41 11) + (1 : Int32)))) (fun s15 =>
          am_bi (f_X7_sine (oN (pth vx.toInt vy.toInt)) s15) (fun v18 s17 => am_bi (f_X7_cosine (oN (pth vx.toInt vy.toInt)) s17) (fun v20 s19 =>
            am_bi (f_X7_keptWithin ((am_I s19 41 6).toInt64 + ((((-v14) * v20.toInt64) - (lft lw A Ld (atk ns (pth vx.toInt vy.toInt)) (qv vx vy) * v18.toInt64)) / (1000 : Int64))) (2000 : Int32) s19) (fun v22 s21 =>
              am_bi (f_X1_pullNow (am_sI s21 41 6 v22)) (fun v24 s23 =>
                am_bi (f_X7_keptWithin (((am_I s21 41 7).toInt64 + ((((-v14) * v18.toInt64) + (lft lw A Ld (atk ns (pth vx.toInt vy.toInt)) (qv vx vy) * v20.toInt64)) / (1000 : Int64))) - v24.toInt64) (2000 : Int32) s23) (fun v26 s25 =>
            am_bu (f_X1_move (am_sI s25 41 7 v26)) (fun s27 => am_bu (f_X1_noteEnd s27) (fun s29 => (some (.inl none, s29) : am_F)))))))))) else none) = some (.inl none, s') ∧ fr [41] s s' ∧ cE s' (lw, A, V, Ld, e, dr, cr) ∧ cFl s' (tkF (lw, A, V, Ld, e, dr, cr) (x, y, vx, vy, ns, sp, tk, hi, tu, un, en)) ∧ am_I s' 41 10 = x := by
    rw [i2, if_pos (by rw [am_in_oN (by omega)]; exact decide_eq_true (by omega)), oN_nat (by omega), hlw (9 + n) (by omega), force_is hLd oL hA, bl_s, he, hV, hlw 20 (by omega), f11]
    have hdg : frc A Ld (lw (9 + n)) (qv vx vy) = drg lw A Ld (atk ns (pth vx.toInt vy.toInt)) (qv vx vy) := by unfold drg; rw [a3]
    rw [hdg]
    have k0 : ∀ k, k ≠ 11 → am_I (am_sI s 41 11 (tk + 1)) 41 k = am_I s 41 k := fun k hk => by rw [I_sI, if_neg (by omega)]
    have k2 : am_I (am_sI s 41 11 (tk + 1)) 2 = am_I s 2 := I_ne (by decide)
    have k11 : am_I (am_sI s 41 11 (tk + 1)) 41 11 = tk + 1 := by rw [I_sI, if_pos ⟨rfl, rfl⟩]
    have fr0 : fr [41] s (am_sI s 41 11 (tk + 1)) := fr.refl.sI (by simp)
    obtain ⟨s1, t1, t2, t3, t4, t5, t6, t7, t8⟩ := turn_is (s := am_sI s 41 11 (tk + 1)) (pu := (((e.toInt64 * qv vx vy) - (V.toInt64 * lft lw A Ld (atk ns (pth vx.toInt vy.toInt)) (qv vx vy))) * (lw 20).toInt64) / (1000 : Int64))
    rw [k0 9 (by omega), k2, hlw 21 (by omega), f9] at t5 t6 t7 t8
    rw [k0 8 (by omega), f8] at t6
    rw [k0 13 (by omega), f13] at t7
    rw [k11, k0 14 (by omega), f14] at t8
    rw [t1, bu_s]
    have fr1 : fr [41] s s1 := fr0.trans t2
    have e2 : am_I s1 41 2 = am_I s 41 2 := by rw [t4 2 (by omega) (by omega) (by omega) (by omega), k0 2 (by omega)]
    have L1 : am_L s1 = am_L s := t3
    have hE1 := cE_fr hE0 fr1 L1 e2
    obtain ⟨s2, u1, u2, u3, u4, u5, u6⟩ := push_is (s := s1) (p := pth vx.toInt vy.toInt) (lf := lft lw A Ld (atk ns (pth vx.toInt vy.toInt)) (qv vx vy)) (dg := drg lw A Ld (atk ns (pth vx.toInt vy.toInt)) (qv vx vy)) (dr := dr) (cF_fr hf fr1 (by decide) (by decide)) hp odr hE1.2.2.2.2.2.1
    have x6 : am_I s1 41 6 = vx := by rw [t4 6 (by omega) (by omega) (by omega) (by omega), k0 6 (by omega)]; exact f6
    have x7 : am_I s1 41 7 = vy := by rw [t4 7 (by omega) (by omega) (by omega) (by omega), k0 7 (by omega)]; exact f7
    have x11 : am_I s1 41 11 = tk + 1 := by rw [t4 11 (by omega) (by omega) (by omega) (by omega), k11]
    have x18 : am_I s1 2 18 = lw 18 := hE1.1 18 (by omega)
    rw [x6] at u5
    rw [x7, x11, x18] at u6
    rw [u1 (fun s26 => am_bu (f_X1_move s26) (fun s27 => am_bu (f_X1_noteEnd s27) (fun s29 => (some (.inl none, s29) : am_F))))]
    have fr2 : fr [41] s s2 := fr1.trans u2
    obtain ⟨s3, w1, w2, w3, w4, w5, w6, w7, w8, w9⟩ := move_is (s := s2)
    have y22 : am_I s2 2 22 = lw 22 := by rw [fr2.I (by decide)]; exact hlw 22 (by omega)
    have y4 : am_I s2 41 4 = x := by rw [u4 4 (by omega) (by omega), t4 4 (by omega) (by omega) (by omega) (by omega), k0 4 (by omega)]; exact f4
    have y5 : am_I s2 41 5 = y := by rw [u4 5 (by omega) (by omega), t4 5 (by omega) (by omega) (by omega) (by omega), k0 5 (by omega)]; exact f5
    have y12 : am_I s2 41 12 = hi := by rw [u4 12 (by omega) (by omega), t4 12 (by omega) (by omega) (by omega) (by omega), k0 12 (by omega)]; exact f12
    rw [y4] at w5 w6
    rw [u5] at w6
    rw [y22, y5, u6] at w7 w8 w9
    rw [y12] at w9
    rw [w1, bu_s]
    have fr3 : fr [41] s s3 := fr2.trans w2
    have hcr3 : cR2 s3 7 cr := hcr.same (by rw [fr3.I (by decide)]) (by rw [fr3.I (by decide)])
    rw [note_is ocr oc1 w5 w6 w7 hcr3, bu_s]
    have g2 : ∀ k, k = 2 → am_I s3 41 k = am_I s 41 k := fun k hk => by
      rw [w4 k (by omega) (by omega) (by omega) (by omega) (by omega), u4 k (by omega) (by omega), t4 k (by omega) (by omega) (by omega) (by omega), k0 k (by omega)]
    have g11 : am_I s3 41 11 = tk + 1 := by rw [w4 11 (by omega) (by omega) (by omega) (by omega) (by omega), u4 11 (by omega) (by omega)]; exact x11
    have g8 : am_I s3 41 8 = _ := (w4 8 (by omega) (by omega) (by omega) (by omega) (by omega)).trans ((u4 8 (by omega) (by omega)).trans t6)
    have g9 : am_I s3 41 9 = _ := (w4 9 (by omega) (by omega) (by omega) (by omega) (by omega)).trans ((u4 9 (by omega) (by omega)).trans t5)
    have g13 : am_I s3 41 13 = _ := (w4 13 (by omega) (by omega) (by omega) (by omega) (by omega)).trans ((u4 13 (by omega) (by omega)).trans t7)
    have g14 : am_I s3 41 14 = _ := (w4 14 (by omega) (by omega) (by omega) (by omega) (by omega)).trans ((u4 14 (by omega) (by omega)).trans t8)
    have g6 : am_I s3 41 6 = _ := (w4 6 (by omega) (by omega) (by omega) (by omega) (by omega)).trans u5
    have g15 : am_I s3 41 15 = 0 := by
      rw [w4 15 (by omega) (by omega) (by omega) (by omega) (by omega), u4 15 (by omega) (by omega), t4 15 (by omega) (by omega) (by omega) (by omega), k0 15 (by omega), f15]; exact h0
    have L3 : am_L s3 = am_L s := w3.trans (u3.trans L1)
    /- the three ends -/
    unfold tkF
    dsimp only
    generalize hst : stp x (x + kpt (vx.toInt64 + (((-drg lw A Ld (atk ns (pth vx.toInt vy.toInt)) (qv vx vy)) * (Int32.ofInt (cs (pth vx.toInt vy.toInt))).toInt64) - (lft lw A Ld (atk ns (pth vx.toInt vy.toInt)) (qv vx vy) * (Int32.ofInt (sn (pth vx.toInt vy.toInt))).toInt64)) / 1000) 2000) _ 0 cr = st
    by_cases c1 : st = 0
    · rw [if_pos c1, if_pos c1, if_pos c1]
      generalize hy2 : (if lw 22 = -1 then _ else _ : Int32) = y2 at w7 w9 ⊢
      by_cases c2 : 0 < y2
      · rw [if_pos c2, if_pos c2]
        exact ⟨s3, rfl, fr3, cE_fr hE0 fr3 L3 (g2 2 rfl), ⟨w6, w7, g6, w8, g8, g9, g11, w9, g13, g14, g15⟩, w5⟩
      · rw [if_neg c2, if_neg c2]
        have kk : ∀ k, k ≠ 15 → am_I (am_sI s3 41 15 1) 41 k = am_I s3 41 k := fun k hk => by rw [I_sI, if_neg (by omega)]
        refine ⟨_, rfl, fr3.sI (by simp), cE_fr hE0 (fr3.sI (by simp)) L3 ((kk 2 (by omega)).trans (g2 2 rfl)), ⟨(kk 4 (by omega)).trans w6, (kk 5 (by omega)).trans w7, (kk 6 (by omega)).trans g6, (kk 7 (by omega)).trans w8, (kk 8 (by omega)).trans g8, (kk 9 (by omega)).trans g9, (kk 11 (by omega)).trans g11, (kk 12 (by omega)).trans w9, (kk 13 (by omega)).trans g13, (kk 14 (by omega)).trans g14, ?_⟩, (kk 10 (by omega)).trans w5⟩
        rw [I_sI, if_pos ⟨rfl, rfl⟩]
    · rw [if_neg c1, if_neg c1, if_neg c1]
      have kk : ∀ k, k ≠ 4 → k ≠ 15 → am_I (am_sI (am_sI s3 41 4 st) 41 15 2) 41 k = am_I s3 41 k := fun k hk hk2 => by rw [I_sI, if_neg (by omega), I_sI, if_neg (by omega)]
      refine ⟨_, rfl, (fr3.sI (by simp)).sI (by simp), cE_fr hE0 ((fr3.sI (by simp)).sI (by simp)) L3 ((kk 2 (by omega) (by omega)).trans (g2 2 rfl)), ⟨?_, (kk 5 (by omega) (by omega)).trans w7, (kk 6 (by omega) (by omega)).trans g6, (kk 7 (by omega) (by omega)).trans w8, (kk 8 (by omega) (by omega)).trans g8, (kk 9 (by omega) (by omega)).trans g9, (kk 11 (by omega) (by omega)).trans g11, (kk 12 (by omega) (by omega)).trans w9, (kk 13 (by omega) (by omega)).trans g13, (kk 14 (by omega) (by omega)).trans g14, ?_⟩, (kk 10 (by omega) (by omega)).trans w5⟩
      · rw [I_sI, if_neg (by omega), I_sI, if_pos ⟨rfl, rfl⟩]
      · rw [I_sI, if_pos ⟨rfl, rfl⟩]
  by_cases sg : 0 ≤ atk ns (pth vx.toInt vy.toInt)
  · have el : frc A Ld (lw n) (qv vx vy) = lft lw A Ld (atk ns (pth vx.toInt vy.toInt)) (qv vx vy) := by unfold lft; rw [if_pos sg, a3]
    rw [if_pos sg, el]
    exact rest
  · have el : - frc A Ld (lw n) (qv vx vy) = lft lw A Ld (atk ns (pth vx.toInt vy.toInt)) (qv vx vy) := by unfold lft; rw [if_neg sg, a3]
    rw [if_neg sg, el]
    exact rest
end CT3
