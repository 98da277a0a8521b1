/-! ===== way ===== -/
section WY2
variable {s s1 s2 t t1 t2 : am_S} {A B : List Nat} {T T' : hT} {X X' : hX} {x y z x1 x2 x3 x4 x5 : Int32} {n p b e k j d i m : Nat} {tp : Nat → Int32} {fk fp : Int32}
theorem cZ.rd (h : cZ s T X) (oT : tO T) (oX : xO X) (f : fr A s s1) (hA : A.all (fun a => decide (34 ≤ a ∧ a ≤ 46)) = true) (e : am_I s1 42 1 = am_I s 42 1) (ht : tpC s1 n tp fk fp) : cZ s1 T (n, tp, fk, fp, X.2.2.2.2) := by
  have k : ∀ a, ¬ (34 ≤ a ∧ a ≤ 46) → a ∉ A := fun a h hm => h (of_decide_eq_true (List.all_eq_true.mp hA _ hm))
  have kA : ∀ {p : Nat → Bool}, (∀ a, (34 ≤ a ∧ a ≤ 46) → p a = true) → A.all p = true := fun hp => List.all_eq_true.mpr (fun a ha => hp a (of_decide_eq_true (List.all_eq_true.mp hA _ ha)))
  exact ⟨h.1.out oT (fun j hj => f.I (k _ (by omega))), h.2.1.keep f (kA (fun a h => decide_eq_true (by omega))) e, h.2.2.1.keep f (kA (fun a h => decide_eq_true (by omega))), ht, h.2.2.2.2.1.keep (fun a h1 h2 => f.I (k _ (by omega))) (fun a h1 h2 => f.L (k _ (by omega))), h.2.2.2.2.2.keep oX.2.2 (fun a h1 h2 => f.I (k _ (by omega))) (by rw [f.R]) f.nn⟩
theorem mZ.rd (h : mZ t T X) (f : fr A t t1) (hA : A.all (fun a => decide (a = 55 ∨ a = 56 ∨ a = 59 ∨ a = 60 ∨ a = 61)) = true) (e : am_I t1 55 42 = am_I t 55 42) (e' : am_I t1 55 30 = am_I t 55 30) (hT : tM (am_I t1 56) T') (ht : tpM t1 n tp fk fp) : mZ t1 T' (n, tp, fk, fp, X.2.2.2.2) := by
  have k : ∀ a, ¬ (a = 55 ∨ a = 56 ∨ a = 59 ∨ a = 60 ∨ a = 61) → a ∉ A := fun a h hm => h (of_decide_eq_true (List.all_eq_true.mp hA _ hm))
  exact ⟨hT, ⟨e.trans h.2.1.1, mSi_of h.2.1.2 e' (f.I (k _ (by omega))) (f.I (k _ (by omega)))⟩, ht, h.2.2.2.1.keep (f.I (k _ (by omega))) (f.I (k _ (by omega))) (f.L (k _ (by omega))), h.2.2.2.2.keep (f.I (k _ (by omega))) (f.I (k _ (by omega)))⟩
theorem ends_ok (h : am_I t 55 13 = 0) : f_X8_ends x t = some (.inl (some (.int x)), am_sI (am_sI t 55 15 0) 55 16 (-1)) := by
  unfold f_X8_ends
  rw [jn_s, h, if_pos rfl]
  dsimp only
  have e : am_I (am_sI t 55 15 0) 55 13 = 0 := by rw [I_sI, if_neg (by omega)]; exact h
  rw [if_pos e]
theorem ends_no (h : ¬ am_I t 55 13 = 0) : f_X8_ends x t = some (.inl (some (.int ((-10 : Int32) - am_I t 55 13))), am_sI (am_sI t 55 15 (am_I t 55 13)) 55 16 (am_I t 55 14)) := by
  unfold f_X8_ends
  rw [jn_s, if_neg h]
  dsimp only
  have e : am_I (am_sI t 55 15 (am_I t 55 13)) 55 13 = am_I t 55 13 := by rw [I_sI, if_neg (by omega)]
  rw [e, if_neg h]
theorem cpy_way {w : Nat} (hw : w < 6) : ∀ (d m k : Nat) (t : am_S), d < m → k + d = 23 → am_I t 56 2 = oN w → ∃ t', L_X8_way_198 m (oN k) t = some (.inr ((), t')) ∧ fr [56] t t' ∧ (∀ j, (31 + 23 * w + k ≤ j ∧ j < 31 + 23 * w + 23) → am_I t' 56 j = am_I t 61 (j - (31 + 23 * w))) ∧ (∀ j, ¬ (31 + 23 * w + k ≤ j ∧ j < 31 + 23 * w + 23) → am_I t' 56 j = am_I t 56 j) := by
  intro d
  induction d with
  | zero =>
    intro m k t h1 h2 h
    obtain ⟨m, rfl⟩ : ∃ q, m = q + 1 := ⟨m - 1, by omega⟩
    obtain rfl : k = 23 := by omega
    rw [L_X8_way_198, if_pos (by decide)]
    exact ⟨t, rfl, fr.refl, fun j hj => by omega, fun j hj => rfl⟩
  | succ d ih =>
    intro m k t h1 h2 h
    obtain ⟨m, rfl⟩ : ∃ q, m = q + 1 := ⟨m - 1, by omega⟩
    rw [L_X8_way_198, if_neg (by rw [oN_leR (by omega) (by omega)]; omega), if_pos (in_o (by omega) (by omega)), h, oN_mulR, oN_addR, oN_add, if_pos (in_o (by omega) (by omega)), oN_nat (by omega), oN_nat (by omega), oN_addL]
    obtain ⟨t', z1, z2, z3, z4⟩ := ih m (k + 1) (am_sI t 56 (31 + 23 * w + k) (am_I t 61 k)) (by omega) (by omega) (by rw [I_sI, if_neg (by omega)]; exact h)
    refine ⟨t', z1, fr.trans (fr.refl.sI (by simp)) z2, ?_, ?_⟩
    · intro j hj
      by_cases c : j = 31 + 23 * w + k
      · rw [z4 j (by omega), I_sI, if_pos ⟨rfl, c⟩, c]
        congr 1
        omega
      · rw [z3 j (by omega), I_ne (by decide)]
    · intro j hj
      rw [z4 j (by omega), I_sI, if_neg (by omega)]
theorem W_way (hC : cZ s T X) (hM : mZ t T X) (oT : tO T) (oX : xO X) (hx : txS s) (hy : txS t) : JW (fun v => some (Value.int v)) k01 s t (f_X7_way x1 s) (f_X8_way x1 t) := by
  obtain ⟨r, c, d, lw, wy, hd, dr, cr, en⟩ := T
  obtain ⟨N, tp, fk, fp, tr, im⟩ := X
  have oS : okS r c d lw wy hd dr cr en := oT
  obtain ⟨b1, b2, b3, b4, b5, b6, b7⟩ := oB oS
  have hN : N ≤ 400 := oX.1.1
  have hb : ∀ k, k < N → 0 ≤ (tp k).toInt := fun k hk => (oX.1.2 k hk).1
  have e1 : am_I s 34 1 = oN N := hC.2.2.2.1.1
  have e2 : am_I t 55 7 = oN N := hM.2.2.1.1
  unfold f_X7_way f_X8_way
  rw [e1, e2, f_needWithin, f_within, Int32.toInt_toInt64, Int32.toInt_toInt64, oN_int (show N < 2147483648 by omega), show (0 : Int32).toInt = 0 from rfl, show (0 : Int64).toInt = 0 from rfl]
  by_cases hw : wi x1.toInt 0 (N : Int) = true
  · rw [if_pos hw, if_pos hw, tu_s, bi_s, if_neg n10]
    rw [wi_t] at hw
    obtain ⟨n, hn1, hn2, hn3⟩ := oN_of (x := x1) hw.1
    subst hn1
    have hw1 : am_I s 1 5 = oN wy.length := hC.1.2.1.1
    have hQ := hC.1.2.1.2
    have hw2 : am_I (am_sI t 55 3 0) 56 2 = oN wy.length := by rw [I_ne (by decide)]; exact hM.1.2.1.1
    have hQ2 := hM.1.2.1.2
    rw [hw1, hw2]
    by_cases h6 : wy.length < 6
    · have e6 : ¬ oN wy.length = (6 : Int32) := by rw [show (6 : Int32) = oN 6 from rfl, oN_eq (by omega) (by omega)]; omega
      have f0 : fr [55] t (am_sI t 55 3 0) := fr.refl.sI (by simp)
      obtain ⟨s1, t1, q1, z1, z2, z3, z4, z5, z6, z7, z8⟩ := j_beg (s := s) (t := am_sI t 55 3 0) (n := n) (tp := tp) hN (by omega) e1 hC.2.2.2.1.2.1 (by rw [I_ne (by decide)]; exact hM.2.2.1.2.1) hb
      rw [if_pos ((oN_ltL (by omega) (by omega)).mpr h6), if_neg e6]
      unfold f_X3_readWay
      rw [z1, z2, bu_s, bu_s]
      have g1 : fr [42] s1 (am_sI s1 42 2 0) := fr.refl.sI (by simp)
      have g2 : fr [61] t1 (am_sI t1 61 0 0) := fr.refl.sI (by simp)
      have fs1 : fr [34, 42, 43] s (am_sI s1 42 2 0) := (z3.mono (by decide)).trans (g1.mono (by decide))
      have h11 : am_I (am_sI s1 42 2 0) 42 1 = am_I s 42 1 := by rw [I_sI, if_neg (by omega), z3.I (by decide)]
      have ft1 : fr [55, 61] t (am_sI t1 61 0 0) := ((f0.trans z5).mono (by decide)).trans (g2.mono (by decide))
      have hR0 : cR2 (am_sI s1 42 2 0) 42 [] := ⟨by rw [I_sI, if_pos ⟨rfl, rfl⟩]; rfl, fun i q h => by cases h⟩
      have hF0 : frW (am_sI t1 61 0 0) [] := ⟨by rw [I_sI, if_pos ⟨rfl, rfl⟩]; rfl, fun i q h => by cases h⟩
      obtain ⟨s2, t2, y1, y2, y3, y4, y5⟩ := w_in (n := n) (tp := tp) (fun k hk => hb k (by omega)) n ax_fuel ax_fuel 0 [] q1 (am_sI s1 42 2 0) (am_sI t1 61 0 0) (by omega) (by rw [ax_fuel_is]; omega) (by rw [ax_fuel_is]; omega) (by omega) (z8.to g1 (by decide) (by decide) g2 (by decide) (by decide)) (hx.to fs1 (by decide)) (hy.to ft1 (by decide)) hR0 (h11.trans hC.2.1.2) hF0 (by simp) (by intro f hf; cases hf)
      rw [show L_X3_readWay_12 ax_fuel 42 (0 : Int32) (am_sI s1 42 2 0) = _ from y1, y2, lm_e, lm_e, jn_s]
      have fs2 : fr [34, 42, 43] s s2 := fs1.trans y3.1
      have ft2 : fr [55, 61] t t2 := ft1.trans y4.1
      have s34 : am_I s2 34 1 = oN 0 := by rw [y3.2.1, I_ne (by decide), z4]; rfl
      have s42 : am_I s2 42 1 = am_I s 42 1 := y3.2.2.trans h11
      have tk : ∀ k, k < 7 ∧ k ≠ 3 ∨ 14 < k → am_I t2 55 k = am_I t 55 k := by
        intro k hk
        rw [y4.2 k (by omega), I_ne (by decide), z7 k (by omega), I_sI, if_neg (by omega)]
      have t7 : am_I t2 55 7 = oN 0 := by rw [y4.2 7 (by omega), I_ne (by decide), z6]; rfl
      have t3 : am_I t2 55 3 = 0 := by rw [y4.2 3 (by omega), I_ne (by decide), z7 3 (by omega), I_sI, if_pos ⟨rfl, rfl⟩]
      have t56 : am_I t2 56 = am_I t 56 := ft2.I (by decide)
      rcases y5 with ⟨L, a1, a2, a3, a4, a5, a6, a7⟩ | y5
      · obtain ⟨t4, v1, v2, v3, v4⟩ := cpy_way h6 23 ax_fuel 0 t2 (by rw [ax_fuel_is]; omega) (by omega) (by rw [t56]; exact hM.1.2.1.1)
        have w2 : am_I t4 56 2 = oN wy.length := by rw [v4 2 (by omega), t56]; exact hM.1.2.1.1
        have hw3 : am_I s2 1 5 = oN wy.length := by rw [fs2.I (by decide)]; exact hw1
        rw [if_pos a5, if_pos a7, show L_X8_way_198 ax_fuel (0 : Int32) t2 = _ from v1, lm_e, bi_s, if_neg n10]
        dsimp only
        rw [w2, oN_addL, ends_ok (by rw [I_ne (by decide), v2.I (by decide)]; exact a7), bi_s, I_sI, if_pos ⟨rfl, rfl⟩, oN_subL (by omega), Nat.add_sub_cancel]
        unfold f_X5_addWay
        obtain ⟨s3, u1, u2, u3⟩ := rcopy (s := s2) (a := 11 + 2 * wy.length) (b := 42) (by omega)
        rw [hw3, if_neg (by rw [oN_nonneg (by omega)]; exact id), if_pos ((oN_ltL (by omega) (by omega)).mpr h6), if_pos (in_o (by omega) (by omega)), oN_nat (by omega), u1, bu_s, bi_s, oN_addL]
        have cz2 : cZ s2 (r, c, d, lw, wy, hd, dr, cr, en) (0, tp, 0, -1, tr, im) := cZ.rd (X := (N, tp, fk, fp, tr, im)) hC oT oX fs2 (by decide) s42 ⟨s34, fun k hk => by omega, a5, a6⟩
        have oX2 : xO (0, tp, 0, -1, tr, im) := ⟨⟨by show 0 ≤ 400; omega, fun k hk => by have : k < 0 := hk; omega⟩, oX.2⟩
        have fs3 : fr [1, 11 + 2 * wy.length, 11 + 2 * wy.length + 1] s2 (am_sI s3 1 5 (oN (wy.length + 1))) := fr.sI (fr.mono u2 (by simp)) (by simp)
        have fs4 : fr [34, 42, 43, 1, 11 + 2 * wy.length, 11 + 2 * wy.length + 1] s (am_sI s3 1 5 (oN (wy.length + 1))) := (fs2.mono (by simp)).trans (fs3.mono (by simp))
        have hlim : am_I s2 (11 + 2 * wy.length) 1 = oN 11 := by
          have := cz2.1.2.2.2.2.2.2.1 wy.length h6
          rw [show 1 + 10 + 2 * wy.length = 11 + 2 * wy.length by omega] at this
          exact this
        have ft5 : fr [55, 56, 61] t (am_sI (am_sI (am_sI t4 56 2 (oN (wy.length + 1))) 55 15 0) 55 16 (-1)) := fr.sI (fr.sI (fr.sI (fr.trans (ft2.mono (by decide)) (v2.mono (by decide))) (by simp)) (by simp)) (by simp)
        have k55 : ∀ k, k ≠ 15 → k ≠ 16 → am_I (am_sI (am_sI (am_sI t4 56 2 (oN (wy.length + 1))) 55 15 0) 55 16 (-1)) 55 k = am_I t2 55 k := by
          intro k h1 h2
          rw [I_sI, if_neg (by omega), I_sI, if_neg (by omega), I_ne (by decide), v2.I (by decide)]
        have k56 : ∀ k, am_I (am_sI (am_sI (am_sI t4 56 2 (oN (wy.length + 1))) 55 15 0) 55 16 (-1)) 56 k = if k = 2 then oN (wy.length + 1) else am_I t4 56 k := by
          intro k
          rw [I_ne (by decide), I_ne (by decide), I_sI]
          simp only [true_and]
        refine JW_v (v := oN wy.length) (T := (r, c, d, lw, wy ++ [L], hd, dr, cr, en)) (X := (0, tp, 0, -1, tr, im)) ?_ oX2 fs4 (by simp [cA]; omega) (cz2.upd oX2 fs3 (by simp; omega) ?_) rfl ft5 (by decide) (mZ.rd (X := (N, tp, fk, fp, tr, im)) hM ft5 (by decide) ?_ ?_ ?_ ⟨?_, ?_, ?_, ?_⟩) rfl ?_
        · obtain ⟨o1, o2, o3, o4, o5, o6, o7, o8, o9⟩ := oS
          refine ⟨o1, o2, o3, o4, ⟨by show (wy ++ [L]).length ≤ 6; rw [List.length_append, List.length_singleton]; omega, ?_⟩, o6, o7, o8, o9.1, ?_⟩
          · intro q hm
            rcases List.mem_append.mp hm with hm | hm
            · exact o5.2 q hm
            · rw [List.mem_singleton.mp hm]; exact ⟨a3, a4⟩
          · intro q hm
            obtain ⟨p1, p2, p3⟩ := o9.2 q hm
            refine ⟨⟨p1.1, ?_⟩, p2, p3⟩
            show q.1.toInt < ((wy ++ [L]).length : Int)
            rw [List.length_append, List.length_singleton]
            have := p1.2
            omega
        · refine cS.ways (wy' := wy ++ [L]) cz2.1 b1 b3 ?_ ?_ ?_ ?_ ?_
          · intro j h1 h2; exact fs3.I (by simp; omega)
          · intro k hk; rw [I_sI, if_neg (by omega), u2.I (by simp; omega)]
          · rw [I_sI, if_pos ⟨rfl, rfl⟩, List.length_append, List.length_singleton]
          · intro w q hq
            rw [show 1 + 10 + 2 * w = 11 + 2 * w by omega]
            rcases get_push hq with ⟨h1, h2⟩ | ⟨h1, h2⟩
            · have h3 := hQ w q h2
              rw [show 1 + 10 + 2 * w = 11 + 2 * w by omega] at h3
              exact h3.same (by rw [fs4.I (by simp; omega)]) (fs4.I (by simp; omega))
            · subst h1 h2
              have h3 : cR2 s3 (11 + 2 * wy.length) q := u3.r2 a1 a3 (by omega) hlim
              exact h3.same (by rw [I_ne (by omega)]) (I_ne (by omega))
          · intro w hw
            rw [show 1 + 10 + 2 * w = 11 + 2 * w by omega, I_ne (by omega)]
            by_cases cw : w = wy.length
            · subst cw; exact u3.2.1
            · rw [u2.I (by simp; omega)]
        · rw [k55 42 (by omega) (by omega)]; exact tk 42 (by omega)
        · rw [k55 30 (by omega) (by omega)]; exact tk 30 (by omega)
        · refine mS.ways (wy' := wy ++ [L]) hM.1 b1 b2 b3 b4 b5 b6 b7 ?_ ?_ ?_
          · intro k hk; rw [k56, if_neg (by omega), v4 k (by omega), t56]
          · rw [k56, if_pos rfl, List.length_append, List.length_singleton]
          · intro w q hq
            rcases get_push hq with ⟨h1, h2⟩ | ⟨h1, h2⟩
            · have h3 := hQ2 w q h2
              have h5 := b2 w q h2
              refine ⟨?_, h3.2.same ?_⟩
              · rw [k56, if_neg (by omega), v4 _ (by omega), t56]; exact h3.1
              · intro i k hi hk
                rw [k56, if_neg (by omega), v4 _ (by omega), t56]
            · subst h1 h2
              refine ⟨?_, ?_⟩
              · rw [k56, if_neg (by omega), v3 _ (by omega), Nat.sub_self]; exact a2.1
              · intro i f hf
                have hi := (List.getElem?_eq_some_iff.mp hf).1
                obtain ⟨p1, p2⟩ := a2.2 i f hf
                refine ⟨?_, ?_⟩
                · rw [k56, if_neg (by omega), v3 _ (by omega), show 32 + 23 * wy.length + 2 * i - (31 + 23 * wy.length) = 1 + 2 * i by omega]; exact p1
                · rw [k56, if_neg (by omega), v3 _ (by omega), show 32 + 23 * wy.length + 2 * i + 1 - (31 + 23 * wy.length) = 1 + 2 * i + 1 by omega]; exact p2
        · rw [k55 7 (by omega) (by omega)]; exact t7
        · intro k hk; omega
        · rw [I_sI, if_neg (by omega), I_sI, if_pos ⟨rfl, rfl⟩]
        · rw [I_sI, if_pos ⟨rfl, rfl⟩]
        · rw [k55 3 (by omega) (by omega)]; exact t3
      · rw [if_neg y5.c, if_neg y5.m, bi_s, if_pos rfl]
        dsimp only
        rw [ends_no y5.m, bi_s]
        obtain ⟨fk', b', h1, h2, h3, h4, h5, h7, h8⟩ := y5
        have cz2 : cZ s2 (r, c, d, lw, wy, hd, dr, cr, en) (0, tp, oN fk', oN b', tr, im) := cZ.rd (X := (N, tp, fk, fp, tr, im)) hC oT oX fs2 (by decide) s42 ⟨s34, fun k hk => by omega, h4, h5⟩
        have oX2 : xO (0, tp, oN fk', oN b', tr, im) := ⟨⟨by show 0 ≤ 400; omega, fun k hk => by have : k < 0 := hk; omega⟩, oX.2⟩
        rw [h4, h7, h8]
        have ft5 : fr [55, 61] t (am_sI (am_sI t2 55 15 (oN fk')) 55 16 (oN b')) := fr.sI (fr.sI ft2 (by simp)) (by simp)
        have k55 : ∀ k, k ≠ 15 → k ≠ 16 → am_I (am_sI (am_sI t2 55 15 (oN fk')) 55 16 (oN b')) 55 k = am_I t2 55 k := by
          intro k h1 h2
          rw [I_sI, if_neg (by omega), I_sI, if_neg (by omega)]
        refine JW_v (v := (-10 : Int32) - oN fk') (T := (r, c, d, lw, wy, hd, dr, cr, en)) (X := (0, tp, oN fk', oN b', tr, im)) oT oX2 fs2 (by decide) cz2 rfl ft5 (by decide) (mZ.rd (X := (N, tp, fk, fp, tr, im)) hM ft5 (by decide) ?_ ?_ ?_ ⟨?_, ?_, ?_, ?_⟩) rfl ?_
        · rw [k55 42 (by omega) (by omega)]; exact tk 42 (by omega)
        · rw [k55 30 (by omega) (by omega)]; exact tk 30 (by omega)
        · rw [I_ne (by decide), I_ne (by decide), t56]; exact hM.1
        · rw [k55 7 (by omega) (by omega)]; exact t7
        · intro k hk; omega
        · rw [I_sI, if_neg (by omega), I_sI, if_pos ⟨rfl, rfl⟩]
        · rw [I_sI, if_pos ⟨rfl, rfl⟩]
        · rw [k55 3 (by omega) (by omega)]; exact t3
    · have e6 : oN wy.length = (6 : Int32) := by rw [show wy.length = 6 by omega]; rfl
      rw [if_neg (by rw [oN_ltL (by omega) (by omega)]; omega), if_pos e6]
      exact JW_v (v := -1) oT oX (fr.refl (A := [])) (by decide) hC rfl (B := [55]) (fr.refl.sI (by simp)) (by decide) hM.thr rfl thr0
  · rw [if_neg hw, if_neg hw, tu_x, bi_s, if_pos rfl]
    exact JW_x (e := 0) (v := 0) oT oX (fr.refl (A := [])) (by decide) hC rfl (B := [55]) ((fr.refl.sI (by simp)).sI (by simp)) (by decide) hM.thr.thr rfl thr2
end WY2
