/-! ===== hands, throws, entries, questions of numbers ===== -/
section CM4
variable {s s1 t t1 : am_S} {A B : List Nat} {T T' : hT} {X X' : hX} {x y z x1 x2 x3 x4 x5 : Int32} {r c d : Int32} {lw : Nat → Int32} {wy : List (List T2)} {hd : List (List T3)} {dr : List T3} {cr : List T2} {en : List T3}
theorem get_push {α : Type} {l : List α} {a q : α} {i : Nat} (h : (l ++ [a])[i]? = some q) : (i < l.length ∧ l[i]? = some q) ∨ (i = l.length ∧ q = a) := by
  by_cases hi : i < l.length
  · rw [List.getElem?_append_left hi] at h
    exact Or.inl ⟨hi, h⟩
  · have hl := (List.getElem?_eq_some_iff.mp h).1
    rw [List.length_append, List.length_singleton] at hl
    have ei : i = l.length := by omega
    subst ei
    rw [List.getElem?_append_right (Nat.le_refl _), Nat.sub_self] at h
    cases h
    exact Or.inr ⟨rfl, rfl⟩
theorem get_set {α : Type} {l : List α} {a q : α} {j i : Nat} (h : (l.set j a)[i]? = some q) : (i ≠ j ∧ l[i]? = some q) ∨ (i = j ∧ q = a) := by
  rw [List.getElem?_set] at h
  split at h
  next e =>
    split at h
    · cases h; exact Or.inr ⟨e.symm, rfl⟩
    · cases h
  next e => exact Or.inl ⟨fun h => e h.symm, h⟩
theorem W_hand (hC : cZ s T X) (hM : mZ t T X) (oT : tO T) (oX : xO X) : JW (fun v => some (Value.int v)) k01 s t (f_X7_hand s) (f_X8_hand t) := by
  obtain ⟨r, c, d, lw, wy, hd, dr, cr, en⟩ := T
  have oS : okS r c d lw wy hd dr cr en := oT
  obtain ⟨b1, b2, b3, b4, b5, b6, b7⟩ := oB oS
  have hN : am_I s 1 7 = oN hd.length := hC.1.2.2.1.1
  have hQ := hC.1.2.2.1.2
  have hN2 : am_I t 56 3 = oN hd.length := hM.1.2.2.1.1
  have hQ2 := hM.1.2.2.1.2
  rw [f_hand hN b3, g_hand hN2 b3]
  by_cases h4 : hd.length < 5
  · rw [if_pos h4, if_pos h4]
    have f1 : fr [1, 23 + 2 * hd.length] s (am_sI (am_sI s (23 + 2 * hd.length) 2 0) 1 7 (oN (hd.length + 1))) := (fr.refl.sI (by simp)).sI (by simp)
    have f2 : fr [55, 56] t (am_sI (am_sI (am_sI t 55 3 0) 56 (169 + 13 * hd.length) 0) 56 3 (oN (hd.length + 1))) := ((fr.refl.sI (by simp)).sI (by simp)).sI (by simp)
    refine JW_v (v := oN hd.length) (T := (r, c, d, lw, wy, hd ++ [[]], dr, cr, en)) (X := X) ?_ oX f1 (by simp [cA]; omega) (hC.upd oX f1 (by simp; omega) ?_) rfl f2 (by decide) (hM.upd f2 (by decide) ?_ ?_) rfl ?_
    · obtain ⟨o1, o2, o3, o4, o5, o6, o7, o8, o9⟩ := oS
      refine ⟨o1, o2, o3, o4, o5, ⟨by show (hd ++ [[]]).length ≤ 5; rw [List.length_append, List.length_singleton]; omega, ?_⟩, o7, o8, o9.1, ?_⟩
      · intro q hm
        rcases List.mem_append.mp hm with hm | hm
        · exact o6.2 q hm
        · rw [List.mem_singleton.mp hm]; exact ⟨by simp, fun f hf => by cases hf⟩
      · intro q hm
        obtain ⟨p1, p2, p3⟩ := o9.2 q hm
        refine ⟨p1, p2, p3.1, ?_⟩
        show q.2.2.toInt < ((hd ++ [[]]).length : Int)
        rw [List.length_append, List.length_singleton]
        omega
    · refine cS.hands (hd' := hd ++ [[]]) hC.1 b1 b3 ?_ ?_ ?_ ?_ ?_
      · intro j h1 h2; exact f1.I (by simp; omega)
      · intro k hk; rw [I_sI, if_neg (by omega), I_sI, if_neg (by omega)]
      · rw [I_sI, if_pos (by omega), List.length_append, List.length_singleton]
      · intro w q hq
        rcases get_push hq with ⟨h1, h2⟩ | ⟨h1, h2⟩
        · have := hQ w q h2
          exact this.same (by rw [f1.I (by simp; omega)]) (by rw [f1.I (by simp; omega)])
        · subst h1 h2
          refine ⟨?_, fun i q h => by cases h⟩
          rw [I_sI, if_neg (by omega), I_sI, if_pos (by omega)]
          rfl
      · intro w hw
        rw [I_sI, if_neg (by omega), I_sI, if_neg (by omega)]
    · intro k hk; rw [I_ne (by decide), I_ne (by decide), I_sI, if_neg (by omega)]
    · refine mS.hands (hd' := hd ++ [[]]) hM.1 b1 b2 b3 b4 b5 b6 b7 ?_ ?_ ?_
      · intro k hk; rw [I_sI, if_neg (by omega), I_sI, if_neg (by omega), I_ne (by decide)]
      · rw [I_sI, if_pos (by omega), List.length_append, List.length_singleton]
      · intro w q hq
        rcases get_push hq with ⟨h1, h2⟩ | ⟨h1, h2⟩
        · have h3 := hQ2 w q h2
          have h5 := b4 w q h2
          refine ⟨?_, h3.2.same ?_⟩
          · rw [I_sI, if_neg (by omega), I_sI, if_neg (by omega), I_ne (by decide)]; exact h3.1
          · intro i k hi hk
            rw [I_sI, if_neg (by omega), I_sI, if_neg (by omega), I_ne (by decide)]
        · subst h1 h2
          refine ⟨?_, fun i q h => by cases h⟩
          rw [I_sI, if_neg (by omega), I_sI, if_pos (by omega)]
          rfl
    · rw [I_ne (by decide), I_ne (by decide), thr0]
  · rw [if_neg h4, if_neg h4]
    exact JW_v (v := -1) oT oX (fr.refl (A := [])) (by decide) hC rfl (B := [55]) (fr.refl.sI (by simp)) (by decide) hM.thr rfl thr0
/-- three numbers put where a hand's throw goes -/
def putT (a n : Nat) (x y z : Int32) (s : am_S) : am_S := am_sI (am_sI (am_sI s 56 (170 + 13 * a + 3 * n) x) 56 (170 + 13 * a + 3 * n + 1) y) 56 (170 + 13 * a + 3 * n + 2) z
theorem puts_is {a n : Nat} (ha : a < 5) (hn : n < 4) : f_X8_puts (oN a) (oN n) x y z s = some (.inl none, putT a n x y z s) := by
  unfold f_X8_puts putT
  have e1 : oN (170 + 13 * a + 3 * n) + 1 = oN (170 + 13 * a + 3 * n + 1) := oN_addL
  have e2 : oN (170 + 13 * a + 3 * n) + 2 = oN (170 + 13 * a + 3 * n + 2) := oN_addL
  rw [throwAt_is, bi_s, if_pos (in_o (by omega) (by omega)), throwAt_is, bi_s, e1, if_pos (in_o (by omega) (by omega)), throwAt_is, bi_s, e2, if_pos (in_o (by omega) (by omega)), oN_nat (by omega), oN_nat (by omega), oN_nat (by omega)]
theorem putT_fr {a n : Nat} : fr [56] s (putT a n x y z s) := ((fr.refl.sI (by simp)).sI (by simp)).sI (by simp)
theorem putT_I {a n k : Nat} : am_I (putT a n x y z s) 56 k = if k = 170 + 13 * a + 3 * n + 2 then z else if k = 170 + 13 * a + 3 * n + 1 then y else if k = 170 + 13 * a + 3 * n then x else am_I s 56 k := by
  unfold putT; simp only [I_sI, true_and]
theorem W_toss (hC : cZ s T X) (hM : mZ t T X) (oT : tO T) (oX : xO X) : JW (fun v => some (Value.int v)) k3102 s t (f_X7_toss x1 x2 x3 x4 s) (f_X8_toss x1 x2 x3 x4 t) := by
  obtain ⟨r, c, d, lw, wy, hd, dr, cr, en⟩ := T
  have oS : okS r c d lw wy hd dr cr en := oT
  obtain ⟨b1, b2, b3, b4, b5, b6, b7⟩ := oB oS
  have hN : am_I s 1 7 = oN hd.length := hC.1.2.2.1.1
  have hQ := hC.1.2.2.1.2
  have hN2 : am_I t 56 3 = oN hd.length := hM.1.2.2.1.1
  have hQ2 := hM.1.2.2.1.2
  have hL := hC.1.2.2.2.2.2.2.2.1
  have hN3 : am_I (am_sI t 55 3 0) 56 3 = oN hd.length := by rw [I_ne (by decide)]; exact hN2
  unfold f_X7_toss f_X8_toss
  rw [isHand_is hN3 b3, bi_s]
  rcases hand_cases oS x1 with ⟨a, l, e, g1, g2, g3, g4, g5⟩ | hx
  · subst e
    have hl : cR3 s (23 + 2 * a) l := by have := hQ a l g3; rw [show 1 + 22 + 2 * a = 23 + 2 * a by omega] at this; exact this
    have hlim : am_I s (23 + 2 * a) 1 = 4 := by have := hL a (by omega); rw [show 1 + 22 + 2 * a = 23 + 2 * a by omega] at this; exact this
    have hl2 := hQ2 a l g3
    rw [needHand_ok hN b3 g1, tv_s, mv_r, if_pos (k0_hand a (by omega)), if_pos (show 0 ≤ (oN a).toInt ∧ (oN a).toInt < hd.length by rw [oN_int (by omega)]; omega), if_neg n10, isThrow_f, isThrow_g, bi_s, bi_s, Int32.toInt_toInt64, Int32.toInt_toInt64, Int32.toInt_toInt64]
    by_cases h : okTh x2.toInt x3.toInt x4.toInt = true
    · have hq : okT (x2, x3, x4) := by
        unfold okTh at h
        simp only [Bool.and_eq_true, wi_t] at h
        exact ⟨h.1.1, h.1.2, h.2⟩
      have hl3 : am_I (am_sI t 55 3 0) 56 (169 + 13 * a) = oN l.length := by rw [I_ne (by decide)]; exact hl2.1
      rw [if_pos h, if_neg n10, if_neg n10, f_add (L := 4) hl.1 hlim (by omega) (by omega), throwsOf_is (by omega) hl3, bi_s]
      by_cases h4 : l.length < 4
      · have e169 : (169 : Int32) + (13 : Int32) * oN a = oN (169 + 13 * a) := by rw [oN_mulR, oN_addR]
        have hp3 : am_I (putT a l.length x2 x3 x4 (am_sI t 55 3 0)) 56 (169 + 13 * a) = oN l.length := by rw [putT_I, if_neg (by omega), if_neg (by omega), if_neg (by omega)]; exact hl3
        rw [if_pos h4, bi_s, if_neg (oN_not (by omega)), addR_I, if_pos rfl, if_neg (fun hh => by have := (oN_eqL (by omega) (by omega)).mp hh; omega), throwsOf_is (by omega) hl3, bi_s, puts_is (by omega) h4, bu_s, e169, if_pos (in_o (by omega) (by omega)), oN_nat (by omega), hp3, oN_addL, le_s, if_pos (in_o (by omega) (by omega)), throwsOf_is (n := l.length + 1) (by omega) (by rw [I_sI, if_pos (by omega)]), bi_s]
        have f1 : fr [23 + 2 * a, 23 + 2 * a + 1] s (addR (23 + 2 * a) l.length x2 x3 x4 s) := addR_fr
        have f2 : fr [55, 56] t (am_sI (putT a l.length x2 x3 x4 (am_sI t 55 3 0)) 56 (169 + 13 * a) (oN (l.length + 1))) := (fr.trans (fr.refl.sI (by simp)) (putT_fr.mono (by decide))).sI (by simp)
        have ha : (hd.set a (l ++ [(x2, x3, x4)])).length = hd.length := List.length_set
        refine JW_v (v := oN (l.length + 1)) (T := (r, c, d, lw, wy, hd.set a (l ++ [(x2, x3, x4)]), dr, cr, en)) (X := X) ?_ oX f1 (by simp [cA]; omega) (hC.upd oX f1 (by simp; omega) ?_) rfl f2 (by decide) (hM.upd f2 (by decide) ?_ ?_) rfl ?_
        · obtain ⟨o1, o2, o3, o4, o5, o6, o7, o8, o9⟩ := oS
          refine ⟨o1, o2, o3, o4, o5, ⟨by rw [ha]; exact o6.1, ?_⟩, o7, o8, by rw [ha]; exact o9⟩
          intro q hm
          obtain ⟨i, hi⟩ := List.mem_iff_getElem?.mp hm
          rcases get_set hi with ⟨h1, h2⟩ | ⟨h1, h2⟩
          · exact o6.2 q (List.mem_of_getElem? h2)
          · subst h2
            refine ⟨by rw [List.length_append, List.length_singleton]; omega, ?_⟩
            intro f hf
            rcases List.mem_append.mp hf with hf | hf
            · exact g5 f hf
            · rw [List.mem_singleton.mp hf]; exact hq
        · refine cS.hands (hd' := hd.set a (l ++ [(x2, x3, x4)])) hC.1 b1 b3 ?_ ?_ ?_ ?_ ?_
          · intro j h1 h2; exact f1.I (by simp; omega)
          · intro k hk; rw [f1.I (by simp; omega)]
          · rw [f1.I (by simp; omega), ha]; exact hN
          · intro w q hq
            have hwl := (List.getElem?_eq_some_iff.mp hq).1
            rw [ha] at hwl
            rcases get_set hq with ⟨h1, h2⟩ | ⟨h1, h2⟩
            · exact (hQ w q h2).same (by rw [f1.I (by simp; omega)]) (by rw [f1.I (by simp; omega)])
            · subst h1 h2
              rw [show 1 + 22 + 2 * w = 23 + 2 * w by omega]
              exact addR_3 hl
          · intro w hw
            by_cases hwa : w = a
            · subst hwa
              rw [show 1 + 22 + 2 * w = 23 + 2 * w by omega, addR_I, if_neg (by omega)]
            · rw [f1.I (by simp; omega)]
        · intro k hk; rw [I_ne (by decide), putT_fr.I (by decide), I_sI, if_neg (by omega)]
        · have key : ∀ k, k ≠ 169 + 13 * a → (k < 170 + 13 * a + 3 * l.length ∨ 170 + 13 * a + 3 * l.length + 3 ≤ k) → am_I (am_sI (putT a l.length x2 x3 x4 (am_sI t 55 3 0)) 56 (169 + 13 * a) (oN (l.length + 1))) 56 k = am_I t 56 k := by
            intro k h1 h2
            rw [I_sI, if_neg (by omega), putT_I, if_neg (by omega), if_neg (by omega), if_neg (by omega), I_ne (by decide)]
          refine mS.hands (hd' := hd.set a (l ++ [(x2, x3, x4)])) hM.1 b1 b2 b3 b4 b5 b6 b7 ?_ ?_ ?_
          · intro k hk; exact key k (by omega) (by omega)
          · rw [ha, key 3 (by omega) (by omega)]; exact hN2
          · intro w q hq
            have hwl := (List.getElem?_eq_some_iff.mp hq).1
            rw [ha] at hwl
            rcases get_set hq with ⟨h1, h2⟩ | ⟨h1, h2⟩
            · have h3 := hQ2 w q h2
              have h5 := b4 w q h2
              exact ⟨(key _ (by omega) (by omega)).trans h3.1, h3.2.same (fun i k hi hk => key _ (by omega) (by omega))⟩
            · subst h1 h2
              refine ⟨by rw [I_sI, if_pos (by omega), List.length_append, List.length_singleton], hl2.2.push ?_ ?_ ?_ ?_⟩
              · intro i k hi hk; exact key _ (by omega) (by omega)
              · rw [I_sI, if_neg (by omega), putT_I, if_neg (by omega), if_neg (by omega), if_pos (by omega)]
              · rw [I_sI, if_neg (by omega), putT_I, if_neg (by omega), if_pos (by omega)]
              · rw [I_sI, if_neg (by omega), putT_I, if_pos (by omega)]
        · rw [I_ne (by decide), putT_fr.I (by decide), thr0]
      · have e4 : l.length = 4 := by omega
        rw [if_neg h4, bi_s, if_pos rfl, if_pos (show oN l.length = (4 : Int32) by rw [e4]; rfl)]
        exact JW_v (v := -1) oT oX (fr.refl (A := [])) (by decide) hC rfl (B := [55]) (fr.refl.sI (by simp)) (by decide) hM.thr rfl thr0
    · rw [if_neg h, if_pos rfl, if_pos rfl]
      exact JW_x (v := 0) oT oX (fr.refl (A := [])) (by decide) hC rfl (B := [55]) ((fr.refl.sI (by simp)).sI (by simp)) (by decide) hM.thr.thr rfl thr0
  · rw [needHand_no hN b3 hx, tv_x, if_neg hx, if_pos rfl]
    exact JW_x (v := 0) oT oX (fr.refl (A := [])) (by decide) hC rfl (B := [55]) ((fr.refl.sI (by simp)).sI (by simp)) (by decide) hM.thr.thr rfl thr0
theorem W_enter (hC : cZ s T X) (hM : mZ t T X) (oT : tO T) (oX : xO X) : JW (fun v => some (Value.int v)) k3102 s t (f_X7_enter x1 x2 x3 s) (f_X8_enter x1 x2 x3 t) := by
  obtain ⟨r, c, d, lw, wy, hd, dr, cr, en⟩ := T
  have oS : okS r c d lw wy hd dr cr en := oT
  obtain ⟨b1, b2, b3, b4, b5, b6, b7⟩ := oB oS
  have hN : am_I s 1 7 = oN hd.length := hC.1.2.2.1.1
  have hW : am_I s 1 5 = oN wy.length := hC.1.2.1.1
  have hN3 : am_I (am_sI t 55 3 0) 56 3 = oN hd.length := by rw [I_ne (by decide)]; exact hM.1.2.2.1.1
  have hW3 : am_I (am_sI t 55 3 0) 56 2 = oN wy.length := by rw [I_ne (by decide)]; exact hM.1.2.1.1
  have hR : cR3 s 9 en := hC.1.2.2.2.2.2.1
  have hL : am_I s 9 1 = 4 := hC.1.2.2.2.2.2.2.2.2.2.2
  have hE : am_I t 56 6 = oN en.length := hM.1.2.2.2.2.2.1
  have hE3 : am_I (am_sI t 55 3 0) 56 6 = oN en.length := by rw [I_ne (by decide)]; exact hE
  have hP : hp3 (am_I t 56) 252 3 en := hM.1.2.2.2.2.2.2
  unfold f_X7_enter f_X8_enter
  rw [isWay_is hW3 b1, bi_s, jn_s]
  rcases way_cases oS x1 with ⟨w0, fs, e, h1, h2, h3⟩ | hx
  · subst e
    rw [needWay_ok hW h2 h1, tv_s, mv_r, if_pos (k0_way w0 (by omega)), if_pos (show 0 ≤ (oN w0).toInt ∧ (oN w0).toInt < wy.length by rw [oN_int (by omega)]; omega), if_neg n10, isHand_is hN3 b3, bi_s]
    rcases hand_cases oS x3 with ⟨a, l, e, g1, g2, g3, g4, g5⟩ | hy
    · subst e
      rw [needHand_ok hN g2 g1, tv_s, mv_r, if_pos (k0_hand a (by omega)), if_pos (show 0 ≤ (oN a).toInt ∧ (oN a).toInt < hd.length by rw [oN_int (by omega)]; omega), if_neg n10, needEars_is, isEars_is, bi_s]
      by_cases he : wi x2.toInt (-9) 9 = true
      · rw [if_pos he, if_pos he, tu_s, if_neg n10, f_add (L := 4) hR.1 hL (by omega) (by omega), hE3, oN_mulR, oN_addR]
        by_cases h4 : en.length < 4
        · rw [if_pos h4, bi_s, if_neg (by rw [oN_eqL (by omega) (by omega)]; omega), put3_is hE3 (by omega) (by omega) (by omega)]
          have f1 : fr [9, 10] s (addR 9 en.length (oN w0) x2 (oN a) s) := addR_fr
          have f2 : fr [55, 56] t (put3 (252 + 3 * en.length) 6 en.length (oN w0) x2 (oN a) (am_sI t 55 3 0)) := fr.trans (fr.refl.sI (by simp)) (put3_fr.mono (by decide))
          refine JW_v (v := oN en.length) (T := (r, c, d, lw, wy, hd, dr, cr, en ++ [(oN w0, x2, oN a)])) (X := X) ?_ oX f1 (by decide) (hC.upd oX f1 (by decide) ?_) rfl f2 (by decide) (hM.upd f2 (by decide) ?_ ?_) rfl ?_
          · obtain ⟨o1, o2, o3, o4, o5, o6, o7, o8, o9⟩ := oS
            refine ⟨o1, o2, o3, o4, o5, o6, o7, o8, by rw [List.length_append, List.length_singleton]; omega, ?_⟩
            intro q hm
            rcases List.mem_append.mp hm with hm | hm
            · exact o9.2 q hm
            · rw [List.mem_singleton.mp hm]
              have := wi_t.mp he
              refine ⟨?_, by omega, ?_⟩
              · show 0 ≤ (oN w0).toInt ∧ (oN w0).toInt < wy.length
                rw [oN_int (by omega)]; omega
              · show 0 ≤ (oN a).toInt ∧ (oN a).toInt < hd.length
                rw [oN_int (by omega)]; omega
          · refine cS.ent (en' := en ++ [(oN w0, x2, oN a)]) hC.1 b1 b3 ?_ (addR_3 hR) ?_
            · intro j h1 h2; exact f1.I (by simp; omega)
            · show am_I (addR 9 en.length (oN w0) x2 (oN a) s) 9 1 = _
              rw [addR_I, if_neg (by omega)]
          · intro k hk
            rw [put3_fr.I (by decide), I_sI, if_neg (by omega)]
          · refine mS.ent (en' := en ++ [(oN w0, x2, oN a)]) hM.1 b1 b2 b3 b4 b5 b6 b7 ?_ ?_ ?_
            · intro k hk
              rw [put3_I, if_neg (by omega), if_neg (by omega), if_neg (by omega), if_neg (by omega), I_ne (by decide)]
            · rw [put3_I, if_pos rfl, List.length_append, List.length_singleton]
            · refine hP.push ?_ ?_ ?_ ?_
              · intro i k hi hk
                rw [put3_I, if_neg (by omega), if_neg (by omega), if_neg (by omega), if_neg (by omega), I_ne (by decide)]
              · rw [put3_I, if_neg (by omega), if_neg (by omega), if_neg (by omega), if_pos rfl]
              · rw [put3_I, if_neg (by omega), if_neg (by omega), if_pos rfl]
              · rw [put3_I, if_neg (by omega), if_pos rfl]
          · rw [put3_fr.I (by decide), thr0]
        · rw [if_neg h4, bi_s, if_pos (by rw [oN_eqL (by omega) (by omega)]; omega)]
          exact JW_v (v := -1) oT oX (fr.refl (A := [])) (by decide) hC rfl (B := [55]) (fr.refl.sI (by simp)) (by decide) hM.thr rfl thr0
      · rw [if_neg he, if_neg he, tu_x, if_pos rfl]
        exact JW_x (v := 0) oT oX (fr.refl (A := [])) (by decide) hC rfl (B := [55]) ((fr.refl.sI (by simp)).sI (by simp)) (by decide) hM.thr.thr rfl thr0
    · rw [needHand_no hN b3 hy, tv_x, if_neg hy, if_pos rfl]
      exact JW_x (v := 0) oT oX (fr.refl (A := [])) (by decide) hC rfl (B := [55]) ((fr.refl.sI (by simp)).sI (by simp)) (by decide) hM.thr.thr rfl thr0
  · rw [needWay_no hW b1 hx, tv_x, if_neg hx, if_pos rfl]
    exact JW_x (v := 0) oT oX (fr.refl (A := [])) (by decide) hC rfl (B := [55]) ((fr.refl.sI (by simp)).sI (by simp)) (by decide) hM.thr.thr rfl thr0
theorem JW_same {v : Int32} {k : Nat → Int32} {fc fm : am_F} (hC : cZ s T X) (hM : mZ t T X) (oT : tO T) (oX : xO X) (e1 : fc = some (.inl (some (.int v)), s)) (e2 : fm = some (.inl (some (.int v)), am_sI t 55 3 0)) : JW (fun v => some (Value.int v)) k s t fc fm :=
  JW_v (v := v) oT oX (fr.refl (A := [])) (by decide) hC e1 (B := [55]) (fr.refl.sI (by simp)) (by decide) hM.thr e2 thr0
theorem W_fault (hC : cZ s T X) (hM : mZ t T X) (oT : tO T) (oX : xO X) : JW (fun v => some (Value.int v)) k01 s t (f_X7_fault x1 s) (f_X8_fault x1 t) := by
  have a1 := hC.2.2.2.1.2.2
  have a2 := hM.2.2.1.2.2
  unfold f_X7_fault f_X8_fault
  rw [a1.1, a1.2, a2.1, a2.2]
  by_cases c0 : x1 = 0
  · rw [if_pos c0, if_pos c0]; exact JW_same hC hM oT oX rfl rfl
  · rw [if_neg c0, if_neg c0]
    by_cases c1 : x1 = 1
    · rw [if_pos c1, if_pos c1]; exact JW_same hC hM oT oX rfl rfl
    · rw [if_neg c1, if_neg c1]; exact JW_same hC hM oT oX rfl rfl
theorem W_count (hC : cZ s T X) (hM : mZ t T X) (oT : tO T) (oX : xO X) : JW (fun v => some (Value.int v)) k01 s t (f_X7_count x1 s) (f_X8_count_ x1 t) := by
  obtain ⟨r, c, d, lw, wy, hd, dr, cr, en⟩ := T
  have hS : cS s 1 r c d lw wy hd dr cr en := hC.1
  have hT : mS (am_I t 56) r c d lw wy hd dr cr en := hM.1
  have e1 : am_I s 34 1 = oN X.1 := hC.2.2.2.1.1
  have e2 : am_I t 55 7 = oN X.1 := hM.2.2.1.1
  obtain ⟨⟨a1, a2, a3, a4⟩, ⟨a5, _⟩, ⟨a7, _⟩, ⟨a8, _⟩, ⟨a9, _⟩, ⟨a10, _⟩, _⟩ := hS
  obtain ⟨⟨c1, c2, c3, c4⟩, ⟨c5, _⟩, ⟨c7, _⟩, ⟨c8, _⟩, ⟨c9, _⟩, ⟨c10, _⟩⟩ := hT
  have l18 : am_I t 56 8 = lw 18 := c4 18 (by omega)
  have l19 : am_I t 56 9 = lw 19 := c4 19 (by omega)
  have l20 : am_I t 56 10 = lw 20 := c4 20 (by omega)
  have l21 : am_I t 56 11 = lw 21 := c4 21 (by omega)
  have l22 : am_I t 56 12 = lw 22 := c4 22 (by omega)
  have m18 : am_I s 2 18 = lw 18 := a4 18 (by omega)
  have m19 : am_I s 2 19 = lw 19 := a4 19 (by omega)
  have m20 : am_I s 2 20 = lw 20 := a4 20 (by omega)
  have m21 : am_I s 2 21 = lw 21 := a4 21 (by omega)
  have m22 : am_I s 2 22 = lw 22 := a4 22 (by omega)
  have a8' : am_I s 5 2 = oN dr.length := a8
  have a9' : am_I s 7 2 = oN cr.length := a9
  have a10' : am_I s 9 2 = oN en.length := a10
  unfold f_X7_count f_X8_count_
  rw [a1, a2, a3, a5, a7, a8', a9', a10', m18, m19, m20, m21, m22, c1, c2, c3, c5, c7, c8, c9, c10, l18, l19, l20, l21, l22, e1, e2]
  have st : ∀ {k v : Int32} {fc fm : am_F}, JW (fun v => some (Value.int v)) k01 s t fc fm → JW (fun v => some (Value.int v)) k01 s t (if x1 = k then some (.inl (some (.int v)), s) else fc) (if x1 = k then some (.inl (some (.int v)), am_sI t 55 3 0) else fm) := by
    intro k v fc fm h
    by_cases c : x1 = k
    · rw [if_pos c, if_pos c]; exact JW_same hC hM oT oX rfl rfl
    · rw [if_neg c, if_neg c]; exact h
  exact st (st (st (st (st (st (st (st (st (st (st (st (st (st (JW_same hC hM oT oX rfl rfl))))))))))))))
end CM4
