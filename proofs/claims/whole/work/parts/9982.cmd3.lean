/-! ===== the plain commands: class and model do one thing ===== -/
def k01 (e : Nat) : Int32 := if e = 0 then 1 else 9
def k3102 (e : Nat) : Int32 := if e = 3 then 1 else if e = 0 then 2 else 9
section CM3
variable {s s1 t t1 : am_S} {A B : List Nat} {T T' : hT} {X X' : hX} {x y z x1 x2 x3 x4 x5 : Int32} {r c d : Int32} {lw : Nat → Int32} {wy : List (List T2)} {hd : List (List T3)} {dr : List T3} {cr : List T2} {en : List T3} {α : Type} {w : α → Option Value} {k : Nat → Int32} {fc fm : am_F} {e : Nat} {u v : α}
theorem oB (oS : okS r c d lw wy hd dr cr en) : wy.length ≤ 6 ∧ (∀ (w : Nat) (q : List T2), wy[w]? = some q → q.length ≤ 11) ∧ hd.length ≤ 5 ∧ (∀ (w : Nat) (q : List T3), hd[w]? = some q → q.length ≤ 4) ∧ dr.length ≤ 4 ∧ cr.length ≤ 3 ∧ en.length ≤ 4 := by
  obtain ⟨o1, o2, o3, o4, o5, o6, o7, o8, o9⟩ := oS
  exact ⟨o5.1, fun w q h => (o5.2 q (List.mem_of_getElem? h)).1, o6.1, fun w q h => (o6.2 q (List.mem_of_getElem? h)).1, o7.1, o8.1, o9.1⟩
theorem JW_x (oT : tO T) (oX : xO X) (f1 : fr A s s1) (hA : A.all (fun a => decide (a ∈ cA)) = true) (c1 : cZ s1 T X) (e1 : fc = some (.inr e, am_tick s1)) (f2 : fr B t t1) (hB : B.all (fun a => decide (a ∈ mA)) = true) (m1 : mZ t1 T X) (e2 : fm = some (.inl (w v), t1)) (hk : am_I t1 55 3 = k e) : JW w k s t fc fm :=
  ⟨.inl e, T, X, oT, oX, ⟨s1, f1.mono hA, c1, e1⟩, ⟨t1, v, f2.mono hB, m1, e2, hk⟩⟩
theorem JW_v (oT : tO T) (oX : xO X) (f1 : fr A s s1) (hA : A.all (fun a => decide (a ∈ cA)) = true) (c1 : cZ s1 T X) (e1 : fc = some (.inl (w v), s1)) (f2 : fr B t t1) (hB : B.all (fun a => decide (a ∈ mA)) = true) (m1 : mZ t1 T X) (e2 : fm = some (.inl (w v), t1)) (hk : am_I t1 55 3 = 0) : JW w k s t fc fm :=
  ⟨.inr v, T, X, oT, oX, ⟨s1, f1.mono hA, c1, e1⟩, ⟨t1, v, f2.mono hB, m1, e2, hk, rfl⟩⟩
theorem cZ.upd (h : cZ s T X) (oX : xO X) (f : fr A s s1) (hA : A.all (fun a => decide (a ≤ 32)) = true) (hT : tC s1 1 T') : cZ s1 T' X := by
  have k : ∀ a, ¬ a ≤ 32 → a ∉ A := fun a h hm => h (of_decide_eq_true (List.all_eq_true.mp hA _ hm))
  have kA : ∀ {p : Nat → Bool}, (∀ a, a ≤ 32 → p a = true) → A.all p = true := fun hp => List.all_eq_true.mpr (fun a ha => hp a (of_decide_eq_true (List.all_eq_true.mp hA _ ha)))
  exact ⟨hT, h.2.1.keep f (kA (fun a h => decide_eq_true (by omega))) (by rw [f.I (k _ (by omega))]), h.2.2.1.keep f (kA (fun a h => decide_eq_true (by omega))), h.2.2.2.keep oX f (kA (fun a h => decide_eq_true (by omega)))⟩
theorem mZ.upd (h : mZ t T X) (f : fr A t t1) (hA : A.all (fun a => decide (a = 55 ∨ a = 56)) = true) (e : ∀ k, k ≠ 3 → am_I t1 55 k = am_I t 55 k) (hT : tM (am_I t1 56) T') : mZ t1 T' X := by
  have k : ∀ a, ¬ (a = 55 ∨ a = 56) → a ∉ A := fun a h hm => h (of_decide_eq_true (List.all_eq_true.mp hA _ hm))
  have kA : ∀ {p : Nat → Bool}, (∀ a, (a = 55 ∨ a = 56) → p a = true) → A.all p = true := fun hp => List.all_eq_true.mpr (fun a ha => hp a (of_decide_eq_true (List.all_eq_true.mp hA _ ha)))
  exact ⟨hT, ⟨(e 42 (by omega)).trans h.2.1.1, mSi_of h.2.1.2 (e 30 (by omega)) (f.I (k _ (by omega))) (f.I (k _ (by omega)))⟩, h.2.2.keep f (kA (fun a h => decide_eq_true (by omega))) (e 7 (by omega)) (e 15 (by omega)) (e 16 (by omega))⟩
theorem mZ.thr (h : mZ t T X) : mZ (am_sI t 55 3 x) T X := h.upd (A := [55]) (fr.refl.sI (by simp)) (by decide) (fun k hk => by rw [I_sI, if_neg (by omega)]) (by rw [I_ne (by decide)]; exact h.1)
theorem thr2 : am_I (am_sI (am_sI t 55 3 x) 55 3 y) 55 3 = y := thr0
theorem W_sheet (hC : cZ s T X) (hM : mZ t T X) (oT : tO T) (oX : xO X) : JW (fun _ : Unit => none) k01 s t (f_X7_sheet x1 x2 s) (f_X8_sheet x1 x2 t) := by
  obtain ⟨r, c, d, lw, wy, hd, dr, cr, en⟩ := T
  have oS : okS r c d lw wy hd dr cr en := oT
  obtain ⟨b1, b2, b3, b4, b5, b6, b7⟩ := oB oS
  rw [f_sheet, g_sheet]
  by_cases h : wi x1.toInt 4 24 = true ∧ wi x2.toInt 3 12 = true
  · rw [if_pos h, if_pos h]
    have f1 : fr [1] s (am_sI (am_sI s 1 0 x1) 1 1 x2) := (fr.refl.sI (by simp)).sI (by simp)
    have f2 : fr [55, 56] t (am_sI (am_sI (am_sI t 55 3 0) 56 0 x1) 56 1 x2) := ((fr.refl.sI (by simp)).sI (by simp)).sI (by simp)
    refine JW_v (v := ()) (T := (x1, x2, d, lw, wy, hd, dr, cr, en)) (X := X) ⟨wi_t.mp h.1, wi_t.mp h.2, oS.2.2⟩ oX f1 (by decide) (hC.upd oX f1 (by decide) ?_) rfl f2 (by decide) (hM.upd f2 (by decide) ?_ ?_) rfl ?_
    · refine cS.head (r' := x1) (c' := x2) (d' := d) hC.1 b1 b3 ?_ ?_ ?_ ?_ ?_ ?_
      · intro j h1 h2; exact f1.I (by simp; omega)
      · rw [I_sI, if_neg (by omega), I_sI, if_pos (by omega)]
      · rw [I_sI, if_pos (by omega)]
      · rw [I_sI, if_neg (by omega), I_sI, if_neg (by omega)]; exact hC.1.1.2.2.1
      · rw [I_sI, if_neg (by omega), I_sI, if_neg (by omega)]
      · rw [I_sI, if_neg (by omega), I_sI, if_neg (by omega)]
    · intro k hk; rw [I_ne (by decide), I_ne (by decide), I_sI, if_neg (by omega)]
    · refine mS.head (r' := x1) (c' := x2) (d' := d) hM.1 b1 b2 b3 b4 b5 b6 b7 ?_ ?_ ?_ ?_
      · intro k hk; rw [I_sI, if_neg (by omega), I_sI, if_neg (by omega), I_ne (by decide)]
      · rw [I_sI, if_neg (by omega), I_sI, if_pos (by omega)]
      · rw [I_sI, if_pos (by omega)]
      · rw [I_sI, if_neg (by omega), I_sI, if_neg (by omega), I_ne (by decide)]; exact hM.1.1.2.2.1
    · rw [I_ne (by decide), I_ne (by decide), thr0]
  · rw [if_neg h, if_neg h]
    exact JW_x (v := ()) oT oX (fr.refl (A := [])) (by decide) hC rfl (B := [55]) (fr.refl.sI (by simp)) (by decide) hM.thr rfl thr0
theorem W_damp (hC : cZ s T X) (hM : mZ t T X) (oT : tO T) (oX : xO X) : JW (fun v => some (Value.int v)) k01 s t (f_X7_damp x1 s) (f_X8_damp x1 t) := by
  obtain ⟨r, c, d, lw, wy, hd, dr, cr, en⟩ := T
  have oS : okS r c d lw wy hd dr cr en := oT
  obtain ⟨b1, b2, b3, b4, b5, b6, b7⟩ := oB oS
  rw [f_damp, g_damp]
  by_cases h : wi x1.toInt 0 50 = true
  · rw [if_pos h, if_pos h]
    have f1 : fr [1] s (am_sI s 1 2 x1) := fr.refl.sI (by simp)
    have f2 : fr [55, 56] t (am_sI (am_sI t 55 3 0) 56 7 x1) := (fr.refl.sI (by simp)).sI (by simp)
    have e1 : am_I s 1 2 = d := hC.1.1.2.2.1
    have e2 : am_I t 56 7 = d := hM.1.1.2.2.1
    rw [e1, e2]
    refine JW_v (v := d) (T := (r, c, x1, lw, wy, hd, dr, cr, en)) (X := X) ⟨oS.1, oS.2.1, wi_t.mp h, oS.2.2.2⟩ oX f1 (by decide) (hC.upd oX f1 (by decide) ?_) rfl f2 (by decide) (hM.upd f2 (by decide) ?_ ?_) rfl ?_
    · refine cS.head (r' := r) (c' := c) (d' := x1) hC.1 b1 b3 ?_ ?_ ?_ ?_ ?_ ?_
      · intro j h1 h2; exact f1.I (by simp; omega)
      · rw [I_sI, if_neg (by omega)]; exact hC.1.1.1
      · rw [I_sI, if_neg (by omega)]; exact hC.1.1.2.1
      · rw [I_sI, if_pos (by omega)]
      · rw [I_sI, if_neg (by omega)]
      · rw [I_sI, if_neg (by omega)]
    · intro k hk; rw [I_ne (by decide), I_sI, if_neg (by omega)]
    · refine mS.head (r' := r) (c' := c) (d' := x1) hM.1 b1 b2 b3 b4 b5 b6 b7 ?_ ?_ ?_ ?_
      · intro k hk; rw [I_sI, if_neg (by omega), I_ne (by decide)]
      · rw [I_sI, if_neg (by omega), I_ne (by decide)]; exact hM.1.1.1
      · rw [I_sI, if_neg (by omega), I_ne (by decide)]; exact hM.1.1.2.1
      · rw [I_sI, if_pos (by omega)]
    · rw [I_ne (by decide), thr0]
  · rw [if_neg h, if_neg h]
    exact JW_x (v := 0) oT oX (fr.refl (A := [])) (by decide) hC rfl (B := [55]) ((fr.refl.sI (by simp)).sI (by simp)) (by decide) hM.thr.thr rfl thr0
theorem W_draught (hC : cZ s T X) (hM : mZ t T X) (oT : tO T) (oX : xO X) : JW (fun v => some (Value.int v)) k01 s t (f_X7_draught x1 x2 x3 s) (f_X8_draught x1 x2 x3 t) := by
  obtain ⟨r, c, d, lw, wy, hd, dr, cr, en⟩ := T
  have oS : okS r c d lw wy hd dr cr en := oT
  obtain ⟨b1, b2, b3, b4, b5, b6, b7⟩ := oB oS
  have hR : cR3 s 5 dr := hC.1.2.2.2.1
  have hL : am_I s 5 1 = 4 := hC.1.2.2.2.2.2.2.2.2.1
  have hN : am_I t 56 4 = oN dr.length := hM.1.2.2.2.1.1
  have hP : hp3 (am_I t 56) 234 3 dr := hM.1.2.2.2.1.2
  rw [f_draught hR.1 hL b5, g_draught hN b5]
  by_cases h : okD x1 x2 x3 = true
  · rw [if_pos h, if_pos h]
    by_cases h4 : dr.length < 4
    · rw [if_pos h4, if_pos h4]
      have f1 : fr [5, 6] s (addR 5 dr.length x1 x2 x3 s) := addR_fr
      have f2 : fr [55, 56] t (put3 (234 + 3 * dr.length) 4 dr.length x1 x2 x3 (am_sI t 55 3 0)) := fr.trans (fr.refl.sI (by simp)) (put3_fr.mono (by decide))
      have hq : (1 ≤ x1.toInt ∧ x1.toInt ≤ 200) ∧ (x1.toInt ≤ x2.toInt ∧ x2.toInt ≤ 200) ∧ (-20 ≤ x3.toInt ∧ x3.toInt ≤ 20) := by
        unfold okD at h
        simp only [Bool.and_eq_true, wi_t] at h
        omega
      refine JW_v (v := oN dr.length) (T := (r, c, d, lw, wy, hd, dr ++ [(x1, x2, x3)], cr, en)) (X := X) ?_ oX f1 (by decide) (hC.upd oX f1 (by decide) ?_) rfl f2 (by decide) (hM.upd f2 (by decide) ?_ ?_) rfl ?_
      · obtain ⟨o1, o2, o3, o4, o5, o6, o7, o8, o9⟩ := oS
        refine ⟨o1, o2, o3, o4, o5, o6, ⟨by rw [List.length_append, List.length_singleton]; omega, ?_⟩, o8, o9⟩
        intro q hm
        rcases List.mem_append.mp hm with hm | hm
        · exact o7.2 q hm
        · rw [List.mem_singleton.mp hm]; exact hq
      · refine cS.dra (dr' := dr ++ [(x1, x2, x3)]) hC.1 b1 b3 ?_ (addR_3 hR) ?_
        · intro j h1 h2; exact f1.I (by simp; omega)
        · show am_I (addR 5 dr.length x1 x2 x3 s) 5 1 = _
          rw [addR_I, if_neg (by omega)]
      · intro k hk
        rw [put3_fr.I (by decide), I_sI, if_neg (by omega)]
      · refine mS.dra (dr' := dr ++ [(x1, x2, x3)]) hM.1 b1 b2 b3 b4 b5 b6 b7 ?_ ?_ ?_
        · intro k hk
          rw [put3_I, if_neg (by omega), if_neg (by omega), if_neg (by omega), if_neg (by omega), I_ne (by decide)]
        · rw [put3_I, if_pos rfl, List.length_append, List.length_singleton]
        · refine hP.push ?_ ?_ ?_ ?_
          · intro i k hi hk
            rw [put3_I, if_neg (by omega), if_neg (by omega), if_neg (by omega), if_neg (by omega), I_ne (by decide)]
          · rw [put3_I, if_neg (by omega), if_neg (by omega), if_neg (by omega), if_pos rfl]
          · rw [put3_I, if_neg (by omega), if_neg (by omega), if_pos rfl]
          · rw [put3_I, if_neg (by omega), if_pos rfl]
      · rw [put3_fr.I (by decide), thr0]
    · rw [if_neg h4, if_neg h4]
      exact JW_v (v := -1) oT oX (fr.refl (A := [])) (by decide) hC rfl (B := [55]) (fr.refl.sI (by simp)) (by decide) hM.thr rfl thr0
  · rw [if_neg h, if_neg h]
    exact JW_x (v := 0) oT oX (fr.refl (A := [])) (by decide) hC rfl (B := [55]) ((fr.refl.sI (by simp)).sI (by simp)) (by decide) hM.thr.thr rfl thr0
theorem W_crate (hC : cZ s T X) (hM : mZ t T X) (oT : tO T) (oX : xO X) : JW (fun v => some (Value.int v)) k01 s t (f_X7_crate x1 x2 s) (f_X8_crate x1 x2 t) := by
  obtain ⟨r, c, d, lw, wy, hd, dr, cr, en⟩ := T
  have oS : okS r c d lw wy hd dr cr en := oT
  obtain ⟨b1, b2, b3, b4, b5, b6, b7⟩ := oB oS
  have hR : cR2 s 7 cr := hC.1.2.2.2.2.1
  have hL : am_I s 7 1 = 3 := hC.1.2.2.2.2.2.2.2.2.2.1
  have hN : am_I t 56 5 = oN cr.length := hM.1.2.2.2.2.1.1
  have hP : hp2 (am_I t 56) 246 2 cr := hM.1.2.2.2.2.1.2
  rw [f_crate hR.1 hL b6, g_crate hN b6]
  by_cases h : okC x1 x2 = true
  · rw [if_pos h, if_pos h]
    by_cases h4 : cr.length < 3
    · rw [if_pos h4, if_pos h4]
      have f1 : fr [7, 8] s (addR 7 cr.length x1 x2 0 s) := addR_fr
      have f2 : fr [55, 56] t (put2 (246 + 2 * cr.length) 5 cr.length x1 x2 (am_sI t 55 3 0)) := fr.trans (fr.refl.sI (by simp)) (put2_fr.mono (by decide))
      have hq : (1 ≤ x1.toInt ∧ x1.toInt ≤ 99999) ∧ (1 ≤ x2.toInt ∧ x2.toInt ≤ 9999) := by
        unfold okC at h
        simp only [Bool.and_eq_true, wi_t] at h
        omega
      refine JW_v (v := oN cr.length) (T := (r, c, d, lw, wy, hd, dr, cr ++ [(x1, x2)], en)) (X := X) ?_ oX f1 (by decide) (hC.upd oX f1 (by decide) ?_) rfl f2 (by decide) (hM.upd f2 (by decide) ?_ ?_) rfl ?_
      · obtain ⟨o1, o2, o3, o4, o5, o6, o7, o8, o9⟩ := oS
        refine ⟨o1, o2, o3, o4, o5, o6, o7, ⟨by rw [List.length_append, List.length_singleton]; omega, ?_⟩, o9⟩
        intro q hm
        rcases List.mem_append.mp hm with hm | hm
        · exact o8.2 q hm
        · rw [List.mem_singleton.mp hm]; exact hq
      · refine cS.cra (cr' := cr ++ [(x1, x2)]) hC.1 b1 b3 ?_ (addR_2 hR) ?_
        · intro j h1 h2; exact f1.I (by simp; omega)
        · show am_I (addR 7 cr.length x1 x2 0 s) 7 1 = _
          rw [addR_I, if_neg (by omega)]
      · intro k hk
        rw [put2_fr.I (by decide), I_sI, if_neg (by omega)]
      · refine mS.cra (cr' := cr ++ [(x1, x2)]) hM.1 b1 b2 b3 b4 b5 b6 b7 ?_ ?_ ?_
        · intro k hk
          rw [put2_I, if_neg (by omega), if_neg (by omega), if_neg (by omega), I_ne (by decide)]
        · rw [put2_I, if_pos rfl, List.length_append, List.length_singleton]
        · refine hP.push ?_ ?_ ?_
          · intro i k hi hk
            rw [put2_I, if_neg (by omega), if_neg (by omega), if_neg (by omega), I_ne (by decide)]
          · rw [put2_I, if_neg (by omega), if_neg (by omega), if_pos rfl]
          · rw [put2_I, if_neg (by omega), if_pos rfl]
      · rw [put2_fr.I (by decide), thr0]
    · rw [if_neg h4, if_neg h4]
      exact JW_v (v := -1) oT oX (fr.refl (A := [])) (by decide) hC rfl (B := [55]) (fr.refl.sI (by simp)) (by decide) hM.thr rfl thr0
  · rw [if_neg h, if_neg h]
    exact JW_x (v := 0) oT oX (fr.refl (A := [])) (by decide) hC rfl (B := [55]) ((fr.refl.sI (by simp)).sI (by simp)) (by decide) hM.thr.thr rfl thr0
theorem W_still (hC : cZ s T X) (hM : mZ t T X) (oT : tO T) (oX : xO X) : JW (fun v => some (Value.int v)) k01 s t (f_X7_still s) (f_X8_still t) := by
  obtain ⟨r, c, d, lw, wy, hd, dr, cr, en⟩ := T
  have oS : okS r c d lw wy hd dr cr en := oT
  obtain ⟨b1, b2, b3, b4, b5, b6, b7⟩ := oB oS
  have hR : cR3 s 5 dr := hC.1.2.2.2.1
  have hR2 : cR2 s 7 cr := hC.1.2.2.2.2.1
  have hN : am_I t 56 4 = oN dr.length := hM.1.2.2.2.1.1
  have hN2 : am_I t 56 5 = oN cr.length := hM.1.2.2.2.2.1.1
  unfold f_X7_still f_X8_still
  rw [hR.1, hR2.1, hN, hN2]
  have f1 : fr [5] s (am_sI s 5 2 0) := fr.refl.sI (by simp)
  have f1' : fr [7] (am_sI s 5 2 0) (am_sI (am_sI s 5 2 0) 7 2 0) := fr.refl.sI (by simp)
  have f2 : fr [55, 56] t (am_sI (am_sI (am_sI t 55 3 0) 56 4 0) 56 5 0) := ((fr.refl.sI (by simp)).sI (by simp)).sI (by simp)
  refine JW_v (v := oN dr.length + oN cr.length) (T := (r, c, d, lw, wy, hd, [], [], en)) (X := X) ?_ oX (A := [5, 7]) ((f1.mono (by decide)).trans (f1'.mono (by decide))) (by decide) ((hC.upd oX f1 (by decide) (T' := (r, c, d, lw, wy, hd, [], cr, en)) ?_).upd oX f1' (by decide) ?_) rfl f2 (by decide) (hM.upd f2 (by decide) ?_ ?_) rfl ?_
  · obtain ⟨o1, o2, o3, o4, o5, o6, o7, o8, o9⟩ := oS
    exact ⟨o1, o2, o3, o4, o5, o6, ⟨by simp, fun q h => by cases h⟩, ⟨by simp, fun q h => by cases h⟩, o9⟩
  · refine cS.dra (dr' := []) hC.1 b1 b3 ?_ ⟨?_, fun i q h => by cases h⟩ ?_
    · intro j h1 h2; exact f1.I (by simp; omega)
    · show am_I (am_sI s 5 2 0) 5 2 = _
      rw [I_sI, if_pos (by omega)]
      rfl
    · show am_I (am_sI s 5 2 0) 5 1 = _
      rw [I_sI, if_neg (by omega)]
  · have hC2 : cS (am_sI s 5 2 0) 1 r c d lw wy hd [] cr en := by
      refine cS.dra (dr' := []) hC.1 b1 b3 ?_ ⟨?_, fun i q h => by cases h⟩ ?_
      · intro j h1 h2; exact f1.I (by simp; omega)
      · show am_I (am_sI s 5 2 0) 5 2 = _
        rw [I_sI, if_pos (by omega)]
        rfl
      · show am_I (am_sI s 5 2 0) 5 1 = _
        rw [I_sI, if_neg (by omega)]
    refine cS.cra (cr' := []) hC2 b1 b3 ?_ ⟨?_, fun i q h => by cases h⟩ ?_
    · intro j h1 h2; exact f1'.I (by simp; omega)
    · show am_I (am_sI (am_sI s 5 2 0) 7 2 0) 7 2 = _
      rw [I_sI, if_pos (by omega)]
      rfl
    · show am_I (am_sI (am_sI s 5 2 0) 7 2 0) 7 1 = _
      rw [I_sI, if_neg (by omega)]
  · intro k hk; rw [I_ne (by decide), I_ne (by decide), I_sI, if_neg (by omega)]
  · have h1 : mS (am_I (am_sI (am_sI t 55 3 0) 56 4 0) 56) r c d lw wy hd [] cr en := by
      refine mS.dra (dr' := []) hM.1 b1 b2 b3 b4 b5 b6 b7 ?_ ?_ (fun i q h => by cases h)
      · intro k hk; rw [I_sI, if_neg (by omega), I_ne (by decide)]
      · rw [I_sI, if_pos (by omega)]; rfl
    refine mS.cra (cr' := []) h1 b1 b2 b3 b4 (by simp) b6 b7 ?_ ?_ (fun i q h => by cases h)
    · intro k hk; rw [I_sI, if_neg (by omega)]
    · rw [I_sI, if_pos (by omega)]; rfl
  · rw [I_ne (by decide), I_ne (by decide), thr0]
end CM3
