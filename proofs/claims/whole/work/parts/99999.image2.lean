/-! ===== image: class and model do one thing; every command told alike ===== -/
/-- what the class's part leaves to the model and to the foreign things -/
def oJ (s s1 : am_S) : Prop := ∀ a, (55 ≤ a ∧ a < 72) ∨ 1000000 ≤ a → am_I s1 a = am_I s a ∧ am_L s1 a = am_L s a
def cWG {α : Type} (w : α → Option Value) (s : am_S) (T : hT) (X : hX) (f : am_F) (o : Nat ⊕ α) : Prop := ∃ s1, oJ s s1 ∧ am_c s1 ≤ am_c s + 32 ∧ am_z s1 ≤ am_z s + 1000 ∧ am_K s1 2000000 = am_K s 2000000 ∧ cZ s1 T X ∧ f = (match o with | .inl e => some (.inr e, am_tick s1) | .inr v => some (.inl (w v), s1))
def JG {α : Type} (w : α → Option Value) (k : Nat → Int32) (s t : am_S) (fc fm : am_F) : Prop := ∃ o T X, tO T ∧ xO X ∧ cWG w s T X fc o ∧ mWD w k t T X fm o
def cnt (im : Nat → Option hT) : Nat := (im 0).toList.length + (im 1).toList.length + (im 2).toList.length
section IM3
variable {α : Type} {w : α → Option Value} {k : Nat → Int32} {fc fm : am_F} {b i n : Nat} {s s1 t t1 : am_S} {T : hT} {X : hX} {x x1 : Int32} {im : Nat → Option hT}
theorem JW.g (h : JW w k s t fc fm) : JG w k s t fc fm := by
  obtain ⟨o, T, X, h1, h2, ⟨s1, f, h3, h4⟩, h5⟩ := h
  refine ⟨o, T, X, h1, h2, ⟨s1, ?_, ?_, ?_, by rw [f.K], h3, h4⟩, h5⟩
  · intro a ha
    have : a ∉ cA := by
      unfold cA
      rw [List.mem_range']
      rintro ⟨j, h1, h2⟩
      omega
    exact f.1 a this
  · show s1.2.2.2.2.2.1 ≤ _
    rw [f.2]; exact Nat.le_add_right _ _
  · show s1.2.2.2.2.2.2 ≤ _
    rw [f.2]; exact Nat.le_add_right _ _
theorem cnt_none (hi : i < 3) (h : im i = none) : cnt (fun j => if j = i then some T else im j) = cnt im + 1 := by
  have : i = 0 ∨ i = 1 ∨ i = 2 := by omega
  unfold cnt
  rcases this with e | e | e <;> subst e <;> simp [h] <;> omega
theorem cnt_some {h0 : hT} (hi : i < 3) (h : im i = some h0) : cnt (fun j => if j = i then some T else im j) = cnt im := by
  have : i = 0 ∨ i = 1 ∨ i = 2 := by omega
  unfold cnt
  rcases this with e | e | e <;> subst e <;> simp [h]
theorem cnt_le (hi : i < 3) (h : im i = none) : cnt im ≤ 2 := by
  have : i = 0 ∨ i = 1 ∨ i = 2 := by omega
  have l : ∀ o : Option hT, o.toList.length ≤ 1 := by intro o; cases o <;> simp
  have l0 := l (im 0)
  have l1 := l (im 1)
  have l2 := l (im 2)
  unfold cnt
  rcases this with e | e | e <;> subst e <;> simp only [h, Option.toList_none, List.length_nil] <;> omega
theorem cZ.img {im' : Nat → Option hT} (h : cZ s T X) (oT : tO T) (e : ∀ a, a < 55 ∨ 1000000 ≤ a → am_I s1 a = am_I s a ∧ am_L s1 a = am_L s a) (hi : imC s1 im') : cZ s1 T (X.1, X.2.1, X.2.2.1, X.2.2.2.1, X.2.2.2.2.1, im') := by
  obtain ⟨h1, h2, h3, h4, h5, h6⟩ := h
  refine ⟨h1.out oT (fun j hj => (e _ (by omega)).1), ⟨⟨fun k hk => ?_, fun k hk => ?_⟩, ?_⟩, ?_, h4.keep (e _ (by omega)).1 (e _ (by omega)).1, h5.keep (fun a h1 h2 => (e a (by omega)).1) (fun a h1 h2 => (e a (by omega)).2), hi⟩
  · rw [(e _ (by omega)).1]; exact h2.1.1 k hk
  · rw [(e _ (by omega)).1]; exact h2.1.2 k hk
  · rw [(e _ (by omega)).1]; exact h2.2
  · unfold stS
    rw [(e 3000000 (by omega)).1, (e 3000001 (by omega)).1, (e 3000002 (by omega)).1, (e 3000003 (by omega)).1, (e 3000004 (by omega)).1]
    exact h3
theorem mimg (hM : mZ t T X) (oT : tO T) (oX : xO X) (hi : i < 3) : ∃ t', (am_lm (L_X8_image_38 ax_fuel (oN i) 0 (am_sI (am_sI t 55 3 0) 58 i 1)) (fun e11 s12 => some (.inl none, s12)) : am_F) = some (.inl none, t') ∧ fr mA t t' ∧ am_I t' 55 3 = 0 ∧ mZ t' T (X.1, X.2.1, X.2.2.1, X.2.2.2.1, X.2.2.2.2.1, fun j => if j = i then some T else X.2.2.2.2.2 j) := by
  obtain ⟨t', d1, d2, d3, d4⟩ := mimg_in (i := i) hi 264 ax_fuel 0 (am_sI (am_sI t 55 3 0) 58 i 1) (by rw [ax_fuel_is]; omega) (by omega)
  have f1 : fr [55, 57, 58] t t' := fr.trans ((fr.refl.sI (by simp)).sI (by simp)) (d2.mono (by decide))
  have e55 : ∀ k, k ≠ 3 → am_I t' 55 k = am_I t 55 k := by
    intro k hk
    rw [d2.I (by decide), I_ne (by decide), I_sI, if_neg (by omega)]
  have e58 : ∀ k, am_I t' 58 k = if k = i then 1 else am_I t 58 k := by
    intro k
    rw [d2.I (by decide), I_sI, I_ne (by decide)]
    simp only [true_and]
  obtain ⟨h1, h2, h3, h4, h5⟩ := hM
  refine ⟨t', by rw [show L_X8_image_38 ax_fuel (oN i) (0 : Int32) _ = _ from d1, lm_e], f1.mono (by decide), by rw [d2.I (by decide), I_ne (by decide), I_sI, if_pos ⟨rfl, rfl⟩], by rw [f1.I (by decide)]; exact h1, ⟨(e55 42 (by omega)).trans h2.1, mSi_of h2.2 (e55 30 (by omega)) (f1.I (by decide)) (f1.I (by decide))⟩, h3.keep (f1.I (by decide)) (e55 7 (by omega)) (e55 15 (by omega)) (e55 16 (by omega)), h4.keep (f1.I (by decide)) (f1.I (by decide)) (f1.L (by decide)), ?_⟩
  intro j hj
  by_cases c : j = i
  · subst c
    refine Or.inr ⟨T, by show (if j = j then some T else _) = _; rw [if_pos rfl], by rw [e58, if_pos rfl], ?_⟩
    refine mS.same h1 oT (fun k hk => ?_)
    rw [d3 k (by omega) hk, I_ne (by decide), I_ne (by decide)]
  · have ej : (fun j => if j = i then some T else X.2.2.2.2.2 j) j = X.2.2.2.2.2 j := by show (if j = i then some T else _) = _; rw [if_neg c]
    rcases h5 j hj with ⟨a1, a2⟩ | ⟨h, a1, a2, a3⟩
    · exact Or.inl ⟨ej.trans a1, by rw [e58, if_neg c]; exact a2⟩
    · refine Or.inr ⟨h, ej.trans a1, by rw [e58, if_neg c]; exact a2, ?_⟩
      refine mS.same a3 (oX.2.2 j h hj a1) (fun k hk => ?_)
      rw [d4 _ (by omega), I_ne (by decide), I_ne (by decide)]
theorem W_image (hC : cZ s T X) (hM : mZ t T X) (oT : tO T) (oX : xO X) : JG (fun _ : Unit => none) k312 s t (f_X7_image x1 s) (f_X8_image x1 t) := by
  unfold f_X7_image f_X8_image
  rw [mIn3, bi_s, jn_s]
  rcases ix_cases x1 3 with ⟨i, hi, e⟩ | hx
  · subst e
    obtain ⟨t', m1, m2, m3, m4⟩ := mimg hM oT oX hi
    have oX2 : xO (X.1, X.2.1, X.2.2.1, X.2.2.2.1, X.2.2.2.2.1, fun j => if j = i then some T else X.2.2.2.2.2 j) := by
      refine ⟨oX.1, oX.2.1, fun j h hj e => ?_⟩
      have e : (if j = i then some T else X.2.2.2.2.2 j) = some h := e
      by_cases c : j = i
      · rw [if_pos c] at e; cases e; exact oT
      · rw [if_neg c] at e; exact oX.2.2 j h hj e
    rw [needImg_ok hi, tu_s, if_pos (in_o (by omega) (by omega)), if_pos (show 0 ≤ (oN i).toInt ∧ (oN i).toInt < (3 : Nat) by rw [oN_int (by omega)]; omega), if_neg n10, oN_nat (by omega)]
    dsimp only
    rw [if_pos (show (0 : Int32) ≤ 0 by decide), if_pos (in_o (by omega) (by omega)), m1]
    have hI := hC.2.2.2.2.2
    obtain ⟨I1, I2, I3⟩ := hI
    rcases I1 i hi with ⟨a1, a2⟩ | ⟨b, h, a1, a2, a3, a4, a5⟩
    · have c2 := cnt_le hi a2
      have hn0 : am_n s = 72 + 32 * cnt X.2.2.2.2.2 := I3
      have hn : am_n s = 72 ∨ am_n s = 104 ∨ am_n s = 136 := by omega
      rw [a1]
      show JG _ _ _ _ (if am_n s = 72 ∨ am_n s = 104 ∨ am_n s = 136 then _ else none) _
      rw [if_pos hn]
      obtain ⟨n, hne⟩ : ∃ n, am_n s = n := ⟨_, rfl⟩
      rw [hne] at hn hn0 ⊢
      have o := nSt_out (b := n) (σ := s)
      have hcS : cS (am_sR (nSt n s) 33 i (some n)) 1 T.1 T.2.1 T.2.2.1 T.2.2.2.1 T.2.2.2.2.1 T.2.2.2.2.2.1 T.2.2.2.2.2.2.1 T.2.2.2.2.2.2.2.1 T.2.2.2.2.2.2.2.2 := tC.out (T := T) hC.1 oT (fun j hj => (o (1 + j) (by omega)).1)
      obtain ⟨s', e1, e2, e3⟩ := scopy (s := am_sR (nSt n s) 33 i (some n)) (a := n) (b := 1) (by omega) hcS oT (ntL hn)
      rw [e1, bu_s]
      have hout : ∀ a, ¬ (n ≤ a ∧ a < n + 32) → am_I s' a = am_I s a ∧ am_L s' a = am_L s a := by
        intro a ha
        have hm : a ∉ List.range' n 32 := by rw [List.mem_range']; rintro ⟨j, h1, h2⟩; omega
        exact ⟨(e2.I hm).trans (o a ha).1, (e2.L hm).trans (o a ha).2.1⟩
      have hR : ∀ j, am_R s' 33 j = if j = i then some n else am_R s 33 j := by
        intro j
        rw [e2.R]
        show am_u (am_R (nSt n s)) 33 i (some n) 33 j = _
        unfold am_u va_up
        rw [if_pos rfl, (o 33 (by omega)).2.2.1]
      have hn' : am_n s' = n + 32 := by rw [e2.nn]; rfl
      have hcc : am_c s' = am_c s + 32 := by show s'.2.2.2.2.2.1 = _; rw [e2.2]; rfl
      have hzz : am_z s' ≤ am_z s + 1000 := by show s'.2.2.2.2.2.2 ≤ _; rw [e2.2]; exact nSt_z
      refine ⟨.inr (), T, _, oT, oX2, ⟨s', fun a ha => hout a (by omega), by omega, hzz, by rw [e2.K]; exact (o 2000000 (by omega)).2.2.2, cZ.img hC oT (fun a ha => hout a (by omega)) ⟨?_, ?_, ?_⟩, rfl⟩, ⟨t', (), m2, m4, rfl, m3, rfl⟩⟩
      · intro j hj
        by_cases c : j = i
        · refine Or.inr ⟨n, T, by rw [hR, if_pos c], hn, by omega, by show (if j = i then some T else _) = _; rw [if_pos c], e3⟩
        · rcases I1 j hj with ⟨q1, q2⟩ | ⟨b, h, q1, q2, q3, q4, q5⟩
          · exact Or.inl ⟨by rw [hR, if_neg c]; exact q1, by show (if j = i then some T else _) = _; rw [if_neg c]; exact q2⟩
          · refine Or.inr ⟨b, h, by rw [hR, if_neg c]; exact q1, q2, by omega, by show (if j = i then some T else _) = _; rw [if_neg c]; exact q4, q5.out (oX.2.2 j h hj q4) (fun k hk => (hout _ (by omega)).1)⟩
      · intro j j' b hj hj' q q'
        rw [hR] at q q'
        have bl : ∀ k, k < 3 → am_R s 33 k = some b → b < n := by
          intro k hk e
          rcases I1 k hk with ⟨r1, r2⟩ | ⟨b', h', r1, r2, r3, r4, r5⟩
          · rw [r1] at e; cases e
          · rw [r1] at e; cases e; omega
        by_cases c : j = i
        · by_cases c' : j' = i
          · omega
          · rw [if_pos c] at q; rw [if_neg c'] at q'
            cases q
            have := bl j' hj' q'
            omega
        · by_cases c' : j' = i
          · rw [if_neg c] at q; rw [if_pos c'] at q'
            cases q'
            have := bl j hj q
            omega
          · rw [if_neg c] at q; rw [if_neg c'] at q'
            exact I2 j j' b hj hj' q q'
      · show am_n s' = 72 + 32 * cnt (fun j => if j = i then some T else X.2.2.2.2.2 j)
        rw [cnt_none hi a2]; omega
    · obtain ⟨s', e1, e2, e3⟩ := scopy (s := s) (a := b) (b := 1) (by omega) hC.1 oT a5.2.2.2.2.2.2
      rw [a1]
      show JG _ _ _ _ (am_bu (f_X5_copyFrom b 1 s) (fun s7 => some (.inl none, s7))) _
      rw [e1, bu_s]
      have hout : ∀ a, ¬ (b ≤ a ∧ a < b + 32) → am_I s' a = am_I s a ∧ am_L s' a = am_L s a := by
        intro a ha
        have hm : a ∉ List.range' b 32 := by rw [List.mem_range']; rintro ⟨j, h1, h2⟩; omega
        exact ⟨e2.I hm, e2.L hm⟩
      have hn' : am_n s' = am_n s := e2.nn
      have hcc : am_c s' = am_c s := by show s'.2.2.2.2.2.1 = _; rw [e2.2]
      have hzz : am_z s' = am_z s := by show s'.2.2.2.2.2.2 = _; rw [e2.2]
      refine ⟨.inr (), T, _, oT, oX2, ⟨s', fun a ha => hout a (by omega), by omega, by omega, by rw [e2.K], cZ.img hC oT (fun a ha => hout a (by omega)) ⟨?_, ?_, ?_⟩, rfl⟩, ⟨t', (), m2, m4, rfl, m3, rfl⟩⟩
      · intro j hj
        rw [e2.R]
        by_cases c : j = i
        · exact Or.inr ⟨b, T, by rw [c]; exact a1, a2, by omega, by show (if j = i then some T else _) = _; rw [if_pos c], e3⟩
        · rcases I1 j hj with ⟨q1, q2⟩ | ⟨b', h', q1, q2, q3, q4, q5⟩
          · exact Or.inl ⟨q1, by show (if j = i then some T else _) = _; rw [if_neg c]; exact q2⟩
          · have hb : ¬ b' = b := by
              intro e
              subst e
              exact c (I2 j i b' hj hi q1 a1)
            exact Or.inr ⟨b', h', q1, q2, by omega, by show (if j = i then some T else _) = _; rw [if_neg c]; exact q4, q5.out (oX.2.2 j h' hj q4) (fun k hk => (hout _ (by omega)).1)⟩
      · rw [e2.R]; exact I2
      · show am_n s' = 72 + 32 * cnt (fun j => if j = i then some T else X.2.2.2.2.2 j)
        rw [cnt_some hi a4, hn']; exact I3
  · rw [needImg_no hx, tu_x, if_neg hx, if_pos rfl]
    dsimp only
    rw [if_neg (show ¬ (1 : Int32) ≤ 0 by decide)]
    exact (JW_x (w := fun _ : Unit => none) (e := 3) (v := ()) oT oX (fr.refl (A := [])) (by decide) hC rfl (B := [55]) (fr.refl.sI (by simp)) (by decide) hM.thr rfl thr0).g
end IM3
