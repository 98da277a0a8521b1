/-! ===== a law is read: class and model together ===== -/
def liS (tp : Nat → Int32) (q : TK) : Nat := if wdI tp q (wd 3) = true then 0 else if wdI tp q (wd 4) = true then 1 else if wdI tp q (wd 5) = true then 2 else if wdI tp q (wd 6) = true then 3 else if wdI tp q (wd 7) = true then 4 else if wdI tp q (wd 8) = true then 5 else if wdI tp q (wd 9) = true then 6 else 7
noncomputable def mLine (l : Nat) (t : am_S) : am_F := if l = 0 then f_X8_nine 13 t else if l = 1 then f_X8_nine 22 t else if l = 2 then f_X8_one 8 1 50 t else if l = 3 then f_X8_one 9 1 99 t else if l = 4 then f_X8_one 10 0 99 t else if l = 5 then f_X8_one 11 0 9 t else f_X8_one 12 10 99 t
def jL (s t : am_S) (lw : Nat → Int32) : Prop := (∀ k, k < 23 → am_I s 44 k = lw k) ∧ (∀ k, k < 23 → am_I t 60 (lp k - 8) = lw k) ∧ okL lw
def eL (s s1 : am_S) : Prop := fr [34, 44] s s1 ∧ am_I s1 34 1 = am_I s 34 1
def eN (t t1 : am_S) : Prop := fr [55, 60] t t1 ∧ ∀ k, k < 9 ∨ 14 < k → am_I t1 55 k = am_I t 55 k
section LAW
variable {s s1 s2 t t1 t2 : am_S} {A B : List Nat} {n p b e k j d i m l : Nat} {tp : Nat → Int32} {x v lo hi : Int32} {q q1 : TK} {w : List Int32} {lw : Nat → Int32}
theorem eL.refl : eL s s := ⟨fr.refl, rfl⟩
theorem eL.trans (h : eL s s1) (h' : eL s1 s2) : eL s s2 := ⟨h.1.trans h'.1, h'.2.trans h.2⟩
theorem eN.refl : eN t t := ⟨fr.refl, fun _ _ => rfl⟩
theorem eN.trans (h : eN t t1) (h' : eN t1 t2) : eN t t2 := ⟨h.1.trans h'.1, fun k hk => (h'.2 k hk).trans (h.2 k hk)⟩
theorem pcC.eL (h : pcC s s1) : eL s s1 := ⟨h.1.mono (by decide), h.2⟩
theorem pcM.eN (h : pcM t t1) : eN t t1 := ⟨h.1.mono (by decide), h.2⟩
theorem eL.sI (h : eL s s1) : eL s (am_sI s1 44 k v) := ⟨h.1.sI (by simp), by rw [I_ne (by decide)]; exact h.2⟩
theorem eN.sI (h : eN t t1) : eN t (am_sI t1 60 k v) := ⟨h.1.sI (by simp), fun j hj => by rw [I_ne (by decide)]; exact h.2 j hj⟩
theorem li_cases : (liS tp q = 7) ∨ (q.1 = 1 ∧ liS tp q < 7) := by
  unfold liS
  by_cases c3 : wdI tp q (wd 3) = true
  · rw [if_pos c3]; exact Or.inr ⟨wdI1 c3, by omega⟩
  · rw [if_neg c3]
    by_cases c4 : wdI tp q (wd 4) = true
    · rw [if_pos c4]; exact Or.inr ⟨wdI1 c4, by omega⟩
    · rw [if_neg c4]
      by_cases c5 : wdI tp q (wd 5) = true
      · rw [if_pos c5]; exact Or.inr ⟨wdI1 c5, by omega⟩
      · rw [if_neg c5]
        by_cases c6 : wdI tp q (wd 6) = true
        · rw [if_pos c6]; exact Or.inr ⟨wdI1 c6, by omega⟩
        · rw [if_neg c6]
          by_cases c7 : wdI tp q (wd 7) = true
          · rw [if_pos c7]; exact Or.inr ⟨wdI1 c7, by omega⟩
          · rw [if_neg c7]
            by_cases c8 : wdI tp q (wd 8) = true
            · rw [if_pos c8]; exact Or.inr ⟨wdI1 c8, by omega⟩
            · rw [if_neg c8]
              by_cases c9 : wdI tp q (wd 9) = true
              · rw [if_pos c9]; exact Or.inr ⟨wdI1 c9, by omega⟩
              · rw [if_neg c9]
                exact Or.inl rfl
theorem lw3 : f_X3_lineWord (0) s = some (.inl (some (.ref 1000003)), s) := by unfold f_X3_lineWord; rw [if_pos (by decide)]
theorem lw4 : f_X3_lineWord (0 + 1) s = some (.inl (some (.ref 1000004)), s) := by unfold f_X3_lineWord; rw [if_neg (by decide), if_pos (by decide)]
theorem lw5 : f_X3_lineWord (0 + 1 + 1) s = some (.inl (some (.ref 1000005)), s) := by unfold f_X3_lineWord; rw [if_neg (by decide), if_neg (by decide), if_pos (by decide)]
theorem lw6 : f_X3_lineWord (0 + 1 + 1 + 1) s = some (.inl (some (.ref 1000006)), s) := by unfold f_X3_lineWord; rw [if_neg (by decide), if_neg (by decide), if_neg (by decide), if_pos (by decide)]
theorem lw7 : f_X3_lineWord (0 + 1 + 1 + 1 + 1) s = some (.inl (some (.ref 1000007)), s) := by unfold f_X3_lineWord; rw [if_neg (by decide), if_neg (by decide), if_neg (by decide), if_neg (by decide), if_pos (by decide)]
theorem lw8 : f_X3_lineWord (0 + 1 + 1 + 1 + 1 + 1) s = some (.inl (some (.ref 1000008)), s) := by unfold f_X3_lineWord; rw [if_neg (by decide), if_neg (by decide), if_neg (by decide), if_neg (by decide), if_neg (by decide), if_pos (by decide)]
theorem lw9 : f_X3_lineWord (0 + 1 + 1 + 1 + 1 + 1 + 1) s = some (.inl (some (.ref 1000009)), s) := by unfold f_X3_lineWord; rw [if_neg (by decide), if_neg (by decide), if_neg (by decide), if_neg (by decide), if_neg (by decide), if_neg (by decide)]
theorem line_c (h : cK s n tp q) (hq : tkO n q) (hx : txS s) : f_X3_lineOfWord s = some (.inl (some (.int (if liS tp q = 7 then -1 else oN (liS tp q)))), s) := by
  obtain ⟨m, e⟩ : ∃ q, ax_fuel = q + 8 := ⟨992, by rw [ax_fuel_is]⟩
  unfold f_X3_lineOfWord liS
  rw [e]
  rw [L_X3_lineOfWord_2, if_neg (by decide), lw3, kstep (j := 3) h hq hx (by omega) rfl, i01]
  by_cases c3 : wdI tp q (wd 3) = true
  · rw [if_pos c3, if_pos (show wdI tp q (wd (3 % 10)) = true from c3), lm_r, if_neg (by omega)]; rfl
  · rw [if_neg c3, if_neg (show ¬ wdI tp q (wd (3 % 10)) = true from c3)]
    rw [L_X3_lineOfWord_2, if_neg (by decide), lw4, kstep (j := 4) h hq hx (by omega) rfl, i01]
    by_cases c4 : wdI tp q (wd 4) = true
    · rw [if_pos c4, if_pos (show wdI tp q (wd (4 % 10)) = true from c4), lm_r, if_neg (by omega)]; rfl
    · rw [if_neg c4, if_neg (show ¬ wdI tp q (wd (4 % 10)) = true from c4)]
      rw [L_X3_lineOfWord_2, if_neg (by decide), lw5, kstep (j := 5) h hq hx (by omega) rfl, i01]
      by_cases c5 : wdI tp q (wd 5) = true
      · rw [if_pos c5, if_pos (show wdI tp q (wd (5 % 10)) = true from c5), lm_r, if_neg (by omega)]; rfl
      · rw [if_neg c5, if_neg (show ¬ wdI tp q (wd (5 % 10)) = true from c5)]
        rw [L_X3_lineOfWord_2, if_neg (by decide), lw6, kstep (j := 6) h hq hx (by omega) rfl, i01]
        by_cases c6 : wdI tp q (wd 6) = true
        · rw [if_pos c6, if_pos (show wdI tp q (wd (6 % 10)) = true from c6), lm_r, if_neg (by omega)]; rfl
        · rw [if_neg c6, if_neg (show ¬ wdI tp q (wd (6 % 10)) = true from c6)]
          rw [L_X3_lineOfWord_2, if_neg (by decide), lw7, kstep (j := 7) h hq hx (by omega) rfl, i01]
          by_cases c7 : wdI tp q (wd 7) = true
          · rw [if_pos c7, if_pos (show wdI tp q (wd (7 % 10)) = true from c7), lm_r, if_neg (by omega)]; rfl
          · rw [if_neg c7, if_neg (show ¬ wdI tp q (wd (7 % 10)) = true from c7)]
            rw [L_X3_lineOfWord_2, if_neg (by decide), lw8, kstep (j := 8) h hq hx (by omega) rfl, i01]
            by_cases c8 : wdI tp q (wd 8) = true
            · rw [if_pos c8, if_pos (show wdI tp q (wd (8 % 10)) = true from c8), lm_r, if_neg (by omega)]; rfl
            · rw [if_neg c8, if_neg (show ¬ wdI tp q (wd (8 % 10)) = true from c8)]
              rw [L_X3_lineOfWord_2, if_neg (by decide), lw9, kstep (j := 9) h hq hx (by omega) rfl, i01]
              by_cases c9 : wdI tp q (wd 9) = true
              · rw [if_pos c9, if_pos (show wdI tp q (wd (9 % 10)) = true from c9), lm_r, if_neg (by omega)]; rfl
              · rw [if_neg c9, if_neg (show ¬ wdI tp q (wd (9 % 10)) = true from c9)]
                rw [L_X3_lineOfWord_2, if_pos (by decide), lm_e, if_pos rfl]
theorem kl_m {R : Type} {J : Unit → am_S → Option R} (h : mK t n tp q) (hq : tkO n q) (h0 : am_I t 55 13 = 0) (hx : txS t) : am_bi (f_X8_isWord 1000013 t) (fun v3 s3 => am_jn J (fun J12 => if v3 = 0 then am_bi (f_X8_isWord 1000014 s3) (fun v4 s4 => if v4 = 0 then am_bi (f_X8_isWord 1000015 s4) (fun v5 s5 => if v5 = 0 then am_bi (f_X8_isWord 1000016 s5) (fun v6 s6 => if v6 = 0 then am_bi (f_X8_isWord 1000017 s6) (fun v7 s7 => if v7 = 0 then am_bi (f_X8_isWord 1000018 s7) (fun v8 s8 => if v8 = 0 then am_bi (f_X8_isWord 1000019 s8) (fun v9 s9 => if v9 = 0 then am_bu (f_X8_blames (2 : Int32) s9) (fun z => J12 () z) else am_bu (f_X8_one (12 : Int32) (10 : Int32) (99 : Int32) s9) (fun z => J12 () z)) else am_bu (f_X8_one (11 : Int32) (0 : Int32) (9 : Int32) s8) (fun z => J12 () z)) else am_bu (f_X8_one (10 : Int32) (0 : Int32) (99 : Int32) s7) (fun z => J12 () z)) else am_bu (f_X8_one (9 : Int32) (1 : Int32) (99 : Int32) s6) (fun z => J12 () z)) else am_bu (f_X8_one (8 : Int32) (1 : Int32) (50 : Int32) s5) (fun z => J12 () z)) else am_bu (f_X8_nine (22 : Int32) s4) (fun z => J12 () z)) else am_bu (f_X8_nine (13 : Int32) s3) (fun z => J12 () z))) = am_bu (if liS tp q = 7 then f_X8_blames 2 t else mLine (liS tp q) t) (fun z => J () z) := by
  rw [show f_X8_isWord 1000013 t = _ from word_m (j := 13) h hq h0 hx (by omega), bi_s, jn_s, i01]
  by_cases c3 : wdI tp q (wd 3) = true
  · have hl : liS tp q = 0 := by unfold liS; rw [if_pos c3]
    rw [if_pos (show wdI tp q (wd (13 % 10)) = true from c3), hl, if_neg (by omega)]
    unfold mLine
    rw [if_pos rfl]
  · rw [if_neg (show ¬ wdI tp q (wd (13 % 10)) = true from c3)]
    rw [show f_X8_isWord 1000014 t = _ from word_m (j := 14) h hq h0 hx (by omega), bi_s, i01]
    by_cases c4 : wdI tp q (wd 4) = true
    · have hl : liS tp q = 1 := by unfold liS; rw [if_neg c3, if_pos c4]
      rw [if_pos (show wdI tp q (wd (14 % 10)) = true from c4), hl, if_neg (by omega)]
      unfold mLine
      rw [if_neg (by omega), if_pos rfl]
    · rw [if_neg (show ¬ wdI tp q (wd (14 % 10)) = true from c4)]
      rw [show f_X8_isWord 1000015 t = _ from word_m (j := 15) h hq h0 hx (by omega), bi_s, i01]
      by_cases c5 : wdI tp q (wd 5) = true
      · have hl : liS tp q = 2 := by unfold liS; rw [if_neg c3, if_neg c4, if_pos c5]
        rw [if_pos (show wdI tp q (wd (15 % 10)) = true from c5), hl, if_neg (by omega)]
        unfold mLine
        rw [if_neg (by omega), if_neg (by omega), if_pos rfl]
      · rw [if_neg (show ¬ wdI tp q (wd (15 % 10)) = true from c5)]
        rw [show f_X8_isWord 1000016 t = _ from word_m (j := 16) h hq h0 hx (by omega), bi_s, i01]
        by_cases c6 : wdI tp q (wd 6) = true
        · have hl : liS tp q = 3 := by unfold liS; rw [if_neg c3, if_neg c4, if_neg c5, if_pos c6]
          rw [if_pos (show wdI tp q (wd (16 % 10)) = true from c6), hl, if_neg (by omega)]
          unfold mLine
          rw [if_neg (by omega), if_neg (by omega), if_neg (by omega), if_pos rfl]
        · rw [if_neg (show ¬ wdI tp q (wd (16 % 10)) = true from c6)]
          rw [show f_X8_isWord 1000017 t = _ from word_m (j := 17) h hq h0 hx (by omega), bi_s, i01]
          by_cases c7 : wdI tp q (wd 7) = true
          · have hl : liS tp q = 4 := by unfold liS; rw [if_neg c3, if_neg c4, if_neg c5, if_neg c6, if_pos c7]
            rw [if_pos (show wdI tp q (wd (17 % 10)) = true from c7), hl, if_neg (by omega)]
            unfold mLine
            rw [if_neg (by omega), if_neg (by omega), if_neg (by omega), if_neg (by omega), if_pos rfl]
          · rw [if_neg (show ¬ wdI tp q (wd (17 % 10)) = true from c7)]
            rw [show f_X8_isWord 1000018 t = _ from word_m (j := 18) h hq h0 hx (by omega), bi_s, i01]
            by_cases c8 : wdI tp q (wd 8) = true
            · have hl : liS tp q = 5 := by unfold liS; rw [if_neg c3, if_neg c4, if_neg c5, if_neg c6, if_neg c7, if_pos c8]
              rw [if_pos (show wdI tp q (wd (18 % 10)) = true from c8), hl, if_neg (by omega)]
              unfold mLine
              rw [if_neg (by omega), if_neg (by omega), if_neg (by omega), if_neg (by omega), if_neg (by omega), if_pos rfl]
            · rw [if_neg (show ¬ wdI tp q (wd (18 % 10)) = true from c8)]
              rw [show f_X8_isWord 1000019 t = _ from word_m (j := 19) h hq h0 hx (by omega), bi_s, i01]
              by_cases c9 : wdI tp q (wd 9) = true
              · have hl : liS tp q = 6 := by unfold liS; rw [if_neg c3, if_neg c4, if_neg c5, if_neg c6, if_neg c7, if_neg c8, if_pos c9]
                rw [if_pos (show wdI tp q (wd (19 % 10)) = true from c9), hl, if_neg (by omega)]
                unfold mLine
                rw [if_neg (by omega), if_neg (by omega), if_neg (by omega), if_neg (by omega), if_neg (by omega), if_neg (by omega)]
              · rw [if_neg (show ¬ wdI tp q (wd (19 % 10)) = true from c9)]
                have hl : liS tp q = 7 := by unfold liS; rw [if_neg c3, if_neg c4, if_neg c5, if_neg c6, if_neg c7, if_neg c8, if_neg c9]
                rw [hl, if_pos rfl]
def lmy (l : Nat) : Nat := if l < 2 then 9 else 1
def lpl (l : Nat) : Nat := if l < 2 then 9 * l else 16 + l
def llo (l : Nat) : Int32 := (([0, 0, 1, 1, 0, 0, 10] : List Int32)[l]?).getD 0
def lhi (l : Nat) : Int32 := (([99, 99, 50, 99, 99, 9, 99] : List Int32)[l]?).getD 0
theorem ltab : ∀ l, l < 7 → (([9, 9, 1, 1, 1, 1, 1] : List Int32)[l]?).getD 0 = oN (lmy l) ∧ (([0, 9, 18, 19, 20, 21, 22] : List Int32)[l]?).getD 0 = oN (lpl l) := by decide
theorem lbnd : ∀ l, l < 7 → (∀ i, i < lmy l → lpl l + i < 23) := by decide
theorem okL_set (h : okL lw) (hl : l < 7) (hi : i < lmy l) (h1 : (llo l).toInt ≤ v.toInt) (h2 : v.toInt ≤ (lhi l).toInt) : okL (fun k => if k = lpl l + i then v else lw k) := by
  obtain ⟨a1, a2, a3, a4, a5, a6⟩ := h
  have : l = 0 ∨ l = 1 ∨ l = 2 ∨ l = 3 ∨ l = 4 ∨ l = 5 ∨ l = 6 := by omega
  rcases this with e | e | e | e | e | e | e
  · subst e
    have hi : i < 9 := hi
    have e1 : (llo 0).toInt = 0 := rfl
    have e2 : (lhi 0).toInt = 99 := rfl
    have e3 : lpl 0 = 0 := rfl
    rw [e1] at h1; rw [e2] at h2
    refine ⟨fun k hk => ?_, ?_, ?_, ?_, ?_, ?_⟩
    · show 0 ≤ (if k = lpl 0 + i then v else lw k).toInt ∧ (if k = lpl 0 + i then v else lw k).toInt ≤ 99
      split
      · exact ⟨h1, h2⟩
      · exact a1 k hk
    all_goals
      dsimp only
      rw [if_neg (by omega)]
      assumption
  · subst e
    have hi : i < 9 := hi
    have e1 : (llo 1).toInt = 0 := rfl
    have e2 : (lhi 1).toInt = 99 := rfl
    have e3 : lpl 1 = 9 := rfl
    rw [e1] at h1; rw [e2] at h2
    refine ⟨fun k hk => ?_, ?_, ?_, ?_, ?_, ?_⟩
    · show 0 ≤ (if k = lpl 1 + i then v else lw k).toInt ∧ (if k = lpl 1 + i then v else lw k).toInt ≤ 99
      split
      · exact ⟨h1, h2⟩
      · exact a1 k hk
    all_goals
      dsimp only
      rw [if_neg (by omega)]
      assumption
  · subst e
    have hi : i < 1 := hi
    obtain rfl : i = 0 := by omega
    have e3 : lpl 2 = 18 := rfl
    refine ⟨fun k hk => ?_, ?_, ?_, ?_, ?_, ?_⟩
    · dsimp only
      rw [if_neg (by omega)]
      exact a1 k hk
    · dsimp only
      rw [if_pos (by omega)]; exact ⟨h1, h2⟩
    · dsimp only
      rw [if_neg (by omega)]; exact a3
    · dsimp only
      rw [if_neg (by omega)]; exact a4
    · dsimp only
      rw [if_neg (by omega)]; exact a5
    · dsimp only
      rw [if_neg (by omega)]; exact a6
  · subst e
    have hi : i < 1 := hi
    obtain rfl : i = 0 := by omega
    have e3 : lpl 3 = 19 := rfl
    refine ⟨fun k hk => ?_, ?_, ?_, ?_, ?_, ?_⟩
    · dsimp only
      rw [if_neg (by omega)]
      exact a1 k hk
    · dsimp only
      rw [if_neg (by omega)]; exact a2
    · dsimp only
      rw [if_pos (by omega)]; exact ⟨h1, h2⟩
    · dsimp only
      rw [if_neg (by omega)]; exact a4
    · dsimp only
      rw [if_neg (by omega)]; exact a5
    · dsimp only
      rw [if_neg (by omega)]; exact a6
  · subst e
    have hi : i < 1 := hi
    obtain rfl : i = 0 := by omega
    have e3 : lpl 4 = 20 := rfl
    refine ⟨fun k hk => ?_, ?_, ?_, ?_, ?_, ?_⟩
    · dsimp only
      rw [if_neg (by omega)]
      exact a1 k hk
    · dsimp only
      rw [if_neg (by omega)]; exact a2
    · dsimp only
      rw [if_neg (by omega)]; exact a3
    · dsimp only
      rw [if_pos (by omega)]; exact ⟨h1, h2⟩
    · dsimp only
      rw [if_neg (by omega)]; exact a5
    · dsimp only
      rw [if_neg (by omega)]; exact a6
  · subst e
    have hi : i < 1 := hi
    obtain rfl : i = 0 := by omega
    have e3 : lpl 5 = 21 := rfl
    refine ⟨fun k hk => ?_, ?_, ?_, ?_, ?_, ?_⟩
    · dsimp only
      rw [if_neg (by omega)]
      exact a1 k hk
    · dsimp only
      rw [if_neg (by omega)]; exact a2
    · dsimp only
      rw [if_neg (by omega)]; exact a3
    · dsimp only
      rw [if_neg (by omega)]; exact a4
    · dsimp only
      rw [if_pos (by omega)]; exact ⟨h1, h2⟩
    · dsimp only
      rw [if_neg (by omega)]; exact a6
  · subst e
    have hi : i < 1 := hi
    obtain rfl : i = 0 := by omega
    have e3 : lpl 6 = 22 := rfl
    refine ⟨fun k hk => ?_, ?_, ?_, ?_, ?_, ?_⟩
    · dsimp only
      rw [if_neg (by omega)]
      exact a1 k hk
    · dsimp only
      rw [if_neg (by omega)]; exact a2
    · dsimp only
      rw [if_neg (by omega)]; exact a3
    · dsimp only
      rw [if_neg (by omega)]; exact a4
    · dsimp only
      rw [if_neg (by omega)]; exact a5
    · dsimp only
      rw [if_pos (by omega)]; exact Or.inr ⟨h1, h2⟩
theorem jL.set (h : jL s t lw) (hl : l < 7) (hi : i < lmy l) (h1 : (llo l).toInt ≤ v.toInt) (h2 : v.toInt ≤ (lhi l).toInt) : jL (am_sI s 44 (lpl l + i) v) (am_sI t 60 (lp (lpl l + i) - 8) v) (fun k => if k = lpl l + i then v else lw k) := by
  have hb := lbnd l hl i hi
  refine ⟨fun k hk => ?_, fun k hk => ?_, okL_set h.2.2 hl hi h1 h2⟩
  · rw [I_sI]
    simp only [true_and]
    split
    · rfl
    · exact h.1 k hk
  · rw [I_sI]
    simp only [true_and]
    by_cases c : k = lpl l + i
    · rw [if_pos (by rw [c]), if_pos c]
    · rw [if_neg (by unfold lp; split <;> split <;> omega), if_neg c]
      exact h.2.1 k hk
theorem jL.to (h : jL s t lw) (f : fr A s s1) (h1 : 44 ∉ A) (g : fr B t t1) (h2 : 60 ∉ B) : jL s1 t1 lw := by
  unfold jL
  rw [f.I h1, g.I h2]
  exact h
theorem lc_end (hs : stS s) (hl : l < 7) (h : ¬ am_I s 34 7 = 0) : L_X3_readLine_26 (m + 1) (oN l) x s = some (.inr ((), s)) := by
  rw [L_X3_readLine_26, if_pos (in_o (by omega) (by omega)), oN_nat (by omega)]
  by_cases c : am_I s 3000002 l ≤ x
  · rw [if_pos c]
  · rw [if_neg c, if_neg h]
theorem lc_done (hs : stS s) (hl : l < 7) : L_X3_readLine_26 (m + 1) (oN l) (oN (lmy l)) s = some (.inr ((), s)) := by
  have h9 : lmy l ≤ 9 := by unfold lmy; split <;> omega
  rw [L_X3_readLine_26, if_pos (in_o (by omega) (by omega)), oN_nat (by omega), hs.2.2.1 l hl, (ltab l hl).1, if_pos (by rw [oN_le (by omega) (by omega)]; omega)]
/-- one number of a line, class -/
theorem lc_step {s' : am_S} (hs : stS s) (hl : l < 7) (hi : i < lmy l) (h : am_I s 34 7 = 0) (hr : f_X3_readNumber (llo l) (lhi l) s = some (.inl (some (.int v)), s')) : L_X3_readLine_26 (m + 1) (oN l) (oN i) s = L_X3_readLine_26 m (oN l) (oN (i + 1)) (am_sI s' 44 (lpl l + i) v) := by
  have h9 : lmy l ≤ 9 := by unfold lmy; split <;> omega
  have hb := lbnd l hl i hi
  have hin : am_in (oN l) 7 = true := in_o (by omega) (by omega)
  rw [L_X3_readLine_26, if_pos hin, oN_nat (by omega), hs.2.2.1 l hl, (ltab l hl).1, if_neg (by rw [oN_le (by omega) (by omega)]; omega), if_pos h, if_pos hin, if_pos hin, if_pos hin, hs.2.2.2.1 l hl, hs.2.2.2.2 l hl, hs.2.1 l hl, (ltab l hl).2, oN_add]
  rw [show f_X3_readNumber ((([0, 0, 1, 1, 0, 0, 10] : List Int32)[l]?).getD 0) ((([99, 99, 50, 99, 99, 9, 99] : List Int32)[l]?).getD 0) s = _ from hr, bi_s, if_neg (by rw [oN_leR (by omega) (by omega)]; omega), if_pos (in_o (by omega) (by omega)), oN_nat (by omega), oN_addL]
theorem stS.eL (h : stS s) (g : eL s s1) : stS s1 := h.keep g.1 (by decide)
/-- nine numbers -/
theorem nine_in (ht : ∀ k, k < n → 0 ≤ (tp k).toInt) (hl : l < 2) : ∀ (d m1 m2 i : Nat) (lw : Nat → Int32) (q : TK) (s t : am_S), i + d = 9 → d < m1 → d < m2 → jT s t n tp q → stS s → jL s t lw →
    ∃ s1 t1, L_X3_readLine_26 m1 (oN l) (oN i) s = some (.inr ((), s1)) ∧ L_X8_nine_6 m2 (oN (13 + 9 * l)) (oN i) t = some (.inr ((), t1)) ∧ eL s s1 ∧ eN t t1 ∧ ((∃ lw' q1, jT s1 t1 n tp q1 ∧ jL s1 t1 lw' ∧ q.2.1 ≤ q1.2.1) ∨ jF s1 t1) := by
  have h9 : lmy l = 9 := by unfold lmy; rw [if_pos hl]
  have hp : lpl l = 9 * l := by unfold lpl; rw [if_pos hl]
  have e1 : llo l = 0 := by have : l = 0 ∨ l = 1 := by omega
                            rcases this with e | e <;> rw [e] <;> rfl
  have e2 : lhi l = 99 := by have : l = 0 ∨ l = 1 := by omega
                             rcases this with e | e <;> rw [e] <;> rfl
  intro d
  induction d with
  | zero =>
    intro m1 m2 i lw q s t hi h1 h2 h hs hL
    obtain ⟨m1, rfl⟩ : ∃ q, m1 = q + 1 := ⟨m1 - 1, by omega⟩
    obtain ⟨m2, rfl⟩ : ∃ q, m2 = q + 1 := ⟨m2 - 1, by omega⟩
    obtain rfl : i = 9 := by omega
    have z := lc_done (m := m1) hs (show l < 7 by omega)
    rw [h9] at z
    rw [z, L_X8_nine_6, if_pos (by decide)]
    exact ⟨s, t, rfl, rfl, eL.refl, eN.refl, Or.inl ⟨lw, q, h, hL, Nat.le_refl _⟩⟩
  | succ d ih =>
    intro m1 m2 i lw q s t hi h1 h2 h hs hL
    obtain ⟨m1, rfl⟩ : ∃ q, m1 = q + 1 := ⟨m1 - 1, by omega⟩
    obtain ⟨m2, rfl⟩ : ∃ q, m2 = q + 1 := ⟨m2 - 1, by omega⟩
    obtain ⟨s2, t2, v, v1, a1, a2, a3, a4, a5⟩ := j_num (lo := 0) (hi := 99) h ht
    have hlp : lp (lpl l + i) - 8 = 5 + 9 * l + i := by rw [hp]; unfold lp; rw [if_pos (by omega)]; omega
    rw [lc_step hs (show l < 7 by omega) (show i < lmy l by omega) h.2.2.2.1 (by rw [e1, e2]; exact a1), L_X8_nine_6, if_neg (by rw [oN_leR (by omega) (by omega)]; omega), if_pos h.2.2.2.2.2, a2, bi_s, oN_subL (by omega), oN_add, if_pos (in_o (by omega) (by omega)), oN_nat (by omega), oN_addL, show 13 + 9 * l - 8 + i = 5 + 9 * l + i by omega]
    have g1 : fr [44] s2 (am_sI s2 44 (lpl l + i) v) := fr.refl.sI (by simp)
    have g2 : fr [60] t2 (am_sI t2 60 (5 + 9 * l + i) v1) := fr.refl.sI (by simp)
    have eS : eL s (am_sI s2 44 (lpl l + i) v) := a3.eL.sI
    have eT : eN t (am_sI t2 60 (5 + 9 * l + i) v1) := a4.eN.sI
    rcases a5 with ⟨c1, c2, c3, q2, c4, c5⟩ | a5
    · subst c1
      have hL2 : jL s2 t2 lw := hL.to a3.1 (by decide) a4.1 (by decide)
      have hL3 := hL2.set (show l < 7 by omega) (show i < lmy l by omega) (v := v1) (by rw [e1]; exact c2) (by rw [e2]; exact c3)
      rw [hlp] at hL3
      obtain ⟨s3, t3, i1, i2, i3, i4, i5⟩ := ih m1 m2 (i + 1) _ q2 _ _ (by omega) (by omega) (by omega) (c4.to g1 (by decide) (by decide) g2 (by decide) (by decide)) (hs.eL eS) hL3
      refine ⟨s3, t3, i1, i2, eS.trans i3, eT.trans i4, ?_⟩
      rcases i5 with ⟨lw', q3, r1, r2, r3⟩ | r
      · exact Or.inl ⟨lw', q3, r1, r2, by omega⟩
      · exact Or.inr r
    · have j2 := a5.to g1 (by decide) g2 (by decide)
      obtain ⟨m1, rfl⟩ : ∃ q, m1 = q + 1 := ⟨m1 - 1, by omega⟩
      obtain ⟨m2, rfl⟩ : ∃ q, m2 = q + 1 := ⟨m2 - 1, by omega⟩
      rw [lc_end (hs.eL eS) (show l < 7 by omega) j2.c, L_X8_nine_6]
      refine ⟨_, am_sI t2 60 (5 + 9 * l + i) v1, rfl, ?_, eS, eT, Or.inr j2⟩
      by_cases c : (9 : Int32) ≤ oN (i + 1)
      · rw [if_pos c]
      · rw [if_neg c, if_neg j2.m]
/-- the numbers of a line -/
theorem j_line (ht : ∀ k, k < n → 0 ≤ (tp k).toInt) (hl : l < 7) (h : jT s t n tp q) (h1 : q.1 = 1) (hs : stS s) (hL : jL s t lw) : ∃ s0 s1 t1, f_X3_advance s = some (.inl none, s0) ∧ L_X3_readLine_26 ax_fuel (oN l) 0 s0 = some (.inr ((), s1)) ∧ mLine l t = some (.inl none, t1) ∧ eL s s1 ∧ eN t t1 ∧ ((∃ lw' q1, jT s1 t1 n tp q1 ∧ jL s1 t1 lw' ∧ q.2.1 < q1.2.1) ∨ jF s1 t1) := by
  obtain ⟨s0, t0, q0, z1, y1, z2, y2, z3, z4⟩ := j_adv h ht (Or.inl h1)
  have hs0 := hs.eL z2.eL
  have hL0 : jL s0 t0 lw := hL.to z2.1 (by decide) y2.1 (by decide)
  by_cases c : l < 2
  · obtain ⟨s1, t1, i1, i2, i3, i4, i5⟩ := nine_in ht c 9 ax_fuel ax_fuel 0 lw q0 s0 t0 (by omega) (by rw [ax_fuel_is]; omega) (by rw [ax_fuel_is]; omega) z3 hs0 hL0
    refine ⟨s0, s1, t1, z1, i1, ?_, z2.eL.trans i3, y2.eN.trans i4, ?_⟩
    · have hn : f_X8_nine (oN (13 + 9 * l)) t = some (.inl none, t1) := by
        unfold f_X8_nine
        rw [y1, bu_s, show L_X8_nine_6 ax_fuel (oN (13 + 9 * l)) (0 : Int32) t0 = _ from i2, lm_e]
      unfold mLine
      have : l = 0 ∨ l = 1 := by omega
      rcases this with e | e
      · subst e; rw [if_pos rfl]; exact hn
      · subst e; rw [if_neg (by omega), if_pos rfl]; exact hn
    · rcases i5 with ⟨lw', q3, r1, r2, r3⟩ | r
      · exact Or.inl ⟨lw', q3, r1, r2, by omega⟩
      · exact Or.inr r
  · have h9 : lmy l = 1 := by unfold lmy; rw [if_neg c]
    have hp : lpl l = 16 + l := by unfold lpl; rw [if_neg c]
    obtain ⟨s2, t2, v, v1, a1, a2, a3, a4, a5⟩ := j_num (lo := llo l) (hi := lhi l) z3 ht
    have hlp : lp (lpl l + 0) - 8 = l - 2 := by rw [hp]; unfold lp; rw [if_neg (by omega)]; omega
    have g1 : fr [44] s2 (am_sI s2 44 (lpl l + 0) v) := fr.refl.sI (by simp)
    have g2 : fr [60] t2 (am_sI t2 60 (l - 2) v1) := fr.refl.sI (by simp)
    have eS : eL s (am_sI s2 44 (lpl l + 0) v) := (z2.eL.trans a3.eL).sI
    have eT : eN t (am_sI t2 60 (l - 2) v1) := (y2.eN.trans a4.eN).sI
    have hc : L_X3_readLine_26 ax_fuel (oN l) 0 s0 = some (.inr ((), am_sI s2 44 (lpl l + 0) v)) := by
      obtain ⟨m, e⟩ : ∃ q, ax_fuel = q + 2 := ⟨998, by rw [ax_fuel_is]⟩
      have := lc_step (m := m + 1) hs0 hl (show 0 < lmy l by omega) z3.2.2.2.1 a1
      rw [e, show L_X3_readLine_26 (m + 2) (oN l) (0 : Int32) s0 = _ from this]
      have z := lc_done (m := m) (hs.eL eS) hl
      rw [h9] at z
      exact z
    have hm : mLine l t = some (.inl none, am_sI t2 60 (l - 2) v1) := by
      have ho : f_X8_one (oN (l + 6)) (llo l) (lhi l) t = some (.inl none, am_sI t2 60 (l - 2) v1) := by
        unfold f_X8_one
        rw [y1, bu_s, a2, bi_s, oN_subL (by omega), if_pos (in_o (by omega) (by omega)), oN_nat (by omega), show l + 6 - 8 = l - 2 by omega]
      unfold mLine
      have : l = 2 ∨ l = 3 ∨ l = 4 ∨ l = 5 ∨ l = 6 := by omega
      rcases this with e | e | e | e | e
      · subst e; rw [if_neg (by omega), if_neg (by omega), if_pos rfl]; exact ho
      · subst e; rw [if_neg (by omega), if_neg (by omega), if_neg (by omega), if_pos rfl]; exact ho
      · subst e; rw [if_neg (by omega), if_neg (by omega), if_neg (by omega), if_neg (by omega), if_pos rfl]; exact ho
      · subst e; rw [if_neg (by omega), if_neg (by omega), if_neg (by omega), if_neg (by omega), if_neg (by omega), if_pos rfl]; exact ho
      · subst e; rw [if_neg (by omega), if_neg (by omega), if_neg (by omega), if_neg (by omega), if_neg (by omega), if_neg (by omega)]; exact ho
    refine ⟨s0, _, _, z1, hc, hm, eS, eT, ?_⟩
    rcases a5 with ⟨c1, c2, c3, q2, c4, c5⟩ | a5
    · subst c1
      have hL2 : jL s2 t2 lw := hL0.to a3.1 (by decide) a4.1 (by decide)
      have hL3 := hL2.set hl (show 0 < lmy l by omega) (v := v1) c2 c3
      rw [hlp] at hL3
      exact Or.inl ⟨_, q2, c4.to g1 (by decide) (by decide) g2 (by decide) (by decide), hL3, by omega⟩
    · exact Or.inr (a5.to g1 (by decide) g2 (by decide))
theorem lc_stop (h : jF s t) {y : Int32} : L_X3_readLaw_10 (m + 1) y x s = some (.inr (y, s)) := by
  rw [L_X3_readLaw_10]
  by_cases c : (400 : Int32) < x
  · rw [if_pos c]
  · rw [if_neg c, if_neg h.c]
theorem lm_stop (h : jF s t) : L_X8_law_36 (m + 1) x t = some (.inr (x, t)) := by
  rw [L_X8_law_36, if_neg h.m]
theorem l_in (ht : ∀ k, k < n → 0 ≤ (tp k).toInt) : ∀ (d m1 m2 i : Nat) (lw : Nat → Int32) (q : TK) (s t : am_S), n - q.2.1 ≤ d → d + 2 ≤ m1 → d + 2 ≤ m2 → i ≤ q.2.1 → jT s t n tp q → txS s → txS t → stS s → jL s t lw →
    ∃ s1 t1 i1, i1 ≤ 401 ∧ L_X3_readLaw_10 m1 (oN i) (oN i) s = some (.inr (oN i1, s1)) ∧ L_X8_law_36 m2 (oN i) t = some (.inr (oN i1, t1)) ∧ eL s s1 ∧ eN t t1 ∧ ((∃ lw', jL s1 t1 lw' ∧ am_I s1 34 7 = 0 ∧ am_I s1 34 8 = -1 ∧ am_I t1 55 13 = 0) ∨ jF s1 t1) := by
  intro d
  induction d using Nat.strongRecOn with
  | _ d ih =>
  intro m1 m2 i lw q s t hd h1 h2 hi h hx hy hs hL
  obtain ⟨m1, rfl⟩ : ∃ q, m1 = q + 2 := ⟨m1 - 2, by omega⟩
  obtain ⟨m2, rfl⟩ : ∃ q, m2 = q + 2 := ⟨m2 - 2, by omega⟩
  have h' := h
  obtain ⟨g1, g2, g3, g5, g6, g7⟩ := h
  have hn := g1.1.1
  have hb := g3.2.1
  have hq1 := g3.1
  rw [L_X3_readLaw_10, if_neg (by rw [oN_ltR (by omega) (by omega)]; omega), if_pos g5, g1.2.1, L_X8_law_36, if_pos g7, g2.2.1]
  by_cases c0 : q.1 = 0
  · have e0 : oN q.1 = (0 : Int32) := by rw [c0]; rfl
    rw [if_pos e0, if_pos e0]
    exact ⟨s, t, i, by omega, rfl, rfl, eL.refl, eN.refl, Or.inl ⟨lw, hL, g5, g6, g7⟩⟩
  · have e0 : ¬ oN q.1 = (0 : Int32) := by rw [show (0 : Int32) = oN 0 from rfl, oN_eq (by omega) (by omega)]; exact c0
    rw [if_neg e0, if_neg e0, kl_m g2 g3 g7 hy]
    unfold f_X3_readLine
    rw [line_c g1 g3 hx, bi_s, jn_s, oN_addL]
    rcases li_cases (tp := tp) (q := q) with hk | ⟨q11, hk⟩
    · obtain ⟨s1, t1, z1, y1, z2, y2, z3⟩ := j_ref h'
      obtain ⟨d1, d2⟩ := j_stopF z3
      rw [if_pos hk, if_pos hk, y1, bu_s, if_pos (show (-1 : Int32) < 0 by decide)]
      dsimp only
      rw [z1, bu_s, bu_s, lc_stop z3, d2, bu_s, lm_stop z3]
      exact ⟨s1, t1, i + 1, by omega, rfl, rfl, z2.eL, y2.eN, Or.inr z3⟩
    · have b1 := g3.2.2 (Or.inl q11)
      obtain ⟨s0, s1, t1, z1, z2, z3, z4, z5, z6⟩ := j_line ht hk h' q11 hs hL
      have hne : ¬ liS tp q = 7 := by omega
      rw [if_neg hne, if_neg hne, if_neg (by rw [oN_nonneg (by omega)]; exact id), if_pos ((oN_ltL (by omega) (by omega)).mpr hk), z1, bu_s, z2, lm_e, z3, bu_s]
      rcases z6 with ⟨lw', q2, r1, r2, r3⟩ | r
      · obtain ⟨s2, t2, d1, d2, d3, d4, d5⟩ := j_stop r1 ht
        have b2 := r1.2.2.1.2.1
        rw [d1, bu_s, bu_s, d2, bu_s]
        have eS := z4.trans d3.eL
        have eT := z5.trans d4.eN
        rcases d5 with ⟨q3, d5, d6⟩ | d5
        · have b3 := d5.2.2.1.2.1
          obtain ⟨s5, t5, k1, i0, i1, i2, i3, i4, i5⟩ := ih (d - 1) (by omega) (m1 + 1) (m2 + 1) (i + 1) lw' q3 s2 t2 (by omega) (by omega) (by omega) (by omega) d5 (hx.to eS.1 (by decide)) (hy.to eT.1 (by decide)) (hs.eL eS) (r2.to d3.1 (by decide) d4.1 (by decide))
          exact ⟨s5, t5, k1, i0, i1, i2, eS.trans i3, eT.trans i4, i5⟩
        · rw [lc_stop d5, lm_stop d5]
          exact ⟨s2, t2, i + 1, by omega, rfl, rfl, eS, eT, Or.inr d5⟩
      · obtain ⟨d1, d2⟩ := j_stopF r
        rw [d1, bu_s, bu_s, d2, bu_s, lc_stop r, lm_stop r]
        exact ⟨s1, t1, i + 1, by omega, rfl, rfl, z4, z5, Or.inr r⟩
end LAW
