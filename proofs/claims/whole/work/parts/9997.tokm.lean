/-! ===== tokens: model ===== -/
noncomputable def tlM (s : am_S) : am_F :=
    if (am_I s 55 9) < (am_I s 55 8) then
      if am_in (am_I s 55 9) 400 = true then
        am_bi (f_X8_isLetter (am_I s 59 ((am_I s 55 9).toNatClampNeg)) (am_sI s 55 10 (am_I s 55 9))) (fun v5 s4 =>
          if v5 = 0 then
            am_bi (f_X8_isDigit (am_I s 59 ((am_I s 55 9).toNatClampNeg)) s4) (fun v8 s7 =>
              if v8 = 0 then
                am_jn (fun (e11 : Int32) s12 =>
                  some (.inl none, (am_sI (am_sI s12 55 11 e11) 55 9 ((am_I s12 55 9) + (1 : Int32))))
                ) (fun J10 =>
                  if (am_I s 59 ((am_I s 55 9).toNatClampNeg)) = (59 : Int32) then
                    J10 (3 : Int32) s7
                  else
                    J10 (4 : Int32) s7
                )
              else
                am_lm (L_X8_next_141 ax_fuel (am_sI s7 55 12 (0 : Int32))) (fun e24 s25 =>
                  am_jn (fun (e27 : Int32) s28 =>
                    some (.inl none, (am_sI s28 55 11 e27))
                  ) (fun J26 =>
                    if ((am_I s25 55 9) - (am_I s25 55 10)) ≤ (2 : Int32) then
                      J26 (2 : Int32) s25
                    else
                      J26 (4 : Int32) s25
                  )
                )
            )
          else
            am_lm (L_X8_next_94 ax_fuel s4) (fun e35 s36 =>
              some (.inl none, (am_sI s36 55 11 (1 : Int32)))
            )
        )
      else none
    else
      some (.inl none, (am_sI (am_sI s 55 10 (am_I s 55 9)) 55 11 (0 : Int32)))
def dm (tp : Nat → Int32) (b : Nat) : Nat → Nat → Int32 → Int32
  | 0, _, v => v
  | d + 1, p, v => if isD (tp p) = true then dm tp b d (p + 1) (if p < b + 2 then (10 : Int32) * v + tp p - (48 : Int32) else v) else v
section TKM
variable {s s1 s2 t t1 t2 : am_S} {n p b e k j d : Nat} {tp : Nat → Int32} {x v : Int32} {P : Int32 → Bool}
theorem next_is : f_X8_next s = am_lm (L_X8_next_0 (ax_fuel + 1) s) (fun _ s1 => tlM s1) := by
  unfold f_X8_next
  rw [L_X8_next_0]
  by_cases c : (am_I s 55 8) ≤ (am_I s 55 9)
  · rw [if_pos c, if_pos c, lm_e]; rfl
  · rw [if_neg c, if_neg c]
    by_cases c2 : am_in (am_I s 55 9) 400 = true
    · rw [if_pos c2]
      by_cases c3 : (am_I s 59 ((am_I s 55 9).toNatClampNeg)) = (32 : Int32)
      · rw [if_pos c3, if_pos c2, jn_s, if_pos c3]; rfl
      · rw [if_neg c3, if_pos c2]
        by_cases c4 : (am_I s 59 ((am_I s 55 9).toNatClampNeg)) = (10 : Int32)
        · rw [if_pos c4, if_pos c2, jn_s, if_neg c3, if_pos c2, if_pos c4]; rfl
        · rw [if_neg c4]
          show tlM s = _
          rw [if_pos c2, jn_s, if_neg c3, if_pos c2, if_neg c4, lm_e]
    · rw [if_neg c2, if_neg c2]; rfl
theorem blanks_m : ∀ (d m p : Nat) (t : am_S), d < m → p + d = n → mTp t n tp → am_I t 55 9 = oN p → ∃ t', L_X8_next_0 m t = some (.inr ((), t')) ∧ gM t t' ∧ am_I t' 55 9 = oN (scn isB tp d p) := by
  intro d
  induction d with
  | zero =>
    intro m p t h1 h2 h hp
    obtain ⟨m, rfl⟩ : ∃ q, m = q + 1 := ⟨m - 1, by omega⟩
    have hn := h.1
    rw [L_X8_next_0, h.2.1, hp, if_pos (by rw [oN_le (by omega) (by omega)]; omega)]
    exact ⟨t, rfl, gM.refl, hp⟩
  | succ d ih =>
    intro m p t h1 h2 h hp
    obtain ⟨m, rfl⟩ : ∃ q, m = q + 1 := ⟨m - 1, by omega⟩
    have hn := h.1
    have hin : am_in (oN p) 400 = true := by rw [am_in_oN (by omega)]; exact decide_eq_true (by omega)
    rw [L_X8_next_0, h.2.1, hp, if_neg (by rw [oN_le (by omega) (by omega)]; omega), if_pos hin, jn_s, oN_nat (by omega), h.2.2 p (by omega), scn]
    have g : gM t (am_sI t 55 9 (am_I t 55 9 + (1 : Int32))) := gM.refl.sI (by omega)
    have key : isB (tp p) = true → ∃ t', L_X8_next_0 m (am_sI t 55 9 (am_I t 55 9 + (1 : Int32))) = some (.inr ((), t')) ∧ gM t t' ∧ am_I t' 55 9 = oN (if isB (tp p) = true then scn isB tp d (p + 1) else p) := by
      intro c
      obtain ⟨t', z1, z2, z3⟩ := ih m (p + 1) _ (by omega) (by omega) (h.g g) (by rw [I_sI, if_pos ⟨rfl, rfl⟩, hp, oN_addL])
      exact ⟨t', z1, g.trans z2, by rw [if_pos c]; exact z3⟩
    by_cases c : tp p = 32
    · rw [if_pos c]
      exact key (decide_eq_true (Or.inr c))
    · rw [if_neg c, if_pos hin]
      by_cases c2 : tp p = 10
      · rw [if_pos c2]
        exact key (decide_eq_true (Or.inl c2))
      · rw [if_neg c2, if_neg (show ¬ isB (tp p) = true by unfold isB; rw [decide_eq_true_iff]; rintro (h | h); exact c2 h; exact c h)]
        exact ⟨t, rfl, gM.refl, hp⟩
theorem letters_m : ∀ (d m p : Nat) (t : am_S), d < m → p + d = n → mTp t n tp → am_I t 55 9 = oN p → ∃ t', L_X8_next_94 m t = some (.inr ((), t')) ∧ gM t t' ∧ am_I t' 55 9 = oN (scn isL tp d p) ∧ am_I t' 55 10 = am_I t 55 10 := by
  intro d
  induction d with
  | zero =>
    intro m p t h1 h2 h hp
    obtain ⟨m, rfl⟩ : ∃ q, m = q + 1 := ⟨m - 1, by omega⟩
    have hn := h.1
    rw [L_X8_next_94, hp, see_m h (by omega), bi_s, letter_m, bi_s, i01, if_neg (show ¬ p < n by omega), if_neg isL0]
    exact ⟨t, rfl, gM.refl, hp, rfl⟩
  | succ d ih =>
    intro m p t h1 h2 h hp
    obtain ⟨m, rfl⟩ : ∃ q, m = q + 1 := ⟨m - 1, by omega⟩
    have hn := h.1
    rw [L_X8_next_94, hp, see_m h (by omega), bi_s, letter_m, bi_s, i01, if_pos (show p < n by omega), scn, hp]
    have g : gM t (am_sI t 55 9 (oN p + (1 : Int32))) := gM.refl.sI (by omega)
    by_cases c : isL (tp p) = true
    · rw [if_pos c, if_pos c]
      obtain ⟨t', z1, z2, z3, z4⟩ := ih m (p + 1) _ (by omega) (by omega) (h.g g) (by rw [I_sI, if_pos ⟨rfl, rfl⟩, oN_addL])
      exact ⟨t', z1, g.trans z2, z3, by rw [z4, I_sI, if_neg (by omega)]⟩
    · rw [if_neg c, if_neg c]
      exact ⟨t, rfl, gM.refl, hp, rfl⟩
theorem digits_m : ∀ (d m p : Nat) (t : am_S), d < m → p + d = n → mTp t n tp → am_I t 55 9 = oN p → am_I t 55 10 = oN b → b ≤ p → ∃ t', L_X8_next_141 m t = some (.inr ((), t')) ∧ gM t t' ∧ am_I t' 55 9 = oN (scn isD tp d p) ∧ am_I t' 55 10 = oN b ∧ am_I t' 55 12 = dm tp b d p (am_I t 55 12) := by
  intro d
  induction d with
  | zero =>
    intro m p t h1 h2 h hp hb hbp
    obtain ⟨m, rfl⟩ : ∃ q, m = q + 1 := ⟨m - 1, by omega⟩
    have hn := h.1
    rw [L_X8_next_141, hp, see_m h (by omega), bi_s, digit_m, bi_s, i01, if_neg (show ¬ p < n by omega), if_neg isD0]
    exact ⟨t, rfl, gM.refl, hp, hb, rfl⟩
  | succ d ih =>
    intro m p t h1 h2 h hp hb hbp
    obtain ⟨m, rfl⟩ : ∃ q, m = q + 1 := ⟨m - 1, by omega⟩
    have hn := h.1
    have hin : am_in (oN p) 400 = true := by rw [am_in_oN (by omega)]; exact decide_eq_true (by omega)
    rw [L_X8_next_141, hp, see_m h (by omega), bi_s, digit_m, bi_s, i01, if_pos (show p < n by omega), scn, dm, jn_s, hp, hb, oN_sub hbp, if_pos hin, oN_nat (by omega), h.2.2 p (by omega)]
    have key : ∀ w : Int32, ∃ t', L_X8_next_141 m (am_sI (am_sI t 55 12 w) 55 9 (am_I t 55 9 + (1 : Int32))) = some (.inr ((), t')) ∧ gM t t' ∧ am_I t' 55 9 = oN (scn isD tp d (p + 1)) ∧ am_I t' 55 10 = oN b ∧ am_I t' 55 12 = dm tp b d (p + 1) w := by
      intro w
      have g : gM t (am_sI (am_sI t 55 12 w) 55 9 (am_I t 55 9 + (1 : Int32))) := (gM.refl.sI (by omega)).sI (by omega)
      obtain ⟨t', z1, z2, z3, z4, z5⟩ := ih m (p + 1) _ (by omega) (by omega) (h.g g) (by rw [I_sI, if_pos ⟨rfl, rfl⟩, hp, oN_addL]) (by rw [I_sI, if_neg (by omega), I_sI, if_neg (by omega)]; exact hb) (by omega)
      refine ⟨t', z1, g.trans z2, z3, z4, ?_⟩
      rw [z5, I_sI, if_neg (by omega), I_sI, if_pos ⟨rfl, rfl⟩]
    by_cases c : isD (tp p) = true
    · rw [if_pos c, if_pos c, if_pos c]
      by_cases c2 : p < b + 2
      · rw [if_neg (by rw [oN_leR (by omega) (by omega)]; omega), if_pos c2]
        exact key _
      · rw [if_pos (by rw [oN_leR (by omega) (by omega)]; omega), if_neg c2]
        exact key _
    · rw [if_neg c, if_neg c, if_neg c]
      exact ⟨t, rfl, gM.refl, hp, hb, rfl⟩
theorem dm_is : ∀ (d p : Nat) (v : Int32), scn isD tp d p ≤ b + 2 → dm tp b d p v = dv tp d p v := by
  intro d
  induction d with
  | zero => intro p v _; rfl
  | succ d ih =>
    intro p v h
    rw [scn] at h
    rw [dm, dv]
    by_cases c : isD (tp p) = true
    · rw [if_pos c] at h
      have := scn_ge (P := isD) (tp := tp) d (p + 1)
      rw [if_pos c, if_pos c, if_pos (by omega)]
      exact ih (p + 1) _ h
    · rw [if_neg c, if_neg c]
theorem n59L : ¬ isL (59 : Int32) = true := by decide
theorem n59D : ¬ isD (59 : Int32) = true := by decide
theorem m_nxt (h : mTp t n tp) (hp : am_I t 55 9 = oN p) (hpn : p ≤ n) : ∃ t', f_X8_next t = some (.inl none, t') ∧ gM t t' ∧ mK t' n tp (tok tp n p) := by
  have hn := h.1
  obtain ⟨t1, z1, z2, z3⟩ := blanks_m (n - p) (ax_fuel + 1) p t (by rw [ax_fuel_is]; omega) (by omega) h hp
  rw [next_is, z1, lm_e]
  unfold tok
  have b1 := scn_le (P := isB) (tp := tp) (n - p) p
  generalize scn isB tp (n - p) p = b at b1 z3
  have hb : b ≤ n := by omega
  have h1 := h.g z2
  have f2 : n - b < ax_fuel := by rw [ax_fuel_is]; omega
  unfold tlM tokB
  rw [z3, h1.2.1, oN_nat (by omega)]
  by_cases c : n ≤ b
  · rw [if_pos c, if_neg (by rw [oN_lt (by omega) (by omega)]; omega)]
    have g : gM t (am_sI (am_sI t1 55 10 (oN b)) 55 11 (0 : Int32)) := (z2.sI (by omega)).sI (by omega)
    refine ⟨_, rfl, g, h.g g, ?_, ?_, fun _ => ?_, fun h => by cases h⟩
    · rw [I_sI, if_pos ⟨rfl, rfl⟩]; rfl
    · rw [I_sI, if_neg (by omega), I_sI, if_pos ⟨rfl, rfl⟩]
    · rw [I_sI, if_neg (by omega), I_sI, if_neg (by omega)]; exact z3
  · have hb2 : b < n := by omega
    rw [if_neg c, if_pos (by rw [oN_lt (by omega) (by omega)]; omega), if_pos (by rw [am_in_oN (by omega)]; exact decide_eq_true (by omega)), h1.2.2 b hb2, letter_m, bi_s, i01]
    have g4 : gM t (am_sI t1 55 10 (oN b)) := z2.sI (by omega)
    have p9 : am_I (am_sI t1 55 10 (oN b)) 55 9 = oN b := by rw [I_sI, if_neg (by omega)]; exact z3
    have p10 : am_I (am_sI t1 55 10 (oN b)) 55 10 = oN b := by rw [I_sI, if_pos ⟨rfl, rfl⟩]
    generalize hq : am_sI t1 55 10 (oN b) = u at g4 p9 p10
    by_cases c3 : isL (tp b) = true
    · have c2 : ¬ tp b = 59 := fun e => n59L (by rw [← e]; exact c3)
      obtain ⟨t2, y1, y2, y3, y4⟩ := letters_m (n - b) ax_fuel b u f2 (by omega) (h.g g4) p9
      rw [if_pos c3, if_neg c2, if_pos c3, y1, lm_e]
      have g : gM t (am_sI t2 55 11 (1 : Int32)) := (g4.trans y2).sI (by omega)
      refine ⟨_, rfl, g, h.g g, ?_, ?_, fun _ => ?_, fun h => by cases h⟩
      · rw [I_sI, if_pos ⟨rfl, rfl⟩]; rfl
      · rw [I_sI, if_neg (by omega), y4]; exact p10
      · rw [I_sI, if_neg (by omega)]; exact y3
    · rw [if_neg c3, if_neg c3, digit_m, bi_s, i01]
      by_cases c4 : isD (tp b) = true
      · have c2 : ¬ tp b = 59 := fun e => n59D (by rw [← e]; exact c4)
        rw [if_pos c4, if_neg c2, if_pos c4]
        have g5 : gM u (am_sI u 55 12 (0 : Int32)) := gM.refl.sI (by omega)
        obtain ⟨t2, y1, y2, y3, y4, y5⟩ := digits_m (b := b) (n - b) ax_fuel b _ f2 (by omega) ((h.g g4).g g5) (by rw [I_sI, if_neg (by omega)]; exact p9) (by rw [I_sI, if_neg (by omega)]; exact p10) (by omega)
        rw [I_sI, if_pos ⟨rfl, rfl⟩] at y5
        have e1 := scn_le (P := isD) (tp := tp) (n - b) b
        have e2 := scn_ge (P := isD) (tp := tp) (n - b) b
        rw [y1, lm_e, jn_s, y3, y4, oN_sub e2]
        have g6 := (g4.trans g5).trans y2
        by_cases c5 : scn isD tp (n - b) b ≤ b + 2
        · rw [if_pos (by rw [oN_leL (by omega) (by omega)]; omega), if_pos c5]
          have g7 : gM t (am_sI t2 55 11 (2 : Int32)) := g6.sI (by omega)
          refine ⟨_, rfl, g7, h.g g7, ?_, ?_, fun _ => ?_, fun _ => ?_⟩
          · rw [I_sI, if_pos ⟨rfl, rfl⟩]; rfl
          · rw [I_sI, if_neg (by omega)]; exact y4
          · rw [I_sI, if_neg (by omega)]; exact y3
          · rw [I_sI, if_neg (by omega), y5]; exact dm_is _ _ _ c5
        · rw [if_neg (by rw [oN_leL (by omega) (by omega)]; omega), if_neg c5]
          have g7 : gM t (am_sI t2 55 11 (4 : Int32)) := g6.sI (by omega)
          refine ⟨_, rfl, g7, h.g g7, ?_, ?_, fun h => absurd rfl h, fun h => by cases h⟩
          · rw [I_sI, if_pos ⟨rfl, rfl⟩]; rfl
          · rw [I_sI, if_neg (by omega)]; exact y4
      · rw [if_neg c4, if_neg c4, jn_s]
        by_cases c2 : tp b = 59
        · rw [if_pos c2, if_pos c2]
          have g7 : gM t (am_sI (am_sI u 55 11 (3 : Int32)) 55 9 (am_I u 55 9 + (1 : Int32))) := (g4.sI (by omega)).sI (by omega)
          refine ⟨_, rfl, g7, h.g g7, ?_, ?_, fun _ => ?_, fun h => by cases h⟩
          · rw [I_sI, if_neg (by omega), I_sI, if_pos ⟨rfl, rfl⟩]; rfl
          · rw [I_sI, if_neg (by omega), I_sI, if_neg (by omega)]; exact p10
          · rw [I_sI, if_pos ⟨rfl, rfl⟩, p9, oN_addL]
        · rw [if_neg c2, if_neg c2]
          have g7 : gM t (am_sI (am_sI u 55 11 (4 : Int32)) 55 9 (am_I u 55 9 + (1 : Int32))) := (g4.sI (by omega)).sI (by omega)
          refine ⟨_, rfl, g7, h.g g7, ?_, ?_, fun h => absurd rfl h, fun h => by cases h⟩
          · rw [I_sI, if_neg (by omega), I_sI, if_pos ⟨rfl, rfl⟩]; rfl
          · rw [I_sI, if_neg (by omega), I_sI, if_neg (by omega)]; exact p10
end TKM
