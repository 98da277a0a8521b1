/-! ===== the tape's tokens: class and model read one thing ===== -/
def isB (x : Int32) : Bool := decide (x = 10 ∨ x = 32)
def isL (x : Int32) : Bool := decide (97 ≤ x.toInt ∧ x.toInt ≤ 122)
def isD (x : Int32) : Bool := decide (48 ≤ x.toInt ∧ x.toInt ≤ 57)
def scn (P : Int32 → Bool) (tp : Nat → Int32) : Nat → Nat → Nat
  | 0, p => p
  | d + 1, p => if P (tp p) = true then scn P tp d (p + 1) else p
def dv (tp : Nat → Int32) : Nat → Nat → Int32 → Int32
  | 0, _, v => v
  | d + 1, p, v => if isD (tp p) = true then dv tp d (p + 1) ((10 : Int32) * v + tp p - (48 : Int32)) else v
abbrev TK : Type := Nat × Nat × Nat × Int32
def tokB (tp : Nat → Int32) (n b : Nat) : TK :=
  if n ≤ b then (0, b, b, 0) else if tp b = 59 then (3, b, b + 1, 0) else if isL (tp b) = true then (1, b, scn isL tp (n - b) b, 0)
  else if isD (tp b) = true then (if scn isD tp (n - b) b ≤ b + 2 then 2 else 4, b, scn isD tp (n - b) b, dv tp (n - b) b 0) else (4, b, b, 0)
def tok (tp : Nat → Int32) (n p : Nat) : TK := tokB tp n (scn isB tp (n - p) p)
def cTp (s : am_S) (n : Nat) (tp : Nat → Int32) : Prop := n ≤ 400 ∧ am_I s 34 2 = oN n ∧ ∀ k, k < n → am_I s 35 k = tp k
def mTp (t : am_S) (n : Nat) (tp : Nat → Int32) : Prop := n ≤ 400 ∧ am_I t 55 8 = oN n ∧ ∀ k, k < n → am_I t 59 k = tp k
def cK (s : am_S) (n : Nat) (tp : Nat → Int32) (k : TK) : Prop := cTp s n tp ∧ am_I s 34 4 = oN k.1 ∧ am_I s 34 5 = oN k.2.1 ∧ (¬ k.1 = 4 → am_I s 34 3 = oN k.2.2.1) ∧ (k.1 = 2 → am_I s 34 6 = k.2.2.2)
def mK (t : am_S) (n : Nat) (tp : Nat → Int32) (k : TK) : Prop := mTp t n tp ∧ am_I t 55 11 = oN k.1 ∧ am_I t 55 10 = oN k.2.1 ∧ (¬ k.1 = 4 → am_I t 55 9 = oN k.2.2.1) ∧ (k.1 = 2 → am_I t 55 12 = k.2.2.2)
def gC (s s1 : am_S) : Prop := fr [34] s s1 ∧ ∀ k, k < 3 ∨ 6 < k → am_I s1 34 k = am_I s 34 k
def gM (t t1 : am_S) : Prop := fr [55] t t1 ∧ ∀ k, k < 9 ∨ 12 < k → am_I t1 55 k = am_I t 55 k
section TOK
variable {s s1 s2 t t1 t2 : am_S} {n p b e k j d : Nat} {tp : Nat → Int32} {x v : Int32} {P : Int32 → Bool}
theorem gC.refl : gC s s := ⟨fr.refl, fun _ _ => rfl⟩
theorem gC.trans (h : gC s s1) (h' : gC s1 s2) : gC s s2 := ⟨h.1.trans h'.1, fun k hk => (h'.2 k hk).trans (h.2 k hk)⟩
theorem gC.sI (h : gC s s1) (hk : 3 ≤ k ∧ k ≤ 6) : gC s (am_sI s1 34 k v) := ⟨h.1.sI (by simp), fun j hj => by rw [I_sI, if_neg (by omega)]; exact h.2 j hj⟩
theorem gM.refl : gM t t := ⟨fr.refl, fun _ _ => rfl⟩
theorem gM.trans (h : gM t t1) (h' : gM t1 t2) : gM t t2 := ⟨h.1.trans h'.1, fun k hk => (h'.2 k hk).trans (h.2 k hk)⟩
theorem gM.sI (h : gM t t1) (hk : 9 ≤ k ∧ k ≤ 12) : gM t (am_sI t1 55 k v) := ⟨h.1.sI (by simp), fun j hj => by rw [I_sI, if_neg (by omega)]; exact h.2 j hj⟩
theorem cTp.g (h : cTp s n tp) (g : gC s s1) : cTp s1 n tp := ⟨h.1, (g.2 2 (by omega)).trans h.2.1, fun k hk => by rw [g.1.I (by decide)]; exact h.2.2 k hk⟩
theorem mTp.g (h : mTp t n tp) (g : gM t t1) : mTp t1 n tp := ⟨h.1, (g.2 8 (by omega)).trans h.2.1, fun k hk => by rw [g.1.I (by decide)]; exact h.2.2 k hk⟩
theorem scn_ge : ∀ (d p : Nat), p ≤ scn P tp d p := by
  intro d
  induction d with
  | zero => intro p; exact Nat.le_refl p
  | succ d ih =>
    intro p
    rw [scn]
    split
    · have := ih (p + 1); omega
    · exact Nat.le_refl p
theorem scn_le : ∀ (d p : Nat), scn P tp d p ≤ p + d := by
  intro d
  induction d with
  | zero => intro p; exact Nat.le_refl p
  | succ d ih =>
    intro p
    rw [scn]
    split
    · have := ih (p + 1); omega
    · omega
theorem scn_gt (hd : 0 < d) (h : P (tp p) = true) : p < scn P tp d p := by
  obtain ⟨d, rfl⟩ : ∃ q, d = q + 1 := ⟨d - 1, by omega⟩
  rw [scn, if_pos h]
  have := scn_ge (P := P) (tp := tp) d (p + 1)
  omega
theorem byteAt_c (h : cTp s n tp) (hp : p ≤ n) : f_X3_byteAt (oN p) s = some (.inl (some (.int (if p < n then tp p else -1))), s) := by
  have h1 := h.1
  unfold f_X3_byteAt
  rw [if_neg (by rw [oN_nonneg (by omega)]; exact id), h.2.1]
  by_cases c : p < n
  · rw [if_neg (by rw [oN_le (by omega) (by omega)]; omega), if_neg (by rw [oN_leR (by omega) (by omega)]; omega), if_pos (by rw [am_in_oN (by omega)]; exact decide_eq_true (by omega)), if_pos c, oN_nat (by omega), h.2.2 p c]
  · rw [if_pos (by rw [oN_le (by omega) (by omega)]; omega), if_neg c]
theorem see_m (h : mTp t n tp) (hp : p ≤ n) : f_X8_see (oN p) t = some (.inl (some (.int (if p < n then tp p else 0))), t) := by
  have h1 := h.1
  unfold f_X8_see
  rw [h.2.1]
  by_cases c : p < n
  · rw [if_neg (by rw [oN_le (by omega) (by omega)]; omega), if_pos (by rw [am_in_oN (by omega)]; exact decide_eq_true (by omega)), if_pos c, oN_nat (by omega), h.2.2 p c]
  · rw [if_pos (by rw [oN_le (by omega) (by omega)]; omega), if_neg c]
theorem blank_c : f_X3_isBlank x s = some (.inl (some (.int (if isB x = true then 1 else 0))), s) := by
  unfold f_X3_isBlank isB
  by_cases c : x = 10
  · rw [if_pos c, if_pos (decide_eq_true (Or.inl c))]
  · rw [if_neg c]
    by_cases c2 : x = 32
    · rw [if_pos c2, if_pos (decide_eq_true (Or.inr c2))]
    · rw [if_neg c2, if_neg (by rw [decide_eq_true_iff]; rintro (h | h); exact c h; exact c2 h)]
theorem rng (lo hi : Int32) (a z : Int) (hl : lo.toInt = a) (hh : hi.toInt = z) : (if x < lo then some (.inl (some (.int (0 : Int32))), s) else if hi < x then some (.inl (some (.int (0 : Int32))), s) else some (.inl (some (.int (1 : Int32))), s) : am_F) = some (.inl (some (.int (if decide (a ≤ x.toInt ∧ x.toInt ≤ z) = true then 1 else 0))), s) := by
  by_cases c : x < lo
  · rw [if_pos c]
    rw [Int32.lt_iff_toInt_lt, hl] at c
    rw [if_neg (by rw [decide_eq_true_iff]; omega)]
  · rw [if_neg c]
    rw [Int32.lt_iff_toInt_lt, hl] at c
    by_cases c2 : hi < x
    · rw [if_pos c2]
      rw [Int32.lt_iff_toInt_lt, hh] at c2
      rw [if_neg (by rw [decide_eq_true_iff]; omega)]
    · rw [if_neg c2]
      rw [Int32.lt_iff_toInt_lt, hh] at c2
      rw [if_pos (by rw [decide_eq_true_iff]; omega)]
theorem letter_c : f_X3_isLetter x s = some (.inl (some (.int (if isL x = true then 1 else 0))), s) := rng 97 122 97 122 rfl rfl
theorem digit_c : f_X3_isDigit x s = some (.inl (some (.int (if isD x = true then 1 else 0))), s) := rng 48 57 48 57 rfl rfl
theorem letter_m : f_X8_isLetter x s = some (.inl (some (.int (if isL x = true then 1 else 0))), s) := rng 97 122 97 122 rfl rfl
theorem digit_m : f_X8_isDigit x s = some (.inl (some (.int (if isD x = true then 1 else 0))), s) := rng 48 57 48 57 rfl rfl
theorem i01 {α : Type} {c : Prop} [Decidable c] {A B : α} : (if (if c then (1 : Int32) else 0) = 0 then A else B) = if c then B else A := by
  by_cases h : c
  · rw [if_pos h, if_neg n10, if_pos h]
  · rw [if_neg h, if_pos rfl, if_neg h]
theorem blanks_c : ∀ (d m p : Nat) (s : am_S), d < m → p + d = n → cTp s n tp → L_X3_advance_5 m (oN p) s = some (.inr (oN (scn isB tp d p), s)) := by
  intro d
  induction d with
  | zero =>
    intro m p s h1 h2 h
    obtain ⟨m, rfl⟩ : ∃ q, m = q + 1 := ⟨m - 1, by omega⟩
    have hn := h.1
    rw [L_X3_advance_5, h.2.1, if_pos (by rw [oN_le (by omega) (by omega)]; omega)]; rfl
  | succ d ih =>
    intro m p s h1 h2 h
    obtain ⟨m, rfl⟩ : ∃ q, m = q + 1 := ⟨m - 1, by omega⟩
    have hn := h.1
    rw [L_X3_advance_5, h.2.1, if_neg (by rw [oN_le (by omega) (by omega)]; omega), byteAt_c h (by omega), bi_s, blank_c, bi_s, i01, if_pos (show p < n by omega), scn, oN_addL]
    by_cases c : isB (tp p) = true
    · rw [if_pos c, if_pos c]; exact ih m (p + 1) s (by omega) (by omega) h
    · rw [if_neg c, if_neg c]
theorem letters_c : ∀ (d m p : Nat) (s : am_S), d < m → p + d = n → cTp s n tp → L_X3_advance_83 m (oN p) s = some (.inr (oN (scn isL tp d p), s)) := by
  intro d
  induction d with
  | zero =>
    intro m p s h1 h2 h
    obtain ⟨m, rfl⟩ : ∃ q, m = q + 1 := ⟨m - 1, by omega⟩
    have hn := h.1
    rw [L_X3_advance_83, h.2.1, if_pos (by rw [oN_le (by omega) (by omega)]; omega)]; rfl
  | succ d ih =>
    intro m p s h1 h2 h
    obtain ⟨m, rfl⟩ : ∃ q, m = q + 1 := ⟨m - 1, by omega⟩
    have hn := h.1
    rw [L_X3_advance_83, h.2.1, if_neg (by rw [oN_le (by omega) (by omega)]; omega), byteAt_c h (by omega), bi_s, letter_c, bi_s, i01, if_pos (show p < n by omega), scn, oN_addL]
    by_cases c : isL (tp p) = true
    · rw [if_pos c, if_pos c]; exact ih m (p + 1) s (by omega) (by omega) h
    · rw [if_neg c, if_neg c]
theorem digits_c {y : Int32} : ∀ (d m p : Nat) (s : am_S), d < m → p + d = n → cTp s n tp → ∃ s', L_X3_advanceDigits_7 m y (oN p) s = some (.inr (oN (scn isD tp d p), s')) ∧ gC s s' ∧ am_I s' 34 6 = dv tp d p (am_I s 34 6) ∧ am_I s' 34 5 = am_I s 34 5 := by
  intro d
  induction d with
  | zero =>
    intro m p s h1 h2 h
    obtain ⟨m, rfl⟩ : ∃ q, m = q + 1 := ⟨m - 1, by omega⟩
    have hn := h.1
    rw [L_X3_advanceDigits_7, h.2.1, if_pos (by rw [oN_le (by omega) (by omega)]; omega)]
    exact ⟨s, rfl, gC.refl, rfl, rfl⟩
  | succ d ih =>
    intro m p s h1 h2 h
    obtain ⟨m, rfl⟩ : ∃ q, m = q + 1 := ⟨m - 1, by omega⟩
    have hn := h.1
    rw [L_X3_advanceDigits_7, h.2.1, if_neg (by rw [oN_le (by omega) (by omega)]; omega), byteAt_c h (by omega), bi_s, digit_c, bi_s, i01, byteAt_c h (by omega), bi_s, if_pos (show p < n by omega), scn, dv, oN_addL]
    by_cases c : isD (tp p) = true
    · rw [if_pos c, if_pos c, if_pos c]
      have g : gC s (am_sI s 34 6 ((10 : Int32) * am_I s 34 6 + tp p - (48 : Int32))) := gC.refl.sI (by omega)
      obtain ⟨s', z1, z2, z3, z4⟩ := ih m (p + 1) _ (by omega) (by omega) (h.g g)
      refine ⟨s', z1, g.trans z2, ?_, ?_⟩
      · rw [z3, I_sI, if_pos ⟨rfl, rfl⟩]
      · rw [z4, I_sI, if_neg (by omega)]
    · rw [if_neg c, if_neg c, if_neg c]
      exact ⟨s, rfl, gC.refl, rfl, rfl⟩
theorem cK.mk {v1 : Int32} (h : cTp s n tp) (k2 : ¬ k = 2) : gC s (am_sI (am_sI (am_sI s 34 5 (oN b)) 34 4 (oN k)) 34 3 (oN e)) ∧ cK (am_sI (am_sI (am_sI s 34 5 (oN b)) 34 4 (oN k)) 34 3 (oN e)) n tp (k, b, e, v1) := by
  have g : gC s (am_sI (am_sI (am_sI s 34 5 (oN b)) 34 4 (oN k)) 34 3 (oN e)) := ((gC.refl.sI (by omega)).sI (by omega)).sI (by omega)
  refine ⟨g, h.g g, ?_, ?_, fun _ => ?_, fun h => absurd h k2⟩
  · rw [I_sI, if_neg (by omega), I_sI, if_pos ⟨rfl, rfl⟩]
  · rw [I_sI, if_neg (by omega), I_sI, if_neg (by omega), I_sI, if_pos ⟨rfl, rfl⟩]
  · rw [I_sI, if_pos ⟨rfl, rfl⟩]
theorem m59 : ∀ x : Int32, 0 ≤ x.toInt → ¬ x = -1 := by
  intro x h e
  subst e
  revert h
  decide
theorem isL0 : ¬ isL (0 : Int32) = true := by decide
theorem isD0 : ¬ isD (0 : Int32) = true := by decide
theorem c_adv (h : cTp s n tp) (ht : ∀ k, k < n → 0 ≤ (tp k).toInt) (hp : am_I s 34 3 = oN p) (hpn : p ≤ n) : ∃ s', f_X3_advance s = some (.inl none, s') ∧ gC s s' ∧ cK s' n tp (tok tp n p) := by
  have hn := h.1
  have f1 : n - p < ax_fuel := by rw [ax_fuel_is]; omega
  unfold f_X3_advance tok
  rw [hp, blanks_c (n - p) ax_fuel p s f1 (by omega) h, lm_e]
  have b1 := scn_le (P := isB) (tp := tp) (n - p) p
  generalize scn isB tp (n - p) p = b at b1
  have hb : b ≤ n := by omega
  have f2 : n - b < ax_fuel := by rw [ax_fuel_is]; omega
  have g5 : gC s (am_sI s 34 5 (oN b)) := gC.refl.sI (by omega)
  rw [byteAt_c (h.g g5) hb, bi_s, jn_s]
  unfold tokB
  by_cases c : n ≤ b
  · rw [if_pos c, if_neg (show ¬ b < n by omega), if_pos rfl]
    obtain ⟨q1, q2⟩ := cK.mk (k := 0) (b := b) (e := b) (v1 := 0) h (by omega)
    exact ⟨_, rfl, q1, q2⟩
  · rw [if_neg c, if_pos (show b < n by omega), if_neg (m59 _ (ht b (by omega)))]
    by_cases c2 : tp b = 59
    · rw [if_pos c2, if_pos c2, oN_addL]
      obtain ⟨q1, q2⟩ := cK.mk (k := 3) (b := b) (e := b + 1) (v1 := 0) h (by omega)
      exact ⟨_, rfl, q1, q2⟩
    · rw [if_neg c2, if_neg c2, letter_c, bi_s, i01]
      by_cases c3 : isL (tp b) = true
      · rw [if_pos c3, if_pos c3, letters_c (n - b) ax_fuel b _ f2 (by omega) (h.g (g5.sI (by omega))), lm_e]
        obtain ⟨q1, q2⟩ := cK.mk (k := 1) (b := b) (e := scn isL tp (n - b) b) (v1 := 0) h (by omega)
        exact ⟨_, rfl, q1, q2⟩
      · rw [if_neg c3, if_neg c3, digit_c, bi_s, i01]
        by_cases c4 : isD (tp b) = true
        · rw [if_pos c4, if_pos c4]
          unfold f_X3_advanceDigits
          obtain ⟨s', z1, z2, z3, z4⟩ := digits_c (y := oN b) (n - b) ax_fuel b _ f2 (by omega) (h.g (g5.sI (k := 6) (v := 0) (by omega)))
          have e1 := scn_le (P := isD) (tp := tp) (n - b) b
          have e2 := scn_ge (P := isD) (tp := tp) (n - b) b
          rw [z1, lm_e, jn_s, oN_sub e2]
          rw [I_sI, if_pos ⟨rfl, rfl⟩] at z3
          rw [I_sI, if_neg (by omega), I_sI, if_pos ⟨rfl, rfl⟩] at z4
          have g6 := (g5.sI (k := 6) (v := 0) (by omega)).trans z2
          by_cases c5 : scn isD tp (n - b) b ≤ b + 2
          · rw [if_neg (by rw [oN_ltR (by omega) (by omega)]; omega), if_pos c5, bi_s]
            have g7 := (g6.sI (k := 4) (v := 2) (by omega)).sI (k := 3) (v := oN (scn isD tp (n - b) b)) (by omega)
            refine ⟨_, rfl, g7, h.g g7, ?_, ?_, fun _ => ?_, fun _ => ?_⟩
            · rw [I_sI, if_neg (by omega), I_sI, if_pos ⟨rfl, rfl⟩]; rfl
            · rw [I_sI, if_neg (by omega), I_sI, if_neg (by omega)]; exact z4
            · rw [I_sI, if_pos ⟨rfl, rfl⟩]
            · rw [I_sI, if_neg (by omega), I_sI, if_neg (by omega)]; exact z3
          · rw [if_pos (by rw [oN_ltR (by omega) (by omega)]; omega), if_neg c5, bi_s]
            have g7 := (g6.sI (k := 4) (v := 4) (by omega)).sI (k := 3) (v := oN (scn isD tp (n - b) b)) (by omega)
            refine ⟨_, rfl, g7, h.g g7, ?_, ?_, fun h => absurd rfl h, fun h => by cases h⟩
            · rw [I_sI, if_neg (by omega), I_sI, if_pos ⟨rfl, rfl⟩]; rfl
            · rw [I_sI, if_neg (by omega), I_sI, if_neg (by omega)]; exact z4
        · rw [if_neg c4, if_neg c4]
          obtain ⟨q1, q2⟩ := cK.mk (k := 4) (b := b) (e := b) (v1 := 0) h (by omega)
          exact ⟨_, rfl, q1, q2⟩
end TOK
