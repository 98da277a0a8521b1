/-! ===== words, numbers, stops: class and model in step ===== -/
def wd (j : Nat) : List Int32 := (([[110, 111, 115, 101], [115, 105, 100, 101], [99, 111, 114, 110, 101, 114], [108, 105, 102, 116], [100, 114, 97, 103], [112, 117, 108, 108], [116, 104, 105, 110], [116, 117, 114, 110], [115, 108, 111, 119], [114, 111, 111, 102]] : List (List Int32))[j]?).getD []
def txS (s : am_S) : Prop := ∀ j, j < 20 → ∀ k, k < (wd (j % 10)).length → am_I s (1000000 + j) k = ((wd (j % 10))[k]?).getD 0
def wmt (tp : Nat → Int32) (b : Nat) (w : List Int32) : Nat → Nat → Bool
  | 0, _ => true
  | d + 1, k => if tp (b + k) = (w[k]?).getD 0 then wmt tp b w d (k + 1) else false
def wdI (tp : Nat → Int32) (q : TK) (w : List Int32) : Bool := if q.1 = 1 ∧ q.2.2.1 = q.2.1 + w.length then wmt tp q.2.1 w w.length 0 else false
def tkO (n : Nat) (q : TK) : Prop := q.1 ≤ 4 ∧ q.2.1 ≤ n ∧ (q.1 = 1 ∨ q.1 = 2 ∨ q.1 = 3 → q.2.1 < q.2.2.1 ∧ q.2.2.1 ≤ n)
def jT (s t : am_S) (n : Nat) (tp : Nat → Int32) (q : TK) : Prop := cK s n tp q ∧ mK t n tp q ∧ tkO n q ∧ am_I s 34 7 = 0 ∧ am_I s 34 8 = -1 ∧ am_I t 55 13 = 0
def jF (s t : am_S) : Prop := ∃ fk b : Nat, 1 ≤ fk ∧ fk ≤ 4 ∧ b ≤ 400 ∧ am_I s 34 7 = oN fk ∧ am_I s 34 8 = oN b ∧ am_I t 55 13 = oN fk ∧ am_I t 55 14 = oN b
def pcC (s s1 : am_S) : Prop := fr [34] s s1 ∧ am_I s1 34 1 = am_I s 34 1
def pcM (t t1 : am_S) : Prop := fr [55] t t1 ∧ ∀ k, k < 9 ∨ 14 < k → am_I t1 55 k = am_I t 55 k
section WRD
variable {s s1 s2 t t1 t2 : am_S} {A B : List Nat} {n p b e k j d : Nat} {tp : Nat → Int32} {x v lo hi : Int32} {q q1 : TK} {w : List Int32}
theorem pcC.refl : pcC s s := ⟨fr.refl, rfl⟩
theorem pcC.trans (h : pcC s s1) (h' : pcC s1 s2) : pcC s s2 := ⟨h.1.trans h'.1, h'.2.trans h.2⟩
theorem pcM.refl : pcM t t := ⟨fr.refl, fun _ _ => rfl⟩
theorem pcM.trans (h : pcM t t1) (h' : pcM t1 t2) : pcM t t2 := ⟨h.1.trans h'.1, fun k hk => (h'.2 k hk).trans (h.2 k hk)⟩
theorem gC.pcC (h : gC s s1) : pcC s s1 := ⟨h.1, h.2 1 (by omega)⟩
theorem gM.pcM (h : gM t t1) : pcM t t1 := ⟨h.1, fun k hk => h.2 k (by omega)⟩
theorem tok_ok (hp : p ≤ n) : tkO n (tok tp n p) ∧ p ≤ (tok tp n p).2.1 := by
  unfold tok
  have b1 := scn_le (P := isB) (tp := tp) (n - p) p
  have b2 := scn_ge (P := isB) (tp := tp) (n - p) p
  generalize scn isB tp (n - p) p = b at b1 b2
  unfold tokB
  by_cases c : n ≤ b
  · rw [if_pos c]
    exact ⟨⟨by show 0 ≤ 4; omega, by show b ≤ n; omega, fun h => by rcases h with h | h | h <;> cases h⟩, b2⟩
  · rw [if_neg c]
    by_cases c2 : tp b = 59
    · rw [if_pos c2]
      exact ⟨⟨by show 3 ≤ 4; omega, by show b ≤ n; omega, fun _ => ⟨by show b < b + 1; omega, by show b + 1 ≤ n; omega⟩⟩, b2⟩
    · rw [if_neg c2]
      by_cases c3 : isL (tp b) = true
      · rw [if_pos c3]
        have e1 := scn_le (P := isL) (tp := tp) (n - b) b
        have e2 := scn_gt (P := isL) (tp := tp) (d := n - b) (p := b) (by omega) c3
        exact ⟨⟨by show 1 ≤ 4; omega, by show b ≤ n; omega, fun _ => ⟨e2, by show scn isL tp (n - b) b ≤ n; omega⟩⟩, b2⟩
      · rw [if_neg c3]
        by_cases c4 : isD (tp b) = true
        · rw [if_pos c4]
          have e1 := scn_le (P := isD) (tp := tp) (n - b) b
          have e2 := scn_gt (P := isD) (tp := tp) (d := n - b) (p := b) (by omega) c4
          refine ⟨⟨?_, by show b ≤ n; omega, fun _ => ⟨e2, by show scn isD tp (n - b) b ≤ n; omega⟩⟩, b2⟩
          show (if _ then 2 else 4) ≤ 4
          split <;> omega
        · rw [if_neg c4]
          exact ⟨⟨by show 4 ≤ 4; omega, by show b ≤ n; omega, fun h => by rcases h with h | h | h <;> cases h⟩, b2⟩
theorem cK.to (h : cK s n tp q) (f : fr A s s1) (h1 : 34 ∉ A) (h2 : 35 ∉ A) : cK s1 n tp q := by
  unfold cK cTp
  rw [f.I h1, f.I h2]
  exact h
theorem mK.to (h : mK t n tp q) (f : fr A t t1) (h1 : 55 ∉ A) (h2 : 59 ∉ A) : mK t1 n tp q := by
  unfold mK mTp
  rw [f.I h1, f.I h2]
  exact h
theorem jT.to (h : jT s t n tp q) (f : fr A s s1) (h1 : 34 ∉ A) (h2 : 35 ∉ A) (g : fr B t t1) (h3 : 55 ∉ B) (h4 : 59 ∉ B) : jT s1 t1 n tp q := by
  refine ⟨h.1.to f h1 h2, h.2.1.to g h3 h4, h.2.2.1, ?_⟩
  rw [f.I h1, g.I h3]
  exact h.2.2.2
theorem jF.to (h : jF s t) (f : fr A s s1) (h1 : 34 ∉ A) (g : fr B t t1) (h3 : 55 ∉ B) : jF s1 t1 := by
  unfold jF
  rw [f.I h1, g.I h3]
  exact h
theorem txS.to (h : txS s) (f : fr A s s1) (hA : A.all (fun a => decide (a < 1000000)) = true) : txS s1 := by
  intro j hj k hk
  rw [f.I (fun hm => by have := of_decide_eq_true (List.all_eq_true.mp hA _ hm); omega)]
  exact h j hj k hk
theorem k0w : ∀ j, j < 20 → am_k0 (1000000 + j) = (18, (wd (j % 10)).length) := by decide
theorem wdl : ∀ j, j < 20 → (wd (j % 10)).length ≤ 6 := by decide
/-! one word -/
theorem wmt_c (h : cK s n tp q) (hl : q.2.1 + w.length ≤ n) (hw : (am_k0 b).2 = w.length) (h6 : w.length ≤ 6) (hx : ∀ k, k < w.length → am_I s b k = (w[k]?).getD 0) : ∀ (d m k : Nat), d < m → k + d = w.length →
    L_X3_isWord_28 m b (oN k) s = (if wmt tp q.2.1 w d k = true then some (.inr ((), s)) else some (.inl (.inl (some (.int 0)), s))) := by
  have hn := h.1.1
  intro d
  induction d with
  | zero =>
    intro m k h1 h2
    obtain ⟨m, rfl⟩ : ∃ q, m = q + 1 := ⟨m - 1, by omega⟩
    rw [L_X3_isWord_28, hw, if_pos (by rw [oN_le (by omega) (by omega)]; omega), wmt, if_pos rfl]
  | succ d ih =>
    intro m k h1 h2
    obtain ⟨m, rfl⟩ : ∃ q, m = q + 1 := ⟨m - 1, by omega⟩
    rw [L_X3_isWord_28, hw, if_neg (by rw [oN_le (by omega) (by omega)]; omega), h.2.2.1, oN_add, byteAt_c h.1 (by omega), bi_s, if_pos (by rw [am_in_oN (by omega)]; exact decide_eq_true (by omega)), if_pos (show q.2.1 + k < n by omega), oN_nat (by omega), hx k (by omega), wmt, oN_addL]
    by_cases c : tp (q.2.1 + k) = (w[k]?).getD 0
    · rw [if_pos c, if_pos c]
      exact ih m (k + 1) (by omega) (by omega)
    · rw [if_neg c, if_neg c, if_neg (by decide)]
theorem wmt_m (h : mK t n tp q) (hl : q.2.1 + w.length ≤ n) (hw : (am_k0 b).2 = w.length) (h6 : w.length ≤ 6) (hx : ∀ k, k < w.length → am_I t b k = (w[k]?).getD 0) : ∀ (d m k : Nat), d + 1 < m → k + d = w.length →
    L_X8_isWord_39 m b 1 (oN k) t = some (.inr ((if wmt tp q.2.1 w d k = true then 1 else 0), t)) := by
  have hn := h.1.1
  intro d
  induction d with
  | zero =>
    intro m k h1 h2
    obtain ⟨m, rfl⟩ : ∃ q, m = q + 1 := ⟨m - 1, by omega⟩
    rw [L_X8_isWord_39, if_neg n10, hw, if_pos (by rw [oN_le (by omega) (by omega)]; omega), wmt, if_pos rfl]
  | succ d ih =>
    intro m k h1 h2
    obtain ⟨m, rfl⟩ : ∃ q, m = q + 1 := ⟨m - 1, by omega⟩
    rw [L_X8_isWord_39, if_neg n10, hw, if_neg (by rw [oN_le (by omega) (by omega)]; omega), h.2.2.1, oN_add, if_pos (by rw [am_in_oN (by omega)]; exact decide_eq_true (by omega)), if_pos (by rw [am_in_oN (by omega)]; exact decide_eq_true (by omega)), oN_nat (by omega), oN_nat (by omega), h.1.2.2 _ (show q.2.1 + k < n by omega), hx k (by omega), wmt, oN_addL]
    by_cases c : tp (q.2.1 + k) = (w[k]?).getD 0
    · rw [if_pos c, if_pos c]
      exact ih m (k + 1) (by omega) (by omega)
    · obtain ⟨m, rfl⟩ : ∃ q, m = q + 1 := ⟨m - 1, by omega⟩
      rw [if_neg c, if_neg c, if_neg (by decide), L_X8_isWord_39, if_pos rfl]
theorem w_sub (hq : tkO n q) (hn : n ≤ 400) (h1 : q.1 = 1) {l : Nat} (hl : l ≤ 6) : (oN q.2.2.1 - oN q.2.1 = oN l) ↔ q.2.2.1 = q.2.1 + l := by
  have h2 := hq.2.2 (Or.inl h1)
  rw [oN_sub (by omega), oN_eq (by omega) (by omega)]
  omega
theorem word_c (h : cK s n tp q) (hq : tkO n q) (hx : txS s) (hj : j < 20) : f_X3_isWord (1000000 + j) s = some (.inl (some (.int (if wdI tp q (wd (j % 10)) = true then 1 else 0))), s) := by
  have hn := h.1.1
  have hk := k0w j hj
  have hl := wdl j hj
  have hx := hx j hj
  generalize wd (j % 10) = w at hk hl hx
  have hw : (am_k0 (1000000 + j)).2 = w.length := by rw [hk]
  have hq1 := hq.1
  unfold f_X3_isWord wdI
  rw [h.2.1]
  by_cases c : q.1 = 1
  · rw [if_pos (by rw [c]; rfl), h.2.2.2.1 (by omega), h.2.2.1, hw]
    by_cases c2 : q.2.2.1 = q.2.1 + w.length
    · rw [if_pos ((w_sub hq hn c hl).mpr c2), if_pos (show q.1 = 1 ∧ q.2.2.1 = q.2.1 + w.length from ⟨c, c2⟩)]
      have := hq.2.2 (Or.inl c)
      have z := wmt_c (b := 1000000 + j) h (by omega) hw hl hx w.length ax_fuel 0 (by rw [ax_fuel_is]; omega) (by omega)
      rw [show L_X3_isWord_28 ax_fuel (1000000 + j) (0 : Int32) s = _ from z]
      by_cases c3 : wmt tp q.2.1 w w.length 0 = true
      · rw [if_pos c3, if_pos c3]; rfl
      · rw [if_neg c3, if_neg c3]; rfl
    · rw [if_neg (fun h => c2 ((w_sub hq hn c hl).mp h)), if_neg (show ¬ (q.1 = 1 ∧ q.2.2.1 = q.2.1 + w.length) from fun h => c2 h.2), if_neg (show ¬ false = true by decide)]
  · rw [if_neg (by rw [show (1 : Int32) = oN 1 from rfl, oN_eq (by omega) (by omega)]; exact c), if_neg (show ¬ (q.1 = 1 ∧ q.2.2.1 = q.2.1 + w.length) from fun h => c h.1), if_neg (show ¬ false = true by decide)]
theorem word_m (h : mK t n tp q) (hq : tkO n q) (h0 : am_I t 55 13 = 0) (hx : txS t) (hj : j < 20) : f_X8_isWord (1000000 + j) t = some (.inl (some (.int (if wdI tp q (wd (j % 10)) = true then 1 else 0))), t) := by
  have hn := h.1.1
  have hk := k0w j hj
  have hl := wdl j hj
  have hx := hx j hj
  generalize wd (j % 10) = w at hk hl hx
  have hw : (am_k0 (1000000 + j)).2 = w.length := by rw [hk]
  have hq1 := hq.1
  have z0 : L_X8_isWord_39 ax_fuel (1000000 + j) 0 0 t = some (.inr ((0 : Int32), t)) := by
    obtain ⟨m, e⟩ : ∃ q, ax_fuel = q + 1 := ⟨999, by rw [ax_fuel_is]⟩
    rw [e, L_X8_isWord_39, if_pos rfl]
  have z1 : (am_lm (L_X8_isWord_39 ax_fuel (1000000 + j) 0 0 t) (fun e9 s10 => if e9 = 0 ∨ e9 = 1 then some (.inl (some (.int e9)), s10) else none) : am_F) = some (.inl (some (.int 0)), t) := by rw [z0, lm_e, if_pos (Or.inl rfl)]
  unfold f_X8_isWord wdI
  rw [jn_s, jn_s, h0, if_pos rfl, h.2.1]
  by_cases c : q.1 = 1
  · rw [if_pos (by rw [c]; rfl), h.2.2.2.1 (by omega), h.2.2.1, hw]
    by_cases c2 : q.2.2.1 = q.2.1 + w.length
    · rw [if_pos ((w_sub hq hn c hl).mpr c2), if_pos (show q.1 = 1 ∧ q.2.2.1 = q.2.1 + w.length from ⟨c, c2⟩)]
      have := hq.2.2 (Or.inl c)
      have z := wmt_m (b := 1000000 + j) h (by omega) hw hl hx w.length ax_fuel 0 (by rw [ax_fuel_is]; omega) (by omega)
      show (am_lm (L_X8_isWord_39 ax_fuel (1000000 + j) 1 0 t) (fun e9 s10 => if e9 = 0 ∨ e9 = 1 then some (.inl (some (.int e9)), s10) else none) : am_F) = _
      rw [show L_X8_isWord_39 ax_fuel (1000000 + j) 1 (0 : Int32) t = _ from z, lm_e]
      by_cases c3 : wmt tp q.2.1 w w.length 0 = true
      · rw [if_pos c3, if_pos (Or.inr rfl)]
      · rw [if_neg c3, if_pos (Or.inl rfl)]
    · rw [if_neg (fun h => c2 ((w_sub hq hn c hl).mp h)), if_neg (show ¬ (q.1 = 1 ∧ q.2.2.1 = q.2.1 + w.length) from fun h => c2 h.2), if_neg (show ¬ false = true by decide)]; exact z1
  · rw [if_neg (by rw [show (1 : Int32) = oN 1 from rfl, oN_eq (by omega) (by omega)]; exact c), if_neg (show ¬ (q.1 = 1 ∧ q.2.2.1 = q.2.1 + w.length) from fun h => c h.1), if_neg (show ¬ false = true by decide)]; exact z1
end WRD
