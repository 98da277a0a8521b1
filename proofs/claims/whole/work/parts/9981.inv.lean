/-! ===== all that a hangar holds: told numbers, tape, fault, trays, images ===== -/
abbrev hT : Type := Int32 × Int32 × Int32 × (Nat → Int32) × List (List T2) × List (List T3) × List T3 × List T2 × List T3
def tC (s : am_S) (b : Nat) (h : hT) : Prop := cS s b h.1 h.2.1 h.2.2.1 h.2.2.2.1 h.2.2.2.2.1 h.2.2.2.2.2.1 h.2.2.2.2.2.2.1 h.2.2.2.2.2.2.2.1 h.2.2.2.2.2.2.2.2
def tM (t : Nat → Int32) (h : hT) : Prop := mS t h.1 h.2.1 h.2.2.1 h.2.2.2.1 h.2.2.2.2.1 h.2.2.2.2.2.1 h.2.2.2.2.2.2.1 h.2.2.2.2.2.2.2.1 h.2.2.2.2.2.2.2.2
def tO (h : hT) : Prop := okS h.1 h.2.1 h.2.2.1 h.2.2.2.1 h.2.2.2.2.1 h.2.2.2.2.2.1 h.2.2.2.2.2.2.1 h.2.2.2.2.2.2.2.1 h.2.2.2.2.2.2.2.2
/-- a tray: its sort, how many, its numbers -/
abbrev hY : Type := Int32 × Int32 × (Nat → Int64)
/-- held, tape, fault's kind and place, trays, images -/
abbrev hX : Type := Nat × (Nat → Int32) × Int32 × Int32 × (Nat → hY) × (Nat → Option hT)
def imC (s : am_S) (im : Nat → Option hT) : Prop :=
  (∀ i, i < 3 → (am_R s 33 i = none ∧ im i = none) ∨ ∃ b h, am_R s 33 i = some b ∧ (b = 72 ∨ b = 104 ∨ b = 136) ∧ b < am_n s ∧ im i = some h ∧ tC s b h) ∧
  (∀ i j b, i < 3 → j < 3 → am_R s 33 i = some b → am_R s 33 j = some b → i = j) ∧
  am_n s = 72 + 32 * ((im 0).toList.length + (im 1).toList.length + (im 2).toList.length)
def imM (t : am_S) (im : Nat → Option hT) : Prop := ∀ i, i < 3 → (im i = none ∧ am_I t 58 i = 0) ∨ ∃ h, im i = some h ∧ am_I t 58 i = 1 ∧ tM (fun k => am_I t 57 (264 * i + k)) h
def trC (s : am_S) (tr : Nat → hY) : Prop := ∀ j, j < 4 → am_I s (47 + 2 * j) 1 = (tr j).1 ∧ am_I s (47 + 2 * j) 2 = (tr j).2.1 ∧ ∀ k, k < 12 → am_L s (48 + 2 * j) k = (tr j).2.2 k
def trM (t : am_S) (tr : Nat → hY) : Prop := ∀ j, j < 4 → am_I t 68 j = (tr j).1 ∧ am_I t 69 j = (tr j).2.1 ∧ ∀ k, k < 12 → am_L t 70 (12 * j + k) = (tr j).2.2 k
def tpC (s : am_S) (n : Nat) (tp : Nat → Int32) (fk fp : Int32) : Prop := am_I s 34 1 = oN n ∧ (∀ k, k < n → am_I s 35 k = tp k) ∧ am_I s 34 7 = fk ∧ am_I s 34 8 = fp
def tpM (t : am_S) (n : Nat) (tp : Nat → Int32) (fk fp : Int32) : Prop := am_I t 55 7 = oN n ∧ (∀ k, k < n → am_I t 59 k = tp k) ∧ am_I t 55 15 = fk ∧ am_I t 55 16 = fp
def xC (s : am_S) (X : hX) : Prop := tpC s X.1 X.2.1 X.2.2.1 X.2.2.2.1 ∧ trC s X.2.2.2.2.1 ∧ imC s X.2.2.2.2.2
def xM (t : am_S) (X : hX) : Prop := tpM t X.1 X.2.1 X.2.2.1 X.2.2.2.1 ∧ trM t X.2.2.2.2.1 ∧ imM t X.2.2.2.2.2
def xO (X : hX) : Prop := (X.1 ≤ 400 ∧ ∀ k, k < X.1 → 0 ≤ (X.2.1 k).toInt ∧ (X.2.1 k).toInt ≤ 255) ∧
  (∀ j, j < 4 → (X.2.2.2.2.1 j).1 = -1 ∨ ((0 ≤ (X.2.2.2.2.1 j).1.toInt ∧ (X.2.2.2.2.1 j).1.toInt ≤ 3) ∧ (0 ≤ (X.2.2.2.2.1 j).2.1.toInt ∧ (X.2.2.2.2.1 j).2.1.toInt ≤ 12))) ∧
  (∀ i h, i < 3 → X.2.2.2.2.2 i = some h → tO h)
/-- the statics and the texts -/
def stS (s : am_S) : Prop := (∀ k, k < 23 → am_I s 3000000 k = (([0, 10, 20, 30, 40, 45, 40, 25, 10, 2, 3, 4, 6, 9, 14, 22, 34, 50, 10, 10, 10, 3, -1] : List Int32)[k]?).getD 0) ∧
  (∀ k, k < 7 → am_I s 3000001 k = (([0, 9, 18, 19, 20, 21, 22] : List Int32)[k]?).getD 0) ∧ (∀ k, k < 7 → am_I s 3000002 k = (([9, 9, 1, 1, 1, 1, 1] : List Int32)[k]?).getD 0) ∧
  (∀ k, k < 7 → am_I s 3000003 k = (([0, 0, 1, 1, 0, 0, 10] : List Int32)[k]?).getD 0) ∧ (∀ k, k < 7 → am_I s 3000004 k = (([99, 99, 50, 99, 99, 9, 99] : List Int32)[k]?).getD 0)
def cZ (s : am_S) (T : hT) (X : hX) : Prop := tC s 1 T ∧ cX s ∧ stS s ∧ xC s X
def mZ (t : am_S) (T : hT) (X : hX) : Prop := tM (am_I t 56) T ∧ mX t ∧ xM t X
def cA : List Nat := List.range' 1 54
def mA : List Nat := List.range' 55 16
/-- what a command does to the class's things, to the model's -/
def cWD {α : Type} (w : α → Option Value) (s : am_S) (T : hT) (X : hX) (f : am_F) (o : Nat ⊕ α) : Prop := ∃ s1, fr cA s s1 ∧ cZ s1 T X ∧ f = (match o with | .inl e => some (.inr e, am_tick s1) | .inr v => some (.inl (w v), s1))
def mWD {α : Type} (w : α → Option Value) (k : Nat → Int32) (t : am_S) (T : hT) (X : hX) (f : am_F) (o : Nat ⊕ α) : Prop := ∃ t1 v, fr mA t t1 ∧ mZ t1 T X ∧ f = some (.inl (w v), t1) ∧ (match o with | .inl e => am_I t1 55 3 = k e | .inr u => am_I t1 55 3 = 0 ∧ v = u)
def JW {α : Type} (w : α → Option Value) (k : Nat → Int32) (s t : am_S) (fc fm : am_F) : Prop := ∃ o T X, tO T ∧ xO X ∧ cWD w s T X fc o ∧ mWD w k t T X fm o
section INV
variable {s s1 t t1 : am_S} {A : List Nat} {T T' : hT} {X X' : hX} {im : Nat → Option hT} {tr : Nat → hY} {n : Nat} {tp : Nat → Int32} {fk fp : Int32}
theorem tC.out {b : Nat} (h : tC s b T) (o : tO T) (e : ∀ j, j < 32 → am_I s1 (b + j) = am_I s (b + j)) : tC s1 b T := cS.same h o.2.2.2.2.1.1 o.2.2.2.2.2.1.1 e
theorem imC.keep (h : imC s im) (ho : ∀ i h, i < 3 → im i = some h → tO h) (e : ∀ a, 72 ≤ a → a < 168 → am_I s1 a = am_I s a) (e2 : am_R s1 33 = am_R s 33) (e3 : am_n s1 = am_n s) : imC s1 im := by
  obtain ⟨h1, h2, h3⟩ := h
  refine ⟨?_, ?_, e3.trans h3⟩
  · intro i hi
    rcases h1 i hi with ⟨a1, a2⟩ | ⟨b, h, a1, a2, a3, a4, a5⟩
    · exact Or.inl ⟨by rw [e2]; exact a1, a2⟩
    · exact Or.inr ⟨b, h, by rw [e2]; exact a1, a2, by rw [e3]; exact a3, a4, a5.out (ho i h hi a4) (fun j hj => e _ (by omega) (by omega))⟩
  · intro i j b hi hj hb hb'
    rw [e2] at hb hb'
    exact h2 i j b hi hj hb hb'
theorem imM.keep (h : imM t im) (e1 : am_I t1 57 = am_I t 57) (e2 : am_I t1 58 = am_I t 58) : imM t1 im := by
  intro i hi
  rw [e1, e2]
  exact h i hi
theorem trC.keep (h : trC s tr) (e1 : ∀ a, 47 ≤ a → a < 55 → am_I s1 a = am_I s a) (e2 : ∀ a, 47 ≤ a → a < 55 → am_L s1 a = am_L s a) : trC s1 tr := by
  intro j hj
  rw [e1 _ (by omega) (by omega), e2 _ (by omega) (by omega)]
  exact h j hj
theorem trM.keep (h : trM t tr) (e1 : am_I t1 68 = am_I t 68) (e2 : am_I t1 69 = am_I t 69) (e3 : am_L t1 70 = am_L t 70) : trM t1 tr := by
  intro j hj
  rw [e1, e2, e3]
  exact h j hj
theorem tpC.keep (h : tpC s n tp fk fp) (e1 : am_I s1 34 = am_I s 34) (e2 : am_I s1 35 = am_I s 35) : tpC s1 n tp fk fp := by
  unfold tpC
  rw [e1, e2]
  exact h
theorem tpM.keep (h : tpM t n tp fk fp) (e1 : am_I t1 59 = am_I t 59) (e2 : am_I t1 55 7 = am_I t 55 7) (e3 : am_I t1 55 15 = am_I t 55 15) (e4 : am_I t1 55 16 = am_I t 55 16) : tpM t1 n tp fk fp := by
  unfold tpM
  rw [e1, e2, e3, e4]
  exact h
theorem fr.nn (f : fr A s s1) : am_n s1 = am_n s := by show s1.2.2.2.2.1 = s.2.2.2.2.1; rw [f.2]
/-- nothing of the tape, the trays, the images has changed -/
theorem xC.keep (h : xC s X) (o : xO X) (f : fr A s s1) (hA : A.all (fun a => decide (a ≤ 33 ∨ (36 ≤ a ∧ a ≤ 46) ∨ (55 ≤ a ∧ a < 72))) = true) : xC s1 X := by
  have k : ∀ a, ¬ (a ≤ 33 ∨ (36 ≤ a ∧ a ≤ 46) ∨ (55 ≤ a ∧ a < 72)) → a ∉ A := fun a h hm => h (of_decide_eq_true (List.all_eq_true.mp hA _ hm))
  exact ⟨h.1.keep (f.I (k _ (by omega))) (f.I (k _ (by omega))), h.2.1.keep (fun a h1 h2 => f.I (k _ (by omega))) (fun a h1 h2 => f.L (k _ (by omega))), h.2.2.keep o.2.2 (fun a h1 h2 => f.I (k _ (by omega))) (by rw [f.R]) f.nn⟩
theorem xM.keep (h : xM t X) (f : fr A t t1) (hA : A.all (fun a => decide (a ≤ 56 ∨ (60 ≤ a ∧ a ≤ 67) ∨ 71 ≤ a)) = true) (e2 : am_I t1 55 7 = am_I t 55 7) (e3 : am_I t1 55 15 = am_I t 55 15) (e4 : am_I t1 55 16 = am_I t 55 16) : xM t1 X := by
  have k : ∀ a, ¬ (a ≤ 56 ∨ (60 ≤ a ∧ a ≤ 67) ∨ 71 ≤ a) → a ∉ A := fun a h hm => h (of_decide_eq_true (List.all_eq_true.mp hA _ hm))
  exact ⟨h.1.keep (f.I (k _ (by omega))) e2 e3 e4, h.2.1.keep (f.I (k _ (by omega))) (f.I (k _ (by omega))) (f.L (k _ (by omega))), h.2.2.keep (f.I (k _ (by omega))) (f.I (k _ (by omega)))⟩
theorem stS.keep (h : stS s) (f : fr A s s1) (hA : A.all (fun a => decide (a < 3000000)) = true) : stS s1 := by
  have k : ∀ a, 3000000 ≤ a → a ∉ A := fun a h hm => by have := of_decide_eq_true (List.all_eq_true.mp hA _ hm); omega
  unfold stS
  rw [f.I (k _ (by omega)), f.I (k _ (by omega)), f.I (k _ (by omega)), f.I (k _ (by omega)), f.I (k _ (by omega))]
  exact h
theorem cX.keep (h : cX s) (f : fr A s s1) (hA : A.all (fun a => decide (a < 3000000)) = true) (e : am_I s1 42 1 = am_I s 42 1) : cX s1 := by
  have k : ∀ a, 3000000 ≤ a → a ∉ A := fun a h hm => by have := of_decide_eq_true (List.all_eq_true.mp hA _ hm); omega
  exact ⟨cF_fr h.1 f (k _ (by omega)) (k _ (by omega)), e.trans h.2⟩
/-- the class's things behind what the model does -/
theorem cZ.mod (h : cZ s T X) (oT : tO T) (oX : xO X) (f : fr A s s1) (hA : A.all (fun a => decide (55 ≤ a ∧ a < 72)) = true) : cZ s1 T X := by
  have k : ∀ a, ¬ (55 ≤ a ∧ a < 72) → a ∉ A := fun a h hm => h (of_decide_eq_true (List.all_eq_true.mp hA _ hm))
  have kA : ∀ {p : Nat → Bool}, (∀ a, 55 ≤ a ∧ a < 72 → p a = true) → A.all p = true := fun hp => List.all_eq_true.mpr (fun a ha => hp a (of_decide_eq_true (List.all_eq_true.mp hA _ ha)))
  refine ⟨h.1.out oT (fun j hj => f.I (k _ (by omega))), h.2.1.keep f (kA (fun a h => decide_eq_true (by omega))) (by rw [f.I (k _ (by omega))]), h.2.2.1.keep f (kA (fun a h => decide_eq_true (by omega))), h.2.2.2.keep oX f (kA (fun a h => decide_eq_true (by omega)))⟩
/-- the model's behind what the class does -/
theorem mZ.cls (h : mZ s T X) (f : fr A s s1) (hA : A.all (fun a => decide (a < 55 ∨ 71 ≤ a)) = true) : mZ s1 T X := by
  have k : ∀ a, ¬ (a < 55 ∨ 71 ≤ a) → a ∉ A := fun a h hm => h (of_decide_eq_true (List.all_eq_true.mp hA _ hm))
  have kA : ∀ {p : Nat → Bool}, (∀ a, a < 55 ∨ 71 ≤ a → p a = true) → A.all p = true := fun hp => List.all_eq_true.mpr (fun a ha => hp a (of_decide_eq_true (List.all_eq_true.mp hA _ ha)))
  have e55 : am_I s1 55 = am_I s 55 := f.I (k _ (by omega))
  refine ⟨by rw [f.I (k 56 (by omega))]; exact h.1, ⟨by rw [e55]; exact h.2.1.1, mSi_of h.2.1.2 (by rw [e55]) (f.I (k _ (by omega))) (f.I (k _ (by omega)))⟩, h.2.2.keep f (kA (fun a h => decide_eq_true (by omega))) (by rw [e55]) (by rw [e55]) (by rw [e55])⟩
/-- questions -/
theorem JW_q {α : Type} {w : α → Value} {k : Nat → Int32} {fc fm : am_F} (hC : cZ s T X) (hM : mZ t T X) (oT : tO T) (oX : xO X) (h : ∃ o, cQ w s fc o ∧ mQ w k t fm o) : JW (fun v => some (w v)) k s t fc fm := by
  obtain ⟨o, ⟨s1, q1, e1⟩, ⟨t1, v, q2, e2, e3⟩⟩ := h
  refine ⟨o, T, X, oT, oX, ⟨s1, q1.1.mono (by decide), ⟨cS.qc hC.1 oT q1, hC.2.1.qc q1, hC.2.2.1.keep q1.1 (by decide), hC.2.2.2.keep oX q1.1 (by decide)⟩, e1⟩, ⟨t1, v, q2.1.mono (by decide), ⟨by rw [q2.I]; exact hM.1, hM.2.1.qm q2, hM.2.2.keep q2.1 (by decide) (q2.2.1 7 (by omega)) (q2.2.1 15 (by omega)) (q2.2.1 16 (by omega))⟩, e2, e3⟩⟩
end INV
