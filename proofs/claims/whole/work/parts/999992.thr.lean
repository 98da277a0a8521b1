/-! ===== which exceptions the class's commands throw ===== -/
def selF : am_O × am_S → Option Nat := fun r => match r.1 with | .inr e => some e | _ => none
def selE {T : Type} : ((am_O × am_S) ⊕ (T × am_S)) → Option Nat := fun r => match r with | .inl q => selF q | _ => none
def tH {R : Type} (sel : R → Option Nat) (E : List Nat) (f : Option R) : Prop := ∀ r e, f = some r → sel r = some e → e ∈ E
def subL (A B : List Nat) : Bool := A.all (fun a => B.any (fun b => b == a))
section THR
variable {R T T' : Type} {sel : R → Option Nat} {E E' : List Nat} {f : am_F} {s : am_S} {v : T} {e : Nat}
theorem tH_none : tH sel E none := fun r e h => by cases h
theorem tH_v {w : Option Value} : tH selF E (some (.inl w, s)) := fun r e h h2 => by cases h; cases h2
theorem tH_x (h : (E.any (fun a => a == e)) = true) : tH selF E (some (.inr e, s)) := fun r e h1 h2 => by
  cases h1; cases h2
  simpa using h
theorem tH_Ev {w : Option Value} : tH (selE (T := T)) E (some (.inl (.inl w, s))) := fun r e h h2 => by cases h; cases h2
theorem tH_Ex (h : (E.any (fun a => a == e)) = true) : tH (selE (T := T)) E (some (.inl (.inr e, s))) := fun r e h1 h2 => by
  cases h1; cases h2
  simpa using h
theorem tH_Er {q : T × am_S} : tH selE E (some (.inr q)) := fun r e h h2 => by cases h; cases h2
theorem tH_ite {p : Prop} [Decidable p] {a b : Option R} (h1 : tH sel E a) (h2 : tH sel E b) : tH sel E (if p then a else b) := by
  by_cases c : p
  · rw [if_pos c]; exact h1
  · rw [if_neg c]; exact h2
theorem tH_bi {g : Int32 → am_S → Option R} (hg : ∀ v s1, tH sel E (g v s1)) : tH sel E (am_bi f g) := by
  rcases f with _ | ⟨(_ | v) | e, s1⟩
  · exact tH_none
  · exact tH_none
  · cases v <;> first | exact tH_none | exact hg _ _
  · exact tH_none
theorem tH_bl {g : Int64 → am_S → Option R} (hg : ∀ v s1, tH sel E (g v s1)) : tH sel E (am_bl f g) := by
  rcases f with _ | ⟨(_ | v) | e, s1⟩
  · exact tH_none
  · exact tH_none
  · cases v <;> first | exact tH_none | exact hg _ _
  · exact tH_none
theorem tH_bv {g : Value → am_S → Option R} (hg : ∀ v s1, tH sel E (g v s1)) : tH sel E (am_bv f g) := by
  rcases f with _ | ⟨(_ | v) | e, s1⟩
  · exact tH_none
  · exact tH_none
  · exact hg _ _
  · exact tH_none
theorem tH_bu {g : am_S → Option R} (hg : ∀ s1, tH sel E (g s1)) : tH sel E (am_bu f g) := by
  rcases f with _ | ⟨(_ | v) | e, s1⟩
  · exact tH_none
  · exact hg _
  · exact tH_none
  · exact tH_none
theorem tH_ti {g : Int32 → am_S → am_F} (h : tH selF E f) (hg : ∀ v s1, tH selF E (g v s1)) : tH selF E (am_ti f g) := by
  rcases f with _ | ⟨(_ | v) | e, s1⟩
  · exact tH_none
  · exact tH_none
  · cases v <;> first | exact tH_none | exact hg _ _
  · exact h
theorem tH_tl {g : Int64 → am_S → am_F} (h : tH selF E f) (hg : ∀ v s1, tH selF E (g v s1)) : tH selF E (am_tl f g) := by
  rcases f with _ | ⟨(_ | v) | e, s1⟩
  · exact tH_none
  · exact tH_none
  · cases v <;> first | exact tH_none | exact hg _ _
  · exact h
theorem tH_tu {g : am_S → am_F} (h : tH selF E f) (hg : ∀ s1, tH selF E (g s1)) : tH selF E (am_tu f g) := by
  rcases f with _ | ⟨(_ | v) | e, s1⟩
  · exact tH_none
  · exact hg _
  · exact tH_none
  · exact h
theorem tH_tv {g : Value → am_S → am_F} (h : tH selF E f) (hg : ∀ v s1, tH selF E (g v s1)) : tH selF E (am_tv f g) := by
  rcases f with _ | ⟨(_ | v) | e, s1⟩
  · exact tH_none
  · exact tH_none
  · exact hg _ _
  · exact h
theorem tH_jn {J : T → am_S → Option R} {b : (T → am_S → Option R) → Option R} (hJ : ∀ e s1, tH sel E (J e s1)) (hb : ∀ J' : T → am_S → Option R, (∀ e s1, tH sel E (J' e s1)) → tH sel E (b J')) : tH sel E (am_jn J b) := hb J hJ
theorem tH_le {g : T → Option R} (h : tH sel E (g v)) : tH sel E (ax_le v g) := h
theorem tH_lm {f : am_FE T} {g : T → am_S → am_F} (h : tH selE E f) (hg : ∀ e s1, tH selF E (g e s1)) : tH selF E (am_lm f g) := by
  rcases f with _ | r | ⟨e, s1⟩
  · exact tH_none
  · exact fun q e h1 h2 => by cases h1; exact h _ e rfl h2
  · exact hg e s1
theorem tH_ll {f : am_FE T} {g : T → am_S → am_FE T'} (h : tH selE E f) (hg : ∀ e s1, tH selE E (g e s1)) : tH selE E (am_ll f g) := by
  rcases f with _ | r | ⟨e, s1⟩
  · exact tH_none
  · exact fun q e h1 h2 => by cases h1; exact h _ e rfl h2
  · exact hg e s1
theorem tH_mv {w : Value} {A : Option R} {B : Nat → Option R} (hA : tH sel E A) (hB : ∀ a, tH sel E (B a)) : tH sel E (am_mv w A B) := by
  cases w <;> first | exact hA | exact hB _ | exact tH_none
theorem tH_mr {w : Option Nat} {A : Option R} {B : Nat → Option R} (hA : tH sel E A) (hB : ∀ a, tH sel E (B a)) : tH sel E (am_mr w A B) := by
  cases w <;> first | exact hA | exact hB _
theorem tH.mono {f : Option R} (h : tH sel E f) (hs : subL E E' = true) : tH sel E' f := fun r e h1 h2 => by
  have := List.all_eq_true.mp hs e (h r e h1 h2)
  simpa using this
end THR
section TH2
theorem th_f_X7_needWay {x1 : Int32} {s : am_S} : tH selF [3] (f_X7_needWay x1 s) := by
  unfold f_X7_needWay
  repeat' (first | (with_reducible exact tH_none) | (with_reducible exact tH_v) | (with_reducible exact tH_Ev) | (with_reducible exact tH_Er) | (with_reducible exact tH_x rfl) | (with_reducible exact tH_Ex rfl) | (with_reducible refine tH_ite ?_ ?_) | (with_reducible refine tH_bi (fun _ _ => ?_)) | (with_reducible refine tH_bu (fun _ => ?_)) | (with_reducible refine tH_bl (fun _ _ => ?_)) | (with_reducible refine tH_bv (fun _ _ => ?_)) | (with_reducible refine tH_jn (fun _ _ => ?_) (fun J hJ => ?_)) | (with_reducible exact hJ _ _) | (with_reducible refine tH_le ?_) | (with_reducible refine tH_mv ?_ (fun _ => ?_)) | (with_reducible refine tH_mr ?_ (fun _ => ?_)) | (rename_i hK; with_reducible exact hK _ _) | decide)
theorem ttv_f_X7_needWay {x1 : Int32} {s : am_S} {E : List Nat} {g : Value → am_S → am_F} (hE : subL [3] E = true) (hg : ∀ v s1, tH selF E (g v s1)) : tH selF E (am_tv (f_X7_needWay x1 s) g) := tH_tv (tH.mono th_f_X7_needWay hE) hg
theorem th_f_X7_needMake {b1 : Nat} {s : am_S} : tH selF [1] (f_X7_needMake b1 s) := by
  unfold f_X7_needMake
  repeat' (first | (with_reducible exact tH_none) | (with_reducible exact tH_v) | (with_reducible exact tH_Ev) | (with_reducible exact tH_Er) | (with_reducible exact tH_x rfl) | (with_reducible exact tH_Ex rfl) | (with_reducible refine tH_ite ?_ ?_) | (with_reducible refine tH_bi (fun _ _ => ?_)) | (with_reducible refine tH_bu (fun _ => ?_)) | (with_reducible refine tH_bl (fun _ _ => ?_)) | (with_reducible refine tH_bv (fun _ _ => ?_)) | (with_reducible refine tH_jn (fun _ _ => ?_) (fun J hJ => ?_)) | (with_reducible exact hJ _ _) | (with_reducible refine tH_le ?_) | (with_reducible refine tH_mv ?_ (fun _ => ?_)) | (with_reducible refine tH_mr ?_ (fun _ => ?_)) | (rename_i hK; with_reducible exact hK _ _) | decide)
theorem ttu_f_X7_needMake {b1 : Nat} {s : am_S} {E : List Nat} {g : am_S → am_F} (hE : subL [1] E = true) (hg : ∀ s1, tH selF E (g s1)) : tH selF E (am_tu (f_X7_needMake b1 s) g) := tH_tu (tH.mono th_f_X7_needMake hE) hg
theorem th_f_X7_needWithin {x1 : Int32} {x2 : Int32} {x3 : Int32} {s : am_S} : tH selF [0] (f_X7_needWithin x1 x2 x3 s) := by
  unfold f_X7_needWithin
  repeat' (first | (with_reducible exact tH_none) | (with_reducible exact tH_v) | (with_reducible exact tH_Ev) | (with_reducible exact tH_Er) | (with_reducible exact tH_x rfl) | (with_reducible exact tH_Ex rfl) | (with_reducible refine tH_ite ?_ ?_) | (with_reducible refine tH_bi (fun _ _ => ?_)) | (with_reducible refine tH_bu (fun _ => ?_)) | (with_reducible refine tH_bl (fun _ _ => ?_)) | (with_reducible refine tH_bv (fun _ _ => ?_)) | (with_reducible refine tH_jn (fun _ _ => ?_) (fun J hJ => ?_)) | (with_reducible exact hJ _ _) | (with_reducible refine tH_le ?_) | (with_reducible refine tH_mv ?_ (fun _ => ?_)) | (with_reducible refine tH_mr ?_ (fun _ => ?_)) | (rename_i hK; with_reducible exact hK _ _) | decide)
theorem ttu_f_X7_needWithin {x1 : Int32} {x2 : Int32} {x3 : Int32} {s : am_S} {E : List Nat} {g : am_S → am_F} (hE : subL [0] E = true) (hg : ∀ s1, tH selF E (g s1)) : tH selF E (am_tu (f_X7_needWithin x1 x2 x3 s) g) := tH_tu (tH.mono th_f_X7_needWithin hE) hg
theorem th_f_X7_needEars {x1 : Int32} {s : am_S} : tH selF [0] (f_X7_needEars x1 s) := by
  unfold f_X7_needEars
  repeat' (first | (with_reducible exact tH_none) | (with_reducible exact tH_v) | (with_reducible exact tH_Ev) | (with_reducible exact tH_Er) | (with_reducible exact tH_x rfl) | (with_reducible exact tH_Ex rfl) | (with_reducible refine tH_ite ?_ ?_) | (with_reducible refine tH_bi (fun _ _ => ?_)) | (with_reducible refine tH_bu (fun _ => ?_)) | (with_reducible refine tH_bl (fun _ _ => ?_)) | (with_reducible refine tH_bv (fun _ _ => ?_)) | (with_reducible refine ttu_f_X7_needWithin ?_ (fun _ => ?_)) | (with_reducible refine tH_jn (fun _ _ => ?_) (fun J hJ => ?_)) | (with_reducible exact hJ _ _) | (with_reducible refine tH_le ?_) | (with_reducible refine tH_mv ?_ (fun _ => ?_)) | (with_reducible refine tH_mr ?_ (fun _ => ?_)) | (rename_i hK; with_reducible exact hK _ _) | decide)
theorem ttu_f_X7_needEars {x1 : Int32} {s : am_S} {E : List Nat} {g : am_S → am_F} (hE : subL [0] E = true) (hg : ∀ s1, tH selF E (g s1)) : tH selF E (am_tu (f_X7_needEars x1 s) g) := tH_tu (tH.mono th_f_X7_needEars hE) hg
theorem th_f_X7_needThrow {x1 : Int32} {x2 : Int32} {x3 : Int32} {s : am_S} : tH selF [0] (f_X7_needThrow x1 x2 x3 s) := by
  unfold f_X7_needThrow
  repeat' (first | (with_reducible exact tH_none) | (with_reducible exact tH_v) | (with_reducible exact tH_Ev) | (with_reducible exact tH_Er) | (with_reducible exact tH_x rfl) | (with_reducible exact tH_Ex rfl) | (with_reducible refine tH_ite ?_ ?_) | (with_reducible refine tH_bi (fun _ _ => ?_)) | (with_reducible refine tH_bu (fun _ => ?_)) | (with_reducible refine tH_bl (fun _ _ => ?_)) | (with_reducible refine tH_bv (fun _ _ => ?_)) | (with_reducible refine ttu_f_X7_needEars ?_ (fun _ => ?_)) | (with_reducible refine ttu_f_X7_needWithin ?_ (fun _ => ?_)) | (with_reducible refine tH_jn (fun _ _ => ?_) (fun J hJ => ?_)) | (with_reducible exact hJ _ _) | (with_reducible refine tH_le ?_) | (with_reducible refine tH_mv ?_ (fun _ => ?_)) | (with_reducible refine tH_mr ?_ (fun _ => ?_)) | (rename_i hK; with_reducible exact hK _ _) | decide)
theorem ttu_f_X7_needThrow {x1 : Int32} {x2 : Int32} {x3 : Int32} {s : am_S} {E : List Nat} {g : am_S → am_F} (hE : subL [0] E = true) (hg : ∀ s1, tH selF E (g s1)) : tH selF E (am_tu (f_X7_needThrow x1 x2 x3 s) g) := tH_tu (tH.mono th_f_X7_needThrow hE) hg
theorem th_L_X7_at_46 : ∀ (m : Nat) {y0 : Int32} {y1 : Int32} {y2 : Int32} {s : am_S}, tH selE [] (L_X7_at_46 m y0 y1 y2 s) := by
  intro m
  induction m with
  | zero =>
    intros
    exact tH_none
  | succ m ih =>
    intros
    rw [L_X7_at_46]
    repeat' (first | (with_reducible exact ih) | (with_reducible exact tH_none) | (with_reducible exact tH_v) | (with_reducible exact tH_Ev) | (with_reducible exact tH_Er) | (with_reducible exact tH_x rfl) | (with_reducible exact tH_Ex rfl) | (with_reducible refine tH_ite ?_ ?_) | (with_reducible refine tH_bi (fun _ _ => ?_)) | (with_reducible refine tH_bu (fun _ => ?_)) | (with_reducible refine tH_bl (fun _ _ => ?_)) | (with_reducible refine tH_bv (fun _ _ => ?_)) | (with_reducible refine tH_jn (fun _ _ => ?_) (fun J hJ => ?_)) | (with_reducible exact hJ _ _) | (with_reducible refine tH_le ?_) | (with_reducible refine tH_mv ?_ (fun _ => ?_)) | (with_reducible refine tH_mr ?_ (fun _ => ?_)) | (rename_i hK; with_reducible exact hK _ _) | decide)
theorem tlm_L_X7_at_46 {m : Nat} {y0 : Int32} {y1 : Int32} {y2 : Int32} {s : am_S} {E : List Nat} {g : (Unit) → am_S → am_F} (hE : subL [] E = true) (hg : ∀ e s1, tH selF E (g e s1)) : tH selF E (am_lm (L_X7_at_46 m y0 y1 y2 s) g) := tH_lm (tH.mono (th_L_X7_at_46 m) hE) hg
theorem tll_L_X7_at_46 {m : Nat} {y0 : Int32} {y1 : Int32} {y2 : Int32} {s : am_S} {E : List Nat} {T : Type} {g : (Unit) → am_S → am_FE T} (hE : subL [] E = true) (hg : ∀ e s1, tH selE E (g e s1)) : tH selE E (am_ll (L_X7_at_46 m y0 y1 y2 s) g) := tH_ll (tH.mono (th_L_X7_at_46 m) hE) hg
theorem th_f_X7_at {x1 : Int32} {x2 : Int32} {x3 : Int32} {x4 : Int32} {x5 : Int32} {x6 : Int32} {s : am_S} : tH selF [0, 1, 3] (f_X7_at x1 x2 x3 x4 x5 x6 s) := by
  unfold f_X7_at
  repeat' (first | (with_reducible exact tH_none) | (with_reducible exact tH_v) | (with_reducible exact tH_Ev) | (with_reducible exact tH_Er) | (with_reducible exact tH_x rfl) | (with_reducible exact tH_Ex rfl) | (with_reducible refine tH_ite ?_ ?_) | (with_reducible refine tH_bi (fun _ _ => ?_)) | (with_reducible refine tH_bu (fun _ => ?_)) | (with_reducible refine tH_bl (fun _ _ => ?_)) | (with_reducible refine tH_bv (fun _ _ => ?_)) | (with_reducible refine tlm_L_X7_at_46 ?_ (fun _ _ => ?_)) | (with_reducible refine tll_L_X7_at_46 ?_ (fun _ _ => ?_)) | (with_reducible refine ttu_f_X7_needMake ?_ (fun _ => ?_)) | (with_reducible refine ttu_f_X7_needThrow ?_ (fun _ => ?_)) | (with_reducible refine ttv_f_X7_needWay ?_ (fun _ _ => ?_)) | (with_reducible refine ttu_f_X7_needWithin ?_ (fun _ => ?_)) | (with_reducible refine tH_jn (fun _ _ => ?_) (fun J hJ => ?_)) | (with_reducible exact hJ _ _) | (with_reducible refine tH_le ?_) | (with_reducible refine tH_mv ?_ (fun _ => ?_)) | (with_reducible refine tH_mr ?_ (fun _ => ?_)) | (rename_i hK; with_reducible exact hK _ _) | decide)
theorem th_f_X7_needHand {x1 : Int32} {s : am_S} : tH selF [3] (f_X7_needHand x1 s) := by
  unfold f_X7_needHand
  repeat' (first | (with_reducible exact tH_none) | (with_reducible exact tH_v) | (with_reducible exact tH_Ev) | (with_reducible exact tH_Er) | (with_reducible exact tH_x rfl) | (with_reducible exact tH_Ex rfl) | (with_reducible refine tH_ite ?_ ?_) | (with_reducible refine tH_bi (fun _ _ => ?_)) | (with_reducible refine tH_bu (fun _ => ?_)) | (with_reducible refine tH_bl (fun _ _ => ?_)) | (with_reducible refine tH_bv (fun _ _ => ?_)) | (with_reducible refine tH_jn (fun _ _ => ?_) (fun J hJ => ?_)) | (with_reducible exact hJ _ _) | (with_reducible refine tH_le ?_) | (with_reducible refine tH_mv ?_ (fun _ => ?_)) | (with_reducible refine tH_mr ?_ (fun _ => ?_)) | (rename_i hK; with_reducible exact hK _ _) | decide)
theorem ttv_f_X7_needHand {x1 : Int32} {s : am_S} {E : List Nat} {g : Value → am_S → am_F} (hE : subL [3] E = true) (hg : ∀ v s1, tH selF E (g v s1)) : tH selF E (am_tv (f_X7_needHand x1 s) g) := tH_tv (tH.mono th_f_X7_needHand hE) hg
theorem th_L_X7_best_15 : ∀ (m : Nat) {y0 : Int32} {y1 : Nat} {y2 : Int32} {y3 : Int64} {y4 : Int32} {s : am_S}, tH selE [] (L_X7_best_15 m y0 y1 y2 y3 y4 s) := by
  intro m
  induction m with
  | zero =>
    intros
    exact tH_none
  | succ m ih =>
    intros
    rw [L_X7_best_15]
    repeat' (first | (with_reducible exact ih) | (with_reducible exact tH_none) | (with_reducible exact tH_v) | (with_reducible exact tH_Ev) | (with_reducible exact tH_Er) | (with_reducible exact tH_x rfl) | (with_reducible exact tH_Ex rfl) | (with_reducible refine tH_ite ?_ ?_) | (with_reducible refine tH_bi (fun _ _ => ?_)) | (with_reducible refine tH_bu (fun _ => ?_)) | (with_reducible refine tH_bl (fun _ _ => ?_)) | (with_reducible refine tH_bv (fun _ _ => ?_)) | (with_reducible refine tH_jn (fun _ _ => ?_) (fun J hJ => ?_)) | (with_reducible exact hJ _ _) | (with_reducible refine tH_le ?_) | (with_reducible refine tH_mv ?_ (fun _ => ?_)) | (with_reducible refine tH_mr ?_ (fun _ => ?_)) | (rename_i hK; with_reducible exact hK _ _) | decide)
theorem tlm_L_X7_best_15 {m : Nat} {y0 : Int32} {y1 : Nat} {y2 : Int32} {y3 : Int64} {y4 : Int32} {s : am_S} {E : List Nat} {g : (Int32) → am_S → am_F} (hE : subL [] E = true) (hg : ∀ e s1, tH selF E (g e s1)) : tH selF E (am_lm (L_X7_best_15 m y0 y1 y2 y3 y4 s) g) := tH_lm (tH.mono (th_L_X7_best_15 m) hE) hg
theorem tll_L_X7_best_15 {m : Nat} {y0 : Int32} {y1 : Nat} {y2 : Int32} {y3 : Int64} {y4 : Int32} {s : am_S} {E : List Nat} {T : Type} {g : (Int32) → am_S → am_FE T} (hE : subL [] E = true) (hg : ∀ e s1, tH selE E (g e s1)) : tH selE E (am_ll (L_X7_best_15 m y0 y1 y2 y3 y4 s) g) := tH_ll (tH.mono (th_L_X7_best_15 m) hE) hg
theorem th_f_X7_best {x1 : Int32} {x2 : Int32} {s : am_S} : tH selF [3] (f_X7_best x1 x2 s) := by
  unfold f_X7_best
  repeat' (first | (with_reducible exact tH_none) | (with_reducible exact tH_v) | (with_reducible exact tH_Ev) | (with_reducible exact tH_Er) | (with_reducible exact tH_x rfl) | (with_reducible exact tH_Ex rfl) | (with_reducible refine tH_ite ?_ ?_) | (with_reducible refine tH_bi (fun _ _ => ?_)) | (with_reducible refine tH_bu (fun _ => ?_)) | (with_reducible refine tH_bl (fun _ _ => ?_)) | (with_reducible refine tH_bv (fun _ _ => ?_)) | (with_reducible refine tlm_L_X7_best_15 ?_ (fun _ _ => ?_)) | (with_reducible refine tll_L_X7_best_15 ?_ (fun _ _ => ?_)) | (with_reducible refine ttv_f_X7_needHand ?_ (fun _ _ => ?_)) | (with_reducible refine tH_jn (fun _ _ => ?_) (fun J hJ => ?_)) | (with_reducible exact hJ _ _) | (with_reducible refine tH_le ?_) | (with_reducible refine tH_mv ?_ (fun _ => ?_)) | (with_reducible refine tH_mr ?_ (fun _ => ?_)) | (rename_i hK; with_reducible exact hK _ _) | decide)
theorem th_f_X7_breaks {x1 : Int32} {s : am_S} : tH selF [3] (f_X7_breaks x1 s) := by
  unfold f_X7_breaks
  repeat' (first | (with_reducible exact tH_none) | (with_reducible exact tH_v) | (with_reducible exact tH_Ev) | (with_reducible exact tH_Er) | (with_reducible exact tH_x rfl) | (with_reducible exact tH_Ex rfl) | (with_reducible refine tH_ite ?_ ?_) | (with_reducible refine tH_bi (fun _ _ => ?_)) | (with_reducible refine tH_bu (fun _ => ?_)) | (with_reducible refine tH_bl (fun _ _ => ?_)) | (with_reducible refine tH_bv (fun _ _ => ?_)) | (with_reducible refine ttv_f_X7_needWay ?_ (fun _ _ => ?_)) | (with_reducible refine tH_jn (fun _ _ => ?_) (fun J hJ => ?_)) | (with_reducible exact hJ _ _) | (with_reducible refine tH_le ?_) | (with_reducible refine tH_mv ?_ (fun _ => ?_)) | (with_reducible refine tH_mr ?_ (fun _ => ?_)) | (rename_i hK; with_reducible exact hK _ _) | decide)
theorem th_f_X7_change {x1 : Int32} {x2 : Int32} {x3 : Int32} {x4 : Int32} {x5 : Int32} {s : am_S} : tH selF [0, 1, 3] (f_X7_change x1 x2 x3 x4 x5 s) := by
  unfold f_X7_change
  repeat' (first | (with_reducible exact tH_none) | (with_reducible exact tH_v) | (with_reducible exact tH_Ev) | (with_reducible exact tH_Er) | (with_reducible exact tH_x rfl) | (with_reducible exact tH_Ex rfl) | (with_reducible refine tH_ite ?_ ?_) | (with_reducible refine tH_bi (fun _ _ => ?_)) | (with_reducible refine tH_bu (fun _ => ?_)) | (with_reducible refine tH_bl (fun _ _ => ?_)) | (with_reducible refine tH_bv (fun _ _ => ?_)) | (with_reducible refine ttu_f_X7_needEars ?_ (fun _ => ?_)) | (with_reducible refine ttv_f_X7_needHand ?_ (fun _ _ => ?_)) | (with_reducible refine ttu_f_X7_needMake ?_ (fun _ => ?_)) | (with_reducible refine ttv_f_X7_needWay ?_ (fun _ _ => ?_)) | (with_reducible refine ttu_f_X7_needWithin ?_ (fun _ => ?_)) | (with_reducible refine tH_jn (fun _ _ => ?_) (fun J hJ => ?_)) | (with_reducible exact hJ _ _) | (with_reducible refine tH_le ?_) | (with_reducible refine tH_mv ?_ (fun _ => ?_)) | (with_reducible refine tH_mr ?_ (fun _ => ?_)) | (rename_i hK; with_reducible exact hK _ _) | decide)
theorem th_f_X7_crate {x1 : Int32} {x2 : Int32} {s : am_S} : tH selF [0] (f_X7_crate x1 x2 s) := by
  unfold f_X7_crate
  repeat' (first | (with_reducible exact tH_none) | (with_reducible exact tH_v) | (with_reducible exact tH_Ev) | (with_reducible exact tH_Er) | (with_reducible exact tH_x rfl) | (with_reducible exact tH_Ex rfl) | (with_reducible refine tH_ite ?_ ?_) | (with_reducible refine tH_bi (fun _ _ => ?_)) | (with_reducible refine tH_bu (fun _ => ?_)) | (with_reducible refine tH_bl (fun _ _ => ?_)) | (with_reducible refine tH_bv (fun _ _ => ?_)) | (with_reducible refine ttu_f_X7_needWithin ?_ (fun _ => ?_)) | (with_reducible refine tH_jn (fun _ _ => ?_) (fun J hJ => ?_)) | (with_reducible exact hJ _ _) | (with_reducible refine tH_le ?_) | (with_reducible refine tH_mv ?_ (fun _ => ?_)) | (with_reducible refine tH_mr ?_ (fun _ => ?_)) | (rename_i hK; with_reducible exact hK _ _) | decide)
theorem th_f_X7_damp {x1 : Int32} {s : am_S} : tH selF [0] (f_X7_damp x1 s) := by
  unfold f_X7_damp
  repeat' (first | (with_reducible exact tH_none) | (with_reducible exact tH_v) | (with_reducible exact tH_Ev) | (with_reducible exact tH_Er) | (with_reducible exact tH_x rfl) | (with_reducible exact tH_Ex rfl) | (with_reducible refine tH_ite ?_ ?_) | (with_reducible refine tH_bi (fun _ _ => ?_)) | (with_reducible refine tH_bu (fun _ => ?_)) | (with_reducible refine tH_bl (fun _ _ => ?_)) | (with_reducible refine tH_bv (fun _ _ => ?_)) | (with_reducible refine ttu_f_X7_needWithin ?_ (fun _ => ?_)) | (with_reducible refine tH_jn (fun _ _ => ?_) (fun J hJ => ?_)) | (with_reducible exact hJ _ _) | (with_reducible refine tH_le ?_) | (with_reducible refine tH_mv ?_ (fun _ => ?_)) | (with_reducible refine tH_mr ?_ (fun _ => ?_)) | (rename_i hK; with_reducible exact hK _ _) | decide)
theorem th_f_X7_draught {x1 : Int32} {x2 : Int32} {x3 : Int32} {s : am_S} : tH selF [0] (f_X7_draught x1 x2 x3 s) := by
  unfold f_X7_draught
  repeat' (first | (with_reducible exact tH_none) | (with_reducible exact tH_v) | (with_reducible exact tH_Ev) | (with_reducible exact tH_Er) | (with_reducible exact tH_x rfl) | (with_reducible exact tH_Ex rfl) | (with_reducible refine tH_ite ?_ ?_) | (with_reducible refine tH_bi (fun _ _ => ?_)) | (with_reducible refine tH_bu (fun _ => ?_)) | (with_reducible refine tH_bl (fun _ _ => ?_)) | (with_reducible refine tH_bv (fun _ _ => ?_)) | (with_reducible refine ttu_f_X7_needWithin ?_ (fun _ => ?_)) | (with_reducible refine tH_jn (fun _ _ => ?_) (fun J hJ => ?_)) | (with_reducible exact hJ _ _) | (with_reducible refine tH_le ?_) | (with_reducible refine tH_mv ?_ (fun _ => ?_)) | (with_reducible refine tH_mr ?_ (fun _ => ?_)) | (rename_i hK; with_reducible exact hK _ _) | decide)
theorem th_f_X7_ears {x1 : Int32} {x2 : Int32} {x3 : Int32} {s : am_S} : tH selF [1, 3] (f_X7_ears x1 x2 x3 s) := by
  unfold f_X7_ears
  repeat' (first | (with_reducible exact tH_none) | (with_reducible exact tH_v) | (with_reducible exact tH_Ev) | (with_reducible exact tH_Er) | (with_reducible exact tH_x rfl) | (with_reducible exact tH_Ex rfl) | (with_reducible refine tH_ite ?_ ?_) | (with_reducible refine tH_bi (fun _ _ => ?_)) | (with_reducible refine tH_bu (fun _ => ?_)) | (with_reducible refine tH_bl (fun _ _ => ?_)) | (with_reducible refine tH_bv (fun _ _ => ?_)) | (with_reducible refine ttv_f_X7_needHand ?_ (fun _ _ => ?_)) | (with_reducible refine ttu_f_X7_needMake ?_ (fun _ => ?_)) | (with_reducible refine ttv_f_X7_needWay ?_ (fun _ _ => ?_)) | (with_reducible refine tH_jn (fun _ _ => ?_) (fun J hJ => ?_)) | (with_reducible exact hJ _ _) | (with_reducible refine tH_le ?_) | (with_reducible refine tH_mv ?_ (fun _ => ?_)) | (with_reducible refine tH_mr ?_ (fun _ => ?_)) | (rename_i hK; with_reducible exact hK _ _) | decide)
theorem th_f_X7_enter {x1 : Int32} {x2 : Int32} {x3 : Int32} {s : am_S} : tH selF [0, 3] (f_X7_enter x1 x2 x3 s) := by
  unfold f_X7_enter
  repeat' (first | (with_reducible exact tH_none) | (with_reducible exact tH_v) | (with_reducible exact tH_Ev) | (with_reducible exact tH_Er) | (with_reducible exact tH_x rfl) | (with_reducible exact tH_Ex rfl) | (with_reducible refine tH_ite ?_ ?_) | (with_reducible refine tH_bi (fun _ _ => ?_)) | (with_reducible refine tH_bu (fun _ => ?_)) | (with_reducible refine tH_bl (fun _ _ => ?_)) | (with_reducible refine tH_bv (fun _ _ => ?_)) | (with_reducible refine ttu_f_X7_needEars ?_ (fun _ => ?_)) | (with_reducible refine ttv_f_X7_needHand ?_ (fun _ _ => ?_)) | (with_reducible refine ttv_f_X7_needWay ?_ (fun _ _ => ?_)) | (with_reducible refine tH_jn (fun _ _ => ?_) (fun J hJ => ?_)) | (with_reducible exact hJ _ _) | (with_reducible refine tH_le ?_) | (with_reducible refine tH_mv ?_ (fun _ => ?_)) | (with_reducible refine tH_mr ?_ (fun _ => ?_)) | (rename_i hK; with_reducible exact hK _ _) | decide)
theorem th_f_X7_fly {x1 : Int32} {x2 : Int32} {x3 : Int32} {x4 : Int32} {x5 : Int32} {s : am_S} : tH selF [0, 1, 3] (f_X7_fly x1 x2 x3 x4 x5 s) := by
  unfold f_X7_fly
  repeat' (first | (with_reducible exact tH_none) | (with_reducible exact tH_v) | (with_reducible exact tH_Ev) | (with_reducible exact tH_Er) | (with_reducible exact tH_x rfl) | (with_reducible exact tH_Ex rfl) | (with_reducible refine tH_ite ?_ ?_) | (with_reducible refine tH_bi (fun _ _ => ?_)) | (with_reducible refine tH_bu (fun _ => ?_)) | (with_reducible refine tH_bl (fun _ _ => ?_)) | (with_reducible refine tH_bv (fun _ _ => ?_)) | (with_reducible refine ttu_f_X7_needMake ?_ (fun _ => ?_)) | (with_reducible refine ttu_f_X7_needThrow ?_ (fun _ => ?_)) | (with_reducible refine ttv_f_X7_needWay ?_ (fun _ _ => ?_)) | (with_reducible refine ttu_f_X7_needWithin ?_ (fun _ => ?_)) | (with_reducible refine tH_jn (fun _ _ => ?_) (fun J hJ => ?_)) | (with_reducible exact hJ _ _) | (with_reducible refine tH_le ?_) | (with_reducible refine tH_mv ?_ (fun _ => ?_)) | (with_reducible refine tH_mr ?_ (fun _ => ?_)) | (rename_i hK; with_reducible exact hK _ _) | decide)
theorem th_f_X7_fold {x1 : Int32} {x2 : Int32} {s : am_S} : tH selF [3] (f_X7_fold x1 x2 s) := by
  unfold f_X7_fold
  repeat' (first | (with_reducible exact tH_none) | (with_reducible exact tH_v) | (with_reducible exact tH_Ev) | (with_reducible exact tH_Er) | (with_reducible exact tH_x rfl) | (with_reducible exact tH_Ex rfl) | (with_reducible refine tH_ite ?_ ?_) | (with_reducible refine tH_bi (fun _ _ => ?_)) | (with_reducible refine tH_bu (fun _ => ?_)) | (with_reducible refine tH_bl (fun _ _ => ?_)) | (with_reducible refine tH_bv (fun _ _ => ?_)) | (with_reducible refine ttv_f_X7_needWay ?_ (fun _ _ => ?_)) | (with_reducible refine tH_jn (fun _ _ => ?_) (fun J hJ => ?_)) | (with_reducible exact hJ _ _) | (with_reducible refine tH_le ?_) | (with_reducible refine tH_mv ?_ (fun _ => ?_)) | (with_reducible refine tH_mr ?_ (fun _ => ?_)) | (rename_i hK; with_reducible exact hK _ _) | decide)
theorem th_f_X7_needHoop {x1 : Int32} {x2 : Int32} {x3 : Int32} {s : am_S} : tH selF [0] (f_X7_needHoop x1 x2 x3 s) := by
  unfold f_X7_needHoop
  repeat' (first | (with_reducible exact tH_none) | (with_reducible exact tH_v) | (with_reducible exact tH_Ev) | (with_reducible exact tH_Er) | (with_reducible exact tH_x rfl) | (with_reducible exact tH_Ex rfl) | (with_reducible refine tH_ite ?_ ?_) | (with_reducible refine tH_bi (fun _ _ => ?_)) | (with_reducible refine tH_bu (fun _ => ?_)) | (with_reducible refine tH_bl (fun _ _ => ?_)) | (with_reducible refine tH_bv (fun _ _ => ?_)) | (with_reducible refine ttu_f_X7_needWithin ?_ (fun _ => ?_)) | (with_reducible refine tH_jn (fun _ _ => ?_) (fun J hJ => ?_)) | (with_reducible exact hJ _ _) | (with_reducible refine tH_le ?_) | (with_reducible refine tH_mv ?_ (fun _ => ?_)) | (with_reducible refine tH_mr ?_ (fun _ => ?_)) | (rename_i hK; with_reducible exact hK _ _) | decide)
theorem ttu_f_X7_needHoop {x1 : Int32} {x2 : Int32} {x3 : Int32} {s : am_S} {E : List Nat} {g : am_S → am_F} (hE : subL [0] E = true) (hg : ∀ s1, tH selF E (g s1)) : tH selF E (am_tu (f_X7_needHoop x1 x2 x3 s) g) := tH_tu (tH.mono th_f_X7_needHoop hE) hg
theorem th_f_X7_hoop {x1 : Int32} {x2 : Int32} {x3 : Int32} {x4 : Int32} {x5 : Int32} {x6 : Int32} {x7 : Int32} {s : am_S} : tH selF [0, 1, 3] (f_X7_hoop x1 x2 x3 x4 x5 x6 x7 s) := by
  unfold f_X7_hoop
  repeat' (first | (with_reducible exact tH_none) | (with_reducible exact tH_v) | (with_reducible exact tH_Ev) | (with_reducible exact tH_Er) | (with_reducible exact tH_x rfl) | (with_reducible exact tH_Ex rfl) | (with_reducible refine tH_ite ?_ ?_) | (with_reducible refine tH_bi (fun _ _ => ?_)) | (with_reducible refine tH_bu (fun _ => ?_)) | (with_reducible refine tH_bl (fun _ _ => ?_)) | (with_reducible refine tH_bv (fun _ _ => ?_)) | (with_reducible refine ttu_f_X7_needHoop ?_ (fun _ => ?_)) | (with_reducible refine ttu_f_X7_needMake ?_ (fun _ => ?_)) | (with_reducible refine ttu_f_X7_needThrow ?_ (fun _ => ?_)) | (with_reducible refine ttv_f_X7_needWay ?_ (fun _ _ => ?_)) | (with_reducible refine tH_jn (fun _ _ => ?_) (fun J hJ => ?_)) | (with_reducible exact hJ _ _) | (with_reducible refine tH_le ?_) | (with_reducible refine tH_mv ?_ (fun _ => ?_)) | (with_reducible refine tH_mr ?_ (fun _ => ?_)) | (rename_i hK; with_reducible exact hK _ _) | decide)
theorem th_L_X7_hours_27 : ∀ (m : Nat) {y0 : Int32} {y1 : Int32} {y2 : Int64} {y3 : Nat} {y4 : Int32} {s : am_S}, tH selE [] (L_X7_hours_27 m y0 y1 y2 y3 y4 s) := by
  intro m
  induction m with
  | zero =>
    intros
    exact tH_none
  | succ m ih =>
    intros
    rw [L_X7_hours_27]
    repeat' (first | (with_reducible exact ih) | (with_reducible exact tH_none) | (with_reducible exact tH_v) | (with_reducible exact tH_Ev) | (with_reducible exact tH_Er) | (with_reducible exact tH_x rfl) | (with_reducible exact tH_Ex rfl) | (with_reducible refine tH_ite ?_ ?_) | (with_reducible refine tH_bi (fun _ _ => ?_)) | (with_reducible refine tH_bu (fun _ => ?_)) | (with_reducible refine tH_bl (fun _ _ => ?_)) | (with_reducible refine tH_bv (fun _ _ => ?_)) | (with_reducible refine tH_jn (fun _ _ => ?_) (fun J hJ => ?_)) | (with_reducible exact hJ _ _) | (with_reducible refine tH_le ?_) | (with_reducible refine tH_mv ?_ (fun _ => ?_)) | (with_reducible refine tH_mr ?_ (fun _ => ?_)) | (rename_i hK; with_reducible exact hK _ _) | decide)
theorem tlm_L_X7_hours_27 {m : Nat} {y0 : Int32} {y1 : Int32} {y2 : Int64} {y3 : Nat} {y4 : Int32} {s : am_S} {E : List Nat} {g : (Unit) → am_S → am_F} (hE : subL [] E = true) (hg : ∀ e s1, tH selF E (g e s1)) : tH selF E (am_lm (L_X7_hours_27 m y0 y1 y2 y3 y4 s) g) := tH_lm (tH.mono (th_L_X7_hours_27 m) hE) hg
theorem tll_L_X7_hours_27 {m : Nat} {y0 : Int32} {y1 : Int32} {y2 : Int64} {y3 : Nat} {y4 : Int32} {s : am_S} {E : List Nat} {T : Type} {g : (Unit) → am_S → am_FE T} (hE : subL [] E = true) (hg : ∀ e s1, tH selE E (g e s1)) : tH selE E (am_ll (L_X7_hours_27 m y0 y1 y2 y3 y4 s) g) := tH_ll (tH.mono (th_L_X7_hours_27 m) hE) hg
theorem th_f_X7_hours {x1 : Int32} {x2 : Int32} {x3 : Int32} {x4 : Int32} {x5 : Int64} {s : am_S} : tH selF [0, 1, 3] (f_X7_hours x1 x2 x3 x4 x5 s) := by
  unfold f_X7_hours
  repeat' (first | (with_reducible exact tH_none) | (with_reducible exact tH_v) | (with_reducible exact tH_Ev) | (with_reducible exact tH_Er) | (with_reducible exact tH_x rfl) | (with_reducible exact tH_Ex rfl) | (with_reducible refine tH_ite ?_ ?_) | (with_reducible refine tH_bi (fun _ _ => ?_)) | (with_reducible refine tH_bu (fun _ => ?_)) | (with_reducible refine tH_bl (fun _ _ => ?_)) | (with_reducible refine tH_bv (fun _ _ => ?_)) | (with_reducible refine tlm_L_X7_hours_27 ?_ (fun _ _ => ?_)) | (with_reducible refine tll_L_X7_hours_27 ?_ (fun _ _ => ?_)) | (with_reducible refine ttu_f_X7_needEars ?_ (fun _ => ?_)) | (with_reducible refine ttv_f_X7_needHand ?_ (fun _ _ => ?_)) | (with_reducible refine ttu_f_X7_needMake ?_ (fun _ => ?_)) | (with_reducible refine ttv_f_X7_needWay ?_ (fun _ _ => ?_)) | (with_reducible refine tH_jn (fun _ _ => ?_) (fun J hJ => ?_)) | (with_reducible exact hJ _ _) | (with_reducible refine tH_le ?_) | (with_reducible refine tH_mv ?_ (fun _ => ?_)) | (with_reducible refine tH_mr ?_ (fun _ => ?_)) | (rename_i hK; with_reducible exact hK _ _) | decide)
theorem th_f_X7_law {x1 : Int32} {s : am_S} : tH selF [0] (f_X7_law x1 s) := by
  unfold f_X7_law
  repeat' (first | (with_reducible exact tH_none) | (with_reducible exact tH_v) | (with_reducible exact tH_Ev) | (with_reducible exact tH_Er) | (with_reducible exact tH_x rfl) | (with_reducible exact tH_Ex rfl) | (with_reducible refine tH_ite ?_ ?_) | (with_reducible refine tH_bi (fun _ _ => ?_)) | (with_reducible refine tH_bu (fun _ => ?_)) | (with_reducible refine tH_bl (fun _ _ => ?_)) | (with_reducible refine tH_bv (fun _ _ => ?_)) | (with_reducible refine ttu_f_X7_needWithin ?_ (fun _ => ?_)) | (with_reducible refine tH_jn (fun _ _ => ?_) (fun J hJ => ?_)) | (with_reducible exact hJ _ _) | (with_reducible refine tH_le ?_) | (with_reducible refine tH_mv ?_ (fun _ => ?_)) | (with_reducible refine tH_mr ?_ (fun _ => ?_)) | (rename_i hK; with_reducible exact hK _ _) | decide)
theorem th_f_X7_sheet {x1 : Int32} {x2 : Int32} {s : am_S} : tH selF [0] (f_X7_sheet x1 x2 s) := by
  unfold f_X7_sheet
  repeat' (first | (with_reducible exact tH_none) | (with_reducible exact tH_v) | (with_reducible exact tH_Ev) | (with_reducible exact tH_Er) | (with_reducible exact tH_x rfl) | (with_reducible exact tH_Ex rfl) | (with_reducible refine tH_ite ?_ ?_) | (with_reducible refine tH_bi (fun _ _ => ?_)) | (with_reducible refine tH_bu (fun _ => ?_)) | (with_reducible refine tH_bl (fun _ _ => ?_)) | (with_reducible refine tH_bv (fun _ _ => ?_)) | (with_reducible refine ttu_f_X7_needWithin ?_ (fun _ => ?_)) | (with_reducible refine tH_jn (fun _ _ => ?_) (fun J hJ => ?_)) | (with_reducible exact hJ _ _) | (with_reducible refine tH_le ?_) | (with_reducible refine tH_mv ?_ (fun _ => ?_)) | (with_reducible refine tH_mr ?_ (fun _ => ?_)) | (rename_i hK; with_reducible exact hK _ _) | decide)
theorem th_f_X7_feed {x1 : Int32} {x2 : Int32} {x3 : Int32} {x4 : Int32} {x5 : Int32} {s : am_S} : tH selF [] (f_X7_feed x1 x2 x3 x4 x5 s) := by
  unfold f_X7_feed
  repeat' (first | (with_reducible exact tH_none) | (with_reducible exact tH_v) | (with_reducible exact tH_Ev) | (with_reducible exact tH_Er) | (with_reducible exact tH_x rfl) | (with_reducible exact tH_Ex rfl) | (with_reducible refine tH_ite ?_ ?_) | (with_reducible refine tH_bi (fun _ _ => ?_)) | (with_reducible refine tH_bu (fun _ => ?_)) | (with_reducible refine tH_bl (fun _ _ => ?_)) | (with_reducible refine tH_bv (fun _ _ => ?_)) | (with_reducible refine tH_jn (fun _ _ => ?_) (fun J hJ => ?_)) | (with_reducible exact hJ _ _) | (with_reducible refine tH_le ?_) | (with_reducible refine tH_mv ?_ (fun _ => ?_)) | (with_reducible refine tH_mr ?_ (fun _ => ?_)) | (rename_i hK; with_reducible exact hK _ _) | decide)
theorem th_f_X7_way {x1 : Int32} {s : am_S} : tH selF [0] (f_X7_way x1 s) := by
  unfold f_X7_way
  repeat' (first | (with_reducible exact tH_none) | (with_reducible exact tH_v) | (with_reducible exact tH_Ev) | (with_reducible exact tH_Er) | (with_reducible exact tH_x rfl) | (with_reducible exact tH_Ex rfl) | (with_reducible refine tH_ite ?_ ?_) | (with_reducible refine tH_bi (fun _ _ => ?_)) | (with_reducible refine tH_bu (fun _ => ?_)) | (with_reducible refine tH_bl (fun _ _ => ?_)) | (with_reducible refine tH_bv (fun _ _ => ?_)) | (with_reducible refine ttu_f_X7_needWithin ?_ (fun _ => ?_)) | (with_reducible refine tH_jn (fun _ _ => ?_) (fun J hJ => ?_)) | (with_reducible exact hJ _ _) | (with_reducible refine tH_le ?_) | (with_reducible refine tH_mv ?_ (fun _ => ?_)) | (with_reducible refine tH_mr ?_ (fun _ => ?_)) | (rename_i hK; with_reducible exact hK _ _) | decide)
theorem th_f_X7_fault {x1 : Int32} {s : am_S} : tH selF [] (f_X7_fault x1 s) := by
  unfold f_X7_fault
  repeat' (first | (with_reducible exact tH_none) | (with_reducible exact tH_v) | (with_reducible exact tH_Ev) | (with_reducible exact tH_Er) | (with_reducible exact tH_x rfl) | (with_reducible exact tH_Ex rfl) | (with_reducible refine tH_ite ?_ ?_) | (with_reducible refine tH_bi (fun _ _ => ?_)) | (with_reducible refine tH_bu (fun _ => ?_)) | (with_reducible refine tH_bl (fun _ _ => ?_)) | (with_reducible refine tH_bv (fun _ _ => ?_)) | (with_reducible refine tH_jn (fun _ _ => ?_) (fun J hJ => ?_)) | (with_reducible exact hJ _ _) | (with_reducible refine tH_le ?_) | (with_reducible refine tH_mv ?_ (fun _ => ?_)) | (with_reducible refine tH_mr ?_ (fun _ => ?_)) | (rename_i hK; with_reducible exact hK _ _) | decide)
theorem th_f_X7_make {x1 : Int32} {x2 : Int32} {s : am_S} : tH selF [0, 1, 3] (f_X7_make x1 x2 s) := by
  unfold f_X7_make
  repeat' (first | (with_reducible exact tH_none) | (with_reducible exact tH_v) | (with_reducible exact tH_Ev) | (with_reducible exact tH_Er) | (with_reducible exact tH_x rfl) | (with_reducible exact tH_Ex rfl) | (with_reducible refine tH_ite ?_ ?_) | (with_reducible refine tH_bi (fun _ _ => ?_)) | (with_reducible refine tH_bu (fun _ => ?_)) | (with_reducible refine tH_bl (fun _ _ => ?_)) | (with_reducible refine tH_bv (fun _ _ => ?_)) | (with_reducible refine ttu_f_X7_needMake ?_ (fun _ => ?_)) | (with_reducible refine ttv_f_X7_needWay ?_ (fun _ _ => ?_)) | (with_reducible refine ttu_f_X7_needWithin ?_ (fun _ => ?_)) | (with_reducible refine tH_jn (fun _ _ => ?_) (fun J hJ => ?_)) | (with_reducible exact hJ _ _) | (with_reducible refine tH_le ?_) | (with_reducible refine tH_mv ?_ (fun _ => ?_)) | (with_reducible refine tH_mr ?_ (fun _ => ?_)) | (rename_i hK; with_reducible exact hK _ _) | decide)
theorem th_f_X7_layers {x1 : Int32} {x2 : Int32} {x3 : Int32} {s : am_S} : tH selF [1, 3] (f_X7_layers x1 x2 x3 s) := by
  unfold f_X7_layers
  repeat' (first | (with_reducible exact tH_none) | (with_reducible exact tH_v) | (with_reducible exact tH_Ev) | (with_reducible exact tH_Er) | (with_reducible exact tH_x rfl) | (with_reducible exact tH_Ex rfl) | (with_reducible refine tH_ite ?_ ?_) | (with_reducible refine tH_bi (fun _ _ => ?_)) | (with_reducible refine tH_bu (fun _ => ?_)) | (with_reducible refine tH_bl (fun _ _ => ?_)) | (with_reducible refine tH_bv (fun _ _ => ?_)) | (with_reducible refine ttu_f_X7_needMake ?_ (fun _ => ?_)) | (with_reducible refine ttv_f_X7_needWay ?_ (fun _ _ => ?_)) | (with_reducible refine tH_jn (fun _ _ => ?_) (fun J hJ => ?_)) | (with_reducible exact hJ _ _) | (with_reducible refine tH_le ?_) | (with_reducible refine tH_mv ?_ (fun _ => ?_)) | (with_reducible refine tH_mr ?_ (fun _ => ?_)) | (rename_i hK; with_reducible exact hK _ _) | decide)
theorem th_f_X7_still {s : am_S} : tH selF [] (f_X7_still  s) := by
  unfold f_X7_still
  repeat' (first | (with_reducible exact tH_none) | (with_reducible exact tH_v) | (with_reducible exact tH_Ev) | (with_reducible exact tH_Er) | (with_reducible exact tH_x rfl) | (with_reducible exact tH_Ex rfl) | (with_reducible refine tH_ite ?_ ?_) | (with_reducible refine tH_bi (fun _ _ => ?_)) | (with_reducible refine tH_bu (fun _ => ?_)) | (with_reducible refine tH_bl (fun _ _ => ?_)) | (with_reducible refine tH_bv (fun _ _ => ?_)) | (with_reducible refine tH_jn (fun _ _ => ?_) (fun J hJ => ?_)) | (with_reducible exact hJ _ _) | (with_reducible refine tH_le ?_) | (with_reducible refine tH_mv ?_ (fun _ => ?_)) | (with_reducible refine tH_mr ?_ (fun _ => ?_)) | (rename_i hK; with_reducible exact hK _ _) | decide)
theorem th_L_X7_slant_33 : ∀ (m : Nat) {y0 : Int32} {y1 : Int32} {y2 : Int32} {y3 : Int32} {y4 : Int32} {y5 : Int32} {s : am_S}, tH selE [] (L_X7_slant_33 m y0 y1 y2 y3 y4 y5 s) := by
  intro m
  induction m with
  | zero =>
    intros
    exact tH_none
  | succ m ih =>
    intros
    rw [L_X7_slant_33]
    repeat' (first | (with_reducible exact ih) | (with_reducible exact tH_none) | (with_reducible exact tH_v) | (with_reducible exact tH_Ev) | (with_reducible exact tH_Er) | (with_reducible exact tH_x rfl) | (with_reducible exact tH_Ex rfl) | (with_reducible refine tH_ite ?_ ?_) | (with_reducible refine tH_bi (fun _ _ => ?_)) | (with_reducible refine tH_bu (fun _ => ?_)) | (with_reducible refine tH_bl (fun _ _ => ?_)) | (with_reducible refine tH_bv (fun _ _ => ?_)) | (with_reducible refine tH_jn (fun _ _ => ?_) (fun J hJ => ?_)) | (with_reducible exact hJ _ _) | (with_reducible refine tH_le ?_) | (with_reducible refine tH_mv ?_ (fun _ => ?_)) | (with_reducible refine tH_mr ?_ (fun _ => ?_)) | (rename_i hK; with_reducible exact hK _ _) | decide)
theorem tlm_L_X7_slant_33 {m : Nat} {y0 : Int32} {y1 : Int32} {y2 : Int32} {y3 : Int32} {y4 : Int32} {y5 : Int32} {s : am_S} {E : List Nat} {g : (Int32) → am_S → am_F} (hE : subL [] E = true) (hg : ∀ e s1, tH selF E (g e s1)) : tH selF E (am_lm (L_X7_slant_33 m y0 y1 y2 y3 y4 y5 s) g) := tH_lm (tH.mono (th_L_X7_slant_33 m) hE) hg
theorem tll_L_X7_slant_33 {m : Nat} {y0 : Int32} {y1 : Int32} {y2 : Int32} {y3 : Int32} {y4 : Int32} {y5 : Int32} {s : am_S} {E : List Nat} {T : Type} {g : (Int32) → am_S → am_FE T} (hE : subL [] E = true) (hg : ∀ e s1, tH selE E (g e s1)) : tH selE E (am_ll (L_X7_slant_33 m y0 y1 y2 y3 y4 y5 s) g) := tH_ll (tH.mono (th_L_X7_slant_33 m) hE) hg
theorem th_f_X7_slant {x1 : Int32} {x2 : Int32} {x3 : Int32} {x4 : Int32} {s : am_S} : tH selF [0, 1, 3] (f_X7_slant x1 x2 x3 x4 s) := by
  unfold f_X7_slant
  repeat' (first | (with_reducible exact tH_none) | (with_reducible exact tH_v) | (with_reducible exact tH_Ev) | (with_reducible exact tH_Er) | (with_reducible exact tH_x rfl) | (with_reducible exact tH_Ex rfl) | (with_reducible refine tH_ite ?_ ?_) | (with_reducible refine tH_bi (fun _ _ => ?_)) | (with_reducible refine tH_bu (fun _ => ?_)) | (with_reducible refine tH_bl (fun _ _ => ?_)) | (with_reducible refine tH_bv (fun _ _ => ?_)) | (with_reducible refine tlm_L_X7_slant_33 ?_ (fun _ _ => ?_)) | (with_reducible refine tll_L_X7_slant_33 ?_ (fun _ _ => ?_)) | (with_reducible refine ttu_f_X7_needEars ?_ (fun _ => ?_)) | (with_reducible refine ttu_f_X7_needMake ?_ (fun _ => ?_)) | (with_reducible refine ttv_f_X7_needWay ?_ (fun _ _ => ?_)) | (with_reducible refine ttu_f_X7_needWithin ?_ (fun _ => ?_)) | (with_reducible refine tH_jn (fun _ _ => ?_) (fun J hJ => ?_)) | (with_reducible exact hJ _ _) | (with_reducible refine tH_le ?_) | (with_reducible refine tH_mv ?_ (fun _ => ?_)) | (with_reducible refine tH_mr ?_ (fun _ => ?_)) | (rename_i hK; with_reducible exact hK _ _) | decide)
theorem th_L_X7_rest_20 : ∀ (m : Nat) {y0 : Int32} {y1 : Int32} {y2 : Int32} {y3 : Int32} {s : am_S}, tH selE [] (L_X7_rest_20 m y0 y1 y2 y3 s) := by
  intro m
  induction m with
  | zero =>
    intros
    exact tH_none
  | succ m ih =>
    intros
    rw [L_X7_rest_20]
    repeat' (first | (with_reducible exact ih) | (with_reducible exact tH_none) | (with_reducible exact tH_v) | (with_reducible exact tH_Ev) | (with_reducible exact tH_Er) | (with_reducible exact tH_x rfl) | (with_reducible exact tH_Ex rfl) | (with_reducible refine tH_ite ?_ ?_) | (with_reducible refine tH_bi (fun _ _ => ?_)) | (with_reducible refine tH_bu (fun _ => ?_)) | (with_reducible refine tH_bl (fun _ _ => ?_)) | (with_reducible refine tH_bv (fun _ _ => ?_)) | (with_reducible refine tH_jn (fun _ _ => ?_) (fun J hJ => ?_)) | (with_reducible exact hJ _ _) | (with_reducible refine tH_le ?_) | (with_reducible refine tH_mv ?_ (fun _ => ?_)) | (with_reducible refine tH_mr ?_ (fun _ => ?_)) | (rename_i hK; with_reducible exact hK _ _) | decide)
theorem tlm_L_X7_rest_20 {m : Nat} {y0 : Int32} {y1 : Int32} {y2 : Int32} {y3 : Int32} {s : am_S} {E : List Nat} {g : (Int32) → am_S → am_F} (hE : subL [] E = true) (hg : ∀ e s1, tH selF E (g e s1)) : tH selF E (am_lm (L_X7_rest_20 m y0 y1 y2 y3 s) g) := tH_lm (tH.mono (th_L_X7_rest_20 m) hE) hg
theorem tll_L_X7_rest_20 {m : Nat} {y0 : Int32} {y1 : Int32} {y2 : Int32} {y3 : Int32} {s : am_S} {E : List Nat} {T : Type} {g : (Int32) → am_S → am_FE T} (hE : subL [] E = true) (hg : ∀ e s1, tH selE E (g e s1)) : tH selE E (am_ll (L_X7_rest_20 m y0 y1 y2 y3 s) g) := tH_ll (tH.mono (th_L_X7_rest_20 m) hE) hg
theorem th_f_X7_rest {x1 : Int32} {x2 : Int32} {x3 : Int32} {s : am_S} : tH selF [0, 1, 3] (f_X7_rest x1 x2 x3 s) := by
  unfold f_X7_rest
  repeat' (first | (with_reducible exact tH_none) | (with_reducible exact tH_v) | (with_reducible exact tH_Ev) | (with_reducible exact tH_Er) | (with_reducible exact tH_x rfl) | (with_reducible exact tH_Ex rfl) | (with_reducible refine tH_ite ?_ ?_) | (with_reducible refine tH_bi (fun _ _ => ?_)) | (with_reducible refine tH_bu (fun _ => ?_)) | (with_reducible refine tH_bl (fun _ _ => ?_)) | (with_reducible refine tH_bv (fun _ _ => ?_)) | (with_reducible refine tlm_L_X7_rest_20 ?_ (fun _ _ => ?_)) | (with_reducible refine tll_L_X7_rest_20 ?_ (fun _ _ => ?_)) | (with_reducible refine ttu_f_X7_needEars ?_ (fun _ => ?_)) | (with_reducible refine ttu_f_X7_needMake ?_ (fun _ => ?_)) | (with_reducible refine ttv_f_X7_needWay ?_ (fun _ _ => ?_)) | (with_reducible refine tH_jn (fun _ _ => ?_) (fun J hJ => ?_)) | (with_reducible exact hJ _ _) | (with_reducible refine tH_le ?_) | (with_reducible refine tH_mv ?_ (fun _ => ?_)) | (with_reducible refine tH_mr ?_ (fun _ => ?_)) | (rename_i hK; with_reducible exact hK _ _) | decide)
theorem th_L_X7_why_22 : ∀ (m : Nat) {y0 : Int32} {y1 : Int32} {y2 : Int32} {y3 : Int32} {s : am_S}, tH selE [] (L_X7_why_22 m y0 y1 y2 y3 s) := by
  intro m
  induction m with
  | zero =>
    intros
    exact tH_none
  | succ m ih =>
    intros
    rw [L_X7_why_22]
    repeat' (first | (with_reducible exact ih) | (with_reducible exact tH_none) | (with_reducible exact tH_v) | (with_reducible exact tH_Ev) | (with_reducible exact tH_Er) | (with_reducible exact tH_x rfl) | (with_reducible exact tH_Ex rfl) | (with_reducible refine tH_ite ?_ ?_) | (with_reducible refine tH_bi (fun _ _ => ?_)) | (with_reducible refine tH_bu (fun _ => ?_)) | (with_reducible refine tH_bl (fun _ _ => ?_)) | (with_reducible refine tH_bv (fun _ _ => ?_)) | (with_reducible refine tH_jn (fun _ _ => ?_) (fun J hJ => ?_)) | (with_reducible exact hJ _ _) | (with_reducible refine tH_le ?_) | (with_reducible refine tH_mv ?_ (fun _ => ?_)) | (with_reducible refine tH_mr ?_ (fun _ => ?_)) | (rename_i hK; with_reducible exact hK _ _) | decide)
theorem tlm_L_X7_why_22 {m : Nat} {y0 : Int32} {y1 : Int32} {y2 : Int32} {y3 : Int32} {s : am_S} {E : List Nat} {g : ((Int32 × Int32)) → am_S → am_F} (hE : subL [] E = true) (hg : ∀ e s1, tH selF E (g e s1)) : tH selF E (am_lm (L_X7_why_22 m y0 y1 y2 y3 s) g) := tH_lm (tH.mono (th_L_X7_why_22 m) hE) hg
theorem tll_L_X7_why_22 {m : Nat} {y0 : Int32} {y1 : Int32} {y2 : Int32} {y3 : Int32} {s : am_S} {E : List Nat} {T : Type} {g : ((Int32 × Int32)) → am_S → am_FE T} (hE : subL [] E = true) (hg : ∀ e s1, tH selE E (g e s1)) : tH selE E (am_ll (L_X7_why_22 m y0 y1 y2 y3 s) g) := tH_ll (tH.mono (th_L_X7_why_22 m) hE) hg
theorem th_f_X7_why {x1 : Int32} {x2 : Int32} {s : am_S} : tH selF [0, 1, 3] (f_X7_why x1 x2 s) := by
  unfold f_X7_why
  repeat' (first | (with_reducible exact tH_none) | (with_reducible exact tH_v) | (with_reducible exact tH_Ev) | (with_reducible exact tH_Er) | (with_reducible exact tH_x rfl) | (with_reducible exact tH_Ex rfl) | (with_reducible refine tH_ite ?_ ?_) | (with_reducible refine tH_bi (fun _ _ => ?_)) | (with_reducible refine tH_bu (fun _ => ?_)) | (with_reducible refine tH_bl (fun _ _ => ?_)) | (with_reducible refine tH_bv (fun _ _ => ?_)) | (with_reducible refine tlm_L_X7_why_22 ?_ (fun _ _ => ?_)) | (with_reducible refine tll_L_X7_why_22 ?_ (fun _ _ => ?_)) | (with_reducible refine ttu_f_X7_needEars ?_ (fun _ => ?_)) | (with_reducible refine ttu_f_X7_needMake ?_ (fun _ => ?_)) | (with_reducible refine ttv_f_X7_needWay ?_ (fun _ _ => ?_)) | (with_reducible refine tH_jn (fun _ _ => ?_) (fun J hJ => ?_)) | (with_reducible exact hJ _ _) | (with_reducible refine tH_le ?_) | (with_reducible refine tH_mv ?_ (fun _ => ?_)) | (with_reducible refine tH_mr ?_ (fun _ => ?_)) | (rename_i hK; with_reducible exact hK _ _) | decide)
theorem th_f_X7_hand {s : am_S} : tH selF [] (f_X7_hand  s) := by
  unfold f_X7_hand
  repeat' (first | (with_reducible exact tH_none) | (with_reducible exact tH_v) | (with_reducible exact tH_Ev) | (with_reducible exact tH_Er) | (with_reducible exact tH_x rfl) | (with_reducible exact tH_Ex rfl) | (with_reducible refine tH_ite ?_ ?_) | (with_reducible refine tH_bi (fun _ _ => ?_)) | (with_reducible refine tH_bu (fun _ => ?_)) | (with_reducible refine tH_bl (fun _ _ => ?_)) | (with_reducible refine tH_bv (fun _ _ => ?_)) | (with_reducible refine tH_jn (fun _ _ => ?_) (fun J hJ => ?_)) | (with_reducible exact hJ _ _) | (with_reducible refine tH_le ?_) | (with_reducible refine tH_mv ?_ (fun _ => ?_)) | (with_reducible refine tH_mr ?_ (fun _ => ?_)) | (rename_i hK; with_reducible exact hK _ _) | decide)
theorem th_f_X7_toss {x1 : Int32} {x2 : Int32} {x3 : Int32} {x4 : Int32} {s : am_S} : tH selF [0, 3] (f_X7_toss x1 x2 x3 x4 s) := by
  unfold f_X7_toss
  repeat' (first | (with_reducible exact tH_none) | (with_reducible exact tH_v) | (with_reducible exact tH_Ev) | (with_reducible exact tH_Er) | (with_reducible exact tH_x rfl) | (with_reducible exact tH_Ex rfl) | (with_reducible refine tH_ite ?_ ?_) | (with_reducible refine tH_bi (fun _ _ => ?_)) | (with_reducible refine tH_bu (fun _ => ?_)) | (with_reducible refine tH_bl (fun _ _ => ?_)) | (with_reducible refine tH_bv (fun _ _ => ?_)) | (with_reducible refine ttv_f_X7_needHand ?_ (fun _ _ => ?_)) | (with_reducible refine tH_jn (fun _ _ => ?_) (fun J hJ => ?_)) | (with_reducible exact hJ _ _) | (with_reducible refine tH_le ?_) | (with_reducible refine tH_mv ?_ (fun _ => ?_)) | (with_reducible refine tH_mr ?_ (fun _ => ?_)) | (rename_i hK; with_reducible exact hK _ _) | decide)
theorem th_f_X7_reach {x1 : Int32} {x2 : Int32} {x3 : Int32} {x4 : Int32} {s : am_S} : tH selF [0, 1, 3] (f_X7_reach x1 x2 x3 x4 s) := by
  unfold f_X7_reach
  repeat' (first | (with_reducible exact tH_none) | (with_reducible exact tH_v) | (with_reducible exact tH_Ev) | (with_reducible exact tH_Er) | (with_reducible exact tH_x rfl) | (with_reducible exact tH_Ex rfl) | (with_reducible refine tH_ite ?_ ?_) | (with_reducible refine tH_bi (fun _ _ => ?_)) | (with_reducible refine tH_bu (fun _ => ?_)) | (with_reducible refine tH_bl (fun _ _ => ?_)) | (with_reducible refine tH_bv (fun _ _ => ?_)) | (with_reducible refine ttu_f_X7_needEars ?_ (fun _ => ?_)) | (with_reducible refine ttv_f_X7_needHand ?_ (fun _ _ => ?_)) | (with_reducible refine ttu_f_X7_needMake ?_ (fun _ => ?_)) | (with_reducible refine ttv_f_X7_needWay ?_ (fun _ _ => ?_)) | (with_reducible refine tH_jn (fun _ _ => ?_) (fun J hJ => ?_)) | (with_reducible exact hJ _ _) | (with_reducible refine tH_le ?_) | (with_reducible refine tH_mv ?_ (fun _ => ?_)) | (with_reducible refine tH_mr ?_ (fun _ => ?_)) | (rename_i hK; with_reducible exact hK _ _) | decide)
theorem th_L_X7_mend_38 : ∀ (m : Nat) {y0 : Int32} {y1 : Int32} {y2 : Nat} {y3 : Nat} {y4 : Int64} {y5 : Int32} {s : am_S}, tH selE [] (L_X7_mend_38 m y0 y1 y2 y3 y4 y5 s) := by
  intro m
  induction m with
  | zero =>
    intros
    exact tH_none
  | succ m ih =>
    intros
    rw [L_X7_mend_38]
    repeat' (first | (with_reducible exact ih) | (with_reducible exact tH_none) | (with_reducible exact tH_v) | (with_reducible exact tH_Ev) | (with_reducible exact tH_Er) | (with_reducible exact tH_x rfl) | (with_reducible exact tH_Ex rfl) | (with_reducible refine tH_ite ?_ ?_) | (with_reducible refine tH_bi (fun _ _ => ?_)) | (with_reducible refine tH_bu (fun _ => ?_)) | (with_reducible refine tH_bl (fun _ _ => ?_)) | (with_reducible refine tH_bv (fun _ _ => ?_)) | (with_reducible refine tH_jn (fun _ _ => ?_) (fun J hJ => ?_)) | (with_reducible exact hJ _ _) | (with_reducible refine tH_le ?_) | (with_reducible refine tH_mv ?_ (fun _ => ?_)) | (with_reducible refine tH_mr ?_ (fun _ => ?_)) | (rename_i hK; with_reducible exact hK _ _) | decide)
theorem tlm_L_X7_mend_38 {m : Nat} {y0 : Int32} {y1 : Int32} {y2 : Nat} {y3 : Nat} {y4 : Int64} {y5 : Int32} {s : am_S} {E : List Nat} {g : (Int32) → am_S → am_F} (hE : subL [] E = true) (hg : ∀ e s1, tH selF E (g e s1)) : tH selF E (am_lm (L_X7_mend_38 m y0 y1 y2 y3 y4 y5 s) g) := tH_lm (tH.mono (th_L_X7_mend_38 m) hE) hg
theorem tll_L_X7_mend_38 {m : Nat} {y0 : Int32} {y1 : Int32} {y2 : Nat} {y3 : Nat} {y4 : Int64} {y5 : Int32} {s : am_S} {E : List Nat} {T : Type} {g : (Int32) → am_S → am_FE T} (hE : subL [] E = true) (hg : ∀ e s1, tH selE E (g e s1)) : tH selE E (am_ll (L_X7_mend_38 m y0 y1 y2 y3 y4 y5 s) g) := tH_ll (tH.mono (th_L_X7_mend_38 m) hE) hg
theorem th_f_X7_mend {x1 : Int32} {x2 : Int32} {x3 : Int32} {x4 : Int32} {s : am_S} : tH selF [0, 1, 3] (f_X7_mend x1 x2 x3 x4 s) := by
  unfold f_X7_mend
  repeat' (first | (with_reducible exact tH_none) | (with_reducible exact tH_v) | (with_reducible exact tH_Ev) | (with_reducible exact tH_Er) | (with_reducible exact tH_x rfl) | (with_reducible exact tH_Ex rfl) | (with_reducible refine tH_ite ?_ ?_) | (with_reducible refine tH_bi (fun _ _ => ?_)) | (with_reducible refine tH_bu (fun _ => ?_)) | (with_reducible refine tH_bl (fun _ _ => ?_)) | (with_reducible refine tH_bv (fun _ _ => ?_)) | (with_reducible refine tlm_L_X7_mend_38 ?_ (fun _ _ => ?_)) | (with_reducible refine tll_L_X7_mend_38 ?_ (fun _ _ => ?_)) | (with_reducible refine ttu_f_X7_needEars ?_ (fun _ => ?_)) | (with_reducible refine ttv_f_X7_needHand ?_ (fun _ _ => ?_)) | (with_reducible refine ttu_f_X7_needMake ?_ (fun _ => ?_)) | (with_reducible refine ttv_f_X7_needWay ?_ (fun _ _ => ?_)) | (with_reducible refine tH_jn (fun _ _ => ?_) (fun J hJ => ?_)) | (with_reducible exact hJ _ _) | (with_reducible refine tH_le ?_) | (with_reducible refine tH_mv ?_ (fun _ => ?_)) | (with_reducible refine tH_mr ?_ (fun _ => ?_)) | (rename_i hK; with_reducible exact hK _ _) | decide)
theorem th_L_X7_odds_49 : ∀ (m : Nat) {y0 : Int32} {y1 : Int32} {y2 : Int32} {y3 : Int32} {y4 : Int32} {y5 : Nat} {y6 : Int64} {y7 : Int64} {y8 : Int32} {s : am_S}, tH selE [] (L_X7_odds_49 m y0 y1 y2 y3 y4 y5 y6 y7 y8 s) := by
  intro m
  induction m with
  | zero =>
    intros
    exact tH_none
  | succ m ih =>
    intros
    rw [L_X7_odds_49]
    repeat' (first | (with_reducible exact ih) | (with_reducible exact tH_none) | (with_reducible exact tH_v) | (with_reducible exact tH_Ev) | (with_reducible exact tH_Er) | (with_reducible exact tH_x rfl) | (with_reducible exact tH_Ex rfl) | (with_reducible refine tH_ite ?_ ?_) | (with_reducible refine tH_bi (fun _ _ => ?_)) | (with_reducible refine tH_bu (fun _ => ?_)) | (with_reducible refine tH_bl (fun _ _ => ?_)) | (with_reducible refine tH_bv (fun _ _ => ?_)) | (with_reducible refine tH_jn (fun _ _ => ?_) (fun J hJ => ?_)) | (with_reducible exact hJ _ _) | (with_reducible refine tH_le ?_) | (with_reducible refine tH_mv ?_ (fun _ => ?_)) | (with_reducible refine tH_mr ?_ (fun _ => ?_)) | (rename_i hK; with_reducible exact hK _ _) | decide)
theorem tlm_L_X7_odds_49 {m : Nat} {y0 : Int32} {y1 : Int32} {y2 : Int32} {y3 : Int32} {y4 : Int32} {y5 : Nat} {y6 : Int64} {y7 : Int64} {y8 : Int32} {s : am_S} {E : List Nat} {g : ((Int64 × Int64)) → am_S → am_F} (hE : subL [] E = true) (hg : ∀ e s1, tH selF E (g e s1)) : tH selF E (am_lm (L_X7_odds_49 m y0 y1 y2 y3 y4 y5 y6 y7 y8 s) g) := tH_lm (tH.mono (th_L_X7_odds_49 m) hE) hg
theorem tll_L_X7_odds_49 {m : Nat} {y0 : Int32} {y1 : Int32} {y2 : Int32} {y3 : Int32} {y4 : Int32} {y5 : Nat} {y6 : Int64} {y7 : Int64} {y8 : Int32} {s : am_S} {E : List Nat} {T : Type} {g : ((Int64 × Int64)) → am_S → am_FE T} (hE : subL [] E = true) (hg : ∀ e s1, tH selE E (g e s1)) : tH selE E (am_ll (L_X7_odds_49 m y0 y1 y2 y3 y4 y5 y6 y7 y8 s) g) := tH_ll (tH.mono (th_L_X7_odds_49 m) hE) hg
theorem th_f_X7_odds {x1 : Int32} {x2 : Int32} {x3 : Int32} {x4 : Int32} {x5 : Int32} {x6 : Int32} {x7 : Int32} {s : am_S} : tH selF [0, 1, 3] (f_X7_odds x1 x2 x3 x4 x5 x6 x7 s) := by
  unfold f_X7_odds
  repeat' (first | (with_reducible exact tH_none) | (with_reducible exact tH_v) | (with_reducible exact tH_Ev) | (with_reducible exact tH_Er) | (with_reducible exact tH_x rfl) | (with_reducible exact tH_Ex rfl) | (with_reducible refine tH_ite ?_ ?_) | (with_reducible refine tH_bi (fun _ _ => ?_)) | (with_reducible refine tH_bu (fun _ => ?_)) | (with_reducible refine tH_bl (fun _ _ => ?_)) | (with_reducible refine tH_bv (fun _ _ => ?_)) | (with_reducible refine tlm_L_X7_odds_49 ?_ (fun _ _ => ?_)) | (with_reducible refine tll_L_X7_odds_49 ?_ (fun _ _ => ?_)) | (with_reducible refine ttu_f_X7_needEars ?_ (fun _ => ?_)) | (with_reducible refine ttv_f_X7_needHand ?_ (fun _ _ => ?_)) | (with_reducible refine ttu_f_X7_needHoop ?_ (fun _ => ?_)) | (with_reducible refine ttu_f_X7_needMake ?_ (fun _ => ?_)) | (with_reducible refine ttv_f_X7_needWay ?_ (fun _ _ => ?_)) | (with_reducible refine ttu_f_X7_needWithin ?_ (fun _ => ?_)) | (with_reducible refine tH_jn (fun _ _ => ?_) (fun J hJ => ?_)) | (with_reducible exact hJ _ _) | (with_reducible refine tH_le ?_) | (with_reducible refine tH_mv ?_ (fun _ => ?_)) | (with_reducible refine tH_mr ?_ (fun _ => ?_)) | (rename_i hK; with_reducible exact hK _ _) | decide)
theorem th_L_X7_wins_69 : ∀ (m : Nat) {y0 : Int32} {y1 : Nat} {y2 : Int64} {y3 : Int32} {s : am_S}, tH selE [] (L_X7_wins_69 m y0 y1 y2 y3 s) := by
  intro m
  induction m with
  | zero =>
    intros
    exact tH_none
  | succ m ih =>
    intros
    rw [L_X7_wins_69]
    repeat' (first | (with_reducible exact ih) | (with_reducible exact tH_none) | (with_reducible exact tH_v) | (with_reducible exact tH_Ev) | (with_reducible exact tH_Er) | (with_reducible exact tH_x rfl) | (with_reducible exact tH_Ex rfl) | (with_reducible refine tH_ite ?_ ?_) | (with_reducible refine tH_bi (fun _ _ => ?_)) | (with_reducible refine tH_bu (fun _ => ?_)) | (with_reducible refine tH_bl (fun _ _ => ?_)) | (with_reducible refine tH_bv (fun _ _ => ?_)) | (with_reducible refine tH_jn (fun _ _ => ?_) (fun J hJ => ?_)) | (with_reducible exact hJ _ _) | (with_reducible refine tH_le ?_) | (with_reducible refine tH_mv ?_ (fun _ => ?_)) | (with_reducible refine tH_mr ?_ (fun _ => ?_)) | (rename_i hK; with_reducible exact hK _ _) | decide)
theorem tlm_L_X7_wins_69 {m : Nat} {y0 : Int32} {y1 : Nat} {y2 : Int64} {y3 : Int32} {s : am_S} {E : List Nat} {g : (Int64) → am_S → am_F} (hE : subL [] E = true) (hg : ∀ e s1, tH selF E (g e s1)) : tH selF E (am_lm (L_X7_wins_69 m y0 y1 y2 y3 s) g) := tH_lm (tH.mono (th_L_X7_wins_69 m) hE) hg
theorem tll_L_X7_wins_69 {m : Nat} {y0 : Int32} {y1 : Nat} {y2 : Int64} {y3 : Int32} {s : am_S} {E : List Nat} {T : Type} {g : (Int64) → am_S → am_FE T} (hE : subL [] E = true) (hg : ∀ e s1, tH selE E (g e s1)) : tH selE E (am_ll (L_X7_wins_69 m y0 y1 y2 y3 s) g) := tH_ll (tH.mono (th_L_X7_wins_69 m) hE) hg
theorem th_f_X7_wins {x1 : Int32} {s : am_S} : tH selF [3] (f_X7_wins x1 s) := by
  unfold f_X7_wins
  repeat' (first | (with_reducible exact tH_none) | (with_reducible exact tH_v) | (with_reducible exact tH_Ev) | (with_reducible exact tH_Er) | (with_reducible exact tH_x rfl) | (with_reducible exact tH_Ex rfl) | (with_reducible refine tH_ite ?_ ?_) | (with_reducible refine tH_bi (fun _ _ => ?_)) | (with_reducible refine tH_bu (fun _ => ?_)) | (with_reducible refine tH_bl (fun _ _ => ?_)) | (with_reducible refine tH_bv (fun _ _ => ?_)) | (with_reducible refine tlm_L_X7_wins_69 ?_ (fun _ _ => ?_)) | (with_reducible refine tll_L_X7_wins_69 ?_ (fun _ _ => ?_)) | (with_reducible refine tH_jn (fun _ _ => ?_) (fun J hJ => ?_)) | (with_reducible exact hJ _ _) | (with_reducible refine tH_le ?_) | (with_reducible refine tH_mv ?_ (fun _ => ?_)) | (with_reducible refine tH_mr ?_ (fun _ => ?_)) | (rename_i hK; with_reducible exact hK _ _) | decide)
theorem th_L_X7_seen_33 : ∀ (m : Nat) {y0 : Int32} {y1 : Int32} {y2 : Int32} {y3 : Int32} {y4 : Int32} {y5 : Int32} {s : am_S}, tH selE [] (L_X7_seen_33 m y0 y1 y2 y3 y4 y5 s) := by
  intro m
  induction m with
  | zero =>
    intros
    exact tH_none
  | succ m ih =>
    intros
    rw [L_X7_seen_33]
    repeat' (first | (with_reducible exact ih) | (with_reducible exact tH_none) | (with_reducible exact tH_v) | (with_reducible exact tH_Ev) | (with_reducible exact tH_Er) | (with_reducible exact tH_x rfl) | (with_reducible exact tH_Ex rfl) | (with_reducible refine tH_ite ?_ ?_) | (with_reducible refine tH_bi (fun _ _ => ?_)) | (with_reducible refine tH_bu (fun _ => ?_)) | (with_reducible refine tH_bl (fun _ _ => ?_)) | (with_reducible refine tH_bv (fun _ _ => ?_)) | (with_reducible refine tH_jn (fun _ _ => ?_) (fun J hJ => ?_)) | (with_reducible exact hJ _ _) | (with_reducible refine tH_le ?_) | (with_reducible refine tH_mv ?_ (fun _ => ?_)) | (with_reducible refine tH_mr ?_ (fun _ => ?_)) | (rename_i hK; with_reducible exact hK _ _) | decide)
theorem tlm_L_X7_seen_33 {m : Nat} {y0 : Int32} {y1 : Int32} {y2 : Int32} {y3 : Int32} {y4 : Int32} {y5 : Int32} {s : am_S} {E : List Nat} {g : (Int32) → am_S → am_F} (hE : subL [] E = true) (hg : ∀ e s1, tH selF E (g e s1)) : tH selF E (am_lm (L_X7_seen_33 m y0 y1 y2 y3 y4 y5 s) g) := tH_lm (tH.mono (th_L_X7_seen_33 m) hE) hg
theorem tll_L_X7_seen_33 {m : Nat} {y0 : Int32} {y1 : Int32} {y2 : Int32} {y3 : Int32} {y4 : Int32} {y5 : Int32} {s : am_S} {E : List Nat} {T : Type} {g : (Int32) → am_S → am_FE T} (hE : subL [] E = true) (hg : ∀ e s1, tH selE E (g e s1)) : tH selE E (am_ll (L_X7_seen_33 m y0 y1 y2 y3 y4 y5 s) g) := tH_ll (tH.mono (th_L_X7_seen_33 m) hE) hg
theorem th_f_X7_seen {x1 : Int32} {x2 : Int32} {x3 : Int32} {x4 : Int32} {x5 : Int32} {s : am_S} : tH selF [0, 1, 3] (f_X7_seen x1 x2 x3 x4 x5 s) := by
  unfold f_X7_seen
  repeat' (first | (with_reducible exact tH_none) | (with_reducible exact tH_v) | (with_reducible exact tH_Ev) | (with_reducible exact tH_Er) | (with_reducible exact tH_x rfl) | (with_reducible exact tH_Ex rfl) | (with_reducible refine tH_ite ?_ ?_) | (with_reducible refine tH_bi (fun _ _ => ?_)) | (with_reducible refine tH_bu (fun _ => ?_)) | (with_reducible refine tH_bl (fun _ _ => ?_)) | (with_reducible refine tH_bv (fun _ _ => ?_)) | (with_reducible refine tlm_L_X7_seen_33 ?_ (fun _ _ => ?_)) | (with_reducible refine tll_L_X7_seen_33 ?_ (fun _ _ => ?_)) | (with_reducible refine ttu_f_X7_needMake ?_ (fun _ => ?_)) | (with_reducible refine ttv_f_X7_needWay ?_ (fun _ _ => ?_)) | (with_reducible refine ttu_f_X7_needWithin ?_ (fun _ => ?_)) | (with_reducible refine tH_jn (fun _ _ => ?_) (fun J hJ => ?_)) | (with_reducible exact hJ _ _) | (with_reducible refine tH_le ?_) | (with_reducible refine tH_mv ?_ (fun _ => ?_)) | (with_reducible refine tH_mr ?_ (fun _ => ?_)) | (rename_i hK; with_reducible exact hK _ _) | decide)
theorem th_f_X7_found {x1 : Int32} {x2 : Int32} {x3 : Int32} {s : am_S} : tH selF [] (f_X7_found x1 x2 x3 s) := by
  unfold f_X7_found
  repeat' (first | (with_reducible exact tH_none) | (with_reducible exact tH_v) | (with_reducible exact tH_Ev) | (with_reducible exact tH_Er) | (with_reducible exact tH_x rfl) | (with_reducible exact tH_Ex rfl) | (with_reducible refine tH_ite ?_ ?_) | (with_reducible refine tH_bi (fun _ _ => ?_)) | (with_reducible refine tH_bu (fun _ => ?_)) | (with_reducible refine tH_bl (fun _ _ => ?_)) | (with_reducible refine tH_bv (fun _ _ => ?_)) | (with_reducible refine tH_jn (fun _ _ => ?_) (fun J hJ => ?_)) | (with_reducible exact hJ _ _) | (with_reducible refine tH_le ?_) | (with_reducible refine tH_mv ?_ (fun _ => ?_)) | (with_reducible refine tH_mr ?_ (fun _ => ?_)) | (rename_i hK; with_reducible exact hK _ _) | decide)
theorem th_f_X7_needTray {x1 : Int32} {s : am_S} : tH selF [3] (f_X7_needTray x1 s) := by
  unfold f_X7_needTray
  repeat' (first | (with_reducible exact tH_none) | (with_reducible exact tH_v) | (with_reducible exact tH_Ev) | (with_reducible exact tH_Er) | (with_reducible exact tH_x rfl) | (with_reducible exact tH_Ex rfl) | (with_reducible refine tH_ite ?_ ?_) | (with_reducible refine tH_bi (fun _ _ => ?_)) | (with_reducible refine tH_bu (fun _ => ?_)) | (with_reducible refine tH_bl (fun _ _ => ?_)) | (with_reducible refine tH_bv (fun _ _ => ?_)) | (with_reducible refine tH_jn (fun _ _ => ?_) (fun J hJ => ?_)) | (with_reducible exact hJ _ _) | (with_reducible refine tH_le ?_) | (with_reducible refine tH_mv ?_ (fun _ => ?_)) | (with_reducible refine tH_mr ?_ (fun _ => ?_)) | (rename_i hK; with_reducible exact hK _ _) | decide)
theorem ttv_f_X7_needTray {x1 : Int32} {s : am_S} {E : List Nat} {g : Value → am_S → am_F} (hE : subL [3] E = true) (hg : ∀ v s1, tH selF E (g v s1)) : tH selF E (am_tv (f_X7_needTray x1 s) g) := tH_tv (tH.mono th_f_X7_needTray hE) hg
theorem th_f_X7_tray {x1 : Int32} {x2 : Int32} {x3 : Int32} {s : am_S} : tH selF [0, 3] (f_X7_tray x1 x2 x3 s) := by
  unfold f_X7_tray
  repeat' (first | (with_reducible exact tH_none) | (with_reducible exact tH_v) | (with_reducible exact tH_Ev) | (with_reducible exact tH_Er) | (with_reducible exact tH_x rfl) | (with_reducible exact tH_Ex rfl) | (with_reducible refine tH_ite ?_ ?_) | (with_reducible refine tH_bi (fun _ _ => ?_)) | (with_reducible refine tH_bu (fun _ => ?_)) | (with_reducible refine tH_bl (fun _ _ => ?_)) | (with_reducible refine tH_bv (fun _ _ => ?_)) | (with_reducible refine ttv_f_X7_needTray ?_ (fun _ _ => ?_)) | (with_reducible refine ttu_f_X7_needWithin ?_ (fun _ => ?_)) | (with_reducible refine tH_jn (fun _ _ => ?_) (fun J hJ => ?_)) | (with_reducible exact hJ _ _) | (with_reducible refine tH_le ?_) | (with_reducible refine tH_mv ?_ (fun _ => ?_)) | (with_reducible refine tH_mr ?_ (fun _ => ?_)) | (rename_i hK; with_reducible exact hK _ _) | decide)
theorem th_f_X7_needThere {b1 : Nat} {s : am_S} : tH selF [1] (f_X7_needThere b1 s) := by
  unfold f_X7_needThere
  repeat' (first | (with_reducible exact tH_none) | (with_reducible exact tH_v) | (with_reducible exact tH_Ev) | (with_reducible exact tH_Er) | (with_reducible exact tH_x rfl) | (with_reducible exact tH_Ex rfl) | (with_reducible refine tH_ite ?_ ?_) | (with_reducible refine tH_bi (fun _ _ => ?_)) | (with_reducible refine tH_bu (fun _ => ?_)) | (with_reducible refine tH_bl (fun _ _ => ?_)) | (with_reducible refine tH_bv (fun _ _ => ?_)) | (with_reducible refine tH_jn (fun _ _ => ?_) (fun J hJ => ?_)) | (with_reducible exact hJ _ _) | (with_reducible refine tH_le ?_) | (with_reducible refine tH_mv ?_ (fun _ => ?_)) | (with_reducible refine tH_mr ?_ (fun _ => ?_)) | (rename_i hK; with_reducible exact hK _ _) | decide)
theorem ttu_f_X7_needThere {b1 : Nat} {s : am_S} {E : List Nat} {g : am_S → am_F} (hE : subL [1] E = true) (hg : ∀ s1, tH selF E (g s1)) : tH selF E (am_tu (f_X7_needThere b1 s) g) := tH_tu (tH.mono th_f_X7_needThere hE) hg
theorem th_f_X7_write {x1 : Int32} {x2 : Int32} {x3 : Int64} {s : am_S} : tH selF [1, 2, 3] (f_X7_write x1 x2 x3 s) := by
  unfold f_X7_write
  repeat' (first | (with_reducible exact tH_none) | (with_reducible exact tH_v) | (with_reducible exact tH_Ev) | (with_reducible exact tH_Er) | (with_reducible exact tH_x rfl) | (with_reducible exact tH_Ex rfl) | (with_reducible refine tH_ite ?_ ?_) | (with_reducible refine tH_bi (fun _ _ => ?_)) | (with_reducible refine tH_bu (fun _ => ?_)) | (with_reducible refine tH_bl (fun _ _ => ?_)) | (with_reducible refine tH_bv (fun _ _ => ?_)) | (with_reducible refine ttu_f_X7_needThere ?_ (fun _ => ?_)) | (with_reducible refine ttv_f_X7_needTray ?_ (fun _ _ => ?_)) | (with_reducible refine tH_jn (fun _ _ => ?_) (fun J hJ => ?_)) | (with_reducible exact hJ _ _) | (with_reducible refine tH_le ?_) | (with_reducible refine tH_mv ?_ (fun _ => ?_)) | (with_reducible refine tH_mr ?_ (fun _ => ?_)) | (rename_i hK; with_reducible exact hK _ _) | decide)
theorem th_L_X7_take_40 : ∀ (m : Nat) {y0 : Nat} {y1 : Nat} {y2 : Int32} {s : am_S}, tH selE [0] (L_X7_take_40 m y0 y1 y2 s) := by
  intro m
  induction m with
  | zero =>
    intros
    exact tH_none
  | succ m ih =>
    intros
    rw [L_X7_take_40]
    repeat' (first | (with_reducible exact ih) | (with_reducible exact tH_none) | (with_reducible exact tH_v) | (with_reducible exact tH_Ev) | (with_reducible exact tH_Er) | (with_reducible exact tH_x rfl) | (with_reducible exact tH_Ex rfl) | (with_reducible refine tH_ite ?_ ?_) | (with_reducible refine tH_bi (fun _ _ => ?_)) | (with_reducible refine tH_bu (fun _ => ?_)) | (with_reducible refine tH_bl (fun _ _ => ?_)) | (with_reducible refine tH_bv (fun _ _ => ?_)) | (with_reducible refine tH_jn (fun _ _ => ?_) (fun J hJ => ?_)) | (with_reducible exact hJ _ _) | (with_reducible refine tH_le ?_) | (with_reducible refine tH_mv ?_ (fun _ => ?_)) | (with_reducible refine tH_mr ?_ (fun _ => ?_)) | (rename_i hK; with_reducible exact hK _ _) | decide)
theorem tlm_L_X7_take_40 {m : Nat} {y0 : Nat} {y1 : Nat} {y2 : Int32} {s : am_S} {E : List Nat} {g : (Unit) → am_S → am_F} (hE : subL [0] E = true) (hg : ∀ e s1, tH selF E (g e s1)) : tH selF E (am_lm (L_X7_take_40 m y0 y1 y2 s) g) := tH_lm (tH.mono (th_L_X7_take_40 m) hE) hg
theorem tll_L_X7_take_40 {m : Nat} {y0 : Nat} {y1 : Nat} {y2 : Int32} {s : am_S} {E : List Nat} {T : Type} {g : (Unit) → am_S → am_FE T} (hE : subL [0] E = true) (hg : ∀ e s1, tH selE E (g e s1)) : tH selE E (am_ll (L_X7_take_40 m y0 y1 y2 s) g) := tH_ll (tH.mono (th_L_X7_take_40 m) hE) hg
theorem th_L_X7_take_103 : ∀ (m : Nat) {y0 : Nat} {y1 : Nat} {y2 : Int32} {s : am_S}, tH selE [] (L_X7_take_103 m y0 y1 y2 s) := by
  intro m
  induction m with
  | zero =>
    intros
    exact tH_none
  | succ m ih =>
    intros
    rw [L_X7_take_103]
    repeat' (first | (with_reducible exact ih) | (with_reducible exact tH_none) | (with_reducible exact tH_v) | (with_reducible exact tH_Ev) | (with_reducible exact tH_Er) | (with_reducible exact tH_x rfl) | (with_reducible exact tH_Ex rfl) | (with_reducible refine tH_ite ?_ ?_) | (with_reducible refine tH_bi (fun _ _ => ?_)) | (with_reducible refine tH_bu (fun _ => ?_)) | (with_reducible refine tH_bl (fun _ _ => ?_)) | (with_reducible refine tH_bv (fun _ _ => ?_)) | (with_reducible refine tH_jn (fun _ _ => ?_) (fun J hJ => ?_)) | (with_reducible exact hJ _ _) | (with_reducible refine tH_le ?_) | (with_reducible refine tH_mv ?_ (fun _ => ?_)) | (with_reducible refine tH_mr ?_ (fun _ => ?_)) | (rename_i hK; with_reducible exact hK _ _) | decide)
theorem tlm_L_X7_take_103 {m : Nat} {y0 : Nat} {y1 : Nat} {y2 : Int32} {s : am_S} {E : List Nat} {g : (Unit) → am_S → am_F} (hE : subL [] E = true) (hg : ∀ e s1, tH selF E (g e s1)) : tH selF E (am_lm (L_X7_take_103 m y0 y1 y2 s) g) := tH_lm (tH.mono (th_L_X7_take_103 m) hE) hg
theorem tll_L_X7_take_103 {m : Nat} {y0 : Nat} {y1 : Nat} {y2 : Int32} {s : am_S} {E : List Nat} {T : Type} {g : (Unit) → am_S → am_FE T} (hE : subL [] E = true) (hg : ∀ e s1, tH selE E (g e s1)) : tH selE E (am_ll (L_X7_take_103 m y0 y1 y2 s) g) := tH_ll (tH.mono (th_L_X7_take_103 m) hE) hg
theorem th_f_X7_take {x1 : Int32} {x2 : Int32} {s : am_S} : tH selF [0, 1, 2, 3] (f_X7_take x1 x2 s) := by
  unfold f_X7_take
  repeat' (first | (with_reducible exact tH_none) | (with_reducible exact tH_v) | (with_reducible exact tH_Ev) | (with_reducible exact tH_Er) | (with_reducible exact tH_x rfl) | (with_reducible exact tH_Ex rfl) | (with_reducible refine tH_ite ?_ ?_) | (with_reducible refine tH_bi (fun _ _ => ?_)) | (with_reducible refine tH_bu (fun _ => ?_)) | (with_reducible refine tH_bl (fun _ _ => ?_)) | (with_reducible refine tH_bv (fun _ _ => ?_)) | (with_reducible refine tlm_L_X7_take_103 ?_ (fun _ _ => ?_)) | (with_reducible refine tll_L_X7_take_103 ?_ (fun _ _ => ?_)) | (with_reducible refine tlm_L_X7_take_40 ?_ (fun _ _ => ?_)) | (with_reducible refine tll_L_X7_take_40 ?_ (fun _ _ => ?_)) | (with_reducible refine ttv_f_X7_needHand ?_ (fun _ _ => ?_)) | (with_reducible refine ttu_f_X7_needThere ?_ (fun _ => ?_)) | (with_reducible refine ttv_f_X7_needTray ?_ (fun _ _ => ?_)) | (with_reducible refine tH_jn (fun _ _ => ?_) (fun J hJ => ?_)) | (with_reducible exact hJ _ _) | (with_reducible refine tH_le ?_) | (with_reducible refine tH_mv ?_ (fun _ => ?_)) | (with_reducible refine tH_mr ?_ (fun _ => ?_)) | (rename_i hK; with_reducible exact hK _ _) | decide)
theorem th_f_X7_needImageNumber {x1 : Int32} {s : am_S} : tH selF [3] (f_X7_needImageNumber x1 s) := by
  unfold f_X7_needImageNumber
  repeat' (first | (with_reducible exact tH_none) | (with_reducible exact tH_v) | (with_reducible exact tH_Ev) | (with_reducible exact tH_Er) | (with_reducible exact tH_x rfl) | (with_reducible exact tH_Ex rfl) | (with_reducible refine tH_ite ?_ ?_) | (with_reducible refine tH_bi (fun _ _ => ?_)) | (with_reducible refine tH_bu (fun _ => ?_)) | (with_reducible refine tH_bl (fun _ _ => ?_)) | (with_reducible refine tH_bv (fun _ _ => ?_)) | (with_reducible refine tH_jn (fun _ _ => ?_) (fun J hJ => ?_)) | (with_reducible exact hJ _ _) | (with_reducible refine tH_le ?_) | (with_reducible refine tH_mv ?_ (fun _ => ?_)) | (with_reducible refine tH_mr ?_ (fun _ => ?_)) | (rename_i hK; with_reducible exact hK _ _) | decide)
theorem ttu_f_X7_needImageNumber {x1 : Int32} {s : am_S} {E : List Nat} {g : am_S → am_F} (hE : subL [3] E = true) (hg : ∀ s1, tH selF E (g s1)) : tH selF E (am_tu (f_X7_needImageNumber x1 s) g) := tH_tu (tH.mono th_f_X7_needImageNumber hE) hg
theorem th_f_X7_restore {x1 : Int32} {s : am_S} : tH selF [1, 3] (f_X7_restore x1 s) := by
  unfold f_X7_restore
  repeat' (first | (with_reducible exact tH_none) | (with_reducible exact tH_v) | (with_reducible exact tH_Ev) | (with_reducible exact tH_Er) | (with_reducible exact tH_x rfl) | (with_reducible exact tH_Ex rfl) | (with_reducible refine tH_ite ?_ ?_) | (with_reducible refine tH_bi (fun _ _ => ?_)) | (with_reducible refine tH_bu (fun _ => ?_)) | (with_reducible refine tH_bl (fun _ _ => ?_)) | (with_reducible refine tH_bv (fun _ _ => ?_)) | (with_reducible refine ttu_f_X7_needImageNumber ?_ (fun _ => ?_)) | (with_reducible refine tH_jn (fun _ _ => ?_) (fun J hJ => ?_)) | (with_reducible exact hJ _ _) | (with_reducible refine tH_le ?_) | (with_reducible refine tH_mv ?_ (fun _ => ?_)) | (with_reducible refine tH_mr ?_ (fun _ => ?_)) | (rename_i hK; with_reducible exact hK _ _) | decide)
theorem th_f_X7_count {x1 : Int32} {s : am_S} : tH selF [] (f_X7_count x1 s) := by
  unfold f_X7_count
  repeat' (first | (with_reducible exact tH_none) | (with_reducible exact tH_v) | (with_reducible exact tH_Ev) | (with_reducible exact tH_Er) | (with_reducible exact tH_x rfl) | (with_reducible exact tH_Ex rfl) | (with_reducible refine tH_ite ?_ ?_) | (with_reducible refine tH_bi (fun _ _ => ?_)) | (with_reducible refine tH_bu (fun _ => ?_)) | (with_reducible refine tH_bl (fun _ _ => ?_)) | (with_reducible refine tH_bv (fun _ _ => ?_)) | (with_reducible refine tH_jn (fun _ _ => ?_) (fun J hJ => ?_)) | (with_reducible exact hJ _ _) | (with_reducible refine tH_le ?_) | (with_reducible refine tH_mv ?_ (fun _ => ?_)) | (with_reducible refine tH_mr ?_ (fun _ => ?_)) | (rename_i hK; with_reducible exact hK _ _) | decide)
theorem th_f_X7_image {x1 : Int32} {s : am_S} : tH selF [3] (f_X7_image x1 s) := by
  unfold f_X7_image
  repeat' (first | (with_reducible exact tH_none) | (with_reducible exact tH_v) | (with_reducible exact tH_Ev) | (with_reducible exact tH_Er) | (with_reducible exact tH_x rfl) | (with_reducible exact tH_Ex rfl) | (with_reducible refine tH_ite ?_ ?_) | (with_reducible refine tH_bi (fun _ _ => ?_)) | (with_reducible refine tH_bu (fun _ => ?_)) | (with_reducible refine tH_bl (fun _ _ => ?_)) | (with_reducible refine tH_bv (fun _ _ => ?_)) | (with_reducible refine ttu_f_X7_needImageNumber ?_ (fun _ => ?_)) | (with_reducible refine tH_jn (fun _ _ => ?_) (fun J hJ => ?_)) | (with_reducible exact hJ _ _) | (with_reducible refine tH_le ?_) | (with_reducible refine tH_mv ?_ (fun _ => ?_)) | (with_reducible refine tH_mr ?_ (fun _ => ?_)) | (rename_i hK; with_reducible exact hK _ _) | decide)
end TH2
