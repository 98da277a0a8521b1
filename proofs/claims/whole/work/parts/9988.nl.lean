/-! ===== what of the model writes no longs ===== -/
def stE {E : Type} : ((am_O × am_S) ⊕ (E × am_S)) → am_S
  | .inl r => r.2
  | .inr q => q.2
def nL {R : Type} (st : R → am_S) (s : am_S) (f : Option R) : Prop := ∀ r, f = some r → am_L (st r) = am_L s
section NL
variable {R E E' T : Type} {st : R → am_S} {s s1 : am_S} {f : am_F} {v : T}
theorem nL_none : nL st s none := fun r h => by cases h
theorem nL_some {r : R} (h : am_L (st r) = am_L s) : nL st s (some r) := fun q hq => by cases hq; exact h
theorem nL_ite {p : Prop} [Decidable p] {a b : Option R} (h1 : nL st s a) (h2 : nL st s b) : nL st s (if p then a else b) := by
  by_cases c : p
  · rw [if_pos c]; exact h1
  · rw [if_neg c]; exact h2
theorem nL_bi {g : Int32 → am_S → Option R} (h : nL Prod.snd s f) (hg : ∀ v s1, am_L s1 = am_L s → nL st s (g v s1)) : nL st s (am_bi f g) := by
  rcases f with _ | ⟨(_ | v) | e, s1⟩
  · exact nL_none
  · exact nL_none
  · cases v <;> first | exact nL_none | exact hg _ _ (h _ rfl)
  · exact nL_none
theorem nL_bl {g : Int64 → am_S → Option R} (h : nL Prod.snd s f) (hg : ∀ v s1, am_L s1 = am_L s → nL st s (g v s1)) : nL st s (am_bl f g) := by
  rcases f with _ | ⟨(_ | v) | e, s1⟩
  · exact nL_none
  · exact nL_none
  · cases v <;> first | exact nL_none | exact hg _ _ (h _ rfl)
  · exact nL_none
theorem nL_bu {g : am_S → Option R} (h : nL Prod.snd s f) (hg : ∀ s1, am_L s1 = am_L s → nL st s (g s1)) : nL st s (am_bu f g) := by
  rcases f with _ | ⟨(_ | v) | e, s1⟩
  · exact nL_none
  · exact hg _ (h _ rfl)
  · exact nL_none
  · exact nL_none
theorem nL_jn {J : T → am_S → Option R} {b : (T → am_S → Option R) → Option R} (hJ : ∀ e s1, am_L s1 = am_L s → nL st s (J e s1)) (hb : ∀ J' : T → am_S → Option R, (∀ e s1, am_L s1 = am_L s → nL st s (J' e s1)) → nL st s (b J')) : nL st s (am_jn J b) := hb J hJ
theorem nL_le {g : T → Option R} (h : nL st s (g v)) : nL st s (ax_le v g) := h
theorem nL_lm {f : am_FE E} {g : E → am_S → am_F} (h : nL stE s f) (hg : ∀ e s1, am_L s1 = am_L s → nL Prod.snd s (g e s1)) : nL Prod.snd s (am_lm f g) := by
  rcases f with _ | r | ⟨e, s1⟩
  · exact nL_none
  · exact nL_some (h _ rfl)
  · exact hg e s1 (h _ rfl)
theorem nL_ll {f : am_FE E} {g : E → am_S → am_FE E'} (h : nL stE s f) (hg : ∀ e s1, am_L s1 = am_L s → nL stE s (g e s1)) : nL stE s (am_ll f g) := by
  rcases f with _ | r | ⟨e, s1⟩
  · exact nL_none
  · exact nL_some (h _ rfl)
  · exact hg e s1 (h _ rfl)
theorem nL.tr {f : Option R} (h : nL st s1 f) (e : am_L s1 = am_L s) : nL st s f := fun r hr => (h r hr).trans e
end NL
section NL2
set_option maxHeartbeats 40000 in
theorem n_f_X8_within (x1 : Int64) (x2 : Int64) (x3 : Int64) (s : am_S) : nL Prod.snd s (f_X8_within x1 x2 x3 s) := by
  unfold f_X8_within
  repeat' first | with_reducible exact nL_none | ((with_reducible refine nL_some ?_); first | assumption | rfl) | with_reducible refine nL_ite ?_ ?_ | with_reducible refine nL_bi ?_ ?_ | with_reducible refine nL_bl ?_ ?_ | with_reducible refine nL_bu ?_ ?_ | with_reducible refine nL_jn ?_ ?_ | with_reducible refine nL_le ?_ | with_reducible refine nL_lm ?_ ?_ | with_reducible refine nL_ll ?_ ?_ | with_reducible intro _ | ((with_reducible apply_assumption); first | assumption | rfl)
set_option maxHeartbeats 40000 in
theorem n_f_X8_foldsOf (x1 : Int32) (s : am_S) : nL Prod.snd s (f_X8_foldsOf x1 s) := by
  unfold f_X8_foldsOf
  repeat' first | with_reducible exact nL_none | ((with_reducible refine nL_some ?_); first | assumption | rfl) | with_reducible refine nL_ite ?_ ?_ | with_reducible refine nL_bi ?_ ?_ | with_reducible refine nL_bl ?_ ?_ | with_reducible refine nL_bu ?_ ?_ | with_reducible refine nL_jn ?_ ?_ | with_reducible refine nL_le ?_ | with_reducible refine nL_lm ?_ ?_ | with_reducible refine nL_ll ?_ ?_ | with_reducible intro _ | ((with_reducible apply_assumption); first | assumption | rfl)
set_option maxHeartbeats 40000 in
theorem n_f_X8_foldAt (x1 : Int32) (x2 : Int32) (s : am_S) : nL Prod.snd s (f_X8_foldAt x1 x2 s) := by
  unfold f_X8_foldAt
  repeat' first | with_reducible exact nL_none | ((with_reducible refine nL_some ?_); first | assumption | rfl) | with_reducible refine nL_ite ?_ ?_ | with_reducible refine nL_bi ?_ ?_ | with_reducible refine nL_bl ?_ ?_ | with_reducible refine nL_bu ?_ ?_ | with_reducible refine nL_jn ?_ ?_ | with_reducible refine nL_le ?_ | with_reducible refine nL_lm ?_ ?_ | with_reducible refine nL_ll ?_ ?_ | with_reducible intro _ | ((with_reducible apply_assumption); first | assumption | rfl)
set_option maxHeartbeats 40000 in
theorem n_L_X8_flat_37 : ∀ (m : Nat) (a0 : Int32) (a1 : Int32) (s : am_S), nL stE s (L_X8_flat_37 m a0 a1 s)
  | 0, _, _, _ => fun r h => by cases h
  | m + 1, a0, a1, s => by
    have ih := n_L_X8_flat_37 m
    rw [L_X8_flat_37]
    repeat' first | with_reducible exact nL_none | ((with_reducible refine nL_some ?_); first | assumption | rfl) | with_reducible refine nL_ite ?_ ?_ | with_reducible refine nL_bi ?_ ?_ | with_reducible refine nL_bl ?_ ?_ | with_reducible refine nL_bu ?_ ?_ | with_reducible refine nL_jn ?_ ?_ | with_reducible refine nL_le ?_ | with_reducible refine nL_lm ?_ ?_ | with_reducible refine nL_ll ?_ ?_ | ((with_reducible refine nL.tr (ih ..) ?_); first | assumption | rfl) | with_reducible intro _ | ((with_reducible apply_assumption); first | assumption | rfl)
set_option maxHeartbeats 40000 in
theorem n_L_X8_flat_27 : ∀ (m : Nat) (a0 : Int32) (s : am_S), nL stE s (L_X8_flat_27 m a0 s)
  | 0, _, _ => fun r h => by cases h
  | m + 1, a0, s => by
    have ih := n_L_X8_flat_27 m
    rw [L_X8_flat_27]
    repeat' first | with_reducible exact nL_none | ((with_reducible refine nL_some ?_); first | assumption | rfl) | with_reducible refine nL_ite ?_ ?_ | with_reducible refine nL_bi ?_ ?_ | with_reducible refine nL_bl ?_ ?_ | with_reducible refine nL_bu ?_ ?_ | with_reducible refine nL_jn ?_ ?_ | with_reducible refine nL_le ?_ | with_reducible refine nL_lm ?_ ?_ | with_reducible refine nL_ll ?_ ?_ | ((with_reducible refine nL.tr (ih ..) ?_); first | assumption | rfl) | ((with_reducible refine nL.tr (n_L_X8_flat_37 ..) ?_); first | assumption | rfl) | with_reducible intro _ | ((with_reducible apply_assumption); first | assumption | rfl)
set_option maxHeartbeats 40000 in
theorem n_f_X8_flat (s : am_S) : nL Prod.snd s (f_X8_flat s) := by
  unfold f_X8_flat
  repeat' first | with_reducible exact nL_none | ((with_reducible refine nL_some ?_); first | assumption | rfl) | with_reducible refine nL_ite ?_ ?_ | with_reducible refine nL_bi ?_ ?_ | with_reducible refine nL_bl ?_ ?_ | with_reducible refine nL_bu ?_ ?_ | with_reducible refine nL_jn ?_ ?_ | with_reducible refine nL_le ?_ | with_reducible refine nL_lm ?_ ?_ | with_reducible refine nL_ll ?_ ?_ | ((with_reducible refine nL.tr (n_L_X8_flat_27 ..) ?_); first | assumption | rfl) | with_reducible intro _ | ((with_reducible apply_assumption); first | assumption | rfl)
set_option maxHeartbeats 40000 in
theorem n_L_X8_nose_2 : ∀ (m : Nat) (a0 : Int32) (a1 : Int32) (s : am_S), nL stE s (L_X8_nose_2 m a0 a1 s)
  | 0, _, _, _ => fun r h => by cases h
  | m + 1, a0, a1, s => by
    have ih := n_L_X8_nose_2 m
    rw [L_X8_nose_2]
    repeat' first | with_reducible exact nL_none | ((with_reducible refine nL_some ?_); first | assumption | rfl) | with_reducible refine nL_ite ?_ ?_ | with_reducible refine nL_bi ?_ ?_ | with_reducible refine nL_bl ?_ ?_ | with_reducible refine nL_bu ?_ ?_ | with_reducible refine nL_jn ?_ ?_ | with_reducible refine nL_le ?_ | with_reducible refine nL_lm ?_ ?_ | with_reducible refine nL_ll ?_ ?_ | ((with_reducible refine nL.tr (ih ..) ?_); first | assumption | rfl) | with_reducible intro _ | ((with_reducible apply_assumption); first | assumption | rfl)
set_option maxHeartbeats 40000 in
theorem n_f_X8_nose (x1 : Int32) (s : am_S) : nL Prod.snd s (f_X8_nose x1 s) := by
  unfold f_X8_nose
  repeat' first | with_reducible exact nL_none | ((with_reducible refine nL_some ?_); first | assumption | rfl) | with_reducible refine nL_ite ?_ ?_ | with_reducible refine nL_bi ?_ ?_ | with_reducible refine nL_bl ?_ ?_ | with_reducible refine nL_bu ?_ ?_ | with_reducible refine nL_jn ?_ ?_ | with_reducible refine nL_le ?_ | with_reducible refine nL_lm ?_ ?_ | with_reducible refine nL_ll ?_ ?_ | ((with_reducible refine nL.tr (n_L_X8_nose_2 ..) ?_); first | assumption | rfl) | with_reducible intro _ | ((with_reducible apply_assumption); first | assumption | rfl)
set_option maxHeartbeats 40000 in
theorem n_L_X8_side_9 : ∀ (m : Nat) (a0 : Int32) (a1 : Int32) (s : am_S), nL stE s (L_X8_side_9 m a0 a1 s)
  | 0, _, _, _ => fun r h => by cases h
  | m + 1, a0, a1, s => by
    have ih := n_L_X8_side_9 m
    rw [L_X8_side_9]
    repeat' first | with_reducible exact nL_none | ((with_reducible refine nL_some ?_); first | assumption | rfl) | with_reducible refine nL_ite ?_ ?_ | with_reducible refine nL_bi ?_ ?_ | with_reducible refine nL_bl ?_ ?_ | with_reducible refine nL_bu ?_ ?_ | with_reducible refine nL_jn ?_ ?_ | with_reducible refine nL_le ?_ | with_reducible refine nL_lm ?_ ?_ | with_reducible refine nL_ll ?_ ?_ | ((with_reducible refine nL.tr (ih ..) ?_); first | assumption | rfl) | with_reducible intro _ | ((with_reducible apply_assumption); first | assumption | rfl)
set_option maxHeartbeats 40000 in
theorem n_f_X8_side (x1 : Int32) (s : am_S) : nL Prod.snd s (f_X8_side x1 s) := by
  unfold f_X8_side
  repeat' first | with_reducible exact nL_none | ((with_reducible refine nL_some ?_); first | assumption | rfl) | with_reducible refine nL_ite ?_ ?_ | with_reducible refine nL_bi ?_ ?_ | with_reducible refine nL_bl ?_ ?_ | with_reducible refine nL_bu ?_ ?_ | with_reducible refine nL_jn ?_ ?_ | with_reducible refine nL_le ?_ | with_reducible refine nL_lm ?_ ?_ | with_reducible refine nL_ll ?_ ?_ | ((with_reducible refine nL.tr (n_L_X8_side_9 ..) ?_); first | assumption | rfl) | with_reducible intro _ | ((with_reducible apply_assumption); first | assumption | rfl)
set_option maxHeartbeats 40000 in
theorem n_L_X8_corner_2 : ∀ (m : Nat) (a0 : Int32) (a1 : Int32) (s : am_S), nL stE s (L_X8_corner_2 m a0 a1 s)
  | 0, _, _, _ => fun r h => by cases h
  | m + 1, a0, a1, s => by
    have ih := n_L_X8_corner_2 m
    rw [L_X8_corner_2]
    repeat' first | with_reducible exact nL_none | ((with_reducible refine nL_some ?_); first | assumption | rfl) | with_reducible refine nL_ite ?_ ?_ | with_reducible refine nL_bi ?_ ?_ | with_reducible refine nL_bl ?_ ?_ | with_reducible refine nL_bu ?_ ?_ | with_reducible refine nL_jn ?_ ?_ | with_reducible refine nL_le ?_ | with_reducible refine nL_lm ?_ ?_ | with_reducible refine nL_ll ?_ ?_ | ((with_reducible refine nL.tr (ih ..) ?_); first | assumption | rfl) | with_reducible intro _ | ((with_reducible apply_assumption); first | assumption | rfl)
set_option maxHeartbeats 40000 in
theorem n_f_X8_corner (x1 : Int32) (s : am_S) : nL Prod.snd s (f_X8_corner x1 s) := by
  unfold f_X8_corner
  repeat' first | with_reducible exact nL_none | ((with_reducible refine nL_some ?_); first | assumption | rfl) | with_reducible refine nL_ite ?_ ?_ | with_reducible refine nL_bi ?_ ?_ | with_reducible refine nL_bl ?_ ?_ | with_reducible refine nL_bu ?_ ?_ | with_reducible refine nL_jn ?_ ?_ | with_reducible refine nL_le ?_ | with_reducible refine nL_lm ?_ ?_ | with_reducible refine nL_ll ?_ ?_ | ((with_reducible refine nL.tr (n_L_X8_corner_2 ..) ?_); first | assumption | rfl) | with_reducible intro _ | ((with_reducible apply_assumption); first | assumption | rfl)
set_option maxHeartbeats 40000 in
theorem n_L_X8_count_2 : ∀ (m : Nat) (a0 : Int32) (s : am_S), nL stE s (L_X8_count_2 m a0 s)
  | 0, _, _ => fun r h => by cases h
  | m + 1, a0, s => by
    have ih := n_L_X8_count_2 m
    rw [L_X8_count_2]
    repeat' first | with_reducible exact nL_none | ((with_reducible refine nL_some ?_); first | assumption | rfl) | with_reducible refine nL_ite ?_ ?_ | with_reducible refine nL_bi ?_ ?_ | with_reducible refine nL_bl ?_ ?_ | with_reducible refine nL_bu ?_ ?_ | with_reducible refine nL_jn ?_ ?_ | with_reducible refine nL_le ?_ | with_reducible refine nL_lm ?_ ?_ | with_reducible refine nL_ll ?_ ?_ | ((with_reducible refine nL.tr (ih ..) ?_); first | assumption | rfl) | with_reducible intro _ | ((with_reducible apply_assumption); first | assumption | rfl)
set_option maxHeartbeats 40000 in
theorem n_L_X8_count_26 : ∀ (m : Nat) (a0 : Int32) (s : am_S), nL stE s (L_X8_count_26 m a0 s)
  | 0, _, _ => fun r h => by cases h
  | m + 1, a0, s => by
    have ih := n_L_X8_count_26 m
    rw [L_X8_count_26]
    repeat' first | with_reducible exact nL_none | ((with_reducible refine nL_some ?_); first | assumption | rfl) | with_reducible refine nL_ite ?_ ?_ | with_reducible refine nL_bi ?_ ?_ | with_reducible refine nL_bl ?_ ?_ | with_reducible refine nL_bu ?_ ?_ | with_reducible refine nL_jn ?_ ?_ | with_reducible refine nL_le ?_ | with_reducible refine nL_lm ?_ ?_ | with_reducible refine nL_ll ?_ ?_ | ((with_reducible refine nL.tr (ih ..) ?_); first | assumption | rfl) | with_reducible intro _ | ((with_reducible apply_assumption); first | assumption | rfl)
set_option maxHeartbeats 40000 in
theorem n_f_X8_count (s : am_S) : nL Prod.snd s (f_X8_count s) := by
  unfold f_X8_count
  repeat' first | with_reducible exact nL_none | ((with_reducible refine nL_some ?_); first | assumption | rfl) | with_reducible refine nL_ite ?_ ?_ | with_reducible refine nL_bi ?_ ?_ | with_reducible refine nL_bl ?_ ?_ | with_reducible refine nL_bu ?_ ?_ | with_reducible refine nL_jn ?_ ?_ | with_reducible refine nL_le ?_ | with_reducible refine nL_lm ?_ ?_ | with_reducible refine nL_ll ?_ ?_ | ((with_reducible refine nL.tr (n_L_X8_count_2 ..) ?_); first | assumption | rfl) | ((with_reducible refine nL.tr (n_L_X8_count_26 ..) ?_); first | assumption | rfl) | with_reducible intro _ | ((with_reducible apply_assumption); first | assumption | rfl)
set_option maxHeartbeats 40000 in
theorem n_L_X8_folds_100 : ∀ (m : Nat) (a0 : Int32) (s : am_S), nL stE s (L_X8_folds_100 m a0 s)
  | 0, _, _ => fun r h => by cases h
  | m + 1, a0, s => by
    have ih := n_L_X8_folds_100 m
    rw [L_X8_folds_100]
    repeat' first | with_reducible exact nL_none | ((with_reducible refine nL_some ?_); first | assumption | rfl) | with_reducible refine nL_ite ?_ ?_ | with_reducible refine nL_bi ?_ ?_ | with_reducible refine nL_bl ?_ ?_ | with_reducible refine nL_bu ?_ ?_ | with_reducible refine nL_jn ?_ ?_ | with_reducible refine nL_le ?_ | with_reducible refine nL_lm ?_ ?_ | with_reducible refine nL_ll ?_ ?_ | ((with_reducible refine nL.tr (ih ..) ?_); first | assumption | rfl) | with_reducible intro _ | ((with_reducible apply_assumption); first | assumption | rfl)
set_option maxHeartbeats 40000 in
theorem n_f_X8_folds (x1 : Int32) (x2 : Int32) (s : am_S) : nL Prod.snd s (f_X8_folds x1 x2 s) := by
  unfold f_X8_folds
  repeat' first | with_reducible exact nL_none | ((with_reducible refine nL_some ?_); first | assumption | rfl) | with_reducible refine nL_ite ?_ ?_ | with_reducible refine nL_bi ?_ ?_ | with_reducible refine nL_bl ?_ ?_ | with_reducible refine nL_bu ?_ ?_ | with_reducible refine nL_jn ?_ ?_ | with_reducible refine nL_le ?_ | with_reducible refine nL_lm ?_ ?_ | with_reducible refine nL_ll ?_ ?_ | ((with_reducible refine nL.tr (n_f_X8_within ..) ?_); first | assumption | rfl) | ((with_reducible refine nL.tr (n_f_X8_nose ..) ?_); first | assumption | rfl) | ((with_reducible refine nL.tr (n_f_X8_side ..) ?_); first | assumption | rfl) | ((with_reducible refine nL.tr (n_f_X8_corner ..) ?_); first | assumption | rfl) | ((with_reducible refine nL.tr (n_f_X8_count ..) ?_); first | assumption | rfl) | ((with_reducible refine nL.tr (n_L_X8_folds_100 ..) ?_); first | assumption | rfl) | with_reducible intro _ | ((with_reducible apply_assumption); first | assumption | rfl)
set_option maxHeartbeats 40000 in
theorem n_L_X8_measure_29 : ∀ (m : Nat) (a0 : Int32) (s : am_S), nL stE s (L_X8_measure_29 m a0 s)
  | 0, _, _ => fun r h => by cases h
  | m + 1, a0, s => by
    have ih := n_L_X8_measure_29 m
    rw [L_X8_measure_29]
    repeat' first | with_reducible exact nL_none | ((with_reducible refine nL_some ?_); first | assumption | rfl) | with_reducible refine nL_ite ?_ ?_ | with_reducible refine nL_bi ?_ ?_ | with_reducible refine nL_bl ?_ ?_ | with_reducible refine nL_bu ?_ ?_ | with_reducible refine nL_jn ?_ ?_ | with_reducible refine nL_le ?_ | with_reducible refine nL_lm ?_ ?_ | with_reducible refine nL_ll ?_ ?_ | ((with_reducible refine nL.tr (ih ..) ?_); first | assumption | rfl) | with_reducible intro _ | ((with_reducible apply_assumption); first | assumption | rfl)
set_option maxHeartbeats 40000 in
theorem n_f_X8_measure (s : am_S) : nL Prod.snd s (f_X8_measure s) := by
  unfold f_X8_measure
  repeat' first | with_reducible exact nL_none | ((with_reducible refine nL_some ?_); first | assumption | rfl) | with_reducible refine nL_ite ?_ ?_ | with_reducible refine nL_bi ?_ ?_ | with_reducible refine nL_bl ?_ ?_ | with_reducible refine nL_bu ?_ ?_ | with_reducible refine nL_jn ?_ ?_ | with_reducible refine nL_le ?_ | with_reducible refine nL_lm ?_ ?_ | with_reducible refine nL_ll ?_ ?_ | ((with_reducible refine nL.tr (n_f_X8_count ..) ?_); first | assumption | rfl) | ((with_reducible refine nL.tr (n_L_X8_measure_29 ..) ?_); first | assumption | rfl) | with_reducible intro _ | ((with_reducible apply_assumption); first | assumption | rfl)
set_option maxHeartbeats 40000 in
theorem n_L_X8_makes_6 : ∀ (m : Nat) (a0 : Int32) (a1 : Int32) (s : am_S), nL stE s (L_X8_makes_6 m a0 a1 s)
  | 0, _, _, _ => fun r h => by cases h
  | m + 1, a0, a1, s => by
    have ih := n_L_X8_makes_6 m
    rw [L_X8_makes_6]
    repeat' first | with_reducible exact nL_none | ((with_reducible refine nL_some ?_); first | assumption | rfl) | with_reducible refine nL_ite ?_ ?_ | with_reducible refine nL_bi ?_ ?_ | with_reducible refine nL_bl ?_ ?_ | with_reducible refine nL_bu ?_ ?_ | with_reducible refine nL_jn ?_ ?_ | with_reducible refine nL_le ?_ | with_reducible refine nL_lm ?_ ?_ | with_reducible refine nL_ll ?_ ?_ | ((with_reducible refine nL.tr (ih ..) ?_); first | assumption | rfl) | ((with_reducible refine nL.tr (n_f_X8_foldsOf ..) ?_); first | assumption | rfl) | ((with_reducible refine nL.tr (n_f_X8_foldAt ..) ?_); first | assumption | rfl) | ((with_reducible refine nL.tr (n_f_X8_folds ..) ?_); first | assumption | rfl) | with_reducible intro _ | ((with_reducible apply_assumption); first | assumption | rfl)
set_option maxHeartbeats 40000 in
theorem n_f_X8_makes (x1 : Int32) (s : am_S) : nL Prod.snd s (f_X8_makes x1 s) := by
  unfold f_X8_makes
  repeat' first | with_reducible exact nL_none | ((with_reducible refine nL_some ?_); first | assumption | rfl) | with_reducible refine nL_ite ?_ ?_ | with_reducible refine nL_bi ?_ ?_ | with_reducible refine nL_bl ?_ ?_ | with_reducible refine nL_bu ?_ ?_ | with_reducible refine nL_jn ?_ ?_ | with_reducible refine nL_le ?_ | with_reducible refine nL_lm ?_ ?_ | with_reducible refine nL_ll ?_ ?_ | ((with_reducible refine nL.tr (n_f_X8_flat ..) ?_); first | assumption | rfl) | ((with_reducible refine nL.tr (n_f_X8_measure ..) ?_); first | assumption | rfl) | ((with_reducible refine nL.tr (n_L_X8_makes_6 ..) ?_); first | assumption | rfl) | with_reducible intro _ | ((with_reducible apply_assumption); first | assumption | rfl)
set_option maxHeartbeats 40000 in
theorem n_f_X8_quarter (x1 : Int32) (s : am_S) : nL Prod.snd s (f_X8_quarter x1 s) := by
  unfold f_X8_quarter
  repeat' first | with_reducible exact nL_none | ((with_reducible refine nL_some ?_); first | assumption | rfl) | with_reducible refine nL_ite ?_ ?_ | with_reducible refine nL_bi ?_ ?_ | with_reducible refine nL_bl ?_ ?_ | with_reducible refine nL_bu ?_ ?_ | with_reducible refine nL_jn ?_ ?_ | with_reducible refine nL_le ?_ | with_reducible refine nL_lm ?_ ?_ | with_reducible refine nL_ll ?_ ?_ | with_reducible intro _ | ((with_reducible apply_assumption); first | assumption | rfl)
set_option maxHeartbeats 40000 in
theorem n_f_X8_sine_0 (x1 : Int32) (s : am_S) : nL Prod.snd s (f_X8_sine_0 x1 s) := by
  unfold f_X8_sine_0
  repeat' first | with_reducible exact nL_none | ((with_reducible refine nL_some ?_); first | assumption | rfl) | with_reducible refine nL_ite ?_ ?_ | with_reducible refine nL_bi ?_ ?_ | with_reducible refine nL_bl ?_ ?_ | with_reducible refine nL_bu ?_ ?_ | with_reducible refine nL_jn ?_ ?_ | with_reducible refine nL_le ?_ | with_reducible refine nL_lm ?_ ?_ | with_reducible refine nL_ll ?_ ?_ | ((with_reducible refine nL.tr (n_f_X8_quarter ..) ?_); first | assumption | rfl) | with_reducible intro _ | ((with_reducible apply_assumption); first | assumption | rfl)
set_option maxHeartbeats 40000 in
theorem n_f_X8_sine (x1 : Int32) (s : am_S) : nL Prod.snd s (f_X8_sine x1 s) := by
  unfold f_X8_sine
  repeat' first | with_reducible exact nL_none | ((with_reducible refine nL_some ?_); first | assumption | rfl) | with_reducible refine nL_ite ?_ ?_ | with_reducible refine nL_bi ?_ ?_ | with_reducible refine nL_bl ?_ ?_ | with_reducible refine nL_bu ?_ ?_ | with_reducible refine nL_jn ?_ ?_ | with_reducible refine nL_le ?_ | with_reducible refine nL_lm ?_ ?_ | with_reducible refine nL_ll ?_ ?_ | ((with_reducible refine nL.tr (n_f_X8_quarter ..) ?_); first | assumption | rfl) | ((with_reducible refine nL.tr (n_f_X8_sine_0 ..) ?_); first | assumption | rfl) | with_reducible intro _ | ((with_reducible apply_assumption); first | assumption | rfl)
set_option maxHeartbeats 40000 in
theorem n_f_X8_cosine (x1 : Int32) (s : am_S) : nL Prod.snd s (f_X8_cosine x1 s) := by
  unfold f_X8_cosine
  repeat' first | with_reducible exact nL_none | ((with_reducible refine nL_some ?_); first | assumption | rfl) | with_reducible refine nL_ite ?_ ?_ | with_reducible refine nL_bi ?_ ?_ | with_reducible refine nL_bl ?_ ?_ | with_reducible refine nL_bu ?_ ?_ | with_reducible refine nL_jn ?_ ?_ | with_reducible refine nL_le ?_ | with_reducible refine nL_lm ?_ ?_ | with_reducible refine nL_ll ?_ ?_ | ((with_reducible refine nL.tr (n_f_X8_sine ..) ?_); first | assumption | rfl) | with_reducible intro _ | ((with_reducible apply_assumption); first | assumption | rfl)
set_option maxHeartbeats 40000 in
theorem n_L_X8_laySines_15 : ∀ (m : Nat) (a0 : Int32) (s : am_S), nL stE s (L_X8_laySines_15 m a0 s)
  | 0, _, _ => fun r h => by cases h
  | m + 1, a0, s => by
    have ih := n_L_X8_laySines_15 m
    rw [L_X8_laySines_15]
    repeat' first | with_reducible exact nL_none | ((with_reducible refine nL_some ?_); first | assumption | rfl) | with_reducible refine nL_ite ?_ ?_ | with_reducible refine nL_bi ?_ ?_ | with_reducible refine nL_bl ?_ ?_ | with_reducible refine nL_bu ?_ ?_ | with_reducible refine nL_jn ?_ ?_ | with_reducible refine nL_le ?_ | with_reducible refine nL_lm ?_ ?_ | with_reducible refine nL_ll ?_ ?_ | ((with_reducible refine nL.tr (ih ..) ?_); first | assumption | rfl) | ((with_reducible refine nL.tr (n_f_X8_sine ..) ?_); first | assumption | rfl) | ((with_reducible refine nL.tr (n_f_X8_cosine ..) ?_); first | assumption | rfl) | with_reducible intro _ | ((with_reducible apply_assumption); first | assumption | rfl)
set_option maxHeartbeats 40000 in
theorem n_f_X8_laySines (s : am_S) : nL Prod.snd s (f_X8_laySines s) := by
  unfold f_X8_laySines
  repeat' first | with_reducible exact nL_none | ((with_reducible refine nL_some ?_); first | assumption | rfl) | with_reducible refine nL_ite ?_ ?_ | with_reducible refine nL_bi ?_ ?_ | with_reducible refine nL_bl ?_ ?_ | with_reducible refine nL_bu ?_ ?_ | with_reducible refine nL_jn ?_ ?_ | with_reducible refine nL_le ?_ | with_reducible refine nL_lm ?_ ?_ | with_reducible refine nL_ll ?_ ?_ | ((with_reducible refine nL.tr (n_L_X8_laySines_15 ..) ?_); first | assumption | rfl) | with_reducible intro _ | ((with_reducible apply_assumption); first | assumption | rfl)
set_option maxHeartbeats 40000 in
theorem n_f_X8_starts (x1 : Int32) (x2 : Int32) (s : am_S) : nL Prod.snd s (f_X8_starts x1 x2 s) := by
  unfold f_X8_starts
  repeat' first | with_reducible exact nL_none | ((with_reducible refine nL_some ?_); first | assumption | rfl) | with_reducible refine nL_ite ?_ ?_ | with_reducible refine nL_bi ?_ ?_ | with_reducible refine nL_bl ?_ ?_ | with_reducible refine nL_bu ?_ ?_ | with_reducible refine nL_jn ?_ ?_ | with_reducible refine nL_le ?_ | with_reducible refine nL_lm ?_ ?_ | with_reducible refine nL_ll ?_ ?_ | ((with_reducible refine nL.tr (n_f_X8_laySines ..) ?_); first | assumption | rfl) | with_reducible intro _ | ((with_reducible apply_assumption); first | assumption | rfl)
set_option maxHeartbeats 40000 in
theorem n_L_X8_path_7 : ∀ (m : Nat) (a0 : Int32) (a1 : Int64) (a2 : Int32) (s : am_S), nL stE s (L_X8_path_7 m a0 a1 a2 s)
  | 0, _, _, _, _ => fun r h => by cases h
  | m + 1, a0, a1, a2, s => by
    have ih := n_L_X8_path_7 m
    rw [L_X8_path_7]
    repeat' first | with_reducible exact nL_none | ((with_reducible refine nL_some ?_); first | assumption | rfl) | with_reducible refine nL_ite ?_ ?_ | with_reducible refine nL_bi ?_ ?_ | with_reducible refine nL_bl ?_ ?_ | with_reducible refine nL_bu ?_ ?_ | with_reducible refine nL_jn ?_ ?_ | with_reducible refine nL_le ?_ | with_reducible refine nL_lm ?_ ?_ | with_reducible refine nL_ll ?_ ?_ | ((with_reducible refine nL.tr (ih ..) ?_); first | assumption | rfl) | with_reducible intro _ | ((with_reducible apply_assumption); first | assumption | rfl)
set_option maxHeartbeats 40000 in
theorem n_f_X8_path (s : am_S) : nL Prod.snd s (f_X8_path s) := by
  unfold f_X8_path
  repeat' first | with_reducible exact nL_none | ((with_reducible refine nL_some ?_); first | assumption | rfl) | with_reducible refine nL_ite ?_ ?_ | with_reducible refine nL_bi ?_ ?_ | with_reducible refine nL_bl ?_ ?_ | with_reducible refine nL_bu ?_ ?_ | with_reducible refine nL_jn ?_ ?_ | with_reducible refine nL_le ?_ | with_reducible refine nL_lm ?_ ?_ | with_reducible refine nL_ll ?_ ?_ | ((with_reducible refine nL.tr (n_L_X8_path_7 ..) ?_); first | assumption | rfl) | with_reducible intro _ | ((with_reducible apply_assumption); first | assumption | rfl)
set_option maxHeartbeats 40000 in
theorem n_f_X8_kept (x1 : Int64) (x2 : Int32) (s : am_S) : nL Prod.snd s (f_X8_kept x1 x2 s) := by
  unfold f_X8_kept
  repeat' first | with_reducible exact nL_none | ((with_reducible refine nL_some ?_); first | assumption | rfl) | with_reducible refine nL_ite ?_ ?_ | with_reducible refine nL_bi ?_ ?_ | with_reducible refine nL_bl ?_ ?_ | with_reducible refine nL_bu ?_ ?_ | with_reducible refine nL_jn ?_ ?_ | with_reducible refine nL_le ?_ | with_reducible refine nL_lm ?_ ?_ | with_reducible refine nL_ll ?_ ?_ | with_reducible intro _ | ((with_reducible apply_assumption); first | assumption | rfl)
set_option maxHeartbeats 40000 in
theorem n_f_X8_heavy (s : am_S) : nL Prod.snd s (f_X8_heavy s) := by
  unfold f_X8_heavy
  repeat' first | with_reducible exact nL_none | ((with_reducible refine nL_some ?_); first | assumption | rfl) | with_reducible refine nL_ite ?_ ?_ | with_reducible refine nL_bi ?_ ?_ | with_reducible refine nL_bl ?_ ?_ | with_reducible refine nL_bu ?_ ?_ | with_reducible refine nL_jn ?_ ?_ | with_reducible refine nL_le ?_ | with_reducible refine nL_lm ?_ ?_ | with_reducible refine nL_ll ?_ ?_ | with_reducible intro _ | ((with_reducible apply_assumption); first | assumption | rfl)
set_option maxHeartbeats 40000 in
theorem n_L_X8_pull_10 : ∀ (m : Nat) (a0 : Int32) (a1 : Int32) (s : am_S), nL stE s (L_X8_pull_10 m a0 a1 s)
  | 0, _, _, _ => fun r h => by cases h
  | m + 1, a0, a1, s => by
    have ih := n_L_X8_pull_10 m
    rw [L_X8_pull_10]
    repeat' first | with_reducible exact nL_none | ((with_reducible refine nL_some ?_); first | assumption | rfl) | with_reducible refine nL_ite ?_ ?_ | with_reducible refine nL_bi ?_ ?_ | with_reducible refine nL_bl ?_ ?_ | with_reducible refine nL_bu ?_ ?_ | with_reducible refine nL_jn ?_ ?_ | with_reducible refine nL_le ?_ | with_reducible refine nL_lm ?_ ?_ | with_reducible refine nL_ll ?_ ?_ | ((with_reducible refine nL.tr (ih ..) ?_); first | assumption | rfl) | ((with_reducible refine nL.tr (n_f_X8_within ..) ?_); first | assumption | rfl) | with_reducible intro _ | ((with_reducible apply_assumption); first | assumption | rfl)
set_option maxHeartbeats 40000 in
theorem n_f_X8_pull (s : am_S) : nL Prod.snd s (f_X8_pull s) := by
  unfold f_X8_pull
  repeat' first | with_reducible exact nL_none | ((with_reducible refine nL_some ?_); first | assumption | rfl) | with_reducible refine nL_ite ?_ ?_ | with_reducible refine nL_bi ?_ ?_ | with_reducible refine nL_bl ?_ ?_ | with_reducible refine nL_bu ?_ ?_ | with_reducible refine nL_jn ?_ ?_ | with_reducible refine nL_le ?_ | with_reducible refine nL_lm ?_ ?_ | with_reducible refine nL_ll ?_ ?_ | ((with_reducible refine nL.tr (n_L_X8_pull_10 ..) ?_); first | assumption | rfl) | with_reducible intro _ | ((with_reducible apply_assumption); first | assumption | rfl)
set_option maxHeartbeats 40000 in
theorem n_f_X8_air (x1 : Int32) (s : am_S) : nL Prod.snd s (f_X8_air x1 s) := by
  unfold f_X8_air
  repeat' first | with_reducible exact nL_none | ((with_reducible refine nL_some ?_); first | assumption | rfl) | with_reducible refine nL_ite ?_ ?_ | with_reducible refine nL_bi ?_ ?_ | with_reducible refine nL_bl ?_ ?_ | with_reducible refine nL_bu ?_ ?_ | with_reducible refine nL_jn ?_ ?_ | with_reducible refine nL_le ?_ | with_reducible refine nL_lm ?_ ?_ | with_reducible refine nL_ll ?_ ?_ | ((with_reducible refine nL.tr (n_f_X8_path ..) ?_); first | assumption | rfl) | ((with_reducible refine nL.tr (n_f_X8_kept ..) ?_); first | assumption | rfl) | ((with_reducible refine nL.tr (n_f_X8_heavy ..) ?_); first | assumption | rfl) | ((with_reducible refine nL.tr (n_f_X8_pull ..) ?_); first | assumption | rfl) | with_reducible intro _ | ((with_reducible apply_assumption); first | assumption | rfl)
set_option maxHeartbeats 40000 in
theorem n_L_X8_tick_119 : ∀ (m : Nat) (a0 : Int32) (a1 : Int32) (a2 : Int32) (s : am_S), nL stE s (L_X8_tick_119 m a0 a1 a2 s)
  | 0, _, _, _, _ => fun r h => by cases h
  | m + 1, a0, a1, a2, s => by
    have ih := n_L_X8_tick_119 m
    rw [L_X8_tick_119]
    repeat' first | with_reducible exact nL_none | ((with_reducible refine nL_some ?_); first | assumption | rfl) | with_reducible refine nL_ite ?_ ?_ | with_reducible refine nL_bi ?_ ?_ | with_reducible refine nL_bl ?_ ?_ | with_reducible refine nL_bu ?_ ?_ | with_reducible refine nL_jn ?_ ?_ | with_reducible refine nL_le ?_ | with_reducible refine nL_lm ?_ ?_ | with_reducible refine nL_ll ?_ ?_ | ((with_reducible refine nL.tr (ih ..) ?_); first | assumption | rfl) | with_reducible intro _ | ((with_reducible apply_assumption); first | assumption | rfl)
set_option maxHeartbeats 40000 in
theorem n_f_X8_tick (x1 : Int32) (s : am_S) : nL Prod.snd s (f_X8_tick x1 s) := by
  unfold f_X8_tick
  repeat' first | with_reducible exact nL_none | ((with_reducible refine nL_some ?_); first | assumption | rfl) | with_reducible refine nL_ite ?_ ?_ | with_reducible refine nL_bi ?_ ?_ | with_reducible refine nL_bl ?_ ?_ | with_reducible refine nL_bu ?_ ?_ | with_reducible refine nL_jn ?_ ?_ | with_reducible refine nL_le ?_ | with_reducible refine nL_lm ?_ ?_ | with_reducible refine nL_ll ?_ ?_ | ((with_reducible refine nL.tr (n_f_X8_within ..) ?_); first | assumption | rfl) | ((with_reducible refine nL.tr (n_f_X8_air ..) ?_); first | assumption | rfl) | ((with_reducible refine nL.tr (n_L_X8_tick_119 ..) ?_); first | assumption | rfl) | with_reducible intro _ | ((with_reducible apply_assumption); first | assumption | rfl)
set_option maxHeartbeats 40000 in
theorem n_L_X8_flies_6 : ∀ (m : Nat) (a0 : Int32) (a1 : Int32) (s : am_S), nL stE s (L_X8_flies_6 m a0 a1 s)
  | 0, _, _, _ => fun r h => by cases h
  | m + 1, a0, a1, s => by
    have ih := n_L_X8_flies_6 m
    rw [L_X8_flies_6]
    repeat' first | with_reducible exact nL_none | ((with_reducible refine nL_some ?_); first | assumption | rfl) | with_reducible refine nL_ite ?_ ?_ | with_reducible refine nL_bi ?_ ?_ | with_reducible refine nL_bl ?_ ?_ | with_reducible refine nL_bu ?_ ?_ | with_reducible refine nL_jn ?_ ?_ | with_reducible refine nL_le ?_ | with_reducible refine nL_lm ?_ ?_ | with_reducible refine nL_ll ?_ ?_ | ((with_reducible refine nL.tr (ih ..) ?_); first | assumption | rfl) | ((with_reducible refine nL.tr (n_f_X8_tick ..) ?_); first | assumption | rfl) | with_reducible intro _ | ((with_reducible apply_assumption); first | assumption | rfl)
set_option maxHeartbeats 40000 in
theorem n_f_X8_flies (x1 : Int32) (x2 : Int32) (x3 : Int32) (x4 : Int32) (s : am_S) : nL Prod.snd s (f_X8_flies x1 x2 x3 x4 s) := by
  unfold f_X8_flies
  repeat' first | with_reducible exact nL_none | ((with_reducible refine nL_some ?_); first | assumption | rfl) | with_reducible refine nL_ite ?_ ?_ | with_reducible refine nL_bi ?_ ?_ | with_reducible refine nL_bl ?_ ?_ | with_reducible refine nL_bu ?_ ?_ | with_reducible refine nL_jn ?_ ?_ | with_reducible refine nL_le ?_ | with_reducible refine nL_lm ?_ ?_ | with_reducible refine nL_ll ?_ ?_ | ((with_reducible refine nL.tr (n_f_X8_starts ..) ?_); first | assumption | rfl) | ((with_reducible refine nL.tr (n_L_X8_flies_6 ..) ?_); first | assumption | rfl) | with_reducible intro _ | ((with_reducible apply_assumption); first | assumption | rfl)
set_option maxHeartbeats 40000 in
theorem n_f_X8_far (x1 : Int32) (x2 : Int32) (x3 : Int32) (x4 : Int32) (s : am_S) : nL Prod.snd s (f_X8_far x1 x2 x3 x4 s) := by
  unfold f_X8_far
  repeat' first | with_reducible exact nL_none | ((with_reducible refine nL_some ?_); first | assumption | rfl) | with_reducible refine nL_ite ?_ ?_ | with_reducible refine nL_bi ?_ ?_ | with_reducible refine nL_bl ?_ ?_ | with_reducible refine nL_bu ?_ ?_ | with_reducible refine nL_jn ?_ ?_ | with_reducible refine nL_le ?_ | with_reducible refine nL_lm ?_ ?_ | with_reducible refine nL_ll ?_ ?_ | ((with_reducible refine nL.tr (n_f_X8_flies ..) ?_); first | assumption | rfl) | with_reducible intro _ | ((with_reducible apply_assumption); first | assumption | rfl)
set_option maxHeartbeats 40000 in
theorem n_f_X8_throwsOf (x1 : Int32) (s : am_S) : nL Prod.snd s (f_X8_throwsOf x1 s) := by
  unfold f_X8_throwsOf
  repeat' first | with_reducible exact nL_none | ((with_reducible refine nL_some ?_); first | assumption | rfl) | with_reducible refine nL_ite ?_ ?_ | with_reducible refine nL_bi ?_ ?_ | with_reducible refine nL_bl ?_ ?_ | with_reducible refine nL_bu ?_ ?_ | with_reducible refine nL_jn ?_ ?_ | with_reducible refine nL_le ?_ | with_reducible refine nL_lm ?_ ?_ | with_reducible refine nL_ll ?_ ?_ | with_reducible intro _ | ((with_reducible apply_assumption); first | assumption | rfl)
set_option maxHeartbeats 40000 in
theorem n_f_X8_throwAt (x1 : Int32) (x2 : Int32) (s : am_S) : nL Prod.snd s (f_X8_throwAt x1 x2 s) := by
  unfold f_X8_throwAt
  repeat' first | with_reducible exact nL_none | ((with_reducible refine nL_some ?_); first | assumption | rfl) | with_reducible refine nL_ite ?_ ?_ | with_reducible refine nL_bi ?_ ?_ | with_reducible refine nL_bl ?_ ?_ | with_reducible refine nL_bu ?_ ?_ | with_reducible refine nL_jn ?_ ?_ | with_reducible refine nL_le ?_ | with_reducible refine nL_lm ?_ ?_ | with_reducible refine nL_ll ?_ ?_ | with_reducible intro _ | ((with_reducible apply_assumption); first | assumption | rfl)
set_option maxHeartbeats 40000 in
theorem n_L_X8_reachOf_6 : ∀ (m : Nat) (a0 : Int32) (a1 : Int32) (a2 : Int32) (a3 : Int64) (a4 : Int32) (s : am_S), nL stE s (L_X8_reachOf_6 m a0 a1 a2 a3 a4 s)
  | 0, _, _, _, _, _, _ => fun r h => by cases h
  | m + 1, a0, a1, a2, a3, a4, s => by
    have ih := n_L_X8_reachOf_6 m
    rw [L_X8_reachOf_6]
    repeat' first | with_reducible exact nL_none | ((with_reducible refine nL_some ?_); first | assumption | rfl) | with_reducible refine nL_ite ?_ ?_ | with_reducible refine nL_bi ?_ ?_ | with_reducible refine nL_bl ?_ ?_ | with_reducible refine nL_bu ?_ ?_ | with_reducible refine nL_jn ?_ ?_ | with_reducible refine nL_le ?_ | with_reducible refine nL_lm ?_ ?_ | with_reducible refine nL_ll ?_ ?_ | ((with_reducible refine nL.tr (ih ..) ?_); first | assumption | rfl) | ((with_reducible refine nL.tr (n_f_X8_far ..) ?_); first | assumption | rfl) | ((with_reducible refine nL.tr (n_f_X8_throwsOf ..) ?_); first | assumption | rfl) | ((with_reducible refine nL.tr (n_f_X8_throwAt ..) ?_); first | assumption | rfl) | with_reducible intro _ | ((with_reducible apply_assumption); first | assumption | rfl)
set_option maxHeartbeats 40000 in
theorem n_f_X8_reachOf (x1 : Int32) (x2 : Int32) (x3 : Int32) (s : am_S) : nL Prod.snd s (f_X8_reachOf x1 x2 x3 s) := by
  unfold f_X8_reachOf
  repeat' first | with_reducible exact nL_none | ((with_reducible refine nL_some ?_); first | assumption | rfl) | with_reducible refine nL_ite ?_ ?_ | with_reducible refine nL_bi ?_ ?_ | with_reducible refine nL_bl ?_ ?_ | with_reducible refine nL_bu ?_ ?_ | with_reducible refine nL_jn ?_ ?_ | with_reducible refine nL_le ?_ | with_reducible refine nL_lm ?_ ?_ | with_reducible refine nL_ll ?_ ?_ | ((with_reducible refine nL.tr (n_L_X8_reachOf_6 ..) ?_); first | assumption | rfl) | with_reducible intro _ | ((with_reducible apply_assumption); first | assumption | rfl)
end NL2
