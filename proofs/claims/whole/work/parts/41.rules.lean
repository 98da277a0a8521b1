/-! ===== more locals do no harm ===== -/
def ax_sub (ls ls' : am_Ls) : Prop := ∀ i v, am_get ls i = some v → am_get ls' i = some v
def am_U (ls : am_Ls) : Prop := (ls.map fun q => q.1).Nodup
theorem ax_find_cons {α : Type} {k : Nat} {q : Nat × α} {l : List (Nat × α)} : am_find k (q :: l) = if q.1 = k then some q.2 else am_find k l := rfl
theorem ax_find_mem {α : Type} {k : Nat} {v : α} : ∀ {l : List (Nat × α)}, am_find k l = some v → (k, v) ∈ l
  | [], h => by cases h
  | q :: l, h => by
    rw [ax_find_cons] at h
    split at h
    next e => cases h; cases e; exact List.mem_cons_self
    next => exact List.mem_cons_of_mem _ (ax_find_mem h)
theorem am_find_of {α : Type} {k : Nat} {v : α} : ∀ {l : List (Nat × α)}, (l.map fun q => q.1).Nodup → (k, v) ∈ l → am_find k l = some v
  | [], _, h => by cases h
  | q :: l, u, h => by
    rw [ax_find_cons]
    rw [List.map_cons, List.nodup_cons] at u
    rcases List.mem_cons.mp h with h | h
    · subst h; rw [if_pos rfl]
    · rw [if_neg ?_]
      · exact am_find_of u.2 h
      · intro e
        exact u.1 (List.mem_map.mpr ⟨(k, v), h, e.symm⟩)
theorem am_find_keep {α : Type} {k : Nat} {v : α} {p : Nat × α → Bool} (hp : p (k, v) = true) : ∀ {l : List (Nat × α)}, am_find k l = some v → am_find k (l.filter p) = some v
  | [], h => by cases h
  | q :: l, h => by
    rw [ax_find_cons] at h
    split at h
    next e =>
      cases h
      have e2 : p q = true := by rw [← hp, ← e]
      rw [List.filter_cons_of_pos e2, ax_find_cons, if_pos e]
    next e =>
      cases hq : p q with
      | true => rw [List.filter_cons_of_pos hq, ax_find_cons, if_neg e]; exact am_find_keep hp h
      | false => rw [List.filter_cons_of_neg (by simp [hq])]; exact am_find_keep hp h
theorem am_U.filter {l : am_Ls} {p : Nat × Value → Bool} (u : am_U l) : am_U (l.filter p) := List.Nodup.sublist (List.Sublist.map _ List.filter_sublist) u
theorem am_find_back {l : am_Ls} {p : Nat × Value → Bool} {k : Nat} {v : Value} (u : am_U l) (h : am_find k (l.filter p) = some v) : am_find k l = some v ∧ p (k, v) = true := by
  have h1 := List.mem_filter.mp (ax_find_mem h)
  exact ⟨am_find_of u h1.1, h1.2⟩
theorem am_find_out {l : am_Ls} {p : Nat × Value → Bool} {k : Nat} (hp : ∀ v, p (k, v) = false) : am_find k (l.filter p) = none := by
  cases h : am_find k (l.filter p) with
  | none => rfl
  | some v =>
    have h1 := (List.mem_filter.mp (ax_find_mem h)).2
    rw [hp v] at h1
    cases h1
theorem am_find_ins {i k : Nat} {v : Value} : ∀ {l : am_Ls}, am_find i l = none → am_find k (am_ins i v l) = if k = i then some v else am_find k l
  | [], _ => by
    rw [am_ins, ax_find_cons]
    by_cases e : k = i
    · rw [if_pos e, if_pos e.symm]
    · rw [if_neg e, if_neg (fun h => e h.symm)]
  | q :: l, h => by
    rw [ax_find_cons] at h
    split at h
    · cases h
    next hq =>
      rw [am_ins]
      split
      next =>
        rw [ax_find_cons]
        by_cases e : k = i
        · rw [if_pos e, if_pos e.symm]
        · rw [if_neg e, if_neg (fun h => e h.symm)]
      next =>
        rw [ax_find_cons, am_find_ins h, ax_find_cons]
        by_cases e : k = i
        · subst e; rw [if_neg hq, if_pos rfl, if_pos rfl]
        · simp only [if_neg e]
theorem am_ins_keys {i : Nat} {v : Value} : ∀ {l : am_Ls}, am_find i l = none → am_U l → am_U (am_ins i v l) ∧ ∀ j, j ∈ ((am_ins i v l).map fun q => q.1) → j = i ∨ j ∈ (l.map fun q => q.1)
  | [], _, _ => by
    refine ⟨by simp [am_ins, am_U], ?_⟩
    intro j hj
    simp [am_ins] at hj
    exact Or.inl hj
  | q :: l, h, u => by
    rw [ax_find_cons] at h
    split at h
    · cases h
    next hq =>
      have u' : q.1 ∉ (l.map fun q => q.1) ∧ am_U l := by
        have := u; rw [am_U, List.map_cons, List.nodup_cons] at this; exact this
      obtain ⟨h1, h2⟩ := am_ins_keys (v := v) h u'.2
      have hi : i ∉ (l.map fun q => q.1) := by
        intro hm
        obtain ⟨p, hp, e⟩ := List.mem_map.mp hm
        have := am_find_of u'.2 (k := p.1) (v := p.2) hp
        rw [e, h] at this
        cases this
      rw [am_ins]
      split
      next =>
        refine ⟨?_, ?_⟩
        · rw [am_U, List.map_cons, List.nodup_cons]
          refine ⟨?_, u⟩
          intro hm
          rw [List.map_cons, List.mem_cons] at hm
          rcases hm with hm | hm
          · exact hq hm.symm
          · exact hi hm
        · intro j hj
          rw [List.map_cons, List.mem_cons] at hj
          exact hj
      next =>
        refine ⟨?_, ?_⟩
        · rw [am_U, List.map_cons, List.nodup_cons]
          refine ⟨?_, h1⟩
          intro hm
          rcases h2 _ hm with e | e
          · exact hq e
          · exact u'.1 e
        · intro j hj
          rw [List.map_cons, List.mem_cons] at hj ⊢
          rcases hj with hj | hj
          · exact Or.inr (Or.inl hj)
          · rcases h2 _ hj with e | e
            · exact Or.inl e
            · exact Or.inr (Or.inr e)
theorem am_set_p {i : Nat} {v : Value} (ls ls' : am_Ls) (p : Nat × Value → Bool) (hp : ∀ w, p (i, w) = false) (hs : ax_sub ls ls') (u : am_U ls) : ax_sub (am_ins i v (ls.filter p)) (am_ins i v (ls'.filter p)) ∧ am_U (am_ins i v (ls.filter p)) := by
  refine ⟨?_, (am_ins_keys (am_find_out hp) u.filter).1⟩
  intro j w hw
  unfold am_get at hw ⊢
  rw [am_find_ins (am_find_out hp)] at hw ⊢
  by_cases e : j = i
  · rw [if_pos e] at hw ⊢; exact hw
  · rw [if_neg e] at hw ⊢
    obtain ⟨h1, h2⟩ := am_find_back u hw
    exact am_find_keep h2 (hs _ _ h1)
theorem ax_set_sub {i : Nat} {v : Value} {ls ls' : am_Ls} (hs : ax_sub ls ls') (u : am_U ls) : ax_sub (am_set ls i v) (am_set ls' i v) ∧ am_U (am_set ls i v) := by
  unfold am_set
  split
  · exact am_set_p ls ls' _ (by intro w; simp) hs u
  · exact am_set_p ls ls' _ (by intro w; simp) hs u
theorem ax_drop_sub {i : Nat} {ls ls' : am_Ls} (hs : ax_sub ls ls') (u : am_U ls) : ax_sub (am_drop ls i) (am_drop ls' i) ∧ am_U (am_drop ls i) := by
  refine ⟨?_, u.filter⟩
  intro j w hw
  obtain ⟨h1, h2⟩ := am_find_back u hw
  exact am_find_keep h2 (hs _ _ h1)
theorem am_step_sub {M : am_M} {pc pc1 len : Nat} {ins : Instr} {ls ls' l1 : am_Ls} {st st1 : List Value} {σ σ1 : am_S} (hs : ax_sub ls ls') (u : am_U ls) (h : am_step M pc ins len ls st σ = some (pc1, l1, st1, σ1)) :
    ∃ l1', am_step M pc ins len ls' st σ = some (pc1, l1', st1, σ1) ∧ ax_sub l1 l1' ∧ am_U l1 := by
  unfold am_step at h ⊢
  cases hc : am_cst M ins with
  | some v => simp only [hc] at h ⊢; cases h; exact ⟨ls', rfl, hs, u⟩
  | none =>
    simp only [hc] at h ⊢
    cases hl : am_ld ins with
    | some q =>
      obtain ⟨i, t⟩ := q
      simp only [hl] at h ⊢
      cases hg : am_get ls i with
      | none => simp only [hg] at h; cases h
      | some v =>
        simp only [hg] at h
        simp only [hs i v hg]
        split at h
        next ht => cases h; rw [if_pos ht]; exact ⟨ls', rfl, hs, u⟩
        next => cases h
    | none =>
      simp only [hl] at h ⊢
      cases ht : am_sto ins with
      | some q =>
        obtain ⟨i, t⟩ := q
        simp only [ht] at h ⊢
        cases st with
        | nil => cases h
        | cons v st' =>
          simp only at h ⊢
          split at h
          next e => cases h; rw [if_pos e]; obtain ⟨h1, h2⟩ := ax_set_sub (i := i) (v := v) hs u; exact ⟨_, rfl, h1, h2⟩
          next => cases h
      | none =>
        simp only [ht] at h ⊢
        cases hp : am_pure ins st with
        | some q => simp only [hp] at h ⊢; cases h; exact ⟨ls', rfl, hs, u⟩
        | none =>
          simp only [hp] at h ⊢
          cases hj : am_jump pc ins st with
          | some q => simp only [hj] at h ⊢; cases h; exact ⟨ls', rfl, hs, u⟩
          | none =>
            simp only [hj] at h ⊢
            split at h
            next i n =>
              cases hg : am_get ls i with
              | none => simp only [hg] at h; cases h
              | some v =>
                simp only [hg] at h
                simp only [hs i v hg]
                cases v with
                | int x =>
                  simp only at h ⊢
                  split at h
                  next e => cases h; rw [if_pos e]; obtain ⟨h1, h2⟩ := ax_set_sub (i := i) (v := .int (x + Int32.ofInt n)) hs u; exact ⟨_, rfl, h1, h2⟩
                  next => cases h
                | _ => cases h
            next hni =>
              cases hm : am_mem M σ ins st with
              | none => simp only [hm] at h; cases h
              | some q => simp only [hm] at h ⊢; cases h; exact ⟨ls', rfl, hs, u⟩
theorem am_run_sub : ∀ (n d : Nat) (M : am_M) (pc : Nat) (ls ls' : am_Ls) (st : List Value) (σ : am_S) (r : am_O × am_S), ax_sub ls ls' → am_U ls → am_run n d M pc ls st σ = some r → am_run n d M pc ls' st σ = some r
  | 0, _, _, _, _, _, _, _, _, _, _, h => by simp [am_run] at h
  | n + 1, d, M, pc, ls, ls', st, σ, r, hs, u, h => by
    rw [am_run] at h ⊢
    cases hd : decode (am_code M) pc with
    | error e => rw [hd] at h; cases h
    | ok q =>
      obtain ⟨ins, len⟩ := q
      rw [hd] at h
      simp only at h ⊢
      cases hl0 : am_lok ins len with
      | false => simp only [hl0, if_true] at h; cases h
      | true =>
      simp only [hl0, Bool.true_eq_false, if_false] at h ⊢
      cases he : am_end M ins st with
      | some v => simp only [he] at h ⊢; exact h
      | none =>
        simp only [he] at h ⊢
        cases ht : am_thr M pc ins with
        | some v => simp only [ht] at h ⊢; exact h
        | none =>
          simp only [ht] at h ⊢
          cases hi : am_inv M σ ins st with
          | some q =>
            obtain ⟨M', av, rest⟩ := q
            simp only [hi] at h ⊢
            cases d with
            | zero => cases h
            | succ d' =>
              simp only at h ⊢
              cases hr : am_run n d' M' 0 (lv_args 0 av) [] σ with
              | none => simp only [hr] at h; cases h
              | some z =>
                simp only [hr] at h ⊢
                obtain ⟨o, s'⟩ := z
                cases o with
                | inl v => simp only at h ⊢; exact am_run_sub n _ M _ _ _ _ _ r hs u h
                | inr x =>
                  simp only at h ⊢
                  cases hxo : am_xok M ins with
                  | false => simp only [hxo, if_true] at h; cases h
                  | true =>
                  simp only [hxo, Bool.true_eq_false, if_false] at h ⊢
                  by_cases hh : am_hh M = []
                  · simp only [hh, if_true] at h ⊢; exact h
                  · simp only [hh, if_false] at h ⊢
                    cases hw : am_row M pc x (am_hh M) with
                    | none => simp only [hw] at h; cases h
                    | some y =>
                      obtain ⟨a, b⟩ := y
                      simp only [hw] at h ⊢
                      obtain ⟨h1, h2⟩ := ax_drop_sub (i := b) hs u
                      exact am_run_sub n _ M _ _ _ _ _ r h1 h2 h
          | none =>
            simp only [hi] at h ⊢
            cases hst : am_step M pc ins len ls st σ with
            | none => simp only [hst] at h; cases h
            | some y =>
              obtain ⟨a, b, c, e⟩ := y
              simp only [hst] at h
              obtain ⟨l1', e1, h1, h2⟩ := am_step_sub hs u hst
              simp only [e1]
              exact am_run_sub n _ M _ _ _ _ _ r h1 h2 h
/-- the locals that are asked for stand there -/
def am_lt (ls' : am_Ls) : am_Ls → Prop
  | [] => True
  | q :: l => am_get ls' q.1 = some q.2 ∧ am_lt ls' l
theorem am_lt_sub {ls' : am_Ls} : ∀ {ls : am_Ls}, am_lt ls' ls → ax_sub ls ls'
  | [], _ => fun _ _ h => by cases h
  | q :: l, h => by
    intro i v hv
    unfold am_get at hv
    rw [ax_find_cons] at hv
    split at hv
    next e => cases hv; cases e; exact h.1
    next => exact am_lt_sub h.2 i v hv
def am_srt : List Nat → Bool
  | [] => true
  | [_] => true
  | a :: b :: l => Nat.blt a b && am_srt (b :: l)
theorem am_srt_mem : ∀ {l : List Nat} {a b : Nat}, am_srt (a :: l) = true → b ∈ l → a < b
  | [], _, _, _, h => by cases h
  | c :: l, a, b, h, hb => by
    rw [am_srt, Bool.and_eq_true] at h
    have h1 : a < c := Nat.le_of_ble_eq_true h.1
    rcases List.mem_cons.mp hb with e | e
    · rw [e]; exact h1
    · exact Nat.lt_trans h1 (am_srt_mem h.2 e)
theorem am_srt_U : ∀ {l : List Nat}, am_srt l = true → l.Nodup
  | [], _ => List.nodup_nil
  | a :: l, h => by
    rw [List.nodup_cons]
    refine ⟨fun hm => Nat.lt_irrefl _ (am_srt_mem h hm), ?_⟩
    cases l with
    | nil => exact List.nodup_nil
    | cons b l => rw [am_srt, Bool.and_eq_true] at h; exact am_srt_U h.2
theorem wp_sub {d : Nat} {M : am_M} {pc : Nat} {ls ls' : am_Ls} {st : List Value} {σ : am_S} {Q : am_O → am_S → Prop} (h : am_WP d M pc ls st σ Q) (hu : am_srt (ls.map fun q => q.1) = true) (hs : am_lt ls' ls) : am_WP d M pc ls' st σ Q := by
  obtain ⟨n, o, s', hr, q⟩ := h
  exact ⟨n, o, s', am_run_sub n d M pc ls ls' st σ _ (am_lt_sub hs) (am_srt_U hu) hr, q⟩
/-! ===== the walked functions: their sort, their joints ===== -/
abbrev am_F : Type := Option (am_O × am_S)
abbrev am_FE (E : Type) : Type := Option ((am_O × am_S) ⊕ (E × am_S))
def am_ok {R : Type} (r : Option R) (P : R → Prop) : Prop := ∃ x, r = some x ∧ P x
theorem ok_mk {R : Type} {x : R} {P : R → Prop} (h : P x) : am_ok (some x) P := ⟨x, rfl, h⟩
theorem ok_s {R : Type} {x : R} {P : R → Prop} (k : am_ok (some x) P) : P x := by
  obtain ⟨y, e, h⟩ := k
  cases e
  exact h
theorem ok_no {R : Type} {P : R → Prop} (k : am_ok none P) : False := by
  obtain ⟨y, e, h⟩ := k
  cases e
def am_jn {T R : Type} (J : T → am_S → Option R) (b : (T → am_S → Option R) → Option R) : Option R := b J
def ax_le {α R : Type} (v : α) (g : α → Option R) : Option R := g v
def am_bi {R : Type} (x : am_F) (g : Int32 → am_S → Option R) : Option R := match x with
  | some (.inl (some (.int v)), s) => g v s
  | _ => none
def am_bl {R : Type} (x : am_F) (g : Int64 → am_S → Option R) : Option R := match x with
  | some (.inl (some (.long v)), s) => g v s
  | _ => none
def am_bu {R : Type} (x : am_F) (g : am_S → Option R) : Option R := match x with
  | some (.inl none, s) => g s
  | _ => none
def am_bv {R : Type} (x : am_F) (g : Value → am_S → Option R) : Option R := match x with
  | some (.inl (some v), s) => g v s
  | _ => none
def am_ti (x : am_F) (g : Int32 → am_S → am_F) : am_F := match x with
  | some (.inl (some (.int v)), s) => g v s
  | some (.inr e, s) => some (.inr e, s)
  | _ => none
def am_tl (x : am_F) (g : Int64 → am_S → am_F) : am_F := match x with
  | some (.inl (some (.long v)), s) => g v s
  | some (.inr e, s) => some (.inr e, s)
  | _ => none
def am_tu (x : am_F) (g : am_S → am_F) : am_F := match x with
  | some (.inl none, s) => g s
  | some (.inr e, s) => some (.inr e, s)
  | _ => none
def am_tv (x : am_F) (g : Value → am_S → am_F) : am_F := match x with
  | some (.inl (some v), s) => g v s
  | some (.inr e, s) => some (.inr e, s)
  | _ => none
def am_xi (x : am_F) (g : Int32 → am_S → am_F) (r : Nat → am_S → am_F) : am_F := match x with
  | some (.inl (some (.int v)), s) => g v s
  | some (.inr e, s) => r e s
  | _ => none
def am_xl (x : am_F) (g : Int64 → am_S → am_F) (r : Nat → am_S → am_F) : am_F := match x with
  | some (.inl (some (.long v)), s) => g v s
  | some (.inr e, s) => r e s
  | _ => none
def am_xu (x : am_F) (g : am_S → am_F) (r : Nat → am_S → am_F) : am_F := match x with
  | some (.inl none, s) => g s
  | some (.inr e, s) => r e s
  | _ => none
def am_lm {E : Type} (x : am_FE E) (g : E → am_S → am_F) : am_F := match x with
  | some (.inl r) => some r
  | some (.inr (e, s)) => g e s
  | none => none
def am_ll {E E' : Type} (x : am_FE E) (g : E → am_S → am_FE E') : am_FE E' := match x with
  | some (.inl r) => some (.inl r)
  | some (.inr (e, s)) => g e s
  | none => none
def am_mv {R : Type} (v : Value) (A : Option R) (B : Nat → Option R) : Option R := match v with
  | .null => A
  | .ref t => B t
  | _ => none
def am_mr {R : Type} (v : Option Nat) (A : Option R) (B : Nat → Option R) : Option R := match v with
  | none => A
  | some t => B t
theorem ok_pos {R : Type} {c : Prop} [Decidable c] {A B : Option R} {P : R → Prop} (hc : c) (k : am_ok (if c then A else B) P) : am_ok A P := by rw [if_pos hc] at k; exact k
theorem ok_neg {R : Type} {c : Prop} [Decidable c] {A B : Option R} {P : R → Prop} (hc : ¬ c) (k : am_ok (if c then A else B) P) : am_ok B P := by rw [if_neg hc] at k; exact k
theorem ok_g {R : Type} {c : Prop} [Decidable c] {A : Option R} {P : R → Prop} (k : am_ok (if c then A else none) P) : c ∧ am_ok A P := by
  by_cases hc : c
  · exact ⟨hc, ok_pos hc k⟩
  · exact (ok_no (ok_neg hc k)).elim
theorem ok_bi {R : Type} {x : am_F} {g : Int32 → am_S → Option R} {P : R → Prop} {P' : am_O × am_S → Prop} (k : am_ok (am_bi x g) P) (H : ∀ v s, am_ok (g v s) P → P' (.inl (some (.int v)), s)) : am_ok x P' := by
  unfold am_bi at k
  split at k
  next v s => exact ok_mk (H v s k)
  next => exact (ok_no k).elim
theorem ok_bl {R : Type} {x : am_F} {g : Int64 → am_S → Option R} {P : R → Prop} {P' : am_O × am_S → Prop} (k : am_ok (am_bl x g) P) (H : ∀ v s, am_ok (g v s) P → P' (.inl (some (.long v)), s)) : am_ok x P' := by
  unfold am_bl at k
  split at k
  next v s => exact ok_mk (H v s k)
  next => exact (ok_no k).elim
theorem ok_bu {R : Type} {x : am_F} {g : am_S → Option R} {P : R → Prop} {P' : am_O × am_S → Prop} (k : am_ok (am_bu x g) P) (H : ∀ s, am_ok (g s) P → P' (.inl none, s)) : am_ok x P' := by
  unfold am_bu at k
  split at k
  next s => exact ok_mk (H s k)
  next => exact (ok_no k).elim
theorem ok_bv {R : Type} {x : am_F} {g : Value → am_S → Option R} {P : R → Prop} {P' : am_O × am_S → Prop} (k : am_ok (am_bv x g) P) (H : ∀ v s, am_ok (g v s) P → P' (.inl (some v), s)) : am_ok x P' := by
  unfold am_bv at k
  split at k
  next v s => exact ok_mk (H v s k)
  next => exact (ok_no k).elim
theorem ok_ti {x : am_F} {g : Int32 → am_S → am_F} {P P' : am_O × am_S → Prop} (k : am_ok (am_ti x g) P) (H : ∀ v s, am_ok (g v s) P → P' (.inl (some (.int v)), s)) (H2 : ∀ e s, P (.inr e, s) → P' (.inr e, s)) : am_ok x P' := by
  unfold am_ti at k
  split at k
  next v s => exact ok_mk (H v s k)
  next e s => exact ok_mk (H2 e s (ok_s k))
  next => exact (ok_no k).elim
theorem ok_tl {x : am_F} {g : Int64 → am_S → am_F} {P P' : am_O × am_S → Prop} (k : am_ok (am_tl x g) P) (H : ∀ v s, am_ok (g v s) P → P' (.inl (some (.long v)), s)) (H2 : ∀ e s, P (.inr e, s) → P' (.inr e, s)) : am_ok x P' := by
  unfold am_tl at k
  split at k
  next v s => exact ok_mk (H v s k)
  next e s => exact ok_mk (H2 e s (ok_s k))
  next => exact (ok_no k).elim
theorem ok_tu {x : am_F} {g : am_S → am_F} {P P' : am_O × am_S → Prop} (k : am_ok (am_tu x g) P) (H : ∀ s, am_ok (g s) P → P' (.inl none, s)) (H2 : ∀ e s, P (.inr e, s) → P' (.inr e, s)) : am_ok x P' := by
  unfold am_tu at k
  split at k
  next s => exact ok_mk (H s k)
  next e s => exact ok_mk (H2 e s (ok_s k))
  next => exact (ok_no k).elim
theorem ok_tv {x : am_F} {g : Value → am_S → am_F} {P P' : am_O × am_S → Prop} (k : am_ok (am_tv x g) P) (H : ∀ v s, am_ok (g v s) P → P' (.inl (some v), s)) (H2 : ∀ e s, P (.inr e, s) → P' (.inr e, s)) : am_ok x P' := by
  unfold am_tv at k
  split at k
  next v s => exact ok_mk (H v s k)
  next e s => exact ok_mk (H2 e s (ok_s k))
  next => exact (ok_no k).elim
theorem ok_xi {x : am_F} {g : Int32 → am_S → am_F} {r : Nat → am_S → am_F} {P P' : am_O × am_S → Prop} (k : am_ok (am_xi x g r) P) (H : ∀ v s, am_ok (g v s) P → P' (.inl (some (.int v)), s)) (H2 : ∀ e s, am_ok (r e s) P → P' (.inr e, s)) : am_ok x P' := by
  unfold am_xi at k
  split at k
  next v s => exact ok_mk (H v s k)
  next e s => exact ok_mk (H2 e s k)
  next => exact (ok_no k).elim
theorem ok_xl {x : am_F} {g : Int64 → am_S → am_F} {r : Nat → am_S → am_F} {P P' : am_O × am_S → Prop} (k : am_ok (am_xl x g r) P) (H : ∀ v s, am_ok (g v s) P → P' (.inl (some (.long v)), s)) (H2 : ∀ e s, am_ok (r e s) P → P' (.inr e, s)) : am_ok x P' := by
  unfold am_xl at k
  split at k
  next v s => exact ok_mk (H v s k)
  next e s => exact ok_mk (H2 e s k)
  next => exact (ok_no k).elim
theorem ok_xu {x : am_F} {g : am_S → am_F} {r : Nat → am_S → am_F} {P P' : am_O × am_S → Prop} (k : am_ok (am_xu x g r) P) (H : ∀ s, am_ok (g s) P → P' (.inl none, s)) (H2 : ∀ e s, am_ok (r e s) P → P' (.inr e, s)) : am_ok x P' := by
  unfold am_xu at k
  split at k
  next s => exact ok_mk (H s k)
  next e s => exact ok_mk (H2 e s k)
  next => exact (ok_no k).elim
theorem ok_lm {E : Type} {x : am_FE E} {g : E → am_S → am_F} {P : am_O × am_S → Prop} (k : am_ok (am_lm x g) P) : am_ok x (fun r => match r with | .inl r => P r | .inr (e, s) => am_ok (g e s) P) := by
  unfold am_lm at k
  split at k
  next r => have k1 := ok_s k; exact ⟨_, rfl, k1⟩
  next e s => exact ⟨_, rfl, k⟩
  next => exact (ok_no k).elim
theorem ok_ll {E E' : Type} {x : am_FE E} {g : E → am_S → am_FE E'} {P : (am_O × am_S) ⊕ (E' × am_S) → Prop} (k : am_ok (am_ll x g) P) : am_ok x (fun r => match r with | .inl r => P (.inl r) | .inr (e, s) => am_ok (g e s) P) := by
  unfold am_ll at k
  split at k
  next r => have k1 := ok_s k; exact ⟨_, rfl, k1⟩
  next e s => exact ⟨_, rfl, k⟩
  next => exact (ok_no k).elim
theorem ok_mv {R : Type} {v : Value} {A : Option R} {B : Nat → Option R} {P : R → Prop} (k : am_ok (am_mv v A B) P) : (v = .null ∧ am_ok A P) ∨ ∃ t, v = .ref t ∧ am_ok (B t) P := by
  unfold am_mv at k
  split at k
  next => exact Or.inl ⟨rfl, k⟩
  next t => exact Or.inr ⟨t, rfl, k⟩
  next => exact (ok_no k).elim
theorem ok_mn {R : Type} {v : Value} {B : Nat → Option R} {P : R → Prop} (k : am_ok (am_mv v none B) P) : ∃ t, v = .ref t ∧ am_ok (B t) P := by
  rcases ok_mv k with ⟨_, k⟩ | k
  · exact (ok_no k).elim
  · exact k
theorem ok_mr {R : Type} {v : Option Nat} {A : Option R} {B : Nat → Option R} {P : R → Prop} (k : am_ok (am_mr v A B) P) : (v = none ∧ am_ok A P) ∨ ∃ t, v = some t ∧ am_ok (B t) P := by
  unfold am_mr at k
  split at k
  next => exact Or.inl ⟨rfl, k⟩
  next t => exact Or.inr ⟨t, rfl, k⟩
theorem jn_rule {T R : Type} {J : T → am_S → Option R} {b : (T → am_S → Option R) → Option R} {P : R → Prop} {W : Prop} (k : am_ok (am_jn J b) P) (H : ∀ J', (∀ x s, am_ok (J' x s) P → am_ok (J x s) P) → am_ok (b J') P → W) : W := H J (fun _ _ h => h) k
/-- how often a loop may go round -/
noncomputable def ax_fuel : Nat := Classical.choose (⟨1000, rfl⟩ : ∃ n : Nat, n = 1000)
theorem ax_fuel_is : ax_fuel = 1000 := Classical.choose_spec (⟨1000, rfl⟩ : ∃ n : Nat, n = 1000)
