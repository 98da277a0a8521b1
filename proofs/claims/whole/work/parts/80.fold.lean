/-! ===== paper: where each cell lies; the folds told by places ===== -/
abbrev Pos : Type := Nat × Nat
abbrev Ppr : Type := Nat × Nat × List Pos
section CNT
variable {l : List Pos} {f : Pos → Pos} {y y1 y2 : Pos}
theorem cnt_map2 (hd : y1 ≠ y2) : ∀ {l : List Pos}, (∀ x ∈ l, f x = y ↔ (x = y1 ∨ x = y2)) → (l.map f).count y = l.count y1 + l.count y2
  | [], _ => rfl
  | x :: l, hf => by
    have h1 := hf x List.mem_cons_self
    have h2 := cnt_map2 hd (l := l) (fun z hz => hf z (List.mem_cons_of_mem _ hz))
    rw [List.map_cons, List.count_cons, List.count_cons, List.count_cons, h2]
    by_cases e1 : x = y1
    · have e2 : ¬ x = y2 := fun e => hd (e1.symm.trans e)
      have e3 : f x = y := h1.mpr (Or.inl e1)
      simp [e1, e3, show ¬ y1 = y2 from hd, show f y1 = y by rw [← e1]; exact e3]; omega
    · by_cases e2 : x = y2
      · have e3 : f x = y := h1.mpr (Or.inr e2)
        simp [e2, show ¬ y2 = y1 from fun e => hd e.symm, show f y2 = y by rw [← e2]; exact e3]; omega
      · have e3 : ¬ f x = y := fun e => (h1.mp e).elim e1 e2
        simp [e1, e2, e3]
theorem cnt_map1 : ∀ {l : List Pos}, (∀ x ∈ l, f x = y ↔ x = y1) → (l.map f).count y = l.count y1
  | [], _ => rfl
  | x :: l, hf => by
    have h1 := hf x List.mem_cons_self
    have h2 := cnt_map1 (l := l) (fun z hz => hf z (List.mem_cons_of_mem _ hz))
    rw [List.map_cons, List.count_cons, List.count_cons, h2]
    by_cases e1 : x = y1
    · have e3 : f y1 = y := by rw [← e1]; exact h1.mpr e1
      simp [e1, e3]
    · have e3 : ¬ f x = y := fun e => e1 (h1.mp e)
      simp [e1, e3]
end CNT
def pf_nose (n : Nat) (p : Pos) : Pos := (if p.1 < n then n - 1 - p.1 else p.1 - n, p.2)
def pf_side (left : Nat) (p : Pos) : Pos := (p.1, if p.2 < left then p.2 else 2 * left - 1 - p.2)
def pf_corner (C n : Nat) (p : Pos) : Pos := if p.1 + (C - 1 - p.2) < n - 1 then (n - 1 - (C - 1 - p.2), C - n + p.1) else p
/-- all lie on the paper -/
def onP (R C : Nat) (l : List Pos) : Prop := ∀ p ∈ l, p.1 < R ∧ p.2 < C
def fits (l : List Pos) : Bool := l.all (fun p => decide (l.count p ≤ 32))
theorem fits_iff {l : List Pos} : fits l = true ↔ ∀ p, l.count p ≤ 32 := by
  unfold fits
  rw [List.all_eq_true]
  constructor
  · intro h p
    by_cases hp : p ∈ l
    · exact of_decide_eq_true (h p hp)
    · rw [List.count_eq_zero_of_not_mem hp]; omega
  · intro h p _
    exact decide_eq_true (h p)
section FC
variable {R C n : Nat} {l : List Pos}
theorem nose_on (h : onP R C l) (hn : 2 * n ≤ R) : onP (R - n) C (l.map (pf_nose n)) := by
  intro p hp
  obtain ⟨q, hq, e⟩ := List.mem_map.mp hp
  have h1 := h q hq
  subst e
  unfold pf_nose
  refine ⟨?_, h1.2⟩
  show (if q.1 < n then n - 1 - q.1 else q.1 - n) < R - n
  split <;> omega
theorem side_on (h : onP R C l) (hn : 2 * n ≤ C) (h1n : 1 ≤ n) : onP R (C - n) (l.map (pf_side (C - n))) := by
  intro p hp
  obtain ⟨q, hq, e⟩ := List.mem_map.mp hp
  have h1 := h q hq
  subst e
  unfold pf_side
  refine ⟨h1.1, ?_⟩
  show (if q.2 < C - n then q.2 else 2 * (C - n) - 1 - q.2) < C - n
  split <;> omega
theorem corner_on (h : onP R C l) (hR : n ≤ R) (hC : n ≤ C) : onP R C (l.map (pf_corner C n)) := by
  intro p hp
  obtain ⟨q, hq, e⟩ := List.mem_map.mp hp
  have h1 := h q hq
  subst e
  unfold pf_corner
  split
  · exact ⟨by show n - 1 - (C - 1 - q.2) < R; omega, by show C - n + q.1 < C; omega⟩
  · exact h1
theorem nose_cnt {r c : Nat} (hr : r < n) : (l.map (pf_nose n)).count (r, c) = l.count (r + n, c) + l.count (n - 1 - r, c) := by
  apply cnt_map2
  · intro e; have := congrArg Prod.fst e; simp only at this; omega
  · intro x _
    obtain ⟨a, b⟩ := x
    unfold pf_nose
    simp only [Prod.mk.injEq]
    split <;> omega
theorem nose_cnt2 {r c : Nat} (hr : n ≤ r) : (l.map (pf_nose n)).count (r, c) = l.count (r + n, c) := by
  apply cnt_map1
  intro x _
  obtain ⟨a, b⟩ := x
  unfold pf_nose
  simp only [Prod.mk.injEq]
  split <;> omega
theorem side_cnt {r c : Nat} (h : onP R C l) (h1 : C - 2 * n ≤ c) (h2 : c < C - n) (hn : 2 * n ≤ C) : (l.map (pf_side (C - n))).count (r, c) = l.count (r, c) + l.count (r, 2 * (C - n) - 1 - c) := by
  apply cnt_map2
  · intro e; have := congrArg Prod.snd e; simp only at this; omega
  · intro x hx
    have h3 := h x hx
    obtain ⟨a, b⟩ := x
    unfold pf_side
    simp only [Prod.mk.injEq] at h3 ⊢
    split <;> omega
theorem side_cnt2 {r c : Nat} (h : onP R C l) (h1 : c < C - 2 * n) (hn : 2 * n ≤ C) : (l.map (pf_side (C - n))).count (r, c) = l.count (r, c) := by
  apply cnt_map1
  intro x hx
  have h3 := h x hx
  obtain ⟨a, b⟩ := x
  unfold pf_side
  simp only [Prod.mk.injEq] at h3 ⊢
  split <;> omega
/-- where a corner cell goes -/
theorem corner_cnt {r c : Nat} (h : onP R C l) (hC : n ≤ C) (h1 : r ≤ n - 1) (hc : C - n ≤ c) (hcC : c < C) (h2 : (c - (C - n)) + (n - 1 - r) < n - 1) : (l.map (pf_corner C n)).count (r, c) = l.count (r, c) + l.count (c - (C - n), C - 1 - (n - 1 - r)) := by
  apply cnt_map2
  · intro e; have e1 := congrArg Prod.fst e; have e2 := congrArg Prod.snd e; simp only at e1 e2; omega
  · intro x hx
    have h3 := h x hx
    obtain ⟨a, b⟩ := x
    unfold pf_corner
    simp only [Prod.mk.injEq] at h3 ⊢
    split
    · simp only [Prod.mk.injEq]; omega
    · simp only [Prod.mk.injEq]; omega
theorem corner_cnt0 {r c : Nat} (h : onP R C l) (hC : n ≤ C) (hcC : c < C) (h2 : r + (C - 1 - c) < n - 1) : (l.map (pf_corner C n)).count (r, c) = 0 := by
  apply List.count_eq_zero_of_not_mem
  intro hm
  obtain ⟨q, hq, e⟩ := List.mem_map.mp hm
  have h3 := h q hq
  obtain ⟨a, b⟩ := q
  unfold pf_corner at e
  simp only at e h3
  split at e
  · simp only [Prod.mk.injEq] at e; omega
  · simp only [Prod.mk.injEq] at e; omega
theorem corner_cnt1 {r c : Nat} (h : onP R C l) (hC : n ≤ C) (hcC : c < C) (h2 : ¬ r + (C - 1 - c) < n - 1) (h4 : ¬ (r ≤ n - 1 ∧ C - n ≤ c ∧ (c - (C - n)) + (n - 1 - r) < n - 1)) : (l.map (pf_corner C n)).count (r, c) = l.count (r, c) := by
  apply cnt_map1
  intro x hx
  have h3 := h x hx
  obtain ⟨a, b⟩ := x
  unfold pf_corner
  simp only [Prod.mk.injEq] at h3 ⊢
  split
  · simp only [Prod.mk.injEq]; omega
  · simp only [Prod.mk.injEq]
end FC
/-- a fold: 0 nose, 1 side, 2 corner -/
def fo (k n : Nat) (P : Ppr) : Option Ppr :=
  if k = 0 then (if 1 ≤ n ∧ 2 * n ≤ P.1 ∧ fits (P.2.2.map (pf_nose n)) = true then some (P.1 - n, P.2.1, P.2.2.map (pf_nose n)) else none)
  else if k = 1 then (if 1 ≤ n ∧ 2 * n ≤ P.2.1 ∧ fits (P.2.2.map (pf_side (P.2.1 - n))) = true then some (P.1, P.2.1 - n, P.2.2.map (pf_side (P.2.1 - n))) else none)
  else if 2 ≤ n ∧ n ≤ P.1 ∧ n ≤ P.2.1 ∧ fits (P.2.2.map (pf_corner P.2.1 n)) = true then some (P.1, P.2.1, P.2.2.map (pf_corner P.2.1 n)) else none
/-- the folds one behind another: the number of the first that can't be, or the paper -/
def fos : List (Nat × Nat) → Nat → Ppr → Nat ⊕ Ppr
  | [], _, P => .inr P
  | q :: fs, i, P => match fo q.1 q.2 P with
    | none => .inl i
    | some P' => fos fs (i + 1) P'
/-- good paper -/
def okP (P : Ppr) : Prop := 1 ≤ P.1 ∧ P.1 ≤ 24 ∧ 1 ≤ P.2.1 ∧ P.2.1 ≤ 12 ∧ onP P.1 P.2.1 P.2.2 ∧ fits P.2.2 = true ∧ 1 ≤ P.2.2.length ∧ P.2.2.length ≤ 288
theorem fo_ok {k n : Nat} {P P' : Ppr} (h : okP P) (e : fo k n P = some P') : okP P' := by
  obtain ⟨h1, h2, h3, h4, h5, h6, h7, h8⟩ := h
  unfold fo at e
  split at e
  · split at e
    next hc => cases e; exact ⟨by show 1 ≤ P.1 - n; omega, by show P.1 - n ≤ 24; omega, h3, h4, nose_on h5 hc.2.1, hc.2.2, by simpa using h7, by simpa using h8⟩
    next => cases e
  · split at e
    · split at e
      next hc => cases e; exact ⟨h1, h2, by show 1 ≤ P.2.1 - n; omega, by show P.2.1 - n ≤ 12; omega, side_on h5 hc.2.1 hc.1, hc.2.2, by simpa using h7, by simpa using h8⟩
      next => cases e
    · split at e
      next hc => cases e; exact ⟨h1, h2, h3, h4, corner_on h5 hc.2.1 hc.2.2.1, hc.2.2.2, by simpa using h7, by simpa using h8⟩
      next => cases e
