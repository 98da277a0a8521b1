/-! ===== the path's direction: the first of the greatest ===== -/
def am64 (val : Nat → Int) : Nat → Nat
  | 0 => 0
  | n + 1 => if n = 0 then 0 else if val (am64 val n) < val n then n else am64 val n
def pval (a c : Int) (d : Nat) : Int := a * cs d + c * sn d
def pth (a c : Int) : Nat := am64 (pval a c) 64
section AM
variable {val : Nat → Int} {n b : Nat}
theorem am64_is : ∀ n, 1 ≤ n → am64 val n < n ∧ (∀ d, d < n → val d ≤ val (am64 val n)) ∧ (∀ d, d < am64 val n → val d < val (am64 val n)) := by
  intro n
  induction n with
  | zero => intro h; omega
  | succ n ih =>
    intro _
    rw [am64]
    by_cases e : n = 0
    · rw [if_pos e]
      exact ⟨by omega, fun d hd => by rw [show d = 0 by omega]; exact Int.le_refl _, fun d hd => absurd hd (Nat.not_lt_zero _)⟩
    · rw [if_neg e]
      obtain ⟨h1, h2, h3⟩ := ih (by omega)
      by_cases e2 : val (am64 val n) < val n
      · rw [if_pos e2]
        refine ⟨by omega, ?_, ?_⟩
        · intro d hd
          by_cases e3 : d = n
          · rw [e3]; exact Int.le_refl _
          · have := h2 d (by omega); omega
        · intro d hd
          have := h2 d hd
          omega
      · rw [if_neg e2]
        refine ⟨by omega, ?_, h3⟩
        intro d hd
        by_cases e3 : d = n
        · rw [e3]; omega
        · exact h2 d (by omega)
theorem am64_eq (hn : 1 ≤ n) (hb : b < n) (h1 : ∀ d, d < n → val d ≤ val b) (h2 : ∀ d, d < b → val d < val b) : am64 val n = b := by
  obtain ⟨g1, g2, g3⟩ := am64_is (val := val) n hn
  apply Nat.le_antisymm
  · apply Nat.le_of_not_lt
    intro hh
    have := g3 b hh
    have := h1 _ g1
    omega
  · apply Nat.le_of_not_lt
    intro hh
    have := h2 _ hh
    have := g2 _ hb
    omega
end AM
/-! one quarter -/
def fq (ax ay : Int) (k : Nat) : Int := ax * cs k + ay * sn k
def Dq (ax ay : Int) (k : Nat) : Int := ay * rs k - ax * rs (15 - k)
section QU
variable {ax ay : Int} {i j k : Nat}
theorem rs_dec : ∀ j, j < 16 → ∀ i, i < j → rs j < rs i := by decide +kernel
theorem rs_pos : ∀ j, j < 16 → 0 < rs j ∧ rs j ≤ 98 := by decide +kernel
theorem step_t : ∀ k, k < 16 → sn (k + 1) - sn k = rs k ∧ cs (k + 1) - cs k = - rs (15 - k) := by decide +kernel
theorem f_step (hk : k < 16) : fq ax ay (k + 1) - fq ax ay k = Dq ax ay k := by
  have h := step_t k hk
  unfold fq Dq
  have e1 : ax * cs (k + 1) - ax * cs k = ax * (- rs (15 - k)) := by rw [← Int.mul_sub, h.2]
  have e2 : ay * sn (k + 1) - ay * sn k = ay * rs k := by rw [← Int.mul_sub, h.1]
  rw [Int.mul_neg] at e1
  omega
theorem Dlt (hx : 0 ≤ ax) (hy : 0 ≤ ay) (hs : 0 < ax ∨ 0 < ay) (hij : i < j) (hj : j < 16) : Dq ax ay j < Dq ax ay i := by
  have h1 := rs_dec j hj i hij
  have h2 := rs_dec (15 - i) (by omega) (15 - j) (by omega)
  unfold Dq
  have m1 : ay * rs j ≤ ay * rs i := Int.mul_le_mul_of_nonneg_left (by omega) hy
  have m2 : ax * rs (15 - i) ≤ ax * rs (15 - j) := Int.mul_le_mul_of_nonneg_left (by omega) hx
  rcases hs with hs | hs
  · have m3 : ax * rs (15 - i) < ax * rs (15 - j) := Int.mul_lt_mul_of_pos_left h2 hs
    omega
  · have m3 : ay * rs j < ay * rs i := Int.mul_lt_mul_of_pos_left h1 hs
    omega
theorem Dle (hx : 0 ≤ ax) (hy : 0 ≤ ay) (hij : i ≤ j) (hj : j < 16) : Dq ax ay j ≤ Dq ax ay i := by
  by_cases e : i = j
  · rw [e]; exact Int.le_refl _
  · by_cases hs : 0 < ax ∨ 0 < ay
    · exact Int.le_of_lt (Dlt hx hy hs (by omega) hj)
    · have e1 : ax = 0 := by omega
      have e2 : ay = 0 := by omega
      unfold Dq
      rw [e1, e2]
      omega
theorem f_up (h : ∀ j, i ≤ j → j < k → 0 < Dq ax ay j) (hk : k ≤ 16) (hik : i < k) : fq ax ay i < fq ax ay k := by
  induction k with
  | zero => omega
  | succ k ih =>
    have h1 := f_step (ax := ax) (ay := ay) (show k < 16 by omega)
    have h2 := h k (by omega) (by omega)
    by_cases e : i = k
    · rw [e]; omega
    · have := ih (fun j h1 h2 => h j h1 (by omega)) (by omega) (by omega)
      omega
theorem f_down (h : ∀ j, i ≤ j → j < k → Dq ax ay j ≤ 0) (hk : k ≤ 16) (hik : i ≤ k) : fq ax ay k ≤ fq ax ay i := by
  induction k with
  | zero => rw [show i = 0 by omega]; exact Int.le_refl _
  | succ k ih =>
    by_cases e : i = k + 1
    · rw [e]; exact Int.le_refl _
    · have h1 := f_step (ax := ax) (ay := ay) (show k < 16 by omega)
      have h2 := h k (by omega) (by omega)
      have := ih (fun j h1 h2 => h j h1 (by omega)) (by omega) (by omega)
      omega
theorem f_downS (h : ∀ j, i ≤ j → j < k → Dq ax ay j < 0) (hk : k ≤ 16) (hik : i < k) : fq ax ay k < fq ax ay i := by
  have h1 := f_step (ax := ax) (ay := ay) (show i < 16 by omega)
  have h2 := h i (Nat.le_refl _) hik
  have h3 := f_down (i := i + 1) (k := k) (ax := ax) (ay := ay) (fun j a b => Int.le_of_lt (h j (by omega) b)) hk (by omega)
  omega
/-- the turning place of a quarter -/
def tp (ax ay : Int) (k : Nat) : Prop := k ≤ 16 ∧ (∀ j, j < k → 0 < Dq ax ay j) ∧ (∀ j, k ≤ j → j < 16 → Dq ax ay j ≤ 0)
theorem tp_max (h : tp ax ay k) (hj : j ≤ 16) : fq ax ay j ≤ fq ax ay k := by
  obtain ⟨h1, h2, h3⟩ := h
  by_cases e : j < k
  · exact Int.le_of_lt (f_up (fun i a b => h2 i b) h1 e)
  · exact f_down (fun i a b => h3 i a (by omega)) hj (by omega)
theorem tp_lt (h : tp ax ay k) (hj : j < k) : fq ax ay j < fq ax ay k := f_up (fun i a b => h.2.1 i b) h.1 hj
/-- the last of the greatest of a quarter -/
def lm (ax ay : Int) (k k' : Nat) : Prop := k' ≤ 16 ∧ k ≤ k' ∧ fq ax ay k' = fq ax ay k ∧ ∀ j, k' < j → j ≤ 16 → fq ax ay j < fq ax ay k
theorem tp_last (hx : 0 ≤ ax) (hy : 0 ≤ ay) (hs : 0 < ax ∨ 0 < ay) (h : tp ax ay k) : lm ax ay k (if k < 16 ∧ ay * rs k = ax * rs (15 - k) then k + 1 else k) := by
  obtain ⟨h1, h2, h3⟩ := h
  by_cases e : k < 16 ∧ ay * rs k = ax * rs (15 - k)
  · rw [if_pos e]
    have d0 : Dq ax ay k = 0 := by unfold Dq; omega
    have s0 := f_step (ax := ax) (ay := ay) e.1
    have e1 : fq ax ay (k + 1) = fq ax ay k := by omega
    refine ⟨by omega, by omega, e1, ?_⟩
    intro j hj hj2
    rw [← e1]
    apply f_downS _ hj2 hj
    intro i a b
    have := Dlt hx hy hs (show k < i by omega) (show i < 16 by omega)
    omega
  · rw [if_neg e]
    refine ⟨h1, Nat.le_refl _, rfl, ?_⟩
    intro j hj hj2
    apply f_downS _ hj2 hj
    intro i a b
    have hk : k < 16 := by omega
    have dk : Dq ax ay k < 0 := by
      have := h3 k (Nat.le_refl _) hk
      have : Dq ax ay k ≠ 0 := by
        intro h0
        apply e
        refine ⟨hk, ?_⟩
        unfold Dq at h0
        omega
      omega
    have := Dle hx hy a (show i < 16 by omega)
    omega
/-- where a direction lies: its quarter, its place there -/
theorem dir_t : ∀ d, d < 64 → (d ≤ 16 ∧ 0 ≤ cs d ∧ 0 ≤ sn d) ∨ (16 < d ∧ d ≤ 32 ∧ cs d = - cs (32 - d) ∧ sn d = sn (32 - d) ∧ 0 ≤ cs (32 - d) ∧ 0 ≤ sn (32 - d)) ∨ (32 < d ∧ d ≤ 48 ∧ cs d = - cs (d - 32) ∧ sn d = - sn (d - 32) ∧ 0 ≤ cs (d - 32) ∧ 0 ≤ sn (d - 32)) ∨ (48 < d ∧ cs d = cs (64 - d) ∧ sn d = - sn (64 - d) ∧ 0 ≤ cs (64 - d) ∧ 0 ≤ sn (64 - d)) := by decide +kernel
theorem sn_pos : ∀ k, k ≤ 16 → 1 ≤ k → 0 < sn k := by decide +kernel
theorem cs_pos : ∀ k, k < 16 → 0 < cs k := by decide +kernel
theorem sn_lt : ∀ k, k < 16 → sn k < 1000 := by decide +kernel
theorem tabs : sn 0 = 0 ∧ cs 0 = 1000 ∧ sn 16 = 1000 ∧ cs 16 = 0 ∧ sn 32 = 0 ∧ cs 32 = -1000 ∧ sn 48 = -1000 ∧ cs 48 = 0 := by decide +kernel
end QU
