/-! ===== small whole numbers as ints ===== -/
abbrev oN (n : Nat) : Int32 := Int32.ofNat n
section NUM
variable {a b k n : Nat}
theorem oN_add : Int32.ofNat a + Int32.ofNat b = Int32.ofNat (a + b) := (Int32.ofNat_add a b).symm
theorem oN_addL : Int32.ofNat a + (no_index (OfNat.ofNat k) : Int32) = Int32.ofNat (a + OfNat.ofNat k) := (Int32.ofNat_add a k).symm
theorem oN_addR : (no_index (OfNat.ofNat k) : Int32) + Int32.ofNat a = Int32.ofNat (OfNat.ofNat k + a) := (Int32.ofNat_add k a).symm
theorem oN_mulL : Int32.ofNat a * (no_index (OfNat.ofNat k) : Int32) = Int32.ofNat (a * OfNat.ofNat k) := (Int32.ofNat_mul a k).symm
theorem oN_mulR : (no_index (OfNat.ofNat k) : Int32) * Int32.ofNat a = Int32.ofNat (OfNat.ofNat k * a) := (Int32.ofNat_mul k a).symm
theorem oN_mul : Int32.ofNat a * Int32.ofNat b = Int32.ofNat (a * b) := (Int32.ofNat_mul a b).symm
theorem oN_sub (h : b ≤ a) : Int32.ofNat a - Int32.ofNat b = Int32.ofNat (a - b) := (Int32.ofNat_sub a b h).symm
theorem oN_subL (h : OfNat.ofNat k ≤ a) : Int32.ofNat a - (no_index (OfNat.ofNat k) : Int32) = Int32.ofNat (a - OfNat.ofNat k) := (Int32.ofNat_sub a k h).symm
theorem oN_subR (h : a ≤ OfNat.ofNat k) : (no_index (OfNat.ofNat k) : Int32) - Int32.ofNat a = Int32.ofNat (OfNat.ofNat k - a) := (Int32.ofNat_sub k a h).symm
theorem oN_nat (h : a < 2147483648) : (Int32.ofNat a).toNatClampNeg = a := Int32.toNatClampNeg_ofNat_of_lt h
theorem oN_int (h : a < 2147483648) : (Int32.ofNat a).toInt = a := Int32.toInt_ofNat_of_lt h
theorem oN_lt (ha : a < 2147483648) (hb : b < 2147483648) : Int32.ofNat a < Int32.ofNat b ↔ a < b := by
  rw [Int32.lt_iff_toInt_lt, oN_int ha, oN_int hb]; omega
theorem oN_le (ha : a < 2147483648) (hb : b < 2147483648) : Int32.ofNat a ≤ Int32.ofNat b ↔ a ≤ b := by
  rw [Int32.le_iff_toInt_le, oN_int ha, oN_int hb]; omega
theorem oN_eq (ha : a < 2147483648) (hb : b < 2147483648) : Int32.ofNat a = Int32.ofNat b ↔ a = b := by
  rw [← Int32.toInt_inj, oN_int ha, oN_int hb]; omega
theorem oN_ltL (ha : a < 2147483648) (hb : (OfNat.ofNat k : Nat) < 2147483648) : Int32.ofNat a < (no_index (OfNat.ofNat k) : Int32) ↔ a < OfNat.ofNat k := oN_lt ha hb
theorem oN_ltR (ha : a < 2147483648) (hb : (OfNat.ofNat k : Nat) < 2147483648) : (no_index (OfNat.ofNat k) : Int32) < Int32.ofNat a ↔ OfNat.ofNat k < a := oN_lt hb ha
theorem oN_leL (ha : a < 2147483648) (hb : (OfNat.ofNat k : Nat) < 2147483648) : Int32.ofNat a ≤ (no_index (OfNat.ofNat k) : Int32) ↔ a ≤ OfNat.ofNat k := oN_le ha hb
theorem oN_leR (ha : a < 2147483648) (hb : (OfNat.ofNat k : Nat) < 2147483648) : (no_index (OfNat.ofNat k) : Int32) ≤ Int32.ofNat a ↔ OfNat.ofNat k ≤ a := oN_le hb ha
theorem oN_eqL (ha : a < 2147483648) (hb : (OfNat.ofNat k : Nat) < 2147483648) : Int32.ofNat a = (no_index (OfNat.ofNat k) : Int32) ↔ a = OfNat.ofNat k := oN_eq ha hb
theorem oN_eqR (ha : a < 2147483648) (hb : (OfNat.ofNat k : Nat) < 2147483648) : (no_index (OfNat.ofNat k) : Int32) = Int32.ofNat a ↔ OfNat.ofNat k = a := oN_eq hb ha
theorem oN_neg1 (ha : a < 2147483648) : Int32.ofNat a = -1 ↔ False := by
  rw [← Int32.toInt_inj, oN_int ha]
  constructor
  · intro h
    have e : (-1 : Int32).toInt = -1 := rfl
    rw [e] at h
    omega
  · exact False.elim
theorem oN_nonneg (ha : a < 2147483648) : Int32.ofNat a < 0 ↔ False := by
  rw [Int32.lt_iff_toInt_lt, oN_int ha, Int32.toInt_zero]
  constructor
  · intro h; omega
  · exact False.elim
theorem oN_0le (ha : a < 2147483648) : 0 ≤ Int32.ofNat a ↔ True := by
  rw [Int32.le_iff_toInt_le, oN_int ha, Int32.toInt_zero]
  constructor
  · intro; trivial
  · intro; omega
theorem ax_in_iff {i : Int32} {n : Nat} : am_in i n = true ↔ 0 ≤ i.toInt ∧ i.toInt < n := by
  unfold am_in
  rw [decide_eq_true_iff, Int32.lt_iff_toInt_lt, Int32.toInt_zero]
  have : (i.toNatClampNeg : Int) = max i.toInt 0 := by
    show ((i.toInt.toNat : Nat) : Int) = _
    omega
  omega
theorem am_in_oN (ha : a < 2147483648) : am_in (Int32.ofNat a) n = decide (a < n) := by
  by_cases h : a < n
  · rw [decide_eq_true h, ax_in_iff, oN_int ha]; omega
  · rw [decide_eq_false h, ← Bool.not_eq_true, ax_in_iff, oN_int ha]; omega
theorem oN_of {x : Int32} (h : 0 ≤ x.toInt) : ∃ m : Nat, x = Int32.ofNat m ∧ (m : Int) = x.toInt ∧ m < 2147483648 := by
  refine ⟨x.toInt.toNat, ?_, by omega, by have := x.toInt_lt; omega⟩
  rw [← Int32.toInt_inj, oN_int (by have := x.toInt_lt; omega)]
  omega
/-- within two bounds -/
def wi (x : Int) (lo hi : Int) : Bool := decide (lo ≤ x ∧ x ≤ hi)
theorem wi_t {x lo hi : Int} : wi x lo hi = true ↔ lo ≤ x ∧ x ≤ hi := by unfold wi; rw [decide_eq_true_iff]
theorem wi_f {x lo hi : Int} : wi x lo hi = false ↔ ¬ (lo ≤ x ∧ x ≤ hi) := by rw [← Bool.not_eq_true, wi_t]
theorem f_needWithin {x lo hi : Int32} {s : am_S} : f_X7_needWithin x lo hi s = if wi x.toInt lo.toInt hi.toInt = true then some (.inl none, s) else some (.inr 0, am_tick s) := by
  unfold f_X7_needWithin
  simp only [Int32.lt_iff_toInt_lt, Int32.le_iff_toInt_le, wi_t]
  by_cases h1 : x.toInt < lo.toInt
  · rw [if_pos h1, if_neg (by omega)]
  · rw [if_neg h1]
    by_cases h2 : x.toInt ≤ hi.toInt
    · rw [if_pos h2, if_pos (by omega)]
    · rw [if_neg h2, if_neg (by omega)]
theorem f_within {x lo hi : Int64} {s : am_S} : f_X8_within x lo hi s = some (.inl (some (.int (if wi x.toInt lo.toInt hi.toInt = true then 1 else 0))), s) := by
  unfold f_X8_within
  simp only [Int64.lt_iff_toInt_lt, wi_t]
  by_cases h1 : x.toInt < lo.toInt
  · rw [if_pos h1, if_neg (by omega)]
  · rw [if_neg h1]
    by_cases h2 : hi.toInt < x.toInt
    · rw [if_pos h2, if_neg (by omega)]
    · rw [if_neg h2, if_pos (by omega)]
end NUM
/-! ===== what the heap holds behind a store; frames ===== -/
section MEM
variable {s s' s'' : am_S} {a b k j : Nat} {v : Int32} {l : Int64} {f : Nat → Int32}
theorem I_sI : am_I (am_sI s a k v) b j = if b = a ∧ j = k then v else am_I s b j := by
  show am_u s.1 a k v b j = _
  unfold am_u va_up
  by_cases h : b = a
  · rw [if_pos h]
    subst h
    by_cases h2 : j = k
    · rw [if_pos h2, if_pos ⟨rfl, h2⟩]
    · rw [if_neg h2, if_neg (fun h => h2 h.2)]
  · rw [if_neg h, if_neg (fun h' => h h'.1)]
theorem I_sIr : am_I (am_sI s a k v) b = if b = a then va_up (am_I s a) k v else am_I s b := rfl
theorem I_ne (h : ¬ b = a) : am_I (am_sI s a k v) b = am_I s b := by rw [I_sIr, if_neg h]
theorem I_sL : am_I (am_sL s a k l) b = am_I s b := rfl
theorem I_sA : am_I (am_sA s a f) b j = if b = a then f j else am_I s b j := by
  show am_w s.1 a f b j = _
  unfold am_w
  by_cases h : b = a
  · rw [if_pos h, if_pos h]
  · rw [if_neg h, if_neg h]
theorem I_sAne (h : ¬ b = a) : am_I (am_sA s a f) b = am_I s b := by
  show am_w s.1 a f b = _
  unfold am_w
  rw [if_neg h]
theorem I_tick : am_I (am_tick s) b = am_I s b := rfl
theorem L_sI : am_L (am_sI s a k v) b = am_L s b := rfl
theorem L_sA : am_L (am_sA s a f) b = am_L s b := rfl
theorem L_tick : am_L (am_tick s) b = am_L s b := rfl
theorem L_sL : am_L (am_sL s a k l) b j = if b = a ∧ j = k then l else am_L s b j := by
  show am_u s.2.1 a k l b j = _
  unfold am_u va_up
  by_cases h : b = a
  · rw [if_pos h]
    subst h
    by_cases h2 : j = k
    · rw [if_pos h2, if_pos ⟨rfl, h2⟩]
    · rw [if_neg h2, if_neg (fun h => h2 h.2)]
  · rw [if_neg h, if_neg (fun h' => h h'.1)]
theorem L_sLne (h : ¬ b = a) : am_L (am_sL s a k l) b = am_L s b := by
  show am_u s.2.1 a k l b = _
  unfold am_u
  rw [if_neg h]
/-- only the things of the list have changed -/
def fr (A : List Nat) (s s' : am_S) : Prop := (∀ a, a ∉ A → am_I s' a = am_I s a ∧ am_L s' a = am_L s a) ∧ s'.2.2 = s.2.2
theorem fr.refl {A : List Nat} : fr A s s := ⟨fun _ _ => ⟨rfl, rfl⟩, rfl⟩
theorem fr.I {A : List Nat} (h : fr A s s') (ha : a ∉ A) : am_I s' a = am_I s a := (h.1 a ha).1
theorem fr.L {A : List Nat} (h : fr A s s') (ha : a ∉ A) : am_L s' a = am_L s a := (h.1 a ha).2
theorem fr.R {A : List Nat} (h : fr A s s') : am_R s' = am_R s := by show s'.2.2.1 = s.2.2.1; rw [h.2]
theorem fr.K {A : List Nat} (h : fr A s s') : am_K s' = am_K s := by show s'.2.2.2.1 = s.2.2.2.1; rw [h.2]
theorem fr.trans {A : List Nat} (h : fr A s s') (h' : fr A s' s'') : fr A s s'' :=
  ⟨fun a ha => ⟨(h'.1 a ha).1.trans (h.1 a ha).1, (h'.1 a ha).2.trans (h.1 a ha).2⟩, h'.2.trans h.2⟩
theorem fr.mono {A B : List Nat} (h : fr A s s') (hs : A.all (fun a => decide (a ∈ B)) = true) : fr B s s' :=
  ⟨fun a ha => h.1 a (fun hm => ha (by simpa using List.all_eq_true.mp hs a hm)), h.2⟩
theorem fr.sI {A : List Nat} (h : fr A s s') (ha : a ∈ A) : fr A s (am_sI s' a k v) :=
  ⟨fun b hb => ⟨(I_ne (fun e => hb (by rw [e]; exact ha))).trans (h.1 b hb).1, (h.1 b hb).2⟩, h.2⟩
theorem fr.sA {A : List Nat} (h : fr A s s') (ha : a ∈ A) : fr A s (am_sA s' a f) :=
  ⟨fun b hb => ⟨(I_sAne (fun e => hb (by rw [e]; exact ha))).trans (h.1 b hb).1, (h.1 b hb).2⟩, h.2⟩
theorem fr.sL {A : List Nat} (h : fr A s s') (ha : a ∈ A) : fr A s (am_sL s' a k l) :=
  ⟨fun b hb => ⟨(h.1 b hb).1, (L_sLne (fun e => hb (by rw [e]; exact ha))).trans (h.1 b hb).2⟩, h.2⟩
end MEM
