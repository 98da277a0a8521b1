section P4
variable {a c ax ay : Int} {k k' d : Nat}
theorem fq_pos (hx : 0 ≤ ax) (hy : 0 ≤ ay) (hk : k ≤ 16) : 0 ≤ fq ax ay k := by
  have h := dir_t k (by omega)
  have h1 : 0 ≤ cs k ∧ 0 ≤ sn k := by
    rcases h with h | h | h | h
    · exact h.2
    all_goals omega
  unfold fq
  have m1 : 0 ≤ ax * cs k := Int.mul_nonneg hx h1.1
  have m2 : 0 ≤ ay * sn k := Int.mul_nonneg hy h1.2
  omega
/-- the value of each direction by its place in the quarter -/
theorem pv (a c : Int) (hd : d < 64) : ∃ q, q ≤ 16 ∧ 0 ≤ cs q ∧ 0 ≤ sn q ∧ ((d = q ∧ pval a c d = a * cs q + c * sn q) ∨ (16 < d ∧ d + q = 32 ∧ pval a c d = -(a * cs q) + c * sn q) ∨ (32 < d ∧ d = 32 + q ∧ pval a c d = -(a * cs q) + -(c * sn q)) ∨ (48 < d ∧ d + q = 64 ∧ pval a c d = a * cs q + -(c * sn q))) := by
  rcases dir_t d hd with h | h | h | h
  · exact ⟨d, h.1, h.2.1, h.2.2, Or.inl ⟨rfl, rfl⟩⟩
  · refine ⟨32 - d, by omega, h.2.2.2.2.1, h.2.2.2.2.2, Or.inr (Or.inl ⟨h.1, by omega, ?_⟩)⟩
    unfold pval
    rw [h.2.2.1, h.2.2.2.1, Int.mul_neg]
  · refine ⟨d - 32, by omega, h.2.2.2.2.1, h.2.2.2.2.2, Or.inr (Or.inr (Or.inl ⟨h.1, by omega, ?_⟩))⟩
    unfold pval
    rw [h.2.2.1, h.2.2.2.1, Int.mul_neg, Int.mul_neg]
  · refine ⟨64 - d, by omega, h.2.2.2.1, h.2.2.2.2, Or.inr (Or.inr (Or.inr ⟨h.1, by omega, ?_⟩))⟩
    unfold pval
    rw [h.2.1, h.2.2.1, Int.mul_neg]
theorem p1 (ha : 0 ≤ a) (hc : 0 ≤ c) (h : tp a c k) : pth a c = k := by
  have hk := h.1
  have vb : pval a c k = fq a c k := rfl
  refine am64_eq (by omega) (by omega) ?_ ?_
  · intro d hd
    obtain ⟨q, hq, p, s, hv⟩ := pv a c hd
    have m := tp_max h hq
    have m1 : 0 ≤ a * cs q := Int.mul_nonneg ha p
    have m2 : 0 ≤ c * sn q := Int.mul_nonneg hc s
    have fe : fq a c q = a * cs q + c * sn q := rfl
    rw [vb]
    rcases hv with hv | hv | hv | hv <;> omega
  · intro d hd
    exact tp_lt h hd
theorem p3 (ha : a < 0) (hc : c < 0) (h : tp (-a) (-c) k) : pth a c = 32 + k := by
  have hk := h.1
  have f16 : fq (-a) (-c) 16 ≤ fq (-a) (-c) k := tp_max h (by omega)
  have e16 : fq (-a) (-c) 16 = (-c) * 1000 := by unfold fq; rw [tabs.2.2.1, tabs.2.2.2.1, Int.mul_zero, Int.zero_add]
  have vb : pval a c (32 + k) = fq (-a) (-c) k := by
    obtain ⟨q, hq, p, s, hv⟩ := pv a c (show 32 + k < 64 by omega)
    have fe : fq (-a) (-c) k = -(a * cs k) + -(c * sn k) := by unfold fq; rw [Int.neg_mul, Int.neg_mul]
    rw [fe]
    rcases hv with hv | hv | hv | hv
    · omega
    · have : q = 0 := by omega
      have e0 : k = 0 := by omega
      subst this
      rw [hv.2.2, e0, tabs.1, Int.mul_zero]
      omega
    · have : q = k := by omega
      subst this
      exact hv.2.2
    · omega
  refine am64_eq (by omega) (by omega) ?_ ?_
  · intro d hd
    obtain ⟨q, hq, p, s, hv⟩ := pv a c hd
    have m := tp_max h hq
    have m1 : 0 ≤ (-a) * cs q := Int.mul_nonneg (by omega) p
    have m2 : 0 ≤ (-c) * sn q := Int.mul_nonneg (by omega) s
    have fe : fq (-a) (-c) q = (-a) * cs q + (-c) * sn q := rfl
    rw [Int.neg_mul] at m1 m2 fe
    rw [Int.neg_mul] at fe
    rw [vb]
    rcases hv with hv | hv | hv | hv <;> omega
  · intro d hd
    obtain ⟨q, hq, p, s, hv⟩ := pv a c (show d < 64 by omega)
    have m := tp_max h hq
    have m1 : 0 ≤ (-a) * cs q := Int.mul_nonneg (by omega) p
    have m2 : 0 ≤ (-c) * sn q := Int.mul_nonneg (by omega) s
    have fe : fq (-a) (-c) q = (-a) * cs q + (-c) * sn q := rfl
    rw [Int.neg_mul] at m1 m2 fe
    rw [Int.neg_mul] at fe
    rw [vb]
    rcases hv with hv | hv | hv | hv
    · omega
    · by_cases e : q = 0
      · have hq0 : q < k := by omega
        have := tp_lt h hq0
        rw [e, tabs.1] at fe hv
        rw [e] at this
        rw [Int.mul_zero] at fe hv
        omega
      · have : 0 < (-c) * sn q := Int.mul_pos (by omega) (sn_pos q hq (by omega))
        rw [Int.neg_mul] at this
        omega
    · have hq0 : q < k := by omega
      have := tp_lt h hq0
      omega
    · omega
theorem p4 (ha : 0 ≤ a) (hc : c < 0) (h : tp a (-c) k) (hk0 : 0 < k) (hl : lm a (-c) k k') : pth a c = 64 - k' := by
  have hk := h.1
  obtain ⟨l1, l2, l3, l4⟩ := hl
  have f16 : fq a (-c) 16 ≤ fq a (-c) k := tp_max h (by omega)
  have e16 : fq a (-c) 16 = (-c) * 1000 := by unfold fq; rw [tabs.2.2.1, tabs.2.2.2.1, Int.mul_zero, Int.zero_add]
  have vb : pval a c (64 - k') = fq a (-c) k := by
    rw [← l3]
    obtain ⟨q, hq, p, s, hv⟩ := pv a c (show 64 - k' < 64 by omega)
    have fe : fq a (-c) k' = a * cs k' + -(c * sn k') := by unfold fq; rw [Int.neg_mul]
    rw [fe]
    rcases hv with hv | hv | hv | hv
    · omega
    · omega
    · have e1 : q = 16 := by omega
      have e2 : k' = 16 := by omega
      rw [hv.2.2, e1, e2, tabs.2.2.2.1, Int.mul_zero]
      omega
    · have : q = k' := by omega
      rw [hv.2.2, this]
  refine am64_eq (by omega) (by omega) ?_ ?_
  · intro d hd
    obtain ⟨q, hq, p, s, hv⟩ := pv a c hd
    have m := tp_max h hq
    have m1 : 0 ≤ a * cs q := Int.mul_nonneg ha p
    have m2 : 0 ≤ (-c) * sn q := Int.mul_nonneg (by omega) s
    have fe : fq a (-c) q = a * cs q + (-c) * sn q := rfl
    rw [Int.neg_mul] at m2 fe
    rw [vb]
    rcases hv with hv | hv | hv | hv <;> omega
  · intro d hd
    obtain ⟨q, hq, p, s, hv⟩ := pv a c (show d < 64 by omega)
    have m := tp_max h hq
    have m1 : 0 ≤ a * cs q := Int.mul_nonneg ha p
    have m2 : 0 ≤ (-c) * sn q := Int.mul_nonneg (by omega) s
    have fe : fq a (-c) q = a * cs q + (-c) * sn q := rfl
    rw [Int.neg_mul] at m2 fe
    rw [vb]
    rcases hv with hv | hv | hv | hv
    · by_cases e : q = 0
      · have := tp_lt h hk0
        rw [e] at fe hv
        rw [tabs.1, Int.mul_zero] at fe hv
        omega
      · have : 0 < (-c) * sn q := Int.mul_pos (by omega) (sn_pos q hq (by omega))
        rw [Int.neg_mul] at this
        omega
    · omega
    · by_cases e : q = 16
      · have := l4 16 (by omega) (by omega)
        rw [e] at fe hv
        rw [tabs.2.2.2.1, Int.mul_zero] at fe hv
        omega
      · by_cases e2 : 0 < a
        · have : 0 < a * cs q := Int.mul_pos e2 (cs_pos q (by omega))
          omega
        · have e3 : a = 0 := by omega
          have : (-c) * sn q < (-c) * 1000 := Int.mul_lt_mul_of_pos_left (sn_lt q (by omega)) (by omega)
          rw [Int.neg_mul] at this
          have z : a * cs q = 0 := by rw [e3, Int.zero_mul]
          omega
    · have := l4 q (by omega) hq
      omega
theorem p4z (ha : 0 ≤ a) (hc : c < 0) (h : tp a (-c) 0) : pth a c = 0 := by
  refine am64_eq (by omega) (by omega) ?_ (fun d hd => absurd hd (Nat.not_lt_zero _))
  intro d hd
  have vb : pval a c 0 = fq a (-c) 0 := by unfold pval fq; rw [tabs.1, Int.mul_zero, Int.mul_zero]
  obtain ⟨q, hq, p, s, hv⟩ := pv a c hd
  have m := tp_max h hq
  have m1 : 0 ≤ a * cs q := Int.mul_nonneg ha p
  have m2 : 0 ≤ (-c) * sn q := Int.mul_nonneg (by omega) s
  have fe : fq a (-c) q = a * cs q + (-c) * sn q := rfl
  rw [Int.neg_mul] at m2 fe
  rw [vb]
  rcases hv with hv | hv | hv | hv <;> omega
theorem p2 (ha : a < 0) (hc : 0 ≤ c) (h : tp (-a) c k) (hl : lm (-a) c k k') : pth a c = 32 - k' := by
  have hk := h.1
  obtain ⟨l1, l2, l3, l4⟩ := hl
  have vb : pval a c (32 - k') = fq (-a) c k := by
    rw [← l3]
    obtain ⟨q, hq, p, s, hv⟩ := pv a c (show 32 - k' < 64 by omega)
    have fe : fq (-a) c k' = -(a * cs k') + c * sn k' := by unfold fq; rw [Int.neg_mul]
    rw [fe]
    rcases hv with hv | hv | hv | hv
    · have e1 : q = 16 := by omega
      have e2 : k' = 16 := by omega
      rw [hv.2, e1, e2, tabs.2.2.2.1, Int.mul_zero]
      omega
    · have : q = k' := by omega
      rw [hv.2.2, this]
    · omega
    · omega
  refine am64_eq (by omega) (by omega) ?_ ?_
  · intro d hd
    obtain ⟨q, hq, p, s, hv⟩ := pv a c hd
    have m := tp_max h hq
    have m1 : 0 ≤ (-a) * cs q := Int.mul_nonneg (by omega) p
    have m2 : 0 ≤ c * sn q := Int.mul_nonneg hc s
    have fe : fq (-a) c q = (-a) * cs q + c * sn q := rfl
    rw [Int.neg_mul] at m1 fe
    rw [vb]
    rcases hv with hv | hv | hv | hv <;> omega
  · intro d hd
    obtain ⟨q, hq, p, s, hv⟩ := pv a c (show d < 64 by omega)
    have m := tp_max h hq
    have m1 : 0 ≤ (-a) * cs q := Int.mul_nonneg (by omega) p
    have m2 : 0 ≤ c * sn q := Int.mul_nonneg hc s
    have fe : fq (-a) c q = (-a) * cs q + c * sn q := rfl
    rw [Int.neg_mul] at m1 fe
    rw [vb]
    rcases hv with hv | hv | hv | hv
    · by_cases e : q = 16
      · have := l4 16 (by omega) (by omega)
        rw [e] at fe hv
        rw [tabs.2.2.2.1, Int.mul_zero] at fe hv
        omega
      · have : 0 < (-a) * cs q := Int.mul_pos (by omega) (cs_pos q (by omega))
        rw [Int.neg_mul] at this
        omega
    · have := l4 q (by omega) hq
      omega
    · omega
    · omega
end P4
