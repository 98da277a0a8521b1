/-! ===== the shape of the heap behind the constructors ===== -/
def am_kT : List (Nat × Nat) := [(7, 0), (5, 0), (20, 23), (23, 6), (23, 5), (4, 0), (20, 33), (4, 0), (20, 33), (4, 0), (20, 33), (4, 0), (20, 33), (4, 0), (20, 33), (4, 0), (20, 33), (4, 0), (20, 33), (4, 0), (20, 33), (4, 0), (20, 33), (4, 0), (20, 33), (4, 0), (20, 33), (4, 0), (20, 33), (4, 0), (20, 33), (4, 0), (20, 33), (24, 3), (3, 0), (20, 400), (25, 4), (2, 0), (20, 288), (2, 0), (20, 288), (1, 0), (4, 0), (20, 33), (20, 23), (0, 0), (20, 16), (6, 0), (21, 12), (6, 0), (21, 12), (6, 0), (21, 12), (6, 0), (21, 12), (8, 0), (20, 264), (20, 792), (22, 3), (20, 400), (20, 23), (20, 23), (20, 288), (20, 288), (20, 288), (20, 64), (20, 64), (20, 16), (20, 4), (20, 4), (21, 48), (21, 1)]
def am_rT : List (List (Nat × Nat)) := [[(0, 1), (1, 33), (2, 34), (3, 36), (4, 37), (5, 39), (6, 41), (7, 42), (8, 44), (9, 45), (10, 46)], [(3, 2), (4, 3), (6, 4), (8, 5), (9, 7), (10, 9)], [], [(0, 11), (1, 13), (2, 15), (3, 17), (4, 19), (5, 21)], [(0, 23), (1, 25), (2, 27), (3, 29), (4, 31)], [(0, 6)], [], [(0, 8)], [], [(0, 10)], [], [(0, 12)], [], [(0, 14)], [], [(0, 16)], [], [(0, 18)], [], [(0, 20)], [], [(0, 22)], [], [(0, 24)], [], [(0, 26)], [], [(0, 28)], [], [(0, 30)], [], [(0, 32)], [], [], [(0, 35)], [], [(0, 47), (1, 49), (2, 51), (3, 53)], [(0, 38)], [], [(0, 40)], [], [(0, 1), (1, 37)], [(0, 43)], [], [], [], [], [(0, 48)], [], [(0, 50)], [], [(0, 52)], [], [(0, 54)], [], [(0, 56), (1, 57), (2, 58), (4, 59), (5, 60), (6, 61), (17, 62), (18, 63), (19, 64), (28, 65), (29, 66), (50, 67), (51, 68), (52, 69), (53, 70)], [], [], [], [], [], [], [], [], [], [], [], [], [], [], [], []]
def am_tT : List Nat := [4, 4, 6, 4, 4, 4, 4, 4, 4, 4, 4, 4, 6, 4, 4, 4, 4, 4, 4, 4]
def am_sT : List Nat := [23, 7, 7, 7, 7, 17, 16]
def am_k0 (a : Nat) : Nat × Nat :=
  if a < 72 then (am_kT[a]?).getD (99, 0) else if a < 168 then (am_kT[1 + (a - 72) % 32]?).getD (99, 0) else if a < 1000000 then (99, 0) else if a < 1000020 then (18, (am_tT[a - 1000000]?).getD 0) else if a < 3000000 then (99, 0) else if a < 3000007 then (19, (am_sT[a - 3000000]?).getD 0) else (99, 0)
def am_r0 (a k : Nat) : Option Nat :=
  if a < 72 then am_find k ((am_rT[a]?).getD []) else if a < 168 then (am_find k ((am_rT[1 + (a - 72) % 32]?).getD [])).map (fun b => b + (71 + (a - 72) / 32 * 32)) else none
def ax_nn (n : Nat) : Prop := n = 72 ∨ n = 104 ∨ n = 136 ∨ n = 168
/-- N: how long the script is; n: how many things there are -/
def am_sh (N n : Nat) (σ : am_S) : Prop :=
  ax_nn n ∧ am_n σ = n ∧ (∀ a, a < n → am_K σ a = am_k0 a) ∧ (∀ a, 1000000 ≤ a → a ≠ 2000000 → am_K σ a = am_k0 a) ∧ am_K σ 2000000 = (19, N) ∧ (∀ a k, a < n → a ≠ 33 → am_R σ a k = am_r0 a k) ∧ (∀ k b, am_R σ 33 k = some b → am_k0 b = (5, 0) ∧ b < n)
/-- a thing of one of the classes -/
def am_kf (n a c : Nat) : Prop := am_k0 a = (c, 0) ∧ a < n
section SH
variable {N n : Nat} {σ : am_S}
theorem nn_72 (h : ax_nn n) : 72 ≤ n := by unfold ax_nn at h; omega
theorem nn_168 (h : ax_nn n) : n ≤ 168 := by unfold ax_nn at h; omega
theorem sh_sI {a k : Nat} {v : Int32} (h : am_sh N n σ) : am_sh N n (am_sI σ a k v) := h
theorem sh_sL {a k : Nat} {v : Int64} (h : am_sh N n σ) : am_sh N n (am_sL σ a k v) := h
theorem sh_sA {a : Nat} {f : Nat → Int32} (h : am_sh N n σ) : am_sh N n (am_sA σ a f) := h
theorem sh_tk (h : am_sh N n σ) : am_sh N n (am_tick σ) := h
theorem kk_f {a c : Nat} (h : am_sh N n σ) (hf : am_kf n a c) : am_K σ a = (c, 0) := by rw [h.2.2.1 a hf.2]; exact hf.1
theorem kk_up {a c : Nat} (h : am_sh N n σ) (hf : am_k0 a = (c, 0) ∧ a < 72) : am_kf n a c := ⟨hf.1, Nat.lt_of_lt_of_le hf.2 (nn_72 h.1)⟩
theorem kk_n {a : Nat} {q : Nat × Nat} (h : am_sh N n σ) (e : am_k0 a = q) (l : a < 72) : am_K σ a = q := by rw [h.2.2.1 a (Nat.lt_of_lt_of_le l (nn_72 h.1))]; exact e
theorem rr_n {a k : Nat} {q : Option Nat} (h : am_sh N n σ) (e : am_r0 a k = q) (l : a < 72) (l3 : a ≠ 33) : am_R σ a k = q := by rw [h.2.2.2.2.2.1 a k (Nat.lt_of_lt_of_le l (nn_72 h.1)) l3]; exact e
theorem kk_script (h : am_sh N n σ) : am_K σ 2000000 = (19, (am_K σ 2000000).2) := by rw [h.2.2.2.2.1]
theorem kk_s {a : Nat} {q : Nat × Nat} (h : am_sh N n σ) (e : am_k0 a = q) (l : 1000000 ≤ a) (l3 : a ≠ 2000000) : am_K σ a = q := by rw [h.2.2.2.1 a l l3]; exact e
theorem k0_big {a : Nat} (h : 168 ≤ a) : (am_k0 a).1 = 99 ∨ (am_k0 a).1 = 18 ∨ (am_k0 a).1 = 19 := by
  unfold am_k0
  rw [if_neg (by omega), if_neg (by omega)]
  split
  · exact Or.inl rfl
  · split
    · exact Or.inr (Or.inl rfl)
    · split
      · exact Or.inl rfl
      · split
        · exact Or.inr (Or.inr rfl)
        · exact Or.inl rfl
theorem k0_lt {a c : Nat} (h : am_k0 a = (c, 0)) (h1 : c < 18) : a < 168 := by
  apply Nat.lt_of_not_le
  intro hl
  have := k0_big hl
  rw [h] at this
  simp only at this
  omega
theorem k0_txt {a : Nat} (h : (am_k0 a).1 = 18) : 1000000 ≤ a ∧ a < 1000020 := by
  by_cases h0 : a < 168
  · have : ∀ a, a < 168 → (am_k0 a).1 ≠ 18 := by decide +kernel
    exact absurd h (this a h0)
  · unfold am_k0 at h
    rw [if_neg (by omega), if_neg (by omega)] at h
    split at h
    · cases h
    · split at h
      · omega
      · split at h
        · cases h
        · split at h
          · cases h
          · cases h
theorem kk_t {a : Nat} (h : am_sh N n σ) (e : (am_k0 a).1 = 18) : am_K σ a = (18, (am_k0 a).2) := by
  have := k0_txt e
  rw [h.2.2.2.1 a (by omega) (by omega), ← e]
theorem rows_tab : ∀ a, a < 168 → am_k0 a = (4, 0) → am_k0 (a + 1) = (20, 33) ∧ am_r0 a 0 = some (a + 1) ∧ a ≠ 33 := by decide +kernel
theorem paper_tab : ∀ a, a < 168 → am_k0 a = (2, 0) → am_k0 (a + 1) = (20, 288) ∧ am_r0 a 0 = some (a + 1) ∧ a ≠ 33 := by decide +kernel
theorem tray_tab : ∀ a, a < 168 → am_k0 a = (6, 0) → am_k0 (a + 1) = (21, 12) ∧ am_r0 a 0 = some (a + 1) ∧ a ≠ 33 := by decide +kernel
theorem next_tab : ∀ a, a < 168 → ((am_k0 a).1 = 4 ∨ (am_k0 a).1 = 2 ∨ (am_k0 a).1 = 6) → a ≠ 71 ∧ a ≠ 103 ∧ a ≠ 135 ∧ a ≠ 167 := by decide +kernel
theorem stock_tab : ∀ a, a < 168 → am_k0 a = (5, 0) → a = 1 ∨ a = 72 ∨ a = 104 ∨ a = 136 := by decide +kernel
end SH
section SH2
variable {N n : Nat} {σ : am_S} {a : Nat}
theorem nx_lt {c : Nat} (hn : ax_nn n) (hf : am_kf n a c) (hc : c = 4 ∨ c = 2 ∨ c = 6) : a + 1 < n := by
  have h1 := k0_lt hf.1 (by omega)
  have h2 := next_tab a h1 (by rw [hf.1]; exact hc)
  have h3 := hf.2
  unfold ax_nn at hn
  omega
theorem kk_rw (h : am_sh N n σ) (hf : am_kf n a 4) : am_K σ (a + 1) = (20, 33) := by
  rw [h.2.2.1 (a + 1) (nx_lt h.1 hf (Or.inl rfl))]; exact (rows_tab a (k0_lt hf.1 (by decide)) hf.1).1
theorem rr_rw (h : am_sh N n σ) (hf : am_kf n a 4) : am_R σ a 0 = some (a + 1) := by
  have h1 := rows_tab a (k0_lt hf.1 (by decide)) hf.1
  rw [h.2.2.2.2.2.1 a 0 hf.2 h1.2.2]; exact h1.2.1
theorem kk_pp (h : am_sh N n σ) (hf : am_kf n a 2) : am_K σ (a + 1) = (20, 288) := by
  rw [h.2.2.1 (a + 1) (nx_lt h.1 hf (Or.inr (Or.inl rfl)))]; exact (paper_tab a (k0_lt hf.1 (by decide)) hf.1).1
theorem rr_pp (h : am_sh N n σ) (hf : am_kf n a 2) : am_R σ a 0 = some (a + 1) := by
  have h1 := paper_tab a (k0_lt hf.1 (by decide)) hf.1
  rw [h.2.2.2.2.2.1 a 0 hf.2 h1.2.2]; exact h1.2.1
theorem kk_tr (h : am_sh N n σ) (hf : am_kf n a 6) : am_K σ (a + 1) = (21, 12) := by
  rw [h.2.2.1 (a + 1) (nx_lt h.1 hf (Or.inr (Or.inr rfl)))]; exact (tray_tab a (k0_lt hf.1 (by decide)) hf.1).1
theorem rr_tr (h : am_sh N n σ) (hf : am_kf n a 6) : am_R σ a 0 = some (a + 1) := by
  have h1 := tray_tab a (k0_lt hf.1 (by decide)) hf.1
  rw [h.2.2.2.2.2.1 a 0 hf.2 h1.2.2]; exact h1.2.1
theorem st_in (hn : ax_nn n) (hf : am_kf n a 5) {j : Nat} (hj : j < 32) : 1 ≤ a ∧ a + j < n ∧ a + j ≠ 33 ∧ am_k0 (a + j) = am_k0 (1 + j) ∧ ∀ k, am_r0 (a + j) k = (am_r0 (1 + j) k).map (fun b => b + (a - 1)) := by
  have h1 := stock_tab a (k0_lt hf.1 (by decide)) hf.1
  have h2 := hf.2
  have e1 : am_k0 (1 + j) = (am_kT[1 + j]?).getD (99, 0) := by unfold am_k0; rw [if_pos (by omega)]
  have e2 : ∀ k, am_r0 (1 + j) k = am_find k ((am_rT[1 + j]?).getD []) := by intro k; unfold am_r0; rw [if_pos (by omega)]
  refine ⟨by omega, by unfold ax_nn at hn; omega, by omega, ?_, ?_⟩
  · rw [e1]
    rcases h1 with h1 | h1
    · subst h1; exact e1
    · unfold am_k0
      rw [if_neg (by omega), if_pos (by omega), show (a + j - 72) % 32 = j by omega]
  · intro k
    rw [e2]
    rcases h1 with h1 | h1
    · subst h1
      rw [e2]
      cases am_find k ((am_rT[1 + j]?).getD []) <;> rfl
    · unfold am_r0
      rw [if_neg (by omega), if_pos (by omega), show (a + j - 72) % 32 = j by omega, show 71 + (a + j - 72) / 32 * 32 = a - 1 by omega]
theorem kk_st (h : am_sh N n σ) (hf : am_kf n a 5) {j : Nat} {q : Nat × Nat} (hj : j < 32) (e : am_k0 (1 + j) = q) : am_K σ (a + j) = q := by
  obtain ⟨h1, h2, h3, h4, h5⟩ := st_in h.1 hf hj
  rw [h.2.2.1 _ h2, h4]; exact e
theorem kf_st (h : am_sh N n σ) (hf : am_kf n a 5) {j c : Nat} (hj : j < 32) (e : am_k0 (1 + j) = (c, 0)) : am_kf n (a + j) c := by
  obtain ⟨h1, h2, h3, h4, h5⟩ := st_in h.1 hf hj
  exact ⟨by rw [h4]; exact e, h2⟩
theorem rr_st (h : am_sh N n σ) (hf : am_kf n a 5) {j k b c : Nat} (hj : j < 32) (e : am_r0 (1 + j) k = some b) (hb : b = c + 1) : am_R σ (a + j) k = some (a + c) := by
  obtain ⟨h1, h2, h3, h4, h5⟩ := st_in h.1 hf hj
  rw [h.2.2.2.2.2.1 _ k h2 h3, h5, e, hb]
  simp only [Option.map_some, Option.some.injEq]
  omega
theorem rr_st0 (h : am_sh N n σ) (hf : am_kf n a 5) {k b c : Nat} (e : am_r0 1 k = some b) (hb : b = c + 1) : am_R σ a k = some (a + c) := rr_st (j := 0) h hf (by decide) e hb
theorem am_in_lt {i : Int32} {m : Nat} (h : am_in i m = true) : i.toNatClampNeg < m := by
  unfold am_in at h
  have := of_decide_eq_true h
  omega
theorem ways_tab : ∀ k, k < 6 → am_r0 3 k = some (11 + 2 * k) ∧ am_k0 (11 + 2 * k) = (4, 0) ∧ 10 + 2 * k < 32 ∧ am_r0 3 k = some (10 + 2 * k + 1) ∧ am_k0 (1 + (10 + 2 * k)) = (4, 0) := by decide +kernel
theorem hands_tab : ∀ k, k < 5 → am_r0 4 k = some (23 + 2 * k) ∧ am_k0 (23 + 2 * k) = (4, 0) ∧ 22 + 2 * k < 32 ∧ am_r0 4 k = some (22 + 2 * k + 1) ∧ am_k0 (1 + (22 + 2 * k)) = (4, 0) := by decide +kernel
theorem trays_tab : ∀ k, k < 4 → am_r0 36 k = some (47 + 2 * k) ∧ am_k0 (47 + 2 * k) = (6, 0) := by decide +kernel
theorem rr_ways {i : Int32} (h : am_sh N n σ) (hi : am_in i 6 = true) : am_R σ 3 i.toNatClampNeg = some (11 + 2 * i.toNatClampNeg) := rr_n h (ways_tab _ (am_in_lt hi)).1 (by decide) (by decide)
theorem kf_ways {i : Int32} (h : am_sh N n σ) (hi : am_in i 6 = true) : am_kf n (11 + 2 * i.toNatClampNeg) 4 := kk_up h ⟨(ways_tab _ (am_in_lt hi)).2.1, by have := am_in_lt hi; omega⟩
theorem rr_hands {i : Int32} (h : am_sh N n σ) (hi : am_in i 5 = true) : am_R σ 4 i.toNatClampNeg = some (23 + 2 * i.toNatClampNeg) := rr_n h (hands_tab _ (am_in_lt hi)).1 (by decide) (by decide)
theorem kf_hands {i : Int32} (h : am_sh N n σ) (hi : am_in i 5 = true) : am_kf n (23 + 2 * i.toNatClampNeg) 4 := kk_up h ⟨(hands_tab _ (am_in_lt hi)).2.1, by have := am_in_lt hi; omega⟩
theorem rr_trays {i : Int32} (h : am_sh N n σ) (hi : am_in i 4 = true) : am_R σ 36 i.toNatClampNeg = some (47 + 2 * i.toNatClampNeg) := rr_n h (trays_tab _ (am_in_lt hi)).1 (by decide) (by decide)
theorem kf_trays {i : Int32} (h : am_sh N n σ) (hi : am_in i 4 = true) : am_kf n (47 + 2 * i.toNatClampNeg) 6 := kk_up h ⟨(trays_tab _ (am_in_lt hi)).2, by have := am_in_lt hi; omega⟩
theorem rr_waysA {i : Int32} (h : am_sh N n σ) (hf : am_kf n a 5) (hi : am_in i 6 = true) : am_R σ (a + 2) i.toNatClampNeg = some (a + (10 + 2 * i.toNatClampNeg)) := rr_st h hf (by decide) (ways_tab _ (am_in_lt hi)).2.2.2.1 rfl
theorem kf_waysA {i : Int32} (h : am_sh N n σ) (hf : am_kf n a 5) (hi : am_in i 6 = true) : am_kf n (a + (10 + 2 * i.toNatClampNeg)) 4 := kf_st h hf (ways_tab _ (am_in_lt hi)).2.2.1 (ways_tab _ (am_in_lt hi)).2.2.2.2
theorem rr_handsA {i : Int32} (h : am_sh N n σ) (hf : am_kf n a 5) (hi : am_in i 5 = true) : am_R σ (a + 3) i.toNatClampNeg = some (a + (22 + 2 * i.toNatClampNeg)) := rr_st h hf (by decide) (hands_tab _ (am_in_lt hi)).2.2.2.1 rfl
theorem kf_handsA {i : Int32} (h : am_sh N n σ) (hf : am_kf n a 5) (hi : am_in i 5 = true) : am_kf n (a + (22 + 2 * i.toNatClampNeg)) 4 := kf_st h hf (hands_tab _ (am_in_lt hi)).2.2.1 (hands_tab _ (am_in_lt hi)).2.2.2.2
theorem kf_img {k b : Nat} (h : am_sh N n σ) (e : am_R σ 33 k = some b) : am_kf n b 5 := h.2.2.2.2.2.2 k b e
theorem kk_0 (h : am_sh N n σ) : am_K σ 0 = (7, 0) := kk_n h rfl (by decide)
theorem kk_1 (h : am_sh N n σ) : am_K σ 1 = (5, 0) := kk_n h rfl (by decide)
theorem kk_2 (h : am_sh N n σ) : am_K σ 2 = (20, 23) := kk_n h rfl (by decide)
theorem kk_3 (h : am_sh N n σ) : am_K σ 3 = (23, 6) := kk_n h rfl (by decide)
theorem kk_4 (h : am_sh N n σ) : am_K σ 4 = (23, 5) := kk_n h rfl (by decide)
theorem kk_5 (h : am_sh N n σ) : am_K σ 5 = (4, 0) := kk_n h rfl (by decide)
theorem kk_6 (h : am_sh N n σ) : am_K σ 6 = (20, 33) := kk_n h rfl (by decide)
theorem kk_7 (h : am_sh N n σ) : am_K σ 7 = (4, 0) := kk_n h rfl (by decide)
theorem kk_8 (h : am_sh N n σ) : am_K σ 8 = (20, 33) := kk_n h rfl (by decide)
theorem kk_9 (h : am_sh N n σ) : am_K σ 9 = (4, 0) := kk_n h rfl (by decide)
theorem kk_10 (h : am_sh N n σ) : am_K σ 10 = (20, 33) := kk_n h rfl (by decide)
theorem kk_11 (h : am_sh N n σ) : am_K σ 11 = (4, 0) := kk_n h rfl (by decide)
theorem kk_12 (h : am_sh N n σ) : am_K σ 12 = (20, 33) := kk_n h rfl (by decide)
theorem kk_13 (h : am_sh N n σ) : am_K σ 13 = (4, 0) := kk_n h rfl (by decide)
theorem kk_14 (h : am_sh N n σ) : am_K σ 14 = (20, 33) := kk_n h rfl (by decide)
theorem kk_15 (h : am_sh N n σ) : am_K σ 15 = (4, 0) := kk_n h rfl (by decide)
theorem kk_16 (h : am_sh N n σ) : am_K σ 16 = (20, 33) := kk_n h rfl (by decide)
theorem kk_17 (h : am_sh N n σ) : am_K σ 17 = (4, 0) := kk_n h rfl (by decide)
theorem kk_18 (h : am_sh N n σ) : am_K σ 18 = (20, 33) := kk_n h rfl (by decide)
theorem kk_19 (h : am_sh N n σ) : am_K σ 19 = (4, 0) := kk_n h rfl (by decide)
theorem kk_20 (h : am_sh N n σ) : am_K σ 20 = (20, 33) := kk_n h rfl (by decide)
theorem kk_21 (h : am_sh N n σ) : am_K σ 21 = (4, 0) := kk_n h rfl (by decide)
theorem kk_22 (h : am_sh N n σ) : am_K σ 22 = (20, 33) := kk_n h rfl (by decide)
theorem kk_23 (h : am_sh N n σ) : am_K σ 23 = (4, 0) := kk_n h rfl (by decide)
theorem kk_24 (h : am_sh N n σ) : am_K σ 24 = (20, 33) := kk_n h rfl (by decide)
theorem kk_25 (h : am_sh N n σ) : am_K σ 25 = (4, 0) := kk_n h rfl (by decide)
theorem kk_26 (h : am_sh N n σ) : am_K σ 26 = (20, 33) := kk_n h rfl (by decide)
theorem kk_27 (h : am_sh N n σ) : am_K σ 27 = (4, 0) := kk_n h rfl (by decide)
theorem kk_28 (h : am_sh N n σ) : am_K σ 28 = (20, 33) := kk_n h rfl (by decide)
theorem kk_29 (h : am_sh N n σ) : am_K σ 29 = (4, 0) := kk_n h rfl (by decide)
theorem kk_30 (h : am_sh N n σ) : am_K σ 30 = (20, 33) := kk_n h rfl (by decide)
theorem kk_31 (h : am_sh N n σ) : am_K σ 31 = (4, 0) := kk_n h rfl (by decide)
theorem kk_32 (h : am_sh N n σ) : am_K σ 32 = (20, 33) := kk_n h rfl (by decide)
theorem kk_33 (h : am_sh N n σ) : am_K σ 33 = (24, 3) := kk_n h rfl (by decide)
theorem kk_34 (h : am_sh N n σ) : am_K σ 34 = (3, 0) := kk_n h rfl (by decide)
theorem kk_35 (h : am_sh N n σ) : am_K σ 35 = (20, 400) := kk_n h rfl (by decide)
theorem kk_36 (h : am_sh N n σ) : am_K σ 36 = (25, 4) := kk_n h rfl (by decide)
theorem kk_37 (h : am_sh N n σ) : am_K σ 37 = (2, 0) := kk_n h rfl (by decide)
theorem kk_38 (h : am_sh N n σ) : am_K σ 38 = (20, 288) := kk_n h rfl (by decide)
theorem kk_39 (h : am_sh N n σ) : am_K σ 39 = (2, 0) := kk_n h rfl (by decide)
theorem kk_40 (h : am_sh N n σ) : am_K σ 40 = (20, 288) := kk_n h rfl (by decide)
theorem kk_41 (h : am_sh N n σ) : am_K σ 41 = (1, 0) := kk_n h rfl (by decide)
theorem kk_42 (h : am_sh N n σ) : am_K σ 42 = (4, 0) := kk_n h rfl (by decide)
theorem kk_43 (h : am_sh N n σ) : am_K σ 43 = (20, 33) := kk_n h rfl (by decide)
theorem kk_44 (h : am_sh N n σ) : am_K σ 44 = (20, 23) := kk_n h rfl (by decide)
theorem kk_45 (h : am_sh N n σ) : am_K σ 45 = (0, 0) := kk_n h rfl (by decide)
theorem kk_46 (h : am_sh N n σ) : am_K σ 46 = (20, 16) := kk_n h rfl (by decide)
theorem kk_47 (h : am_sh N n σ) : am_K σ 47 = (6, 0) := kk_n h rfl (by decide)
theorem kk_48 (h : am_sh N n σ) : am_K σ 48 = (21, 12) := kk_n h rfl (by decide)
theorem kk_49 (h : am_sh N n σ) : am_K σ 49 = (6, 0) := kk_n h rfl (by decide)
theorem kk_50 (h : am_sh N n σ) : am_K σ 50 = (21, 12) := kk_n h rfl (by decide)
theorem kk_51 (h : am_sh N n σ) : am_K σ 51 = (6, 0) := kk_n h rfl (by decide)
theorem kk_52 (h : am_sh N n σ) : am_K σ 52 = (21, 12) := kk_n h rfl (by decide)
theorem kk_53 (h : am_sh N n σ) : am_K σ 53 = (6, 0) := kk_n h rfl (by decide)
theorem kk_54 (h : am_sh N n σ) : am_K σ 54 = (21, 12) := kk_n h rfl (by decide)
theorem kk_55 (h : am_sh N n σ) : am_K σ 55 = (8, 0) := kk_n h rfl (by decide)
theorem kk_56 (h : am_sh N n σ) : am_K σ 56 = (20, 264) := kk_n h rfl (by decide)
theorem kk_57 (h : am_sh N n σ) : am_K σ 57 = (20, 792) := kk_n h rfl (by decide)
theorem kk_58 (h : am_sh N n σ) : am_K σ 58 = (22, 3) := kk_n h rfl (by decide)
theorem kk_59 (h : am_sh N n σ) : am_K σ 59 = (20, 400) := kk_n h rfl (by decide)
theorem kk_60 (h : am_sh N n σ) : am_K σ 60 = (20, 23) := kk_n h rfl (by decide)
theorem kk_61 (h : am_sh N n σ) : am_K σ 61 = (20, 23) := kk_n h rfl (by decide)
theorem kk_62 (h : am_sh N n σ) : am_K σ 62 = (20, 288) := kk_n h rfl (by decide)
theorem kk_63 (h : am_sh N n σ) : am_K σ 63 = (20, 288) := kk_n h rfl (by decide)
theorem kk_64 (h : am_sh N n σ) : am_K σ 64 = (20, 288) := kk_n h rfl (by decide)
theorem kk_65 (h : am_sh N n σ) : am_K σ 65 = (20, 64) := kk_n h rfl (by decide)
theorem kk_66 (h : am_sh N n σ) : am_K σ 66 = (20, 64) := kk_n h rfl (by decide)
theorem kk_67 (h : am_sh N n σ) : am_K σ 67 = (20, 16) := kk_n h rfl (by decide)
theorem kk_68 (h : am_sh N n σ) : am_K σ 68 = (20, 4) := kk_n h rfl (by decide)
theorem kk_69 (h : am_sh N n σ) : am_K σ 69 = (20, 4) := kk_n h rfl (by decide)
theorem kk_70 (h : am_sh N n σ) : am_K σ 70 = (21, 48) := kk_n h rfl (by decide)
theorem kk_71 (h : am_sh N n σ) : am_K σ 71 = (21, 1) := kk_n h rfl (by decide)
theorem kk_3000000 (h : am_sh N n σ) : am_K σ 3000000 = (19, 23) := kk_s h rfl (by decide) (by decide)
theorem kk_3000001 (h : am_sh N n σ) : am_K σ 3000001 = (19, 7) := kk_s h rfl (by decide) (by decide)
theorem kk_3000002 (h : am_sh N n σ) : am_K σ 3000002 = (19, 7) := kk_s h rfl (by decide) (by decide)
theorem kk_3000003 (h : am_sh N n σ) : am_K σ 3000003 = (19, 7) := kk_s h rfl (by decide) (by decide)
theorem kk_3000004 (h : am_sh N n σ) : am_K σ 3000004 = (19, 7) := kk_s h rfl (by decide) (by decide)
theorem kk_3000005 (h : am_sh N n σ) : am_K σ 3000005 = (19, 17) := kk_s h rfl (by decide) (by decide)
theorem kk_3000006 (h : am_sh N n σ) : am_K σ 3000006 = (19, 16) := kk_s h rfl (by decide) (by decide)
theorem rr_0_0 (h : am_sh N n σ) : am_R σ 0 0 = some 1 := rr_n h rfl (by decide) (by decide)
theorem rr_0_1 (h : am_sh N n σ) : am_R σ 0 1 = some 33 := rr_n h rfl (by decide) (by decide)
theorem rr_0_2 (h : am_sh N n σ) : am_R σ 0 2 = some 34 := rr_n h rfl (by decide) (by decide)
theorem rr_0_3 (h : am_sh N n σ) : am_R σ 0 3 = some 36 := rr_n h rfl (by decide) (by decide)
theorem rr_0_4 (h : am_sh N n σ) : am_R σ 0 4 = some 37 := rr_n h rfl (by decide) (by decide)
theorem rr_0_5 (h : am_sh N n σ) : am_R σ 0 5 = some 39 := rr_n h rfl (by decide) (by decide)
theorem rr_0_6 (h : am_sh N n σ) : am_R σ 0 6 = some 41 := rr_n h rfl (by decide) (by decide)
theorem rr_0_7 (h : am_sh N n σ) : am_R σ 0 7 = some 42 := rr_n h rfl (by decide) (by decide)
theorem rr_0_8 (h : am_sh N n σ) : am_R σ 0 8 = some 44 := rr_n h rfl (by decide) (by decide)
theorem rr_0_9 (h : am_sh N n σ) : am_R σ 0 9 = some 45 := rr_n h rfl (by decide) (by decide)
theorem rr_0_10 (h : am_sh N n σ) : am_R σ 0 10 = some 46 := rr_n h rfl (by decide) (by decide)
theorem rr_1_3 (h : am_sh N n σ) : am_R σ 1 3 = some 2 := rr_n h rfl (by decide) (by decide)
theorem rr_1_4 (h : am_sh N n σ) : am_R σ 1 4 = some 3 := rr_n h rfl (by decide) (by decide)
theorem rr_1_6 (h : am_sh N n σ) : am_R σ 1 6 = some 4 := rr_n h rfl (by decide) (by decide)
theorem rr_1_8 (h : am_sh N n σ) : am_R σ 1 8 = some 5 := rr_n h rfl (by decide) (by decide)
theorem rr_1_9 (h : am_sh N n σ) : am_R σ 1 9 = some 7 := rr_n h rfl (by decide) (by decide)
theorem rr_1_10 (h : am_sh N n σ) : am_R σ 1 10 = some 9 := rr_n h rfl (by decide) (by decide)
theorem rr_3_0 (h : am_sh N n σ) : am_R σ 3 0 = some 11 := rr_n h rfl (by decide) (by decide)
theorem rr_3_1 (h : am_sh N n σ) : am_R σ 3 1 = some 13 := rr_n h rfl (by decide) (by decide)
theorem rr_3_2 (h : am_sh N n σ) : am_R σ 3 2 = some 15 := rr_n h rfl (by decide) (by decide)
theorem rr_3_3 (h : am_sh N n σ) : am_R σ 3 3 = some 17 := rr_n h rfl (by decide) (by decide)
theorem rr_3_4 (h : am_sh N n σ) : am_R σ 3 4 = some 19 := rr_n h rfl (by decide) (by decide)
theorem rr_3_5 (h : am_sh N n σ) : am_R σ 3 5 = some 21 := rr_n h rfl (by decide) (by decide)
theorem rr_4_0 (h : am_sh N n σ) : am_R σ 4 0 = some 23 := rr_n h rfl (by decide) (by decide)
theorem rr_4_1 (h : am_sh N n σ) : am_R σ 4 1 = some 25 := rr_n h rfl (by decide) (by decide)
theorem rr_4_2 (h : am_sh N n σ) : am_R σ 4 2 = some 27 := rr_n h rfl (by decide) (by decide)
theorem rr_4_3 (h : am_sh N n σ) : am_R σ 4 3 = some 29 := rr_n h rfl (by decide) (by decide)
theorem rr_4_4 (h : am_sh N n σ) : am_R σ 4 4 = some 31 := rr_n h rfl (by decide) (by decide)
theorem rr_5_0 (h : am_sh N n σ) : am_R σ 5 0 = some 6 := rr_n h rfl (by decide) (by decide)
theorem rr_7_0 (h : am_sh N n σ) : am_R σ 7 0 = some 8 := rr_n h rfl (by decide) (by decide)
theorem rr_9_0 (h : am_sh N n σ) : am_R σ 9 0 = some 10 := rr_n h rfl (by decide) (by decide)
theorem rr_11_0 (h : am_sh N n σ) : am_R σ 11 0 = some 12 := rr_n h rfl (by decide) (by decide)
theorem rr_13_0 (h : am_sh N n σ) : am_R σ 13 0 = some 14 := rr_n h rfl (by decide) (by decide)
theorem rr_15_0 (h : am_sh N n σ) : am_R σ 15 0 = some 16 := rr_n h rfl (by decide) (by decide)
theorem rr_17_0 (h : am_sh N n σ) : am_R σ 17 0 = some 18 := rr_n h rfl (by decide) (by decide)
theorem rr_19_0 (h : am_sh N n σ) : am_R σ 19 0 = some 20 := rr_n h rfl (by decide) (by decide)
theorem rr_21_0 (h : am_sh N n σ) : am_R σ 21 0 = some 22 := rr_n h rfl (by decide) (by decide)
theorem rr_23_0 (h : am_sh N n σ) : am_R σ 23 0 = some 24 := rr_n h rfl (by decide) (by decide)
theorem rr_25_0 (h : am_sh N n σ) : am_R σ 25 0 = some 26 := rr_n h rfl (by decide) (by decide)
theorem rr_27_0 (h : am_sh N n σ) : am_R σ 27 0 = some 28 := rr_n h rfl (by decide) (by decide)
theorem rr_29_0 (h : am_sh N n σ) : am_R σ 29 0 = some 30 := rr_n h rfl (by decide) (by decide)
theorem rr_31_0 (h : am_sh N n σ) : am_R σ 31 0 = some 32 := rr_n h rfl (by decide) (by decide)
theorem rr_34_0 (h : am_sh N n σ) : am_R σ 34 0 = some 35 := rr_n h rfl (by decide) (by decide)
theorem rr_36_0 (h : am_sh N n σ) : am_R σ 36 0 = some 47 := rr_n h rfl (by decide) (by decide)
theorem rr_36_1 (h : am_sh N n σ) : am_R σ 36 1 = some 49 := rr_n h rfl (by decide) (by decide)
theorem rr_36_2 (h : am_sh N n σ) : am_R σ 36 2 = some 51 := rr_n h rfl (by decide) (by decide)
theorem rr_36_3 (h : am_sh N n σ) : am_R σ 36 3 = some 53 := rr_n h rfl (by decide) (by decide)
theorem rr_37_0 (h : am_sh N n σ) : am_R σ 37 0 = some 38 := rr_n h rfl (by decide) (by decide)
theorem rr_39_0 (h : am_sh N n σ) : am_R σ 39 0 = some 40 := rr_n h rfl (by decide) (by decide)
theorem rr_41_0 (h : am_sh N n σ) : am_R σ 41 0 = some 1 := rr_n h rfl (by decide) (by decide)
theorem rr_41_1 (h : am_sh N n σ) : am_R σ 41 1 = some 37 := rr_n h rfl (by decide) (by decide)
theorem rr_42_0 (h : am_sh N n σ) : am_R σ 42 0 = some 43 := rr_n h rfl (by decide) (by decide)
theorem rr_47_0 (h : am_sh N n σ) : am_R σ 47 0 = some 48 := rr_n h rfl (by decide) (by decide)
theorem rr_49_0 (h : am_sh N n σ) : am_R σ 49 0 = some 50 := rr_n h rfl (by decide) (by decide)
theorem rr_51_0 (h : am_sh N n σ) : am_R σ 51 0 = some 52 := rr_n h rfl (by decide) (by decide)
theorem rr_53_0 (h : am_sh N n σ) : am_R σ 53 0 = some 54 := rr_n h rfl (by decide) (by decide)
theorem rr_55_0 (h : am_sh N n σ) : am_R σ 55 0 = some 56 := rr_n h rfl (by decide) (by decide)
theorem rr_55_1 (h : am_sh N n σ) : am_R σ 55 1 = some 57 := rr_n h rfl (by decide) (by decide)
theorem rr_55_2 (h : am_sh N n σ) : am_R σ 55 2 = some 58 := rr_n h rfl (by decide) (by decide)
theorem rr_55_4 (h : am_sh N n σ) : am_R σ 55 4 = some 59 := rr_n h rfl (by decide) (by decide)
theorem rr_55_5 (h : am_sh N n σ) : am_R σ 55 5 = some 60 := rr_n h rfl (by decide) (by decide)
theorem rr_55_6 (h : am_sh N n σ) : am_R σ 55 6 = some 61 := rr_n h rfl (by decide) (by decide)
theorem rr_55_17 (h : am_sh N n σ) : am_R σ 55 17 = some 62 := rr_n h rfl (by decide) (by decide)
theorem rr_55_18 (h : am_sh N n σ) : am_R σ 55 18 = some 63 := rr_n h rfl (by decide) (by decide)
theorem rr_55_19 (h : am_sh N n σ) : am_R σ 55 19 = some 64 := rr_n h rfl (by decide) (by decide)
theorem rr_55_28 (h : am_sh N n σ) : am_R σ 55 28 = some 65 := rr_n h rfl (by decide) (by decide)
theorem rr_55_29 (h : am_sh N n σ) : am_R σ 55 29 = some 66 := rr_n h rfl (by decide) (by decide)
theorem rr_55_50 (h : am_sh N n σ) : am_R σ 55 50 = some 67 := rr_n h rfl (by decide) (by decide)
theorem rr_55_51 (h : am_sh N n σ) : am_R σ 55 51 = some 68 := rr_n h rfl (by decide) (by decide)
theorem rr_55_52 (h : am_sh N n σ) : am_R σ 55 52 = some 69 := rr_n h rfl (by decide) (by decide)
theorem rr_55_53 (h : am_sh N n σ) : am_R σ 55 53 = some 70 := rr_n h rfl (by decide) (by decide)
theorem kf_0 (h : am_sh N n σ) : am_kf n 0 7 := kk_up h ⟨rfl, by decide⟩
theorem kf_1 (h : am_sh N n σ) : am_kf n 1 5 := kk_up h ⟨rfl, by decide⟩
theorem kf_5 (h : am_sh N n σ) : am_kf n 5 4 := kk_up h ⟨rfl, by decide⟩
theorem kf_7 (h : am_sh N n σ) : am_kf n 7 4 := kk_up h ⟨rfl, by decide⟩
theorem kf_9 (h : am_sh N n σ) : am_kf n 9 4 := kk_up h ⟨rfl, by decide⟩
theorem kf_11 (h : am_sh N n σ) : am_kf n 11 4 := kk_up h ⟨rfl, by decide⟩
theorem kf_13 (h : am_sh N n σ) : am_kf n 13 4 := kk_up h ⟨rfl, by decide⟩
theorem kf_15 (h : am_sh N n σ) : am_kf n 15 4 := kk_up h ⟨rfl, by decide⟩
theorem kf_17 (h : am_sh N n σ) : am_kf n 17 4 := kk_up h ⟨rfl, by decide⟩
theorem kf_19 (h : am_sh N n σ) : am_kf n 19 4 := kk_up h ⟨rfl, by decide⟩
theorem kf_21 (h : am_sh N n σ) : am_kf n 21 4 := kk_up h ⟨rfl, by decide⟩
theorem kf_23 (h : am_sh N n σ) : am_kf n 23 4 := kk_up h ⟨rfl, by decide⟩
theorem kf_25 (h : am_sh N n σ) : am_kf n 25 4 := kk_up h ⟨rfl, by decide⟩
theorem kf_27 (h : am_sh N n σ) : am_kf n 27 4 := kk_up h ⟨rfl, by decide⟩
theorem kf_29 (h : am_sh N n σ) : am_kf n 29 4 := kk_up h ⟨rfl, by decide⟩
theorem kf_31 (h : am_sh N n σ) : am_kf n 31 4 := kk_up h ⟨rfl, by decide⟩
theorem kf_34 (h : am_sh N n σ) : am_kf n 34 3 := kk_up h ⟨rfl, by decide⟩
theorem kf_37 (h : am_sh N n σ) : am_kf n 37 2 := kk_up h ⟨rfl, by decide⟩
theorem kf_39 (h : am_sh N n σ) : am_kf n 39 2 := kk_up h ⟨rfl, by decide⟩
theorem kf_41 (h : am_sh N n σ) : am_kf n 41 1 := kk_up h ⟨rfl, by decide⟩
theorem kf_42 (h : am_sh N n σ) : am_kf n 42 4 := kk_up h ⟨rfl, by decide⟩
theorem kf_45 (h : am_sh N n σ) : am_kf n 45 0 := kk_up h ⟨rfl, by decide⟩
theorem kf_47 (h : am_sh N n σ) : am_kf n 47 6 := kk_up h ⟨rfl, by decide⟩
theorem kf_49 (h : am_sh N n σ) : am_kf n 49 6 := kk_up h ⟨rfl, by decide⟩
theorem kf_51 (h : am_sh N n σ) : am_kf n 51 6 := kk_up h ⟨rfl, by decide⟩
theorem kf_53 (h : am_sh N n σ) : am_kf n 53 6 := kk_up h ⟨rfl, by decide⟩
theorem kf_55 (h : am_sh N n σ) : am_kf n 55 8 := kk_up h ⟨rfl, by decide⟩
end SH2
