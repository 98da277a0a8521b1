/-! ===== the script ===== -/
section LOP
variable {N : Nat} {g : Nat → Int32}
theorem loop_in (hN : N ≤ 4096) : ∀ (d m p : Nat) (s : am_S), d < m → N < p + 8 * (d + 1) → p ≤ 5000 → IV N g s → ∃ s1, L_L_law__23 m (oN p) s = some (.inr ((), s1)) ∧ am_c s1 ≤ am_c s + 33 * d ∧ am_z s1 ≤ am_z s + 1006 * d := by
  have hcmp : ∀ p, p ≤ 5000 → (((Int32.ofNat N) - (8 : Int32)) < oN p ↔ N < p + 8) := by
    intro p hp
    rw [Int32.lt_iff_toInt_lt, oN_int (by omega)]
    have e : ((Int32.ofNat N) - (8 : Int32)).toInt = (N : Int) - 8 := by
      rw [Int32.toInt_sub, oN_int (by omega), show (8 : Int32).toInt = 8 from rfl, Int.bmod_eq_of_le (by omega) (by omega)]
    rw [e]
    omega
  intro d
  induction d with
  | zero =>
    intro m p s h1 h2 h3 hv
    obtain ⟨m, rfl⟩ : ∃ q, m = q + 1 := ⟨m - 1, by omega⟩
    rw [L_L_law__23, hv.2.2.1, if_pos ((hcmp p h3).mpr (by omega))]
    exact ⟨s, rfl, by omega, by omega⟩
  | succ d ih =>
    intro m p s h1 h2 h3 hv
    obtain ⟨m, rfl⟩ : ∃ q, m = q + 1 := ⟨m - 1, by omega⟩
    by_cases c : N < p + 8
    · rw [L_L_law__23, hv.2.2.1, if_pos ((hcmp p h3).mpr c)]
      exact ⟨s, rfl, by omega, by omega⟩
    · have hp : p + 8 ≤ N := by omega
      have key : ∀ f, AR N g s f → ∃ s1, (am_ll f (fun _ s2 => L_L_law__23 m (oN p + (8 : Int32)) s2) : am_FE Unit) = some (.inr ((), s1)) ∧ am_c s1 ≤ am_c s + 33 * (d + 1) ∧ am_z s1 ≤ am_z s + 1006 * (d + 1) := by
        rintro f ⟨s1, e, q1, q2, q3⟩
        rw [e, ll_e, oN_addL]
        obtain ⟨s2, z1, z2, z3⟩ := ih m (p + 8) s1 (by omega) (by omega) (by omega) q1
        exact ⟨s2, z1, by omega, by omega⟩
      rw [L_L_law__23, hv.2.2.1, if_neg (fun h => c ((hcmp p h3).mp h)), if_pos (in_o (by omega) (by omega))]
      by_cases c0 : ((am_I s 2000000 (oN p).toNatClampNeg) &&& (63 : Int32)) = (0 : Int32)
      · rw [if_pos c0]; exact key _ (ar_208 hv hp hN)
      rw [if_neg c0]
      by_cases c1 : ((am_I s 2000000 (oN p).toNatClampNeg) &&& (63 : Int32)) = (1 : Int32)
      · rw [if_pos c1]; exact key _ (ar_256 hv hp hN)
      rw [if_neg c1]
      by_cases c2 : ((am_I s 2000000 (oN p).toNatClampNeg) &&& (63 : Int32)) = (2 : Int32)
      · rw [if_pos c2]; exact key _ (ar_329 hv hp hN)
      rw [if_neg c2]
      by_cases c3 : ((am_I s 2000000 (oN p).toNatClampNeg) &&& (63 : Int32)) = (3 : Int32)
      · rw [if_pos c3]; exact key _ (ar_385 hv hp hN)
      rw [if_neg c3]
      by_cases c4 : ((am_I s 2000000 (oN p).toNatClampNeg) &&& (63 : Int32)) = (4 : Int32)
      · rw [if_pos c4]; exact key _ (ar_441 hv hp hN)
      rw [if_neg c4]
      by_cases c5 : ((am_I s 2000000 (oN p).toNatClampNeg) &&& (63 : Int32)) = (5 : Int32)
      · rw [if_pos c5]; exact key _ (ar_466 hv hp hN)
      rw [if_neg c5]
      by_cases c6 : ((am_I s 2000000 (oN p).toNatClampNeg) &&& (63 : Int32)) = (6 : Int32)
      · rw [if_pos c6]; exact key _ (ar_534 hv hp hN)
      rw [if_neg c6]
      by_cases c7 : ((am_I s 2000000 (oN p).toNatClampNeg) &&& (63 : Int32)) = (7 : Int32)
      · rw [if_pos c7]; exact key _ (ar_590 hv hp hN)
      rw [if_neg c7]
      by_cases c8 : ((am_I s 2000000 (oN p).toNatClampNeg) &&& (63 : Int32)) = (8 : Int32)
      · rw [if_pos c8]; exact key _ (ar_658 hv hp hN)
      rw [if_neg c8]
      by_cases c9 : ((am_I s 2000000 (oN p).toNatClampNeg) &&& (63 : Int32)) = (9 : Int32)
      · rw [if_pos c9]; exact key _ (ar_738 hv hp hN)
      rw [if_neg c9]
      by_cases c10 : ((am_I s 2000000 (oN p).toNatClampNeg) &&& (63 : Int32)) = (10 : Int32)
      · rw [if_pos c10]; exact key _ (ar_842 hv hp hN)
      rw [if_neg c10]
      by_cases c11 : ((am_I s 2000000 (oN p).toNatClampNeg) &&& (63 : Int32)) = (11 : Int32)
      · rw [if_pos c11]; exact key _ (ar_960 hv hp hN)
      rw [if_neg c11]
      by_cases c12 : ((am_I s 2000000 (oN p).toNatClampNeg) &&& (63 : Int32)) = (12 : Int32)
      · rw [if_pos c12]; exact key _ (ar_1040 hv hp hN)
      rw [if_neg c12]
      by_cases c13 : ((am_I s 2000000 (oN p).toNatClampNeg) &&& (63 : Int32)) = (13 : Int32)
      · rw [if_pos c13]; exact key _ (ar_1108 hv hp hN)
      rw [if_neg c13]
      by_cases c14 : ((am_I s 2000000 (oN p).toNatClampNeg) &&& (63 : Int32)) = (14 : Int32)
      · rw [if_pos c14]; exact key _ (ar_1121 hv hp hN)
      rw [if_neg c14]
      by_cases c15 : ((am_I s 2000000 (oN p).toNatClampNeg) &&& (63 : Int32)) = (15 : Int32)
      · rw [if_pos c15]; exact key _ (ar_1177 hv hp hN)
      rw [if_neg c15]
      by_cases c16 : ((am_I s 2000000 (oN p).toNatClampNeg) &&& (63 : Int32)) = (16 : Int32)
      · rw [if_pos c16]; exact key _ (ar_1285 hv hp hN)
      rw [if_neg c16]
      by_cases c17 : ((am_I s 2000000 (oN p).toNatClampNeg) &&& (63 : Int32)) = (17 : Int32)
      · rw [if_pos c17]; exact key _ (ar_1365 hv hp hN)
      rw [if_neg c17]
      by_cases c18 : ((am_I s 2000000 (oN p).toNatClampNeg) &&& (63 : Int32)) = (18 : Int32)
      · rw [if_pos c18]; exact key _ (ar_1433 hv hp hN)
      rw [if_neg c18]
      by_cases c19 : ((am_I s 2000000 (oN p).toNatClampNeg) &&& (63 : Int32)) = (19 : Int32)
      · rw [if_pos c19]; exact key _ (ar_1446 hv hp hN)
      rw [if_neg c19]
      by_cases c20 : ((am_I s 2000000 (oN p).toNatClampNeg) &&& (63 : Int32)) = (20 : Int32)
      · rw [if_pos c20]; exact key _ (ar_1538 hv hp hN)
      rw [if_neg c20]
      by_cases c21 : ((am_I s 2000000 (oN p).toNatClampNeg) &&& (63 : Int32)) = (21 : Int32)
      · rw [if_pos c21]; exact key _ (ar_1645 hv hp hN)
      rw [if_neg c21]
      by_cases c22 : ((am_I s 2000000 (oN p).toNatClampNeg) &&& (63 : Int32)) = (22 : Int32)
      · rw [if_pos c22]; exact key _ (ar_1741 hv hp hN)
      rw [if_neg c22]
      by_cases c23 : ((am_I s 2000000 (oN p).toNatClampNeg) &&& (63 : Int32)) = (23 : Int32)
      · rw [if_pos c23]; exact key _ (ar_1825 hv hp hN)
      rw [if_neg c23]
      by_cases c24 : ((am_I s 2000000 (oN p).toNatClampNeg) &&& (63 : Int32)) = (24 : Int32)
      · rw [if_pos c24]; exact key _ (ar_1944 hv hp hN)
      rw [if_neg c24]
      by_cases c25 : ((am_I s 2000000 (oN p).toNatClampNeg) &&& (63 : Int32)) = (25 : Int32)
      · rw [if_pos c25]; exact key _ (ar_2052 hv hp hN)
      rw [if_neg c25]
      by_cases c26 : ((am_I s 2000000 (oN p).toNatClampNeg) &&& (63 : Int32)) = (26 : Int32)
      · rw [if_pos c26]; exact key _ (ar_2191 hv hp hN)
      rw [if_neg c26]
      by_cases c27 : ((am_I s 2000000 (oN p).toNatClampNeg) &&& (63 : Int32)) = (27 : Int32)
      · rw [if_pos c27]; exact key _ (ar_2322 hv hp hN)
      rw [if_neg c27]
      by_cases c28 : ((am_I s 2000000 (oN p).toNatClampNeg) &&& (63 : Int32)) = (28 : Int32)
      · rw [if_pos c28]; exact key _ (ar_2402 hv hp hN)
      rw [if_neg c28]
      by_cases c29 : ((am_I s 2000000 (oN p).toNatClampNeg) &&& (63 : Int32)) = (29 : Int32)
      · rw [if_pos c29]; exact key _ (ar_2457 hv hp hN)
      rw [if_neg c29]
      by_cases c30 : ((am_I s 2000000 (oN p).toNatClampNeg) &&& (63 : Int32)) = (30 : Int32)
      · rw [if_pos c30]; exact key _ (ar_2611 hv hp hN)
      rw [if_neg c30]
      by_cases c31 : ((am_I s 2000000 (oN p).toNatClampNeg) &&& (63 : Int32)) = (31 : Int32)
      · rw [if_pos c31]; exact key _ (ar_2715 hv hp hN)
      rw [if_neg c31]
      by_cases c32 : ((am_I s 2000000 (oN p).toNatClampNeg) &&& (63 : Int32)) = (32 : Int32)
      · rw [if_pos c32]; exact key _ (ar_2764 hv hp hN)
      rw [if_neg c32]
      by_cases c33 : ((am_I s 2000000 (oN p).toNatClampNeg) &&& (63 : Int32)) = (33 : Int32)
      · rw [if_pos c33]; exact key _ (ar_2824 hv hp hN)
      rw [if_neg c33]
      by_cases c34 : ((am_I s 2000000 (oN p).toNatClampNeg) &&& (63 : Int32)) = (34 : Int32)
      · rw [if_pos c34]; exact key _ (ar_2935 hv hp hN)
      rw [if_neg c34]
      by_cases c35 : ((am_I s 2000000 (oN p).toNatClampNeg) &&& (63 : Int32)) = (35 : Int32)
      · rw [if_pos c35]; exact key _ (ar_3003 hv hp hN)
      rw [if_neg c35]
      by_cases c36 : ((am_I s 2000000 (oN p).toNatClampNeg) &&& (63 : Int32)) = (36 : Int32)
      · rw [if_pos c36]; exact key _ (ar_3039 hv hp hN)
      rw [if_neg c36]
      by_cases c37 : ((am_I s 2000000 (oN p).toNatClampNeg) &&& (63 : Int32)) = (37 : Int32)
      · rw [if_pos c37]; exact key _ (ar_3075 hv hp hN)
      rw [if_neg c37]
      rw [oN_addL]
      obtain ⟨s2, z1, z2, z3⟩ := ih m (p + 8) s (by omega) (by omega) (by omega) hv
      exact ⟨s2, z1, by omega, by omega⟩
end LOP
