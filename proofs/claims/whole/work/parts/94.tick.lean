/-! ===== one tick, told of numbers ===== -/
def kpt (v : Int64) (b : Int32) : Int32 := (am_lmax (-b).toInt64 (am_lmin b.toInt64 v)).toInt32
def atk (nose : Int32) (p : Nat) : Int32 :=
  kpt (if (-32 : Int32) ≤ nose / 16 - oN p then (if nose / 16 - oN p < 32 then nose / 16 - oN p else nose / 16 - oN p + (-64)) else nose / 16 - oN p + 64).toInt64 8
def qv (vx vy : Int32) : Int64 := (vx.toInt64 * vx.toInt64 + vy.toInt64 * vy.toInt64) / 1000
def frc (A : Int32) (Ld : Int64) (n : Int32) (q : Int64) : Int64 := ((n.toInt64 * q) * A.toInt64) / Ld
def lft (lw : Nat → Int32) (A : Int32) (Ld : Int64) (at' : Int32) (q : Int64) : Int64 := if 0 ≤ at' then frc A Ld (lw (am_abs at').toNatClampNeg) q else - frc A Ld (lw (am_abs at').toNatClampNeg) q
def drg (lw : Nat → Int32) (A : Int32) (Ld : Int64) (at' : Int32) (q : Int64) : Int64 := frc A Ld (lw (9 + (am_abs at').toNatClampNeg)) q
def trn (spin : Int32) (push : Int64) (slow : Int32) : Int32 := kpt ((spin.toInt64 + push) - ((spin.toInt64 + push) * slow.toInt64) / 10) 200
def pul (tk : Int32) : Int32 → List T3 → Int32
  | p, [] => p
  | p, q :: l => pul tk (if tk < q.1 then p else if q.2.1 < tk then p else p - q.2.2) l
/-- the nearest crate that stops: 0 for none -/
def stp (lx x y : Int32) : Int32 → List T2 → Int32
  | p, [] => p
  | p, q :: l => stp lx x y (if q.1 ≤ lx then p else if x < q.1 then p else if q.2 < y then p else if p = 0 then q.1 else if p ≤ q.1 then p else q.1) l
section TK
variable {s : am_S} {x y z : Int32} {v : Int64}
theorem in_bd {b : Int} (hb : 0 ≤ b) (hb2 : b ≤ 100000) (hz : z.toInt = b) : -b ≤ (kpt v z).toInt ∧ (kpt v z).toInt ≤ b := by
  have e1 : (-z).toInt64.toInt = -b := by rw [Int32.toInt_toInt64, Int32.toInt_neg, hz, Int.bmod_eq_of_le (by omega) (by omega)]
  have e2 : z.toInt64.toInt = b := by rw [Int32.toInt_toInt64, hz]
  unfold kpt
  have hmin : (am_lmin z.toInt64 v).toInt ≤ b := by
    unfold am_lmin
    by_cases h : v < z.toInt64
    · rw [if_pos h]; rw [Int64.lt_iff_toInt_lt, e2] at h; omega
    · rw [if_neg h, e2]; exact Int.le_refl _
  have hmax : -b ≤ (am_lmax (-z).toInt64 (am_lmin z.toInt64 v)).toInt ∧ (am_lmax (-z).toInt64 (am_lmin z.toInt64 v)).toInt ≤ b := by
    unfold am_lmax
    by_cases h : am_lmin z.toInt64 v < (-z).toInt64
    · rw [if_pos h, e1]; omega
    · rw [if_neg h]
      rw [Int64.lt_iff_toInt_lt, e1] at h
      omega
  rw [Int64.toInt_toInt32, Int.bmod_eq_of_le (by omega) (by omega)]
  exact hmax
theorem atk_b (nose : Int32) (p : Nat) : -8 ≤ (atk nose p).toInt ∧ (atk nose p).toInt ≤ 8 := by
  unfold atk
  exact in_bd (b := 8) (by omega) (by omega) rfl
theorem abs_b {b : Nat} (hb : b ≤ 2000) (h : -(b : Int) ≤ x.toInt ∧ x.toInt ≤ b) : ∃ n, am_abs x = oN n ∧ n ≤ b ∧ (am_abs x).toNatClampNeg = n := by
  have h1 := abs_is (x := x) (by omega)
  have h2 : 0 ≤ (am_abs x).toInt ∧ (am_abs x).toInt ≤ b := by rw [h1]; split <;> omega
  obtain ⟨n, e1, e2, e3⟩ := oN_of h2.1
  exact ⟨n, e1, by omega, by rw [e1, oN_nat e3]⟩
theorem sq_b (hx : -2000 ≤ x.toInt ∧ x.toInt ≤ 2000) : 0 ≤ x.toInt * x.toInt ∧ x.toInt * x.toInt ≤ 4000000 := by
  have h1 : (x.toInt * x.toInt).natAbs ≤ 4000000 := by
    rw [Int.natAbs_mul]
    have := Nat.mul_le_mul (show x.toInt.natAbs ≤ 2000 by omega) (show x.toInt.natAbs ≤ 2000 by omega)
    omega
  have h2 : 0 ≤ x.toInt * x.toInt := by
    by_cases e : 0 ≤ x.toInt
    · exact Int.mul_nonneg e e
    · have := Int.mul_nonneg (show 0 ≤ -x.toInt by omega) (show 0 ≤ -x.toInt by omega)
      rw [Int.neg_mul_neg] at this
      exact this
  omega
/-- the class works q in ints -/
theorem q_32 (hx : -2000 ≤ x.toInt ∧ x.toInt ≤ 2000) (hy : -2000 ≤ y.toInt ∧ y.toInt ≤ 2000) : ((x * x + y * y) / (1000 : Int32)).toInt64 = qv x y := by
  have b1 := sq_b hx
  have b2 := sq_b hy
  have n1 : (1000 : Int32) ≠ -1 := by decide
  have n2 : (1000 : Int64) ≠ -1 := by decide
  have t1 : (1000 : Int32).toInt = 1000 := rfl
  have t2 : (1000 : Int64).toInt = 1000 := rfl
  have e1 : (x * x + y * y).toInt = x.toInt * x.toInt + y.toInt * y.toInt := by
    rw [Int32.toInt_add, Int32.toInt_mul, Int32.toInt_mul, Int.bmod_eq_of_le (n := x.toInt * x.toInt) (by omega) (by omega), Int.bmod_eq_of_le (n := y.toInt * y.toInt) (by omega) (by omega), Int.bmod_eq_of_le (by omega) (by omega)]
  have e2 : (x.toInt64 * x.toInt64 + y.toInt64 * y.toInt64).toInt = x.toInt * x.toInt + y.toInt * y.toInt := by
    rw [Int64.toInt_add, Int64.toInt_mul, Int64.toInt_mul, Int32.toInt_toInt64, Int32.toInt_toInt64, Int.bmod_eq_of_le (n := x.toInt * x.toInt) (by omega) (by omega), Int.bmod_eq_of_le (n := y.toInt * y.toInt) (by omega) (by omega), Int.bmod_eq_of_le (by omega) (by omega)]
  unfold qv
  apply Int64.toInt_inj.mp
  rw [Int32.toInt_toInt64, Int32.toInt_div_of_ne_right _ _ n1, Int64.toInt_div_of_ne_right _ _ n2, e1, e2, t1, t2]
/-- turning round by masks and by remainders -/
theorem nose_eq {n p : Int32} (hn : 0 ≤ n.toInt ∧ n.toInt ≤ 1023) (hp : -200 ≤ p.toInt ∧ p.toInt ≤ 200) : ((n + p) &&& 1023) = (n + p + 1024) - (n + p + 1024) / 1024 * 1024 ∧ 0 ≤ ((n + p) &&& 1023).toInt ∧ ((n + p) &&& 1023).toInt ≤ 1023 := by
  have t1 : (1024 : Int32).toInt = 1024 := rfl
  have e1 : (n + p).toInt = n.toInt + p.toInt := by rw [Int32.toInt_add, Int.bmod_eq_of_le (by omega) (by omega)]
  have e2 : (n + p + 1024).toInt = n.toInt + p.toInt + 1024 := by rw [Int32.toInt_add, e1, t1, Int.bmod_eq_of_le (by omega) (by omega)]
  obtain ⟨m, f1, f2, f3⟩ := oN_of (x := n + p + 1024) (by omega)
  have g1 : (n + p + 1024) - (n + p + 1024) / 1024 * 1024 = oN (m % 1024) := by rw [f1]; exact rem_is (b := 1024) f3 (by omega)
  have g2 : ((n + p) &&& 1023) = oN (m % 1024) := by
    have h1 : n + p = oN m - 1024 := by rw [show oN m = n + p + 1024 from f1.symm, Int32.add_sub_cancel]
    rw [h1]
    have key : ∀ w : BitVec 32, (w - 1024#32) &&& 1023#32 = w &&& 1023#32 := by
      intro w
      apply BitVec.eq_of_getLsbD_eq
      intro i hi
      rw [BitVec.getLsbD_and, BitVec.getLsbD_and]
      by_cases hi2 : i < 10
      · have hw : (w - 1024#32).toNat % 1024 = w.toNat % 1024 := by
          rw [BitVec.toNat_sub]
          have : w.toNat < 4294967296 := w.isLt
          have e : (1024#32).toNat = 1024 := rfl
          rw [e]
          omega
        have gb : ∀ v : BitVec 32, v.getLsbD i = (v.toNat % 1024).testBit i := by
          intro v
          rw [show (1024 : Nat) = 2 ^ 10 from rfl, Nat.testBit_mod_two_pow, BitVec.getLsbD]
          simp [hi2]
        have hb : (w - 1024#32).getLsbD i = w.getLsbD i := by rw [gb, gb, hw]
        rw [hb]
      · have : (1023#32).getLsbD i = false := by
          have hall : ∀ i, i < 32 → ¬ i < 10 → (1023#32).getLsbD i = false := by decide
          exact hall i hi hi2
        rw [this, Bool.and_false, Bool.and_false]
    have k2 : (oN m - 1024) &&& 1023 = oN m &&& 1023 := Int32.toBitVec_inj.mp (by
      rw [Int32.toBitVec_and, Int32.toBitVec_and, Int32.toBitVec_sub]
      exact key _)
    rw [k2]
    have hm : m < 4096 := by omega
    apply Int32.toBitVec_inj.mp
    rw [Int32.toBitVec_and]
    apply BitVec.eq_of_toNat_eq
    rw [BitVec.toNat_and]
    show (BitVec.ofNat 32 m).toNat &&& (1023#32).toNat = (BitVec.ofNat 32 (m % 1024)).toNat
    rw [BitVec.toNat_ofNat, BitVec.toNat_ofNat, BitVec.toNat_ofNat, Nat.mod_eq_of_lt (show m < 2 ^ 32 by omega), Nat.mod_eq_of_lt (show m % 1024 < 2 ^ 32 by omega)]
    show m &&& 2 ^ 10 - 1 = m % 2 ^ 10
    exact Nat.and_two_pow_sub_one_eq_mod m 10
  refine ⟨by rw [g2, g1], ?_⟩
  rw [g2, oN_int (by omega)]
  omega
end TK
