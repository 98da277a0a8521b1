/-! ===== directions ===== -/
def qT : List Nat := [0, 98, 195, 290, 383, 471, 556, 634, 707, 773, 831, 882, 924, 957, 981, 995, 1000]
def rT : List Nat := [98, 97, 95, 93, 88, 85, 78, 73, 66, 58, 51, 42, 33, 24, 14, 5]
def qn (k : Nat) : Int := ((qT[k]?).getD 0 : Nat)
def rs (k : Nat) : Int := ((rT[k]?).getD 0 : Nat)
/-- the sine of a direction below 64 -/
def sn (d : Nat) : Int := if d ≤ 16 then qn d else if d ≤ 32 then qn (32 - d) else if d ≤ 48 then - qn (d - 32) else - qn (64 - d)
def cs (d : Nat) : Int := sn ((d + 16) % 64)
/-- the statics and texts that were there before -/
def cF (s : am_S) : Prop := (∀ k, k < 17 → (am_I s 3000005 k).toInt = qn k) ∧ (∀ k, k < 16 → (am_I s 3000006 k).toInt = rs k)
section DIR
variable {s : am_S} {d k : Nat} {x : Int32}
theorem sn_b : ∀ d, d < 64 → -1000 ≤ sn d ∧ sn d ≤ 1000 := by decide +kernel
theorem cs_b : ∀ d, d < 64 → -1000 ≤ cs d ∧ cs d ≤ 1000 := by decide +kernel
theorem and63 : ∀ d, d < 64 → (oN d &&& 63) = oN d := by decide +kernel
theorem and63' : ∀ d, d < 16 → (oN (d + 64) &&& 63) = oN d := by decide +kernel
theorem and63n : ∀ d, d < 17 → ((-(oN d)) &&& 63) = oN ((64 - d) % 64) := by decide +kernel
theorem and31 : ∀ d, d < 64 → (oN d &&& 31) = oN (d % 32) := by decide +kernel
theorem sine_core (hf : cF s) (hx : (x &&& 63) = oN d) (hd : d < 64) : ∃ v, f_X7_sine x s = some (.inl (some (.int v)), s) ∧ v.toInt = sn d := by
  unfold f_X7_sine
  rw [hx, and31 d hd]
  unfold am_jn
  by_cases e1 : 16 < d % 32
  · have e2 : oN 32 - oN (d % 32) = oN (32 - d % 32) := oN_sub (by omega)
    have e2' : (32 : Int32) - oN (d % 32) = oN (32 - d % 32) := e2
    show ∃ v, (if (16 : Int32) < oN (d % 32) then _ else _) = _ ∧ _
    rw [if_pos ((oN_ltR (by omega) (by omega)).mpr e1), e2']
    show ∃ v, (if am_in (oN (32 - d % 32)) 17 = true then _ else none) = _ ∧ _
    rw [if_pos (by rw [am_in_oN (by omega)]; exact decide_eq_true (by omega)), oN_nat (by omega)]
    by_cases e3 : 32 ≤ d
    · rw [if_pos ((oN_leR (by omega) (by omega)).mpr e3)]
      refine ⟨_, rfl, ?_⟩
      have hb := hf.1 (32 - d % 32) (by omega)
      have q : ∀ d, d < 64 → 32 ≤ d → 16 < d % 32 → sn d = - qn (32 - d % 32) ∧ qn (32 - d % 32) ≤ 1000 ∧ 0 ≤ qn (32 - d % 32) := by decide +kernel
      have q1 := q d hd e3 e1
      rw [Int32.toInt_neg, hb, q1.1, Int.bmod_eq_of_le (by omega) (by omega)]
    · rw [if_neg (fun hh => e3 ((oN_leR (by omega) (by omega)).mp hh))]
      refine ⟨_, rfl, ?_⟩
      have q : ∀ d, d < 64 → ¬ 32 ≤ d → 16 < d % 32 → sn d = qn (32 - d % 32) := by decide +kernel
      rw [hf.1 (32 - d % 32) (by omega), q d hd e3 e1]
  · show ∃ v, (if (16 : Int32) < oN (d % 32) then _ else _) = _ ∧ _
    rw [if_neg (fun hh => e1 ((oN_ltR (by omega) (by omega)).mp hh))]
    show ∃ v, (if am_in (oN (d % 32)) 17 = true then _ else none) = _ ∧ _
    rw [if_pos (by rw [am_in_oN (by omega)]; exact decide_eq_true (by omega)), oN_nat (by omega)]
    by_cases e3 : 32 ≤ d
    · rw [if_pos ((oN_leR (by omega) (by omega)).mpr e3)]
      refine ⟨_, rfl, ?_⟩
      have hb := hf.1 (d % 32) (by omega)
      have q : ∀ d, d < 64 → 32 ≤ d → ¬ 16 < d % 32 → sn d = - qn (d % 32) ∧ qn (d % 32) ≤ 1000 ∧ 0 ≤ qn (d % 32) := by decide +kernel
      have q1 := q d hd e3 e1
      rw [Int32.toInt_neg, hb, q1.1, Int.bmod_eq_of_le (by omega) (by omega)]
    · rw [if_neg (fun hh => e3 ((oN_leR (by omega) (by omega)).mp hh))]
      refine ⟨_, rfl, ?_⟩
      have q : ∀ d, d < 64 → ¬ 32 ≤ d → ¬ 16 < d % 32 → sn d = qn (d % 32) := by decide +kernel
      rw [hf.1 (d % 32) (by omega), q d hd e3 e1]
/-- the class's sine, cosine of a direction -/
theorem c_sine (hf : cF s) (hd : d < 64) : f_X7_sine (oN d) s = some (.inl (some (.int (Int32.ofInt (sn d)))), s) := by
  obtain ⟨v, e1, e2⟩ := sine_core (x := oN d) hf (and63 d hd) hd
  rw [e1, ← e2, Int32.ofInt_toInt]
theorem c_cosine (hf : cF s) (hd : d < 64) : f_X7_cosine (oN d) s = some (.inl (some (.int (Int32.ofInt (cs d)))), s) := by
  have h1 : oN d + 16 = oN (d + 16) := by rw [oN_addL]
  have h2 : (oN (d + 16) &&& 63) = oN ((d + 16) % 64) := by
    by_cases e : d + 16 < 64
    · rw [and63 _ e, Nat.mod_eq_of_lt e]
    · rw [show d + 16 = (d + 16 - 64) + 64 by omega, and63' _ (by omega)]
      congr 1
      omega
  obtain ⟨v, e1, e2⟩ := sine_core (x := oN (d + 16)) hf h2 (Nat.mod_lt _ (by omega))
  unfold f_X7_cosine
  rw [h1, e1]
  show some (Sum.inl (some (Value.int v)), s) = _
  unfold cs
  rw [← e2, Int32.ofInt_toInt]
/-! the model's -/
theorem quarter_is : ∀ k, k < 17 → f_X8_quarter (oN k) s = some (.inl (some (.int (Int32.ofInt (qn k)))), s) := by
  intro k hk
  have h : k = 0 ∨ k = 1 ∨ k = 2 ∨ k = 3 ∨ k = 4 ∨ k = 5 ∨ k = 6 ∨ k = 7 ∨ k = 8 ∨ k = 9 ∨ k = 10 ∨ k = 11 ∨ k = 12 ∨ k = 13 ∨ k = 14 ∨ k = 15 ∨ k = 16 := by omega
  rcases h with e | e | e | e | e | e | e | e | e | e | e | e | e | e | e | e | e <;> subst e <;> rfl
theorem ofInt_neg' (x : Int) : - Int32.ofInt x = Int32.ofInt (-x) := (Int32.ofInt_neg x).symm
theorem sine0_is (hd : d < 32) : f_X8_sine_0 (oN d) s = some (.inl (some (.int (Int32.ofInt (sn d)))), s) := by
  unfold f_X8_sine_0
  by_cases e1 : 16 < d
  · have e2 : (32 : Int32) - oN d = oN (32 - d) := oN_sub (a := 32) (by omega)
    rw [if_pos ((oN_ltR (by omega) (by omega)).mpr e1), if_neg (fun hh => absurd ((oN_ltR (by omega) (by omega)).mp hh) (by show ¬ 32 < d; omega)), e2, quarter_is _ (by omega)]
    have q : ∀ d, d < 32 → 16 < d → sn d = qn (32 - d) := by decide +kernel
    rw [q d hd e1]
    rfl
  · rw [if_neg (fun hh => e1 ((oN_ltR (by omega) (by omega)).mp hh)), quarter_is _ (by omega)]
    have q : ∀ d, d < 32 → ¬ 16 < d → sn d = qn d := by decide +kernel
    rw [q d hd e1]
    rfl
theorem m_sine (hd : d < 64) : f_X8_sine (oN d) s = some (.inl (some (.int (Int32.ofInt (sn d)))), s) := by
  unfold f_X8_sine
  by_cases e1 : 16 < d
  · rw [if_pos ((oN_ltR (by omega) (by omega)).mpr e1)]
    by_cases e2 : 32 < d
    · have e3 : oN d - (32 : Int32) = oN (d - 32) := oN_sub (b := 32) (by omega)
      rw [if_pos ((oN_ltR (by omega) (by omega)).mpr e2), e3, sine0_is (by omega)]
      have q : ∀ d, d < 64 → 32 < d → sn d = - sn (d - 32) := by decide +kernel
      show some (Sum.inl (some (Value.int (- Int32.ofInt (sn (d - 32))))), s) = _
      rw [ofInt_neg', q d hd e2]
    · have e3 : (32 : Int32) - oN d = oN (32 - d) := oN_sub (a := 32) (by omega)
      rw [if_neg (fun hh => e2 ((oN_ltR (by omega) (by omega)).mp hh)), e3, quarter_is _ (by omega)]
      have q : ∀ d, d < 64 → 16 < d → ¬ 32 < d → sn d = qn (32 - d) := by decide +kernel
      rw [q d hd e1 e2]
      rfl
  · rw [if_neg (fun hh => e1 ((oN_ltR (by omega) (by omega)).mp hh)), quarter_is _ (by omega)]
    have q : ∀ d, d < 64 → ¬ 16 < d → sn d = qn d := by decide +kernel
    rw [q d hd e1]
    rfl
theorem rem_is {a b : Nat} (ha : a < 2147483648) (hb : b < 2147483648) : oN a - oN a / oN b * oN b = oN (a % b) := by
  have h1 : oN a / oN b = oN (a / b) := (Int32.ofNat_div ha hb).symm
  rw [h1, oN_mul, oN_sub (Nat.div_mul_le_self a b)]
  congr 1
  have := Nat.div_add_mod a b
  rw [Nat.mul_comm] at this
  omega
theorem m_cosine (hd : d < 64) : f_X8_cosine (oN d) s = some (.inl (some (.int (Int32.ofInt (cs d)))), s) := by
  have h1 : oN d + 16 = oN (d + 16) := by rw [oN_addL]
  have h2 : oN (d + 16) - oN (d + 16) / 64 * 64 = oN ((d + 16) % 64) := rem_is (b := 64) (by omega) (by omega)
  unfold f_X8_cosine
  rw [h1, h2, m_sine (Nat.mod_lt _ (by omega))]
  rfl
/-- the model's rows of sines are laid -/
def mSn (s : am_S) (n : Nat) : Prop := ∀ d, d < n → am_I s 65 d = Int32.ofInt (sn d) ∧ am_I s 66 d = Int32.ofInt (cs d)
theorem lay_in : ∀ (m k : Nat) (s : am_S), 64 - k < m → k ≤ 64 → mSn s k → ∃ s', L_X8_laySines_15 m (oN k) s = some (.inr ((), s')) ∧ fr [65, 66] s s' ∧ mSn s' 64 := by
  intro m
  induction m with
  | zero => intro k s hm; exact absurd hm (Nat.not_lt_zero _)
  | succ m ih =>
    intro k s hm hk hL
    rw [L_X8_laySines_15]
    by_cases e : 64 ≤ k
    · rw [if_pos ((oN_leR (by omega) (by omega)).mpr e)]
      exact ⟨s, rfl, fr.refl, fun d hd => hL d (by omega)⟩
    · have hin : am_in (oN k) 64 = true := by rw [am_in_oN (by omega)]; exact decide_eq_true (by omega)
      have en : (oN k).toNatClampNeg = k := oN_nat (by omega)
      rw [if_neg (fun hh => e ((oN_leR (by omega) (by omega)).mp hh)), m_sine (by omega)]
      show ∃ s', (if am_in (oN k) 64 = true then _ else none) = _ ∧ _
      rw [if_pos hin, en, m_cosine (by omega)]
      show ∃ s', (if am_in (oN k) 64 = true then _ else none) = _ ∧ _
      rw [if_pos hin, oN_addL]
      obtain ⟨s', z1, z2, z3⟩ := ih (k + 1) (am_sI (am_sI s 65 k (Int32.ofInt (sn k))) 66 k (Int32.ofInt (cs k))) (by omega) (by omega) (by
        intro d hd
        rw [I_ne (by decide), I_sI, I_sI, I_ne (by decide)]
        by_cases e2 : d = k
        · rw [if_pos ⟨rfl, e2⟩, if_pos ⟨rfl, e2⟩, e2]; exact ⟨rfl, rfl⟩
        · rw [if_neg (fun hh => e2 hh.2), if_neg (fun hh => e2 hh.2)]; exact hL d (by omega))
      exact ⟨s', z1, ((fr.refl.sI (by simp)).sI (by simp)).trans z2, z3⟩
theorem m_lay (h : am_I s 55 30 = 0 ∨ mSn s 64) : ∃ s', f_X8_laySines s = some (.inl none, s') ∧ fr [55, 65, 66] s s' ∧ (∀ j, j ≠ 30 → am_I s' 55 j = am_I s 55 j) ∧ mSn s' 64 := by
  unfold f_X8_laySines
  by_cases e : am_I s 55 30 = 0
  · rw [if_pos e]
    obtain ⟨s1, z1, z2, z3⟩ := lay_in ax_fuel 0 (am_sI s 55 30 1) (by rw [ax_fuel_is]; omega) (by omega) (fun d hd => absurd hd (Nat.not_lt_zero _))
    have z1' : L_X8_laySines_15 ax_fuel 0 (am_sI s 55 30 1) = some (.inr ((), s1)) := z1
    rw [z1']
    refine ⟨s1, rfl, ((fr.refl.sI (by simp)) : fr [55, 65, 66] s _).trans (z2.mono (by decide)), ?_, z3⟩
    intro j hj
    rw [z2.I (by decide), I_sI, if_neg (by omega)]
  · rw [if_neg e]
    exact ⟨s, rfl, fr.refl, fun j _ => rfl, h.elim (fun h0 => absurd h0 e) id⟩
end DIR
