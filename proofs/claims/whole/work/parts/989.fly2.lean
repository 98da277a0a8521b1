def dirOf (sl : Int32) : Nat := if 0 ≤ sl.toInt then sl.toInt.toNat else (sl.toInt + 64).toNat
section FL2
variable {s : am_S} {lw : Nat → Int32} {d w A V e v sl : Int32} {dr : List T3} {cr : List T2}
theorem dir_lt (h : -16 ≤ sl.toInt ∧ sl.toInt ≤ 16) : dirOf sl < 64 := by
  unfold dirOf
  split <;> omega
theorem dir_and (h : -16 ≤ sl.toInt ∧ sl.toInt ≤ 16) : (sl &&& 63) = oN (dirOf sl) := by
  unfold dirOf
  by_cases c : 0 ≤ sl.toInt
  · rw [if_pos c]
    obtain ⟨m, e1, e2, e3⟩ := oN_of c
    rw [← e2, Int.toNat_natCast, e1]
    exact and63 m (by omega)
  · rw [if_neg c]
    have e0 : sl = -(oN (-sl.toInt).toNat) := by
      apply Int32.toInt_inj.mp
      rw [Int32.toInt_neg, oN_int (by omega), Int.bmod_eq_of_le (by omega) (by omega)]
      omega
    have := and63n (-sl.toInt).toNat (by omega)
    rw [← e0] at this
    rw [this]
    congr 1
    omega
theorem dir_add (h : -16 ≤ sl.toInt ∧ sl.toInt ≤ 16) : (if 0 ≤ sl then sl else sl + 64) = oN (dirOf sl) := by
  have t : (64 : Int32).toInt = 64 := rfl
  unfold dirOf
  by_cases c : 0 ≤ sl.toInt
  · rw [if_pos (pos0.mpr c), if_pos c]
    apply Int32.toInt_inj.mp
    rw [oN_int (by omega)]
    omega
  · rw [if_neg (fun hh => c (pos0.mp hh)), if_neg c]
    apply Int32.toInt_inj.mp
    rw [oN_int (by omega), Int32.toInt_add, t, Int.bmod_eq_of_le (by omega) (by omega)]
    omega
/-- load: no int overflows -/
theorem ld_is {W : Nat} (hw : w = oN W) (hW : 1 ≤ W ∧ W ≤ 288) (hd : 0 ≤ d.toInt ∧ d.toInt ≤ 50) {th : Int32} (ht : 1 ≤ th.toInt ∧ th.toInt ≤ 99) : (w + ((w * d) / (100 : Int32))).toInt64 * th.toInt64 = ldS w d th ∧ 0 < (ldS w d th).toInt := by
  obtain ⟨D, d1, d2, d3⟩ := oN_of hd.1
  obtain ⟨T, t1, t2, t3⟩ := oN_of (show 0 ≤ th.toInt by omega)
  have h100 : oN (W * D) / 100 = oN (W * D / 100) := (Int32.ofNat_div (a := W * D) (b := 100) (by have := Nat.mul_le_mul hW.2 (show D ≤ 50 by omega); omega) (by omega)).symm
  have hb : W * D ≤ 288 * 50 := Nat.mul_le_mul hW.2 (by omega)
  have hx : (w + ((w * d) / (100 : Int32))) = oN (W + W * D / 100) := by rw [hw, d1, oN_mul, h100, oN_add]
  have hq : W + W * D / 100 ≤ 432 := by omega
  have hm : (W + W * D / 100) * T ≤ 432 * 99 := Nat.mul_le_mul hq (by omega)
  have hm1 : 1 * 1 ≤ (W + W * D / 100) * T := Nat.mul_le_mul (by omega) (by omega)
  unfold ldS
  rw [hx, t1, oN_mul]
  refine ⟨?_, ?_⟩
  · rw [oL (by omega), oL (by omega), oL (by omega), ← Int64.ofInt_mul, ← Int.natCast_mul]
  · rw [Int32.toInt_toInt64, oN_int (by omega)]
    omega
theorem c_fly (hf : cF s) (hB : cB s lw d w A V dr cr) (oE : okE (lw, A, V, ldS w d (lw 19), e, dr, cr)) (hv : 10 ≤ v.toInt ∧ v.toInt ≤ 999) (hs : -16 ≤ sl.toInt ∧ sl.toInt ≤ 16) :
    ∃ s', f_X1_flyOut e v sl s = some (.inl none, s') ∧ fr [41] s s' ∧ cFl s' (flS (lw, A, V, ldS w d (lw 19), e, dr, cr) 200 (fl0 v (dirOf sl))) := by
  obtain ⟨s1, z1, z2, z3, z4⟩ := begin_is (e := e) (v := v) hf hB (dir_and hs) (dir_lt hs)
  obtain ⟨s2, y1, y2, y3, y4⟩ := flyOut_in oE ax_fuel 0 s1 (fl0 v (dirOf sl)) (by rw [ax_fuel_is]; omega) (by omega) (cF_fr hf z2 (by decide) (by decide)) z3 z4 (okFl_0 hv (dir_lt hs)) rfl
  have y1' : L_X1_flyOut_10 ax_fuel 0 s1 = some (.inr ((), s2)) := y1
  unfold f_X1_flyOut
  rw [z1, bu_s, y1', lm_e]
  exact ⟨s2, rfl, z2.trans y2, y4⟩
/-! the model's -/
def mB (s : am_S) (lw : Nat → Int32) (d w A V : Int32) (dr : List T3) (cr : List T2) : Prop := (∀ k, k < 23 → am_I s 56 (lp k) = lw k) ∧ am_I s 56 7 = d ∧ am_I s 55 24 = w ∧ am_I s 55 23 = A ∧ am_I s 55 27 = V ∧ (am_I s 56 4 = oN dr.length ∧ hp3 (am_I s 56) 234 3 dr) ∧ (am_I s 56 5 = oN cr.length ∧ hp2 (am_I s 56) 246 2 cr) ∧ (am_I s 55 30 = 0 ∨ mSn s 64)
theorem starts_is (hB : mB s lw d w A V dr cr) (hl : (w + ((w * d) / (100 : Int32))).toInt64 * (lw 19).toInt64 = ldS w d (lw 19)) (hs : -16 ≤ sl.toInt ∧ sl.toInt ≤ 16) :
    ∃ s', f_X8_starts v sl s = some (.inl none, s') ∧ fr [55, 65, 66] s s' ∧ mE s' (lw, A, V, ldS w d (lw 19), e, dr, cr) ∧ mFl s' (fl0 v (dirOf sl)) ∧ (∀ k, k < 30 ∨ (41 < k ∧ k ≠ 45) → am_I s' 55 k = am_I s 55 k) ∧ am_I s' 55 45 = 0 := by
  obtain ⟨b1, b2, b3, b4, b5, b6, b7, b8⟩ := hB
  obtain ⟨s1, z1, z2, z3, z4⟩ := m_lay b8
  have hd := dir_lt hs
  have hin : am_in (oN (dirOf sl)) 64 = true := by rw [am_in_oN (by omega)]; exact decide_eq_true (by omega)
  have en : (oN (dirOf sl)).toNatClampNeg = dirOf sl := oN_nat (by omega)
  have hz := z4 (dirOf sl) hd
  have ff : fr [55, 65, 66] s (am_sI (am_sI (am_sI (am_sI (am_sI (am_sI (am_sI (am_sI (am_sI (am_sI (am_sI (am_sI s1 55 31 0) 55 32 2000) 55 33 ((v * Int32.ofInt (cs (dirOf sl))) / 1000)) 55 34 ((v * Int32.ofInt (sn (dirOf sl))) / 1000)) 55 35 (16 * oN (dirOf sl))) 55 36 0) 55 37 0) 55 38 2000) 55 39 0) 55 40 0) 55 41 0) 55 45 0) :=
    ((((((((((((z2.sI (by simp)).sI (by simp)).sI (by simp)).sI (by simp)).sI (by simp)).sI (by simp)).sI (by simp)).sI (by simp)).sI (by simp)).sI (by simp)).sI (by simp)).sI (by simp))
  have ef : f_X8_starts v sl s = some (.inl none, am_sI (am_sI (am_sI (am_sI (am_sI (am_sI (am_sI (am_sI (am_sI (am_sI (am_sI (am_sI s1 55 31 0) 55 32 2000) 55 33 ((v * Int32.ofInt (cs (dirOf sl))) / 1000)) 55 34 ((v * Int32.ofInt (sn (dirOf sl))) / 1000)) 55 35 (16 * oN (dirOf sl))) 55 36 0) 55 37 0) 55 38 2000) 55 39 0) 55 40 0) 55 41 0) 55 45 0) := by
    have da := dir_add hs
    have body : ∀ z : Int32, z = oN (dirOf sl) → (if am_in z 64 = true then if am_in z 64 = true then (some (.inl none, (am_sI (am_sI (am_sI (am_sI (am_sI (am_sI (am_sI (am_sI (am_sI (am_sI (am_sI (am_sI s1 55 31 (0 : Int32)) 55 32 (2000 : Int32)) 55 33 ((v * (am_I s1 66 z.toNatClampNeg)) / (1000 : Int32))) 55 34 ((v * (am_I s1 65 z.toNatClampNeg)) / (1000 : Int32))) 55 35 ((16 : Int32) * z)) 55 36 (0 : Int32)) 55 37 (0 : Int32)) 55 38 (2000 : Int32)) 55 39 (0 : Int32)) 55 40 (0 : Int32)) 55 41 (0 : Int32)) 55 45 (0 : Int32))) : am_F) else none else none) = some (.inl none, am_sI (am_sI (am_sI (am_sI (am_sI (am_sI (am_sI (am_sI (am_sI (am_sI (am_sI (am_sI s1 55 31 0) 55 32 2000) 55 33 ((v * Int32.ofInt (cs (dirOf sl))) / 1000)) 55 34 ((v * Int32.ofInt (sn (dirOf sl))) / 1000)) 55 35 (16 * oN (dirOf sl))) 55 36 0) 55 37 0) 55 38 2000) 55 39 0) 55 40 0) 55 41 0) 55 45 0) := by
      intro z hz'
      rw [hz', if_pos hin, if_pos hin, en, hz.1, hz.2]
    unfold f_X8_starts
    rw [z1, bu_s, jn_s]
    by_cases c : 0 ≤ sl
    · rw [if_pos c] at da ⊢
      exact body sl da
    · rw [if_neg c] at da ⊢
      exact body (sl + 64) da
  have k56 : am_I (am_sI (am_sI (am_sI (am_sI (am_sI (am_sI (am_sI (am_sI (am_sI (am_sI (am_sI (am_sI s1 55 31 0) 55 32 2000) 55 33 ((v * Int32.ofInt (cs (dirOf sl))) / 1000)) 55 34 ((v * Int32.ofInt (sn (dirOf sl))) / 1000)) 55 35 (16 * oN (dirOf sl))) 55 36 0) 55 37 0) 55 38 2000) 55 39 0) 55 40 0) 55 41 0) 55 45 0) 56 = am_I s 56 := ff.I (by decide)
  have kk : ∀ k, k < 30 ∨ (41 < k ∧ k ≠ 45) → am_I (am_sI (am_sI (am_sI (am_sI (am_sI (am_sI (am_sI (am_sI (am_sI (am_sI (am_sI (am_sI s1 55 31 0) 55 32 2000) 55 33 ((v * Int32.ofInt (cs (dirOf sl))) / 1000)) 55 34 ((v * Int32.ofInt (sn (dirOf sl))) / 1000)) 55 35 (16 * oN (dirOf sl))) 55 36 0) 55 37 0) 55 38 2000) 55 39 0) 55 40 0) 55 41 0) 55 45 0) 55 k = am_I s 55 k := fun k hk => by
    rw [I_sI, if_neg (by omega), I_sI, if_neg (by omega), I_sI, if_neg (by omega), I_sI, if_neg (by omega), I_sI, if_neg (by omega), I_sI, if_neg (by omega), I_sI, if_neg (by omega), I_sI, if_neg (by omega), I_sI, if_neg (by omega), I_sI, if_neg (by omega), I_sI, if_neg (by omega), I_sI, if_neg (by omega), z3 k (by omega)]
  refine ⟨_, ef, ff, ⟨?_, ?_, ?_, ?_, ?_, ?_, ?_⟩, ?_, kk, ?_⟩
  · rw [k56]; exact b1
  · rw [kk 23 (by omega)]; exact b4
  · rw [kk 27 (by omega)]; exact b5
  · rw [kk 24 (by omega), k56, b2, b3, show am_I s 56 9 = lw 19 from b1 19 (by omega)]; exact hl
  · rw [k56]; exact b6
  · rw [k56]; exact b7
  · intro q hq
    have := z4 q hq
    simp only [I_sI]
    exact this
  · refine ⟨?_, ?_, ?_, ?_, ?_, ?_, ?_, ?_, ?_, ?_, ?_⟩
    any_goals (simp only [I_sI]; rfl)
    rw [I_sI, if_neg (by omega), I_sI, if_pos ⟨rfl, rfl⟩]
    show (0 : Int32) = 0 - 0
    decide
  · simp only [I_sI]; rfl
theorem flies_in {E : hE} (oE : okE E) {n : Nat} (hn : n ≤ 200) : ∀ (m i : Nat) (s : am_S) (F : hF), n - i < m → i ≤ n → mE s E → mFl s F → okFl F → F.2.2.2.2.2.2.1 = oN i →
    ∃ s', L_X8_flies_6 m E.2.2.2.2.1 (oN n) s = some (.inr ((), s')) ∧ fr [55] s s' ∧ mE s' E ∧ mFl s' (flS E (n - i) F) ∧ (∀ k, k < 31 ∨ (41 < k ∧ k ≠ 45) → am_I s' 55 k = am_I s 55 k) := by
  intro m
  induction m with
  | zero => intro i s F hm; exact absurd hm (Nat.not_lt_zero _)
  | succ m ih =>
    intro i s F hm hi hE hF oF ht
    rw [L_X8_flies_6, hF.2.2.2.2.2.2.1, ht, hF.2.2.2.2.2.2.2.2.2.2]
    by_cases e : n ≤ i
    · rw [if_pos ((oN_le (by omega) (by omega)).mpr e), show n - i = 0 by omega]
      exact ⟨s, rfl, fr.refl, hE, hF, fun k _ => rfl⟩
    · rw [if_neg (fun hh => e ((oN_le (by omega) (by omega)).mp hh))]
      by_cases c : F.2.2.2.2.2.2.2.2.2.2 = 0
      · rw [if_pos c]
        obtain ⟨s1, z1, z2, z3, z4, z5, z6⟩ := m_tick hE oE hF oF
        rw [z1, bu_s]
        obtain ⟨s', y1, y2, y3, y4, y5⟩ := ih (i + 1) s1 (tkF E F) (by omega) (by omega) z3 z4 (okFl_tk oF) (by rw [tk_ticks, ht, oN_addL])
        refine ⟨s', y1, z2.trans y2, y3, ?_, fun k hk => (y5 k hk).trans (z5 k hk)⟩
        rw [show n - i = (n - (i + 1)) + 1 by omega, flS, if_pos c]
        exact y4
      · rw [if_neg c, flS_stop c]
        exact ⟨s, rfl, fr.refl, hE, hF, fun k _ => rfl⟩
theorem m_fly {n : Nat} (hn : n ≤ 200) (hB : mB s lw d w A V dr cr) (hl : (w + ((w * d) / (100 : Int32))).toInt64 * (lw 19).toInt64 = ldS w d (lw 19)) (oE : okE (lw, A, V, ldS w d (lw 19), e, dr, cr)) (hv : 10 ≤ v.toInt ∧ v.toInt ≤ 999) (hs : -16 ≤ sl.toInt ∧ sl.toInt ≤ 16) :
    ∃ s', f_X8_flies e v sl (oN n) s = some (.inl none, s') ∧ fr [55, 65, 66] s s' ∧ mFl s' (flS (lw, A, V, ldS w d (lw 19), e, dr, cr) n (fl0 v (dirOf sl))) ∧ mSn s' 64 ∧ (∀ k, k < 30 ∨ (41 < k ∧ k ≠ 45) → am_I s' 55 k = am_I s 55 k) := by
  obtain ⟨s1, z1, z2, z3, z4, z5, z6⟩ := starts_is (v := v) (e := e) hB hl hs
  obtain ⟨s2, y1, y2, y3, y4, y5⟩ := flies_in oE hn ax_fuel 0 s1 (fl0 v (dirOf sl)) (by rw [ax_fuel_is]; omega) (by omega) z3 z4 (okFl_0 hv (dir_lt hs)) rfl
  have y1' : L_X8_flies_6 ax_fuel e (oN n) s1 = some (.inr ((), s2)) := y1
  unfold f_X8_flies
  rw [z1, bu_s, y1', lm_e]
  exact ⟨s2, rfl, z2.trans (y2.mono (by decide)), y4, y3.2.2.2.2.2.2, fun k hk => (y5 k (by omega)).trans (z5 k hk)⟩
end FL2
