/-! ===== trays ===== -/
def kW (e : Nat) : Int32 := if e = 3 then 1 else if e = 1 then 2 else if e = 2 then 3 else if e = 0 then 4 else 9
section TRY
variable {s s1 t t1 : am_S} {A B : List Nat} {T T' : hT} {X X' : hX} {x y z x1 x2 x3 x4 x5 : Int32} {r c d : Int32} {lw : Nat → Int32} {wy : List (List T2)} {hd : List (List T3)} {dr : List T3} {cr : List T2} {en : List T3} {j : Nat}
theorem needTray_ok (h : j < 4) : f_X7_needTray (oN j) s = some (.inl (some (.ref (47 + 2 * j))), s) := by
  unfold f_X7_needTray
  rw [jn_s, jn_s, if_neg (by rw [oN_nonneg (by omega)]; exact id), if_neg (by rw [oN_leR (by omega) (by omega)]; omega), if_pos (in_o (by omega) (by omega)), oN_nat (by omega)]
  dsimp only
  rw [mv_r, if_pos ⟨(trays_tab j h).2, by omega⟩]
theorem needTray_no (h : ¬ (0 ≤ x.toInt ∧ x.toInt < (4 : Nat))) : f_X7_needTray x s = some (.inr 3, am_tick s) := by
  unfold f_X7_needTray
  rw [jn_s, jn_s]
  by_cases c : x < 0
  · rw [if_pos c]; rfl
  · rw [if_neg c]
    have c2 : (4 : Int32) ≤ x := by
      rw [Int32.lt_iff_toInt_lt, Int32.toInt_zero] at c
      rw [Int32.le_iff_toInt_le]
      have : (4 : Int32).toInt = 4 := rfl
      omega
    rw [if_pos c2]; rfl
theorem isTray_is : f_X8_isTray x s = some (.inl (some (.int (if 0 ≤ x.toInt ∧ x.toInt < (4 : Nat) then 1 else 0))), s) := by
  unfold f_X8_isTray
  rw [mW (a := 0) (b := 3) rfl rfl, bi_s]
  by_cases c : 0 ≤ x.toInt ∧ x.toInt < (4 : Nat)
  · rw [if_pos (show wi x.toInt 0 3 = true from wi_t.mpr (by omega)), if_pos c, if_pos (Or.inr rfl)]
  · rw [if_neg (show ¬ wi x.toInt 0 3 = true from fun h => c (by have := wi_t.mp h; omega)), if_neg c, if_pos (Or.inl rfl)]
theorem tlay_in {a : Nat} : ∀ (n m i : Nat) (s : am_S), n < m → i + n = 12 → ∃ s', L_X6_lay_12 m a (oN i) s = some (.inr ((), s')) ∧ fr [a + 1] s s' ∧ am_I s' = am_I s ∧ ∀ k, am_L s' (a + 1) k = if i ≤ k ∧ k < 12 then 0 else am_L s (a + 1) k := by
  intro n
  induction n with
  | zero =>
    intro m i s hm hi
    obtain ⟨m, rfl⟩ := Nat.exists_eq_add_of_lt hm
    obtain rfl : i = 12 := by omega
    refine ⟨s, ?_, fr.refl, rfl, fun k => by rw [if_neg (by omega)]⟩
    rw [L_X6_lay_12, if_pos (by decide)]
  | succ n ih =>
    intro m i s hm hi
    obtain ⟨m, rfl⟩ : ∃ q, m = q + 1 := ⟨m - 1, by omega⟩
    obtain ⟨s', e1, e2, e3, e4⟩ := ih m (i + 1) (am_sL s (a + 1) i 0) (by omega) (by omega)
    refine ⟨s', ?_, fr.trans (fr.refl.sL (by simp)) e2, e3, fun k => ?_⟩
    · rw [L_X6_lay_12, if_neg (by rw [oN_leR (by omega) (by omega)]; omega), if_pos (in_o (by omega) (by omega)), oN_nat (by omega), oN_addL]
      exact e1
    · rw [e4, L_sL]
      by_cases c : k = i
      · subst c
        rw [if_neg (by omega), if_pos ⟨rfl, rfl⟩, if_pos (by omega)]
      · rw [if_neg (fun h : a + 1 = a + 1 ∧ k = i => c h.2)]
        by_cases c2 : i + 1 ≤ k ∧ k < 12
        · rw [if_pos c2, if_pos (by omega)]
        · rw [if_neg c2, if_neg (by omega)]
theorem mlay_in (hj : j < 4) : ∀ (n m i : Nat) (s : am_S), n < m → i + n = 12 → ∃ s', L_X8_tray_69 m (oN j) (oN i) s = some (.inr ((), s')) ∧ fr [70] s s' ∧ am_I s' = am_I s ∧ ∀ k, am_L s' 70 k = if 12 * j + i ≤ k ∧ k < 12 * j + 12 then 0 else am_L s 70 k := by
  intro n
  induction n with
  | zero =>
    intro m i s hm hi
    obtain ⟨m, rfl⟩ := Nat.exists_eq_add_of_lt hm
    obtain rfl : i = 12 := by omega
    refine ⟨s, ?_, fr.refl, rfl, fun k => by rw [if_neg (by omega)]⟩
    rw [L_X8_tray_69, if_pos (by decide)]
  | succ n ih =>
    intro m i s hm hi
    obtain ⟨m, rfl⟩ : ∃ q, m = q + 1 := ⟨m - 1, by omega⟩
    obtain ⟨s', e1, e2, e3, e4⟩ := ih m (i + 1) (am_sL s 70 (12 * j + i) 0) (by omega) (by omega)
    refine ⟨s', ?_, fr.trans (fr.refl.sL (by simp)) e2, e3, fun k => ?_⟩
    · have ea : (12 : Int32) * oN j + oN i = oN (12 * j + i) := by rw [oN_mulR, oN_add]
      rw [L_X8_tray_69, if_neg (by rw [oN_leR (by omega) (by omega)]; omega), ea, if_pos (in_o (by omega) (by omega)), oN_nat (by omega), oN_addL]
      exact e1
    · rw [e4, L_sL]
      by_cases c : k = 12 * j + i
      · subst c
        rw [if_neg (by omega), if_pos ⟨rfl, rfl⟩, if_pos (by omega)]
      · rw [if_neg (fun h : 70 = 70 ∧ k = 12 * j + i => c h.2)]
        by_cases c2 : 12 * j + (i + 1) ≤ k ∧ k < 12 * j + 12
        · rw [if_pos c2, if_pos (by omega)]
        · rw [if_neg c2, if_neg (by omega)]
/-- trays and only trays have changed -/
theorem cZ.tray {tr : Nat → hY} (h : cZ s T X) (oT : tO T) (oX : xO X) (f : fr A s s1) (hA : A.all (fun a => decide (47 ≤ a ∧ a < 55)) = true) (ht : trC s1 tr) : cZ s1 T (X.1, X.2.1, X.2.2.1, X.2.2.2.1, tr, X.2.2.2.2.2) := by
  have k : ∀ a, ¬ (47 ≤ a ∧ a < 55) → a ∉ A := fun a h hm => h (of_decide_eq_true (List.all_eq_true.mp hA _ hm))
  have kA : ∀ {p : Nat → Bool}, (∀ a, (47 ≤ a ∧ a < 55) → p a = true) → A.all p = true := fun hp => List.all_eq_true.mpr (fun a ha => hp a (of_decide_eq_true (List.all_eq_true.mp hA _ ha)))
  exact ⟨h.1.out oT (fun j hj => f.I (k _ (by omega))), h.2.1.keep f (kA (fun a h => decide_eq_true (by omega))) (by rw [f.I (k _ (by omega))]), h.2.2.1.keep f (kA (fun a h => decide_eq_true (by omega))), h.2.2.2.1.keep (f.I (k _ (by omega))) (f.I (k _ (by omega))), ht, h.2.2.2.2.2.keep oX.2.2 (fun a h1 h2 => f.I (k _ (by omega))) (by rw [f.R]) f.nn⟩
theorem mZ.tray {tr : Nat → hY} (h : mZ t T X) (f : fr A t t1) (hA : A.all (fun a => decide (a = 55 ∨ (68 ≤ a ∧ a < 71))) = true) (e : ∀ k, k ≠ 3 → am_I t1 55 k = am_I t 55 k) (ht : trM t1 tr) : mZ t1 T (X.1, X.2.1, X.2.2.1, X.2.2.2.1, tr, X.2.2.2.2.2) := by
  have k : ∀ a, ¬ (a = 55 ∨ (68 ≤ a ∧ a < 71)) → a ∉ A := fun a h hm => h (of_decide_eq_true (List.all_eq_true.mp hA _ hm))
  exact ⟨by rw [f.I (k 56 (by omega))]; exact h.1, ⟨(e 42 (by omega)).trans h.2.1.1, mSi_of h.2.1.2 (e 30 (by omega)) (f.I (k _ (by omega))) (f.I (k _ (by omega)))⟩, h.2.2.1.keep (f.I (k _ (by omega))) (e 7 (by omega)) (e 15 (by omega)) (e 16 (by omega)), ht, h.2.2.2.2.keep (f.I (k _ (by omega))) (f.I (k _ (by omega)))⟩
theorem xO.tray {q : hY} (oX : xO X) (hq : q.1 = -1 ∨ ((0 ≤ q.1.toInt ∧ q.1.toInt ≤ 3) ∧ (0 ≤ q.2.1.toInt ∧ q.2.1.toInt ≤ 12))) : xO (X.1, X.2.1, X.2.2.1, X.2.2.2.1, va_up X.2.2.2.2.1 j q, X.2.2.2.2.2) := by
  refine ⟨oX.1, ?_, oX.2.2⟩
  intro i hi
  show (va_up X.2.2.2.2.1 j q i).1 = -1 ∨ _
  unfold va_up
  by_cases c : i = j
  · simp only [if_pos c]; exact hq
  · simp only [if_neg c]; exact oX.2.1 i hi
theorem W_tray (hC : cZ s T X) (hM : mZ t T X) (oT : tO T) (oX : xO X) : JW (fun _ : Unit => none) k3102 s t (f_X7_tray x1 x2 x3 s) (f_X8_tray x1 x2 x3 t) := by
  unfold f_X7_tray f_X8_tray
  rw [isTray_is, bi_s, jn_s]
  rcases ix_cases x1 4 with ⟨j, hj, e⟩ | hx
  · subst e
    rw [needTray_ok hj, tv_s, mv_r, if_pos ⟨(trays_tab j hj).2, by omega⟩, if_pos (show 0 ≤ (oN j).toInt ∧ (oN j).toInt < (4 : Nat) by rw [oN_int (by omega)]; omega), if_neg n10, nW (a := 0) (b := 3) rfl rfl, mW (a := 0) (b := 3) rfl rfl, bi_s, jn_s]
    by_cases c1 : wi x2.toInt 0 3 = true
    · rw [if_pos c1, if_pos c1, tu_s, if_neg n10, nW (a := 0) (b := 12) rfl rfl, mW (a := 0) (b := 12) rfl rfl, bi_s]
      by_cases c2 : wi x3.toInt 0 12 = true
      · rw [if_pos c2, if_pos c2, tu_s, if_neg n10]
        dsimp only
        rw [if_pos (show (0 : Int32) ≤ 0 by decide), if_pos (in_o (by omega) (by omega)), if_pos (in_o (by omega) (by omega)), oN_nat (by omega)]
        unfold f_X6_lay
        obtain ⟨s', e1, e2, e3, e4⟩ := tlay_in (a := 47 + 2 * j) 12 ax_fuel 0 (am_sI (am_sI s (47 + 2 * j) 1 x2) (47 + 2 * j) 2 x3) (by rw [ax_fuel_is]; omega) (by omega)
        obtain ⟨t', d1, d2, d3, d4⟩ := mlay_in (j := j) hj 12 ax_fuel 0 (am_sI (am_sI (am_sI t 55 3 0) 68 j x2) 69 j x3) (by rw [ax_fuel_is]; omega) (by omega)
        have e1' : L_X6_lay_12 ax_fuel (47 + 2 * j) 0 (am_sI (am_sI s (47 + 2 * j) 1 x2) (47 + 2 * j) 2 x3) = some (.inr ((), s')) := e1
        have d1' : L_X8_tray_69 ax_fuel (oN j) 0 (am_sI (am_sI (am_sI t 55 3 0) 68 j x2) 69 j x3) = some (.inr ((), t')) := d1
        rw [e1', d1', lm_e, lm_e, bu_s]
        have f1 : fr [47 + 2 * j, 47 + 2 * j + 1] s s' := fr.trans ((fr.refl.sI (by simp)).sI (by simp)) (e2.mono (by simp))
        have f2 : fr [55, 68, 69, 70] t t' := fr.trans (((fr.refl.sI (by simp)).sI (by simp)).sI (by simp)) (d2.mono (by simp))
        refine JW_v (v := ()) oT (oX.tray (j := j) (q := (x2, x3, fun _ => 0)) (Or.inr ⟨wi_t.mp c1, wi_t.mp c2⟩)) f1 (by simp [cA]; omega) (hC.tray oT oX f1 (by simp; omega) ?_) rfl f2 (by decide) (hM.tray f2 (by decide) ?_ ?_) rfl ?_
        · intro i hi
          unfold va_up
          by_cases c : i = j
          · subst c
            rw [if_pos (rfl : i = i)]
            rw [e3]
            refine ⟨?_, ?_, ?_⟩
            · rw [I_sI, if_neg (by omega), I_sI, if_pos (by omega)]
            · rw [I_sI, if_pos (by omega)]
            · intro k hk
              rw [show 48 + 2 * i = 47 + 2 * i + 1 by omega, e4, if_pos (by omega)]
          · rw [if_neg c]
            rw [f1.I (by simp; omega), f1.L (by simp; omega)]
            exact hC.2.2.2.2.1 i hi
        · intro k hk
          rw [d3, I_ne (by decide), I_ne (by decide), I_sI, if_neg (by omega)]
        · intro i hi
          unfold va_up
          by_cases c : i = j
          · subst c
            rw [if_pos (rfl : i = i)]
            rw [d3]
            refine ⟨?_, ?_, ?_⟩
            · rw [I_ne (by decide), I_sI, if_pos (by omega)]
            · rw [I_sI, if_pos (by omega)]
            · intro k hk
              rw [d4, if_pos (by omega)]
          · rw [if_neg c]
            obtain ⟨q1, q2, q3⟩ := hM.2.2.2.1 i hi
            rw [d3]
            refine ⟨?_, ?_, ?_⟩
            · rw [I_ne (by decide), I_sI, if_neg (by omega), I_ne (by decide)]; exact q1
            · rw [I_sI, if_neg (by omega), I_ne (by decide), I_ne (by decide)]; exact q2
            · intro k hk
              rw [d4, if_neg (by omega)]
              exact q3 k hk
        · rw [d3, I_ne (by decide), I_ne (by decide), thr0]
      · rw [if_neg c2, if_neg c2, tu_x, if_pos rfl]
        dsimp only
        rw [if_neg (show ¬ (2 : Int32) ≤ 0 by decide)]
        exact JW_x (v := ()) oT oX (fr.refl (A := [])) (by decide) hC rfl (B := [55]) (fr.refl.sI (by simp)) (by decide) hM.thr rfl thr0
    · rw [if_neg c1, if_neg c1, tu_x, if_pos rfl]
      dsimp only
      rw [if_neg (show ¬ (2 : Int32) ≤ 0 by decide)]
      exact JW_x (v := ()) oT oX (fr.refl (A := [])) (by decide) hC rfl (B := [55]) (fr.refl.sI (by simp)) (by decide) hM.thr rfl thr0
  · rw [needTray_no hx, tv_x, if_neg hx, if_pos rfl]
    dsimp only
    rw [if_neg (show ¬ (1 : Int32) ≤ 0 by decide)]
    exact JW_x (v := ()) oT oX (fr.refl (A := [])) (by decide) hC rfl (B := [55]) (fr.refl.sI (by simp)) (by decide) hM.thr rfl thr0
theorem shb {v : Int64} : v.toInt = (v.toBitVec.toNat : Int).bmod (2 ^ 64) := BitVec.toInt_eq_toNat_bmod _
theorem sh_q {q m : Nat} (hq : 0 < q) (n : Nat) : (((n * q : Nat) : Int).bmod (q * (2 * m))) / (q : Int) = (n : Int).bmod (2 * m) := by
  have e0 : q * (2 * m) = 2 * (q * m) := Nat.mul_left_comm q 2 m
  have e1 : ((n * q : Nat) : Int) % ((q * (2 * m) : Nat) : Int) = ((n % (2 * m) * q : Nat) : Int) := by
    rw [← Int.natCast_emod, Nat.mul_comm n q, Nat.mul_mod_mul_left, Nat.mul_comm]
  have e2 : (n : Int) % ((2 * m : Nat) : Int) = ((n % (2 * m) : Nat) : Int) := by rw [← Int.natCast_emod]
  have e3 : (((q * (2 * m) : Nat) : Int) + 1) / 2 = ((q * m : Nat) : Int) := by rw [e0]; omega
  have e4 : (((2 * m : Nat) : Int) + 1) / 2 = (m : Int) := by omega
  have hq0 : (q : Int) ≠ 0 := by omega
  rw [Int.bmod_def, Int.bmod_def, e1, e2, e3, e4]
  generalize n % (2 * m) = r
  by_cases c : r < m
  · have h1 : r * q < q * m := by rw [Nat.mul_comm r q]; exact Nat.mul_lt_mul_of_pos_left c hq
    rw [if_pos (by omega), if_pos (by omega), Int.natCast_mul, Int.mul_ediv_cancel _ hq0]
  · have h1 : q * m ≤ r * q := by rw [Nat.mul_comm r q]; exact Nat.mul_le_mul_left q (by omega)
    have h2 : ((r * q : Nat) : Int) - ((q * (2 * m) : Nat) : Int) = ((r : Int) - ((2 * m : Nat) : Int)) * q := by
      rw [Int.sub_mul, Int.natCast_mul, Int.natCast_mul q, Int.mul_comm (q : Int)]
    rw [if_neg (by omega), if_neg (by omega), h2, Int.mul_ediv_cancel _ hq0]
theorem cut8 (v : Int64) : (v <<< (56 : Int64)) >>> (56 : Int64) = v.toInt32.toInt8.toInt32.toInt64 := by
  apply Int64.toInt_inj.mp
  have h : ((v <<< (56 : Int64)) >>> (56 : Int64)).toInt = ((v.toBitVec <<< 56).sshiftRight 56).toInt := rfl
  rw [h, BitVec.toInt_sshiftRight, BitVec.toInt_shiftLeft, Int32.toInt_toInt64, Int8.toInt_toInt32, Int32.toInt_toInt8, Int64.toInt_toInt32, shb, Int.bmod_bmod_of_dvd (by decide), Int.bmod_bmod_of_dvd (by decide), Int.shiftRight_eq_div_pow, Nat.shiftLeft_eq]
  exact sh_q (q := 2 ^ 56) (m := 128) (by decide) v.toBitVec.toNat
theorem cut16 (v : Int64) : (v <<< (48 : Int64)) >>> (48 : Int64) = v.toInt32.toInt16.toInt32.toInt64 := by
  apply Int64.toInt_inj.mp
  have h : ((v <<< (48 : Int64)) >>> (48 : Int64)).toInt = ((v.toBitVec <<< 48).sshiftRight 48).toInt := rfl
  rw [h, BitVec.toInt_sshiftRight, BitVec.toInt_shiftLeft, Int32.toInt_toInt64, Int16.toInt_toInt32, Int32.toInt_toInt16, Int64.toInt_toInt32, shb, Int.bmod_bmod_of_dvd (by decide), Int.bmod_bmod_of_dvd (by decide), Int.shiftRight_eq_div_pow, Nat.shiftLeft_eq]
  exact sh_q (q := 2 ^ 48) (m := 32768) (by decide) v.toBitVec.toNat
theorem cut32 (v : Int64) : (v <<< (32 : Int64)) >>> (32 : Int64) = v.toInt32.toInt64 := by
  apply Int64.toInt_inj.mp
  have h : ((v <<< (32 : Int64)) >>> (32 : Int64)).toInt = ((v.toBitVec <<< 32).sshiftRight 32).toInt := rfl
  rw [h, BitVec.toInt_sshiftRight, BitVec.toInt_shiftLeft, Int32.toInt_toInt64, Int64.toInt_toInt32, shb, Int.bmod_bmod_of_dvd (by decide), Int.shiftRight_eq_div_pow, Nat.shiftLeft_eq]
  exact sh_q (q := 2 ^ 32) (m := 2147483648) (by decide) v.toBitVec.toNat
def cutS (q : Int32) (v : Int64) : Int64 := if q = 0 then v.toInt32.toInt8.toInt32.toInt64 else if q = 1 then v.toInt32.toInt16.toInt32.toInt64 else if q = 2 then v.toInt32.toInt64 else v
theorem cut_c {a : Nat} {v : Int64} : f_X6_cut a v s = some (.inl (some (.long (cutS (am_I s a 1) v))), s) := by
  unfold f_X6_cut cutS
  repeat' split
  all_goals rfl
theorem cut_m {q : Int32} {v : Int64} (h : 0 ≤ q.toInt ∧ q.toInt ≤ 3) : (v <<< (((64 : Int32) - ((8 : Int32) <<< (q &&& 31))).toInt64 &&& 63)) >>> (((64 : Int32) - ((8 : Int32) <<< (q &&& 31))).toInt64 &&& 63) = cutS q v := by
  obtain ⟨n, e, e2, _⟩ := oN_of h.1
  have : n = 0 ∨ n = 1 ∨ n = 2 ∨ n = 3 := by omega
  rcases this with h | h | h | h <;> subst h <;> subst e
  · have e : (((64 : Int32) - ((8 : Int32) <<< (oN 0 &&& 31))).toInt64 &&& 63) = 56 := by decide
    rw [e, cut8]; rfl
  · have e : (((64 : Int32) - ((8 : Int32) <<< (oN 1 &&& 31))).toInt64 &&& 63) = 48 := by decide
    rw [e, cut16]; rfl
  · have e : (((64 : Int32) - ((8 : Int32) <<< (oN 2 &&& 31))).toInt64 &&& 63) = 32 := by decide
    rw [e, cut32]; rfl
  · have e : (((64 : Int32) - ((8 : Int32) <<< (oN 3 &&& 31))).toInt64 &&& 63) = 0 := by decide
    rw [e, Int64.shiftLeft_zero, Int64.shiftRight_zero]; rfl
theorem W_write {v : Int64} (hC : cZ s T X) (hM : mZ t T X) (oT : tO T) (oX : xO X) : JW (fun v => some (Value.long v)) kW s t (f_X7_write x1 x2 v s) (f_X8_write x1 x2 v t) := by
  unfold f_X7_write f_X8_write
  rw [isTray_is, bi_s]
  rcases ix_cases x1 4 with ⟨j, hj, e⟩ | hx
  · subst e
    obtain ⟨p1, p2, p3⟩ := hC.2.2.2.2.1 j hj
    obtain ⟨q1, q2, q3⟩ := hM.2.2.2.1 j hj
    have oY := oX.2.1 j hj
    have q1' : am_I (am_sI t 55 3 0) 68 j = (X.2.2.2.2.1 j).1 := by rw [I_ne (by decide)]; exact q1
    have q2' : am_I (am_sI t 55 3 0) 69 j = (X.2.2.2.2.1 j).2.1 := by rw [I_ne (by decide)]; exact q2
    rw [needTray_ok hj, tv_s, mv_r, if_pos ⟨(trays_tab j hj).2, by omega⟩, if_pos (show 0 ≤ (oN j).toInt ∧ (oN j).toInt < (4 : Nat) by rw [oN_int (by omega)]; omega), if_neg n10, if_pos (in_o (by omega) (by omega)), oN_nat (by omega), q1']
    unfold f_X7_needThere
    rw [p1]
    by_cases c1 : (X.2.2.2.2.1 j).1 = -1
    · rw [if_pos c1, if_pos c1, tu_x]
      exact JW_x (v := 0) oT oX (fr.refl (A := [])) (by decide) hC rfl (B := [55]) ((fr.refl.sI (by simp)).sI (by simp)) (by decide) hM.thr.thr rfl thr0
    · obtain ⟨o1, o2⟩ := oY.resolve_left c1
      obtain ⟨m, em, em2, em3⟩ := oN_of o2.1
      rw [if_neg c1, if_neg c1, tu_s, if_pos (in_o (by omega) (by omega)), p2, q2', em]
      have hs1 : ((oN m - 1 : Int32).toInt64).toInt = (m : Int) - 1 := by rw [Int32.toInt_toInt64]; exact oN_sub1 (by omega)
      rw [mW (a := 0) (b := (m : Int) - 1) rfl hs1, bi_s]
      rcases ix_cases x2 m with ⟨p, hp, e⟩ | hp
      · subst e
        have e48 : (12 : Int32) * oN j + oN p = oN (12 * j + p) := by rw [oN_mulR, oN_add]
        rw [if_neg (by rw [oN_nonneg (by omega)]; exact id), if_pos ((oN_lt (by omega) (by omega)).mpr hp), if_pos (show wi (oN p).toInt 0 ((m : Int) - 1) = true from wi_t.mpr (by rw [oN_int (by omega)]; omega)), if_neg n10, if_pos (in_o (by omega) (by omega)), le_s, e48, if_pos (in_o (by omega) (by omega)), if_pos (in_o (by omega) (by omega)), cut_m (by rw [q1']; exact o1), q1', oN_nat (by omega), L_sL, if_pos ⟨rfl, rfl⟩]
        unfold f_X6_put
        rw [cut_c, bl_s, p1, if_neg (by rw [oN_nonneg (by omega)]; exact id), if_neg (by rw [oN_leR (by omega) (by omega)]; omega), if_pos (in_o (by omega) (by omega)), oN_nat (by omega), bl_s]
        have f1 : fr [47 + 2 * j + 1] s (am_sL s (47 + 2 * j + 1) p (cutS (X.2.2.2.2.1 j).1 v)) := fr.refl.sL (by simp)
        have f2 : fr [55, 70] t (am_sL (am_sI t 55 3 0) 70 (12 * j + p) (cutS (X.2.2.2.2.1 j).1 v)) := (fr.refl.sI (by simp)).sL (by simp)
        refine JW_v (v := cutS (X.2.2.2.2.1 j).1 v) oT (oX.tray (j := j) (q := ((X.2.2.2.2.1 j).1, (X.2.2.2.2.1 j).2.1, va_up (X.2.2.2.2.1 j).2.2 p (cutS (X.2.2.2.2.1 j).1 v))) oY) f1 (by simp [cA]; omega) (hC.tray oT oX f1 (by simp; omega) ?_) rfl f2 (by decide) (hM.tray f2 (by decide) ?_ ?_) rfl ?_
        · intro i hi
          obtain ⟨r1, r2, r3⟩ := hC.2.2.2.2.1 i hi
          refine ⟨?_, ?_, ?_⟩
          · show am_I s (47 + 2 * i) 1 = _
            rw [r1]; unfold va_up; by_cases c : i = j
            · subst c; rw [if_pos rfl]
            · rw [if_neg c]
          · show am_I s (47 + 2 * i) 2 = _
            rw [r2]; unfold va_up; by_cases c : i = j
            · subst c; rw [if_pos rfl]
            · rw [if_neg c]
          · intro k hk
            rw [L_sL]
            by_cases c : i = j
            · subst c
              simp only [va_up, if_true]
              by_cases c2 : k = p
              · rw [if_pos ⟨by omega, c2⟩, if_pos c2]
              · rw [if_neg (fun h => c2 h.2), if_neg c2]; exact r3 k hk
            · rw [if_neg (by omega)]
              simp only [va_up, if_neg c]
              exact r3 k hk
        · intro k hk
          show am_I (am_sI t 55 3 0) 55 k = _
          rw [I_sI, if_neg (by omega)]
        · intro i hi
          obtain ⟨r1, r2, r3⟩ := hM.2.2.2.1 i hi
          refine ⟨?_, ?_, ?_⟩
          · show am_I (am_sI t 55 3 0) 68 i = _
            rw [I_ne (by decide), r1]; unfold va_up; by_cases c : i = j
            · subst c; rw [if_pos rfl]
            · rw [if_neg c]
          · show am_I (am_sI t 55 3 0) 69 i = _
            rw [I_ne (by decide), r2]; unfold va_up; by_cases c : i = j
            · subst c; rw [if_pos rfl]
            · rw [if_neg c]
          · intro k hk
            rw [L_sL]
            by_cases c : i = j
            · subst c
              simp only [va_up, if_true]
              by_cases c2 : k = p
              · rw [if_pos ⟨trivial, by omega⟩, if_pos c2]
              · rw [if_neg (by omega), if_neg c2]; exact r3 k hk
            · rw [if_neg (by omega)]
              simp only [va_up, if_neg c]
              exact r3 k hk
        · exact thr0 (t := t) (y := 0)
      · have hm : (if x2 < 0 then some (.inr 2, am_tick s) else if x2 < oN m then am_bl (f_X6_put (47 + 2 * j) x2 v s) (fun v12 s11 => some (.inl (some (.long v12)), s11)) else some (.inr 2, am_tick s) : am_F) = some (.inr 2, am_tick s) := by
          by_cases c : x2 < 0
          · rw [if_pos c]
          · have c2 : ¬ x2 < oN m := by
              rw [Int32.lt_iff_toInt_lt, Int32.toInt_zero] at c
              rw [Int32.lt_iff_toInt_lt, oN_int (by omega)]
              omega
            rw [if_neg c, if_neg c2]
        rw [hm, if_neg (show ¬ wi x2.toInt 0 ((m : Int) - 1) = true from fun h => hp (by have := wi_t.mp h; omega)), if_pos rfl]
        exact JW_x (v := 0) oT oX (fr.refl (A := [])) (by decide) hC rfl (B := [55]) ((fr.refl.sI (by simp)).sI (by simp)) (by decide) hM.thr.thr rfl thr0
  · rw [needTray_no hx, tv_x, if_neg hx, if_pos rfl]
    exact JW_x (v := 0) oT oX (fr.refl (A := [])) (by decide) hC rfl (B := [55]) ((fr.refl.sI (by simp)).sI (by simp)) (by decide) hM.thr.thr rfl thr0
end TRY
