noncomputable def f_L_best (x2 : Int32) (x3 : Int32) (s : am_S) : am_F :=
  am_xi (f_X7_best x2 x3 s) (fun v2 s1 =>
    some (.inl (some (.int (0 : Int32))), (am_sL s1 71 0 v2.toInt64))
  ) (fun e s1 =>
    if e = 3 then
      some (.inl (some (.int (1 : Int32))), s1)
    else
      none
  )
theorem s_L_best {N : Nat} {d : Nat} {x2 : Int32} {x3 : Int32} {s : am_S} (h : am_shE N s)  : am_S1 (am_shE N) (d + 7) mL_best [.ref 0, .int x2, .int x3, .ref 71] s (f_L_best x2 x3 s) := by
  intro P Q k hP
  show am_WP (d + 7) mL_best 0 [(0, .ref 0), (1, .int x2), (2, .int x3), (3, .ref 71)] [] s Q
  unfold f_L_best at k
  refine wp_ld (v := .ref 71) dL_best_0 rfl rfl rfl rfl ?_
  refine wp_cst (v := .int (0 : Int32)) dL_best_1 rfl rfl ?_
  refine wp_ld (v := .ref 0) dL_best_2 rfl rfl rfl rfl ?_
  refine wp_ld (v := .int x2) dL_best_3 rfl rfl rfl rfl ?_
  refine wp_ld (v := .int x3) dL_best_4 rfl rfl rfl rfl ?_
  refine x_i dL_best_5 rfl rfl rfl (am_inv_v rfl (kE_0 h) rfl rfl rfl) (sE h (fun _ h => s_X7_best h)) k rfl (List.cons_ne_nil _ _) (fun v2 s1 h k => ?_) (fun e s1 h k => ?_)
  · refine wp_pu dL_best_8 rfl rfl ?_
    refine wq_last dL_best_9 (kE_71 h) (by decide) (j := 0) rfl ?_
    refine wp_goto dL_best_10 rfl ?_
    refine wp_cst (v := .int (0 : Int32)) dL_best_17 rfl rfl ?_
    exact wp_end dL_best_18 rfl (am_end_i rfl) (hP _ _ (ok_s k) (shE_sL h))
  · by_cases c3 : e = 3
    · have k := ok_pos c3 k
      subst c3
      refine ⟨_, _, rfl, ?_⟩
      refine wp_cst (v := .int (1 : Int32)) dL_best_15 rfl rfl ?_
      exact wp_end dL_best_16 rfl (am_end_i rfl) (hP _ _ (ok_s k) h)
    replace k := ok_neg c3 k
    exact (ok_no k).elim
noncomputable def f_X7_breaks (x1 : Int32) (s : am_S) : am_F :=
  am_tv (f_X7_needWay x1 s) (fun v2 s1 =>
    am_mv v2 none (fun t3 => if am_k0 t3 = (4, 0) ∧ t3 < 72 then
      am_bi (f_X7_breakOf t3 s1) (fun v8 s7 =>
        some (.inl (some (.int v8)), s7)
      )
    else none)
  )
theorem s_X7_breaks {N n : Nat} {d : Nat} {x1 : Int32} {s : am_S} (h : am_sh N n s)  : am_S1 (am_sh N n) (d + 5) mX7_breaks [.ref 0, .int x1] s (f_X7_breaks x1 s) := by
  intro P Q k hP
  show am_WP (d + 5) mX7_breaks 0 [(0, .ref 0), (1, .int x1)] [] s Q
  unfold f_X7_breaks at k
  refine wp_ld (v := .ref 0) dX7_breaks_0 rfl rfl rfl rfl ?_
  refine wp_ld (v := .ref 0) dX7_breaks_1 rfl rfl rfl rfl ?_
  refine wp_ld (v := .int x1) dX7_breaks_2 rfl rfl rfl rfl ?_
  refine t_v dX7_breaks_3 rfl rfl rfl (am_inv_v rfl (kk_0 h) rfl rfl rfl) (s_X7_needWay h) k rfl rfl hP (fun v2 s1 h k => ?_)
  obtain ⟨t3, c4, k⟩ := ok_mn k
  subst c4
  obtain ⟨g5, k⟩ := ok_g k
  have f6 := kk_up h g5
  refine c_i dX7_breaks_6 rfl rfl rfl (am_inv_v rfl (kk_0 h) rfl rfl rfl) (s_X7_breakOf h f6) k (fun v8 s7 h k => ?_)
  exact wp_end dX7_breaks_9 rfl (am_end_i rfl) (hP _ _ (ok_s k) h)
noncomputable def f_L_breaks (x2 : Int32) (s : am_S) : am_F :=
  am_xi (f_X7_breaks x2 s) (fun v2 s1 =>
    some (.inl (some (.int (0 : Int32))), (am_sL s1 71 0 v2.toInt64))
  ) (fun e s1 =>
    if e = 3 then
      some (.inl (some (.int (1 : Int32))), s1)
    else
      none
  )
theorem s_L_breaks {N : Nat} {d : Nat} {x2 : Int32} {s : am_S} (h : am_shE N s)  : am_S1 (am_shE N) (d + 6) mL_breaks [.ref 0, .int x2, .ref 71] s (f_L_breaks x2 s) := by
  intro P Q k hP
  show am_WP (d + 6) mL_breaks 0 [(0, .ref 0), (1, .int x2), (2, .ref 71)] [] s Q
  unfold f_L_breaks at k
  refine wp_ld (v := .ref 71) dL_breaks_0 rfl rfl rfl rfl ?_
  refine wp_cst (v := .int (0 : Int32)) dL_breaks_1 rfl rfl ?_
  refine wp_ld (v := .ref 0) dL_breaks_2 rfl rfl rfl rfl ?_
  refine wp_ld (v := .int x2) dL_breaks_3 rfl rfl rfl rfl ?_
  refine x_i dL_breaks_4 rfl rfl rfl (am_inv_v rfl (kE_0 h) rfl rfl rfl) (sE h (fun _ h => s_X7_breaks h)) k rfl (List.cons_ne_nil _ _) (fun v2 s1 h k => ?_) (fun e s1 h k => ?_)
  · refine wp_pu dL_breaks_7 rfl rfl ?_
    refine wq_last dL_breaks_8 (kE_71 h) (by decide) (j := 0) rfl ?_
    refine wp_goto dL_breaks_9 rfl ?_
    refine wp_cst (v := .int (0 : Int32)) dL_breaks_15 rfl rfl ?_
    exact wp_end dL_breaks_16 rfl (am_end_i rfl) (hP _ _ (ok_s k) (shE_sL h))
  · by_cases c3 : e = 3
    · have k := ok_pos c3 k
      subst c3
      refine ⟨_, _, rfl, ?_⟩
      refine wp_cst (v := .int (1 : Int32)) dL_breaks_13 rfl rfl ?_
      exact wp_end dL_breaks_14 rfl (am_end_i rfl) (hP _ _ (ok_s k) h)
    replace k := ok_neg c3 k
    exact (ok_no k).elim
noncomputable def f_X4_copyFrom (a : Nat) (b1 : Nat) (s : am_S) : am_F :=
  ax_le (am_min (am_I (am_sA s (a + 1) (va_cpy (am_I s (b1 + 1)) (am_I s (a + 1)) 0 0 33)) b1 2) (am_I (am_sA s (a + 1) (va_cpy (am_I s (b1 + 1)) (am_I s (a + 1)) 0 0 33)) a 1)) (fun y1 =>
    some (.inl none, (am_sI (am_sA s (a + 1) (va_cpy (am_I s (b1 + 1)) (am_I s (a + 1)) 0 0 33)) a 2 y1))
  )
theorem s_X4_copyFrom {N n : Nat} {d : Nat} {a : Nat} {b1 : Nat} {s : am_S} (h : am_sh N n s) (fa : am_kf n a 4) (fb1 : am_kf n b1 4) : am_S1 (am_sh N n) (d) mX4_copyFrom [.ref a, .ref b1] s (f_X4_copyFrom a b1 s) := by
  intro P Q k hP
  show am_WP (d) mX4_copyFrom 0 [(0, .ref a), (1, .ref b1)] [] s Q
  unfold f_X4_copyFrom at k
  refine wp_ld (v := .ref b1) dX4_copyFrom_0 rfl rfl rfl rfl ?_
  refine wp_gr dX4_copyFrom_1 rfl rfl (kk_f h fb1) (rr_rw h fb1) ?_
  refine wp_cst (v := .int (0 : Int32)) dX4_copyFrom_4 rfl rfl ?_
  refine wp_ld (v := .ref a) dX4_copyFrom_5 rfl rfl rfl rfl ?_
  refine wp_gr dX4_copyFrom_6 rfl rfl (kk_f h fa) (rr_rw h fa) ?_
  refine wp_cst (v := .int (0 : Int32)) dX4_copyFrom_9 rfl rfl ?_
  refine wp_cst (v := .int (33 : Int32)) dX4_copyFrom_10 rfl rfl ?_
  refine wq_ac dX4_copyFrom_12 rfl (kk_rw h fb1) (by decide) (kk_rw h fa) rfl rfl (m := 33) rfl (by decide) (by decide) (by decide) (Nat.le_of_ble_eq_true rfl) ?_
  refine wp_ld (v := .ref a) dX4_copyFrom_15 rfl rfl rfl rfl ?_
  refine wp_ld (v := .ref b1) dX4_copyFrom_16 rfl rfl rfl rfl ?_
  refine wq_gI dX4_copyFrom_17 rfl rfl (kk_f (sh_sA h) fb1) (v := (am_I (am_sA s (a + 1) (va_cpy (am_I s (b1 + 1)) (am_I s (a + 1)) 0 0 33)) b1 2)) rfl ?_
  show am_WP (d) mX4_copyFrom 20 _ _ _ Q
  refine wp_ld (v := .ref a) dX4_copyFrom_20 rfl rfl rfl rfl ?_
  refine wq_gI dX4_copyFrom_21 rfl rfl (kk_f (sh_sA h) fa) (v := (am_I (am_sA s (a + 1) (va_cpy (am_I s (b1 + 1)) (am_I s (a + 1)) 0 0 33)) a 1)) rfl ?_
  refine wp_mem (st' := .int (am_min (am_I (am_sA s (a + 1) (va_cpy (am_I s (b1 + 1)) (am_I s (a + 1)) 0 0 33)) b1 2) (am_I (am_sA s (a + 1) (va_cpy (am_I s (b1 + 1)) (am_I s (a + 1)) 0 0 33)) a 1)) :: [.ref a]) dX4_copyFrom_24 rfl rfl rfl rfl ?_
  refine ls_i k (fun y1 _ k => ?_)
  refine wp_pI dX4_copyFrom_27 rfl rfl rfl (fun h => absurd h (by decide)) (kk_f (sh_sA h) fa) ?_
  exact wp_end dX4_copyFrom_30 rfl rfl (hP _ _ (ok_s k) (sh_sI (sh_sA h)))
noncomputable def f_X7_triedKind (x1 : Int32) (s : am_S) : am_F :=
  some (.inl (some (.int (x1 / (6 : Int32)))), s)
theorem s_X7_triedKind {N n : Nat} {d : Nat} {x1 : Int32} {s : am_S} (h : am_sh N n s)  : am_S1 (am_sh N n) (d) mX7_triedKind [.int x1] s (f_X7_triedKind x1 s) := by
  intro P Q k hP
  show am_WP (d) mX7_triedKind 0 [(0, .int x1)] [] s Q
  unfold f_X7_triedKind at k
  refine wp_ld (v := .int x1) dX7_triedKind_0 rfl rfl rfl rfl ?_
  refine wp_cst (v := .int (6 : Int32)) dX7_triedKind_1 rfl rfl ?_
  refine wp_div dX7_triedKind_3 (by decide) ?_
  exact wp_end dX7_triedKind_4 rfl (am_end_i rfl) (hP _ _ (ok_s k) h)
noncomputable def f_X7_triedN (x1 : Int32) (s : am_S) : am_F :=
  some (.inl (some (.int ((x1 - x1 / (6 : Int32) * (6 : Int32)) + (1 : Int32)))), s)
theorem s_X7_triedN {N n : Nat} {d : Nat} {x1 : Int32} {s : am_S} (h : am_sh N n s)  : am_S1 (am_sh N n) (d) mX7_triedN [.int x1] s (f_X7_triedN x1 s) := by
  intro P Q k hP
  show am_WP (d) mX7_triedN 0 [(0, .int x1)] [] s Q
  unfold f_X7_triedN at k
  refine wp_ld (v := .int x1) dX7_triedN_0 rfl rfl rfl rfl ?_
  refine wp_cst (v := .int (6 : Int32)) dX7_triedN_1 rfl rfl ?_
  refine wp_rem dX7_triedN_3 (by decide) ?_
  refine wp_cst (v := .int (1 : Int32)) dX7_triedN_4 rfl rfl ?_
  refine wp_pu dX7_triedN_5 rfl rfl ?_
  exact wp_end dX7_triedN_6 rfl (am_end_i rfl) (hP _ _ (ok_s k) h)
noncomputable def f_X4_put (a : Nat) (x1 : Int32) (x2 : Int32) (x3 : Int32) (s : am_S) : am_F :=
  if ((x1 * (3 : Int32)) + x2) < 0 then
    some (.inl none, s)
  else
    if (33 : Int32) ≤ ((x1 * (3 : Int32)) + x2) then
      some (.inl none, s)
    else
      if am_in ((x1 * (3 : Int32)) + x2) 33 = true then
        some (.inl none, (am_sI s (a + 1) (((x1 * (3 : Int32)) + x2).toNatClampNeg) x3))
      else none
theorem s_X4_put {N n : Nat} {d : Nat} {a : Nat} {x1 : Int32} {x2 : Int32} {x3 : Int32} {s : am_S} (h : am_sh N n s) (fa : am_kf n a 4) : am_S1 (am_sh N n) (d) mX4_put [.ref a, .int x1, .int x2, .int x3] s (f_X4_put a x1 x2 x3 s) := by
  intro P Q k hP
  show am_WP (d) mX4_put 0 [(0, .ref a), (1, .int x1), (2, .int x2), (3, .int x3)] [] s Q
  unfold f_X4_put at k
  refine wp_ld (v := .int x1) dX4_put_0 rfl rfl rfl rfl ?_
  refine wp_cst (v := .int (3 : Int32)) dX4_put_1 rfl rfl ?_
  refine wp_pu dX4_put_2 rfl rfl ?_
  refine wp_ld (v := .int x2) dX4_put_3 rfl rfl rfl rfl ?_
  refine wp_pu dX4_put_4 rfl rfl ?_
  refine wp_st (ls' := [(0, .ref a), (1, .int x1), (2, .int x2), (3, .int x3), (4, .int ((x1 * (3 : Int32)) + x2))]) dX4_put_5 rfl rfl rfl (Nat.le_of_ble_eq_true rfl) rfl ?_
  refine wp_ld (v := .int ((x1 * (3 : Int32)) + x2)) dX4_put_7 rfl rfl rfl rfl ?_
  refine wp_if_lt dX4_put_9 rfl (fun c1 => have k := ok_pos c1 k; ?_) (fun c1 => have k := ok_neg c1 k; ?_)
  · exact wp_end dX4_put_30 rfl rfl (hP _ _ (ok_s k) h)
  · refine wp_ld (v := .int ((x1 * (3 : Int32)) + x2)) dX4_put_12 rfl rfl rfl rfl ?_
    refine wp_ld (v := .ref a) dX4_put_14 rfl rfl rfl rfl ?_
    refine wp_gr dX4_put_15 rfl rfl (kk_f h fa) (rr_rw h fa) ?_
    refine wp_alen dX4_put_18 (kk_rw h fa) (by decide) (v := (33 : Int32)) rfl ?_
    refine wp_ic_ge dX4_put_19 rfl (fun c2 => have k := ok_pos c2 k; ?_) (fun c2 => have k := ok_neg c2 k; ?_)
    · exact wp_end dX4_put_30 rfl rfl (hP _ _ (ok_s k) h)
    · refine wp_ld (v := .ref a) dX4_put_22 rfl rfl rfl rfl ?_
      refine wp_gr dX4_put_23 rfl rfl (kk_f h fa) (rr_rw h fa) ?_
      refine wp_ld (v := .int ((x1 * (3 : Int32)) + x2)) dX4_put_26 rfl rfl rfl rfl ?_
      refine wp_ld (v := .int x3) dX4_put_28 rfl rfl rfl rfl ?_
      obtain ⟨g3, k⟩ := ok_g k
      refine wq_iast dX4_put_29 (kk_rw h fa) g3 (j := (((x1 * (3 : Int32)) + x2).toNatClampNeg)) rfl ?_
      exact wp_end dX4_put_30 rfl rfl (hP _ _ (ok_s k) (sh_sI h))
noncomputable def f_X4_putFold (a : Nat) (x1 : Int32) (x2 : Int32) (x3 : Int32) (s : am_S) : am_F :=
  am_bu (f_X4_put a x1 (0 : Int32) x2 s) (fun s1 =>
    am_bu (f_X4_put a x1 (1 : Int32) x3 s1) (fun s3 =>
      some (.inl none, s3)
    )
  )
theorem s_X4_putFold {N n : Nat} {d : Nat} {a : Nat} {x1 : Int32} {x2 : Int32} {x3 : Int32} {s : am_S} (h : am_sh N n s) (fa : am_kf n a 4) : am_S1 (am_sh N n) (d + 1) mX4_putFold [.ref a, .int x1, .int x2, .int x3] s (f_X4_putFold a x1 x2 x3 s) := by
  intro P Q k hP
  show am_WP (d + 1) mX4_putFold 0 [(0, .ref a), (1, .int x1), (2, .int x2), (3, .int x3)] [] s Q
  unfold f_X4_putFold at k
  refine wp_ld (v := .ref a) dX4_putFold_0 rfl rfl rfl rfl ?_
  refine wp_ld (v := .int x1) dX4_putFold_1 rfl rfl rfl rfl ?_
  refine wp_cst (v := .int (0 : Int32)) dX4_putFold_2 rfl rfl ?_
  refine wp_ld (v := .int x2) dX4_putFold_3 rfl rfl rfl rfl ?_
  refine c_u dX4_putFold_4 rfl rfl rfl (am_inv_v rfl (kk_f h fa) rfl rfl rfl) (s_X4_put h fa) k (fun s1 h k => ?_)
  refine wp_ld (v := .ref a) dX4_putFold_7 rfl rfl rfl rfl ?_
  refine wp_ld (v := .int x1) dX4_putFold_8 rfl rfl rfl rfl ?_
  refine wp_cst (v := .int (1 : Int32)) dX4_putFold_9 rfl rfl ?_
  refine wp_ld (v := .int x3) dX4_putFold_10 rfl rfl rfl rfl ?_
  refine c_u dX4_putFold_11 rfl rfl rfl (am_inv_v rfl (kk_f h fa) rfl rfl rfl) (s_X4_put h fa) k (fun s3 h k => ?_)
  exact wp_end dX4_putFold_14 rfl rfl (hP _ _ (ok_s k) h)
noncomputable def f_X0_offer (x1 : Int32) (x2 : Int32) (x3 : Int64) (s : am_S) : am_F :=
  am_jn (fun (e2 : Unit) s3 =>
    am_bi (f_X7_triedKind x2 (am_sI s3 45 0 x1)) (fun v5 s4 =>
      am_bi (f_X7_triedN x2 (am_sI s4 45 1 v5)) (fun v7 s6 =>
        some (.inl none, (am_sL (am_sI s6 45 2 v7) 45 3 x3))
      )
    )
  ) (fun J1 =>
    if (am_I s 45 0) = (-1 : Int32) then
      J1 () s
    else
      if x3 ≤ (am_L s 45 3) then
        some (.inl none, s)
      else
        J1 () s
  )
theorem s_X0_offer {N n : Nat} {d : Nat} {x1 : Int32} {x2 : Int32} {x3 : Int64} {s : am_S} (h : am_sh N n s)  : am_S1 (am_sh N n) (d + 1) mX0_offer [.ref 45, .int x1, .int x2, .long x3] s (f_X0_offer x1 x2 x3 s) := by
  intro P Q k hP
  show am_WP (d + 1) mX0_offer 0 [(0, .ref 45), (1, .int x1), (2, .int x2), (3, .long x3)] [] s Q
  unfold f_X0_offer at k
  refine wp_ld (v := .ref 45) dX0_offer_0 rfl rfl rfl rfl ?_
  refine wq_gI dX0_offer_1 rfl rfl (kk_45 h) (v := (am_I s 45 0)) rfl ?_
  refine wp_cst (v := .int (-1 : Int32)) dX0_offer_4 rfl rfl ?_
  refine jn_rule k (fun J1 hJ1 k => ?_)
  have HJ1 : ∀ (e2 : Unit) (s3 : am_S), am_sh N n s3 → am_ok (J1 e2 s3) P → am_WP (d + 1) mX0_offer 17 [(0, .ref 45), (1, .int x1), (2, .int x2), (3, .long x3)] [] s3 Q := by
    intro e2 s3 h k
    replace k := hJ1 _ _ k
    refine wp_ld (v := .ref 45) dX0_offer_17 rfl rfl rfl rfl ?_
    refine wp_ld (v := .int x1) dX0_offer_18 rfl rfl rfl rfl ?_
    refine wp_pI dX0_offer_19 rfl rfl rfl (fun h => absurd h (by decide)) (kk_45 h) ?_
    refine wp_ld (v := .ref 45) dX0_offer_22 rfl rfl rfl rfl ?_
    refine wp_ld (v := .int x2) dX0_offer_23 rfl rfl rfl rfl ?_
    refine c_i dX0_offer_24 rfl rfl rfl (am_inv_s rfl rfl rfl rfl) (s_X7_triedKind (sh_sI h)) k (fun v5 s4 h k => ?_)
    refine wp_pI dX0_offer_27 rfl rfl rfl (fun h => absurd h (by decide)) (kk_45 h) ?_
    refine wp_ld (v := .ref 45) dX0_offer_30 rfl rfl rfl rfl ?_
    refine wp_ld (v := .int x2) dX0_offer_31 rfl rfl rfl rfl ?_
    refine c_i dX0_offer_32 rfl rfl rfl (am_inv_s rfl rfl rfl rfl) (s_X7_triedN (sh_sI h)) k (fun v7 s6 h k => ?_)
    refine wp_pI dX0_offer_35 rfl rfl rfl (fun h => absurd h (by decide)) (kk_45 h) ?_
    refine wp_ld (v := .ref 45) dX0_offer_38 rfl rfl rfl rfl ?_
    refine wp_ld (v := .long x3) dX0_offer_39 rfl rfl rfl rfl ?_
    refine wp_pL dX0_offer_40 rfl rfl rfl (kk_45 (sh_sI h)) ?_
    exact wp_end dX0_offer_43 rfl rfl (hP _ _ (ok_s k) (sh_sL (sh_sI h)))
  refine wp_ic_eq dX0_offer_5 rfl (fun c8 => have k := ok_pos c8 k; ?_) (fun c8 => have k := ok_neg c8 k; ?_)
  · exact wp_sub (HJ1 _ _ h k) rfl ⟨rfl, rfl, rfl, rfl, trivial⟩
  · refine wp_ld (v := .long x3) dX0_offer_8 rfl rfl rfl rfl ?_
    refine wp_ld (v := .ref 45) dX0_offer_9 rfl rfl rfl rfl ?_
    refine wq_gL dX0_offer_10 rfl rfl (kk_45 h) (l := (am_L s 45 3)) rfl ?_
    refine wl_le dX0_offer_13 dX0_offer_14 rfl (fun c9 => have k := ok_pos c9 k; ?_) (fun c9 => have k := ok_neg c9 k; ?_)
    · exact wp_end dX0_offer_43 rfl rfl (hP _ _ (ok_s k) h)
    · exact wp_sub (HJ1 _ _ h k) rfl ⟨rfl, rfl, rfl, rfl, trivial⟩
noncomputable def L_X7_findBestChange_49 : Nat → Nat → Nat → Int32 → Int32 → Int32 → Int32 → Int32 → Int32 → am_S → am_FE (Unit)
  | 0, _, _, _, _, _, _, _, _, _ => none
  | m + 1, a1, a2, x3, x4, x5, x6, x7, x8, s =>
    if (18 : Int32) ≤ x8 then
      some (.inr ((), s))
    else
      am_bi (f_X7_triedKind x8 s) (fun v10 s9 =>
        am_jn (fun (e12 : Unit) s13 =>
          am_bi (f_X7_triedKind x8 s13) (fun v15 s14 =>
            am_bi (f_X7_triedN x8 s14) (fun v17 s16 =>
              am_bu (f_X4_putFold 42 x5 v15 v17 s16) (fun s18 =>
                am_bi (f_X7_breakOf 42 s18) (fun v21 s20 =>
                  if v21 = (-1 : Int32) then
                    am_bl (f_X7_reachOf a2 x3 x4 s20) (fun v24 s23 =>
                      am_bu (f_X0_offer x5 x8 v24 s23) (fun s25 =>
                        L_X7_findBestChange_49 m a1 a2 x3 x4 x5 x6 x7 (x8 + (1 : Int32)) s25
                      )
                    )
                  else
                    L_X7_findBestChange_49 m a1 a2 x3 x4 x5 x6 x7 (x8 + (1 : Int32)) s20
                )
              )
            )
          )
        ) (fun J11 =>
          if v10 = x6 then
            am_bi (f_X7_triedN x8 s9) (fun v29 s28 =>
              if v29 = x7 then
                L_X7_findBestChange_49 m a1 a2 x3 x4 x5 x6 x7 (x8 + (1 : Int32)) s28
              else
                J11 () s28
            )
          else
            J11 () s9
        )
      )
theorem q_X7_findBestChange_49 : ∀ (m : Nat) {N n : Nat} {d : Nat} {a1 : Nat} {a2 : Nat} {x3 : Int32} {x4 : Int32} {x5 : Int32} {x6 : Int32} {x7 : Int32} {x8 : Int32} {s : am_S} {P : (am_O × am_S) ⊕ (Unit × am_S) → Prop} {Q : am_O → am_S → Prop} (h : am_sh N n s) (fa1 : am_kf n a1 4) (fa2 : am_kf n a2 4) (k : am_ok (L_X7_findBestChange_49 m a1 a2 x3 x4 x5 x6 x7 x8 s) P) (hP : ∀ o s, P (.inl (o, s)) → am_sh N n s → Q o s) (hX : ∀ (e : Unit) s, P (.inr (e, s)) → am_sh N n s → am_WP (d + 5) mX7_findBestChange 135 [(0, .ref 0), (1, .ref a1), (2, .ref a2), (3, .int x3), (4, .int x4), (5, .int x5), (6, .int x6), (7, .int x7)] [] s Q), am_WP (d + 5) mX7_findBestChange 49 [(0, .ref 0), (1, .ref a1), (2, .ref a2), (3, .int x3), (4, .int x4), (5, .int x5), (6, .int x6), (7, .int x7), (8, .int x8)] [] s Q := by
  intro m
  induction m with
  | zero =>
    intro N n d a1 a2 x3 x4 x5 x6 x7 x8 s P Q h fa1 fa2 k hP hX
    exact (ok_no k).elim
  | succ m ih =>
    intro N n d a1 a2 x3 x4 x5 x6 x7 x8 s P Q h fa1 fa2 k hP hX
    unfold L_X7_findBestChange_49 at k
    refine wp_ld (v := .int x8) dX7_findBestChange_49 rfl rfl rfl rfl ?_
    refine wp_cst (v := .int (18 : Int32)) dX7_findBestChange_51 rfl rfl ?_
    refine wp_ic_ge dX7_findBestChange_53 rfl (fun c8 => have k := ok_pos c8 k; ?_) (fun c8 => have k := ok_neg c8 k; ?_)
    · exact wp_sub (hX _ _ (ok_s k) h) rfl ⟨rfl, rfl, rfl, rfl, rfl, rfl, rfl, rfl, trivial⟩
    · refine wp_ld (v := .int x8) dX7_findBestChange_56 rfl rfl rfl rfl ?_
      refine c_i dX7_findBestChange_58 rfl rfl rfl (am_inv_s rfl rfl rfl rfl) (s_X7_triedKind h) k (fun v10 s9 h k => ?_)
      refine wp_ld (v := .int x6) dX7_findBestChange_61 rfl rfl rfl rfl ?_
      refine jn_rule k (fun J11 hJ11 k => ?_)
      have HJ11 : ∀ (e12 : Unit) (s13 : am_S), am_sh N n s13 → am_ok (J11 e12 s13) P → am_WP (d + 5) mX7_findBestChange 79 [(0, .ref 0), (1, .ref a1), (2, .ref a2), (3, .int x3), (4, .int x4), (5, .int x5), (6, .int x6), (7, .int x7), (8, .int x8)] [] s13 Q := by
        intro e12 s13 h k
        replace k := hJ11 _ _ k
        refine wp_ld (v := .ref 0) dX7_findBestChange_79 rfl rfl rfl rfl ?_
        refine wp_gr dX7_findBestChange_80 rfl rfl (kk_0 h) (rr_0_7 h) ?_
        refine wp_ld (v := .int x5) dX7_findBestChange_83 rfl rfl rfl rfl ?_
        refine wp_ld (v := .int x8) dX7_findBestChange_85 rfl rfl rfl rfl ?_
        refine c_i dX7_findBestChange_87 rfl rfl rfl (am_inv_s rfl rfl rfl rfl) (s_X7_triedKind h) k (fun v15 s14 h k => ?_)
        refine wp_ld (v := .int x8) dX7_findBestChange_90 rfl rfl rfl rfl ?_
        refine c_i dX7_findBestChange_92 rfl rfl rfl (am_inv_s rfl rfl rfl rfl) (s_X7_triedN h) k (fun v17 s16 h k => ?_)
        refine c_u dX7_findBestChange_95 rfl rfl rfl (am_inv_v rfl (kk_42 h) rfl rfl rfl) (s_X4_putFold h (kf_42 h)) k (fun s18 h k => ?_)
        refine wp_ld (v := .ref 0) dX7_findBestChange_98 rfl rfl rfl rfl ?_
        refine wp_ld (v := .ref 0) dX7_findBestChange_99 rfl rfl rfl rfl ?_
        refine wp_gr dX7_findBestChange_100 rfl rfl (kk_0 h) (rr_0_7 h) ?_
        refine c_i dX7_findBestChange_103 rfl rfl rfl (am_inv_v rfl (kk_0 h) rfl rfl rfl) (s_X7_breakOf h (kf_42 h)) k (fun v21 s20 h k => ?_)
        refine wp_cst (v := .int (-1 : Int32)) dX7_findBestChange_106 rfl rfl ?_
        refine wp_ic_ne dX7_findBestChange_107 rfl (fun c22 => have k := ok_neg c22 k; ?_) (fun c22 => have k := ok_pos c22 k; ?_)
        · refine wp_inc (v := (x8 + (1 : Int32))) (ls' := [(0, .ref 0), (1, .ref a1), (2, .ref a2), (3, .int x3), (4, .int x4), (5, .int x5), (6, .int x6), (7, .int x7), (8, .int (x8 + (1 : Int32)))]) dX7_findBestChange_129 rfl (Nat.le_of_ble_eq_true rfl) rfl rfl ?_
          refine wp_goto dX7_findBestChange_132 rfl ?_
          exact wp_sub (ih h fa1 fa2 k hP hX) rfl ⟨rfl, rfl, rfl, rfl, rfl, rfl, rfl, rfl, rfl, trivial⟩
        · refine wp_ld (v := .ref 0) dX7_findBestChange_110 rfl rfl rfl rfl ?_
          refine wp_gr dX7_findBestChange_111 rfl rfl (kk_0 h) (rr_0_9 h) ?_
          refine wp_ld (v := .int x5) dX7_findBestChange_114 rfl rfl rfl rfl ?_
          refine wp_ld (v := .int x8) dX7_findBestChange_116 rfl rfl rfl rfl ?_
          refine wp_ld (v := .ref 0) dX7_findBestChange_118 rfl rfl rfl rfl ?_
          refine wp_ld (v := .ref a2) dX7_findBestChange_119 rfl rfl rfl rfl ?_
          refine wp_ld (v := .int x3) dX7_findBestChange_120 rfl rfl rfl rfl ?_
          refine wp_ld (v := .int x4) dX7_findBestChange_121 rfl rfl rfl rfl ?_
          refine c_l dX7_findBestChange_123 rfl rfl rfl (am_inv_v rfl (kk_0 h) rfl rfl rfl) (s_X7_reachOf h fa2) k (fun v24 s23 h k => ?_)
          refine c_u dX7_findBestChange_126 rfl rfl rfl (am_inv_v rfl (kk_45 h) rfl rfl rfl) (s_X0_offer h) k (fun s25 h k => ?_)
          refine wp_inc (v := (x8 + (1 : Int32))) (ls' := [(0, .ref 0), (1, .ref a1), (2, .ref a2), (3, .int x3), (4, .int x4), (5, .int x5), (6, .int x6), (7, .int x7), (8, .int (x8 + (1 : Int32)))]) dX7_findBestChange_129 rfl (Nat.le_of_ble_eq_true rfl) rfl rfl ?_
          refine wp_goto dX7_findBestChange_132 rfl ?_
          exact wp_sub (ih h fa1 fa2 k hP hX) rfl ⟨rfl, rfl, rfl, rfl, rfl, rfl, rfl, rfl, rfl, trivial⟩
      refine wp_ic_ne dX7_findBestChange_63 rfl (fun c27 => have k := ok_neg c27 k; ?_) (fun c27 => have k := ok_pos c27 k; ?_)
      · exact wp_sub (HJ11 _ _ h k) rfl ⟨rfl, rfl, rfl, rfl, rfl, rfl, rfl, rfl, rfl, trivial⟩
      · refine wp_ld (v := .int x8) dX7_findBestChange_66 rfl rfl rfl rfl ?_
        refine c_i dX7_findBestChange_68 rfl rfl rfl (am_inv_s rfl rfl rfl rfl) (s_X7_triedN h) k (fun v29 s28 h k => ?_)
        refine wp_ld (v := .int x7) dX7_findBestChange_71 rfl rfl rfl rfl ?_
        refine wp_ic_ne dX7_findBestChange_73 rfl (fun c30 => have k := ok_neg c30 k; ?_) (fun c30 => have k := ok_pos c30 k; ?_)
        · exact wp_sub (HJ11 _ _ h k) rfl ⟨rfl, rfl, rfl, rfl, rfl, rfl, rfl, rfl, rfl, trivial⟩
        · refine wp_goto dX7_findBestChange_76 rfl ?_
          refine wp_inc (v := (x8 + (1 : Int32))) (ls' := [(0, .ref 0), (1, .ref a1), (2, .ref a2), (3, .int x3), (4, .int x4), (5, .int x5), (6, .int x6), (7, .int x7), (8, .int (x8 + (1 : Int32)))]) dX7_findBestChange_129 rfl (Nat.le_of_ble_eq_true rfl) rfl rfl ?_
          refine wp_goto dX7_findBestChange_132 rfl ?_
          exact wp_sub (ih h fa1 fa2 k hP hX) rfl ⟨rfl, rfl, rfl, rfl, rfl, rfl, rfl, rfl, rfl, trivial⟩
noncomputable def L_X7_findBestChange_19 : Nat → Nat → Nat → Int32 → Int32 → Int32 → am_S → am_FE (Unit)
  | 0, _, _, _, _, _, _ => none
  | m + 1, a1, a2, x3, x4, x5, s =>
    if (am_I s a1 2) ≤ x5 then
      some (.inr ((), s))
    else
      am_bi (f_X4_get a1 x5 (0 : Int32) s) (fun v5 s4 =>
        am_bi (f_X4_get a1 x5 (1 : Int32) s4) (fun v7 s6 =>
          am_ll (L_X7_findBestChange_49 ax_fuel a1 a2 x3 x4 x5 v5 v7 (0 : Int32) s6) (fun e31 s32 =>
            am_bu (f_X4_putFold 42 x5 v5 v7 s32) (fun s33 =>
              L_X7_findBestChange_19 m a1 a2 x3 x4 (x5 + (1 : Int32)) s33
            )
          )
        )
      )
theorem q_X7_findBestChange_19 : ∀ (m : Nat) {N n : Nat} {d : Nat} {a1 : Nat} {a2 : Nat} {x3 : Int32} {x4 : Int32} {x5 : Int32} {s : am_S} {P : (am_O × am_S) ⊕ (Unit × am_S) → Prop} {Q : am_O → am_S → Prop} (h : am_sh N n s) (fa1 : am_kf n a1 4) (fa2 : am_kf n a2 4) (k : am_ok (L_X7_findBestChange_19 m a1 a2 x3 x4 x5 s) P) (hP : ∀ o s, P (.inl (o, s)) → am_sh N n s → Q o s) (hX : ∀ (e : Unit) s, P (.inr (e, s)) → am_sh N n s → am_WP (d + 5) mX7_findBestChange 154 [] [] s Q), am_WP (d + 5) mX7_findBestChange 19 [(0, .ref 0), (1, .ref a1), (2, .ref a2), (3, .int x3), (4, .int x4), (5, .int x5)] [] s Q := by
  intro m
  induction m with
  | zero =>
    intro N n d a1 a2 x3 x4 x5 s P Q h fa1 fa2 k hP hX
    exact (ok_no k).elim
  | succ m ih =>
    intro N n d a1 a2 x3 x4 x5 s P Q h fa1 fa2 k hP hX
    unfold L_X7_findBestChange_19 at k
    refine wp_ld (v := .int x5) dX7_findBestChange_19 rfl rfl rfl rfl ?_
    refine wp_ld (v := .ref a1) dX7_findBestChange_21 rfl rfl rfl rfl ?_
    refine wq_gI dX7_findBestChange_22 rfl rfl (kk_f h fa1) (v := (am_I s a1 2)) rfl ?_
    refine wp_ic_ge dX7_findBestChange_25 rfl (fun c3 => have k := ok_pos c3 k; ?_) (fun c3 => have k := ok_neg c3 k; ?_)
    · exact wp_sub (hX _ _ (ok_s k) h) rfl trivial
    · refine wp_ld (v := .ref a1) dX7_findBestChange_28 rfl rfl rfl rfl ?_
      refine wp_ld (v := .int x5) dX7_findBestChange_29 rfl rfl rfl rfl ?_
      refine wp_cst (v := .int (0 : Int32)) dX7_findBestChange_31 rfl rfl ?_
      refine c_i dX7_findBestChange_32 rfl rfl rfl (am_inv_v rfl (kk_f h fa1) rfl rfl rfl) (s_X4_get h fa1) k (fun v5 s4 h k => ?_)
      refine wp_st (ls' := [(0, .ref 0), (1, .ref a1), (2, .ref a2), (3, .int x3), (4, .int x4), (5, .int x5), (6, .int v5)]) dX7_findBestChange_35 rfl rfl rfl (Nat.le_of_ble_eq_true rfl) rfl ?_
      refine wp_ld (v := .ref a1) dX7_findBestChange_37 rfl rfl rfl rfl ?_
      refine wp_ld (v := .int x5) dX7_findBestChange_38 rfl rfl rfl rfl ?_
      refine wp_cst (v := .int (1 : Int32)) dX7_findBestChange_40 rfl rfl ?_
      refine c_i dX7_findBestChange_41 rfl rfl rfl (am_inv_v rfl (kk_f h fa1) rfl rfl rfl) (s_X4_get h fa1) k (fun v7 s6 h k => ?_)
      refine wp_st (ls' := [(0, .ref 0), (1, .ref a1), (2, .ref a2), (3, .int x3), (4, .int x4), (5, .int x5), (6, .int v5), (7, .int v7)]) dX7_findBestChange_44 rfl rfl rfl (Nat.le_of_ble_eq_true rfl) rfl ?_
      refine wp_cst (v := .int (0 : Int32)) dX7_findBestChange_46 rfl rfl ?_
      refine wp_st (ls' := [(0, .ref 0), (1, .ref a1), (2, .ref a2), (3, .int x3), (4, .int x4), (5, .int x5), (6, .int v5), (7, .int v7), (8, .int (0 : Int32))]) dX7_findBestChange_47 rfl rfl rfl (Nat.le_of_ble_eq_true rfl) rfl ?_
      refine lp_l k (fun P1 k hA hB => ?_)
      refine wp_sub (q_X7_findBestChange_49 ax_fuel h fa1 fa2 k (fun o s p h => hP o s (hA o s p) h) (fun e31 s32 p h => have k := hB e31 s32 p; ?_)) rfl ⟨rfl, rfl, rfl, rfl, rfl, rfl, rfl, rfl, rfl, trivial⟩
      refine wp_ld (v := .ref 0) dX7_findBestChange_135 rfl rfl rfl rfl ?_
      refine wp_gr dX7_findBestChange_136 rfl rfl (kk_0 h) (rr_0_7 h) ?_
      refine wp_ld (v := .int x5) dX7_findBestChange_139 rfl rfl rfl rfl ?_
      refine wp_ld (v := .int v5) dX7_findBestChange_141 rfl rfl rfl rfl ?_
      refine wp_ld (v := .int v7) dX7_findBestChange_143 rfl rfl rfl rfl ?_
      refine c_u dX7_findBestChange_145 rfl rfl rfl (am_inv_v rfl (kk_42 h) rfl rfl rfl) (s_X4_putFold h (kf_42 h)) k (fun s33 h k => ?_)
      refine wp_inc (v := (x5 + (1 : Int32))) (ls' := [(0, .ref 0), (1, .ref a1), (2, .ref a2), (3, .int x3), (4, .int x4), (5, .int (x5 + (1 : Int32))), (6, .int v5), (7, .int v7)]) dX7_findBestChange_148 rfl (Nat.le_of_ble_eq_true rfl) rfl rfl ?_
      refine wp_goto dX7_findBestChange_151 rfl ?_
      exact wp_sub (ih h fa1 fa2 k hP hX) rfl ⟨rfl, rfl, rfl, rfl, rfl, rfl, trivial⟩
noncomputable def f_X7_findBestChange (b1 : Nat) (b2 : Nat) (x3 : Int32) (x4 : Int32) (s : am_S) : am_F :=
  am_bu (f_X4_copyFrom 42 b1 (am_sI s 45 0 (-1 : Int32))) (fun s1 =>
    am_lm (L_X7_findBestChange_19 ax_fuel b1 b2 x3 x4 (0 : Int32) s1) (fun e35 s36 =>
      some (.inl none, s36)
    )
  )
theorem s_X7_findBestChange {N n : Nat} {d : Nat} {b1 : Nat} {b2 : Nat} {x3 : Int32} {x4 : Int32} {s : am_S} (h : am_sh N n s) (fb1 : am_kf n b1 4) (fb2 : am_kf n b2 4) : am_S1 (am_sh N n) (d + 5) mX7_findBestChange [.ref 0, .ref b1, .ref b2, .int x3, .int x4] s (f_X7_findBestChange b1 b2 x3 x4 s) := by
  intro P Q k hP
  show am_WP (d + 5) mX7_findBestChange 0 [(0, .ref 0), (1, .ref b1), (2, .ref b2), (3, .int x3), (4, .int x4)] [] s Q
  unfold f_X7_findBestChange at k
  refine wp_ld (v := .ref 0) dX7_findBestChange_0 rfl rfl rfl rfl ?_
  refine wp_gr dX7_findBestChange_1 rfl rfl (kk_0 h) (rr_0_9 h) ?_
  refine wp_cst (v := .int (-1 : Int32)) dX7_findBestChange_4 rfl rfl ?_
  refine wp_pI dX7_findBestChange_5 rfl rfl rfl (fun h => absurd h (by decide)) (kk_45 h) ?_
  refine wp_ld (v := .ref 0) dX7_findBestChange_8 rfl rfl rfl rfl ?_
  refine wp_gr dX7_findBestChange_9 rfl rfl (kk_0 (sh_sI h)) (rr_0_7 (sh_sI h)) ?_
  refine wp_ld (v := .ref b1) dX7_findBestChange_12 rfl rfl rfl rfl ?_
  refine c_u dX7_findBestChange_13 rfl rfl rfl (am_inv_v rfl (kk_42 (sh_sI h)) rfl rfl rfl) (s_X4_copyFrom (sh_sI h) (kf_42 h) fb1) k (fun s1 h k => ?_)
  refine wp_cst (v := .int (0 : Int32)) dX7_findBestChange_16 rfl rfl ?_
  refine wp_st (ls' := [(0, .ref 0), (1, .ref b1), (2, .ref b2), (3, .int x3), (4, .int x4), (5, .int (0 : Int32))]) dX7_findBestChange_17 rfl rfl rfl (Nat.le_of_ble_eq_true rfl) rfl ?_
  refine lp_m k (fun P1 k hA hB => ?_)
  refine wp_sub (q_X7_findBestChange_19 ax_fuel h fb1 fb2 k (fun o s p h => hP o s (hA o s p) h) (fun e35 s36 p h => have k := hB e35 s36 p; ?_)) rfl ⟨rfl, rfl, rfl, rfl, rfl, rfl, trivial⟩
  exact wp_end dX7_findBestChange_154 rfl rfl (hP _ _ (ok_s k) h)
noncomputable def f_X7_change (x1 : Int32) (x2 : Int32) (x3 : Int32) (x4 : Int32) (x5 : Int32) (s : am_S) : am_F :=
  am_tv (f_X7_needWay x1 s) (fun v2 s1 =>
    am_mv v2 none (fun t3 => if am_k0 t3 = (4, 0) ∧ t3 < 72 then
      am_tv (f_X7_needHand x3 s1) (fun v8 s7 =>
        am_mv v8 none (fun t9 => if am_k0 t9 = (4, 0) ∧ t9 < 72 then
          am_tu (f_X7_needMake t3 s7) (fun s13 =>
            am_tu (f_X7_needEars x2 s13) (fun s15 =>
              am_tu (f_X7_needWithin x5 (0 : Int32) (2 : Int32) s15) (fun s17 =>
                am_bu (f_X7_findBestChange t3 t9 x2 x4 s17) (fun s19 =>
                  if (am_I s19 45 0) = (-1 : Int32) then
                    some (.inl (some (.long (-1 : Int64))), s19)
                  else
                    if x5 = (0 : Int32) then
                      some (.inl (some (.long (am_I s19 45 0).toInt64)), s19)
                    else if x5 = (1 : Int32) then
                      some (.inl (some (.long (((100 : Int32) * (am_I s19 45 1)) + (am_I s19 45 2)).toInt64)), s19)
                    else
                      some (.inl (some (.long (am_L s19 45 3))), s19)
                )
              )
            )
          )
        else none)
      )
    else none)
  )
theorem s_X7_change {N n : Nat} {d : Nat} {x1 : Int32} {x2 : Int32} {x3 : Int32} {x4 : Int32} {x5 : Int32} {s : am_S} (h : am_sh N n s)  : am_S1 (am_sh N n) (d + 6) mX7_change [.ref 0, .int x1, .int x2, .int x3, .int x4, .int x5] s (f_X7_change x1 x2 x3 x4 x5 s) := by
  intro P Q k hP
  show am_WP (d + 6) mX7_change 0 [(0, .ref 0), (1, .int x1), (2, .int x2), (3, .int x3), (4, .int x4), (5, .int x5)] [] s Q
  unfold f_X7_change at k
  refine wp_ld (v := .ref 0) dX7_change_0 rfl rfl rfl rfl ?_
  refine wp_ld (v := .int x1) dX7_change_1 rfl rfl rfl rfl ?_
  refine t_v dX7_change_2 rfl rfl rfl (am_inv_v rfl (kk_0 h) rfl rfl rfl) (s_X7_needWay h) k rfl rfl hP (fun v2 s1 h k => ?_)
  obtain ⟨t3, c4, k⟩ := ok_mn k
  subst c4
  obtain ⟨g5, k⟩ := ok_g k
  have f6 := kk_up h g5
  refine wp_st (ls' := [(0, .ref 0), (1, .int x1), (2, .int x2), (3, .int x3), (4, .int x4), (5, .int x5), (6, .ref t3)]) dX7_change_5 rfl rfl rfl (Nat.le_of_ble_eq_true rfl) rfl ?_
  refine wp_ld (v := .ref 0) dX7_change_7 rfl rfl rfl rfl ?_
  refine wp_ld (v := .int x3) dX7_change_8 rfl rfl rfl rfl ?_
  refine t_v dX7_change_9 rfl rfl rfl (am_inv_v rfl (kk_0 h) rfl rfl rfl) (s_X7_needHand h) k rfl rfl hP (fun v8 s7 h k => ?_)
  obtain ⟨t9, c10, k⟩ := ok_mn k
  subst c10
  obtain ⟨g11, k⟩ := ok_g k
  have f12 := kk_up h g11
  refine wp_st (ls' := [(0, .ref 0), (1, .int x1), (2, .int x2), (3, .int x3), (4, .int x4), (5, .int x5), (6, .ref t3), (7, .ref t9)]) dX7_change_12 rfl rfl rfl (Nat.le_of_ble_eq_true rfl) rfl ?_
  refine wp_ld (v := .ref 0) dX7_change_14 rfl rfl rfl rfl ?_
  refine wp_ld (v := .ref t3) dX7_change_15 rfl rfl rfl rfl ?_
  refine t_u dX7_change_17 rfl rfl rfl (am_inv_v rfl (kk_0 h) rfl rfl rfl) (s_X7_needMake h f6) k rfl rfl hP (fun s13 h k => ?_)
  refine wp_ld (v := .int x2) dX7_change_20 rfl rfl rfl rfl ?_
  refine t_u dX7_change_21 rfl rfl rfl (am_inv_s rfl rfl rfl rfl) (s_X7_needEars h) k rfl rfl hP (fun s15 h k => ?_)
  refine wp_ld (v := .int x5) dX7_change_24 rfl rfl rfl rfl ?_
  refine wp_cst (v := .int (0 : Int32)) dX7_change_26 rfl rfl ?_
  refine wp_cst (v := .int (2 : Int32)) dX7_change_27 rfl rfl ?_
  refine t_u dX7_change_28 rfl rfl rfl (am_inv_s rfl rfl rfl rfl) (s_X7_needWithin h) k rfl rfl hP (fun s17 h k => ?_)
  refine wp_ld (v := .ref 0) dX7_change_31 rfl rfl rfl rfl ?_
  refine wp_ld (v := .ref t3) dX7_change_32 rfl rfl rfl rfl ?_
  refine wp_ld (v := .ref t9) dX7_change_34 rfl rfl rfl rfl ?_
  refine wp_ld (v := .int x2) dX7_change_36 rfl rfl rfl rfl ?_
  refine wp_ld (v := .int x4) dX7_change_37 rfl rfl rfl rfl ?_
  refine c_u dX7_change_39 rfl rfl rfl (am_inv_v rfl (kk_0 h) rfl rfl rfl) (s_X7_findBestChange h f6 f12) k (fun s19 h k => ?_)
  refine wp_ld (v := .ref 0) dX7_change_42 rfl rfl rfl rfl ?_
  refine wp_gr dX7_change_43 rfl rfl (kk_0 h) (rr_0_9 h) ?_
  refine wq_gI dX7_change_46 rfl rfl (kk_45 h) (v := (am_I s19 45 0)) rfl ?_
  refine wp_cst (v := .int (-1 : Int32)) dX7_change_49 rfl rfl ?_
  refine wp_ic_ne dX7_change_50 rfl (fun c21 => have k := ok_neg c21 k; ?_) (fun c21 => have k := ok_pos c21 k; ?_)
  · refine wp_ld (v := .int x5) dX7_change_57 rfl rfl rfl rfl ?_
    by_cases c22 : x5 = (0 : Int32)
    · have k := ok_pos c22 k
      refine sw_hit dX7_change_59 rfl c22 rfl ?_
      refine wp_ld (v := .ref 0) dX7_change_84 rfl rfl rfl rfl ?_
      refine wp_gr dX7_change_85 rfl rfl (kk_0 h) (rr_0_9 h) ?_
      refine wq_gI dX7_change_88 rfl rfl (kk_45 h) (v := (am_I s19 45 0)) rfl ?_
      refine wp_pu dX7_change_91 rfl rfl ?_
      exact wp_end dX7_change_92 rfl (am_end_l rfl) (hP _ _ (ok_s k) h)
    replace k := ok_neg c22 k
    by_cases c23 : x5 = (1 : Int32)
    · have k := ok_pos c23 k
      refine sw_hit dX7_change_59 rfl c23 rfl ?_
      refine wp_cst (v := .int (100 : Int32)) dX7_change_93 rfl rfl ?_
      refine wp_ld (v := .ref 0) dX7_change_95 rfl rfl rfl rfl ?_
      refine wp_gr dX7_change_96 rfl rfl (kk_0 h) (rr_0_9 h) ?_
      refine wq_gI dX7_change_99 rfl rfl (kk_45 h) (v := (am_I s19 45 1)) rfl ?_
      refine wp_pu dX7_change_102 rfl rfl ?_
      refine wp_ld (v := .ref 0) dX7_change_103 rfl rfl rfl rfl ?_
      refine wp_gr dX7_change_104 rfl rfl (kk_0 h) (rr_0_9 h) ?_
      refine wq_gI dX7_change_107 rfl rfl (kk_45 h) (v := (am_I s19 45 2)) rfl ?_
      refine wp_pu dX7_change_110 rfl rfl ?_
      refine wp_pu dX7_change_111 rfl rfl ?_
      exact wp_end dX7_change_112 rfl (am_end_l rfl) (hP _ _ (ok_s k) h)
    replace k := ok_neg c23 k
    refine lk_out dX7_change_59 rfl (lk2 c22 c23) rfl ?_
    refine wp_ld (v := .ref 0) dX7_change_113 rfl rfl rfl rfl ?_
    refine wp_gr dX7_change_114 rfl rfl (kk_0 h) (rr_0_9 h) ?_
    refine wq_gL dX7_change_117 rfl rfl (kk_45 h) (l := (am_L s19 45 3)) rfl ?_
    exact wp_end dX7_change_120 rfl (am_end_l rfl) (hP _ _ (ok_s k) h)
  · refine wp_cst (v := .long (-1 : Int64)) dX7_change_53 rfl rfl ?_
    exact wp_end dX7_change_56 rfl (am_end_l rfl) (hP _ _ (ok_s k) h)
noncomputable def f_L_change (x2 : Int32) (x3 : Int32) (x4 : Int32) (x5 : Int32) (x6 : Int32) (s : am_S) : am_F :=
  am_xl (f_X7_change x2 x3 x4 x5 x6 s) (fun v2 s1 =>
    some (.inl (some (.int (0 : Int32))), (am_sL s1 71 0 v2))
  ) (fun e s1 =>
    if e = 3 then
      some (.inl (some (.int (1 : Int32))), s1)
    else
      if e = 1 then
        some (.inl (some (.int (2 : Int32))), s1)
      else
        if e = 0 then
          some (.inl (some (.int (3 : Int32))), s1)
        else
          none
  )
theorem s_L_change {N : Nat} {d : Nat} {x2 : Int32} {x3 : Int32} {x4 : Int32} {x5 : Int32} {x6 : Int32} {s : am_S} (h : am_shE N s)  : am_S1 (am_shE N) (d + 7) mL_change [.ref 0, .int x2, .int x3, .int x4, .int x5, .int x6, .ref 71] s (f_L_change x2 x3 x4 x5 x6 s) := by
  intro P Q k hP
  show am_WP (d + 7) mL_change 0 [(0, .ref 0), (1, .int x2), (2, .int x3), (3, .int x4), (4, .int x5), (5, .int x6), (6, .ref 71)] [] s Q
  unfold f_L_change at k
  refine wp_ld (v := .ref 71) dL_change_0 rfl rfl rfl rfl ?_
  refine wp_cst (v := .int (0 : Int32)) dL_change_2 rfl rfl ?_
  refine wp_ld (v := .ref 0) dL_change_3 rfl rfl rfl rfl ?_
  refine wp_ld (v := .int x2) dL_change_4 rfl rfl rfl rfl ?_
  refine wp_ld (v := .int x3) dL_change_5 rfl rfl rfl rfl ?_
  refine wp_ld (v := .int x4) dL_change_6 rfl rfl rfl rfl ?_
  refine wp_ld (v := .int x5) dL_change_7 rfl rfl rfl rfl ?_
  refine wp_ld (v := .int x6) dL_change_9 rfl rfl rfl rfl ?_
  refine x_l dL_change_11 rfl rfl rfl (am_inv_v rfl (kE_0 h) rfl rfl rfl) (sE h (fun _ h => s_X7_change h)) k rfl (List.cons_ne_nil _ _) (fun v2 s1 h k => ?_) (fun e s1 h k => ?_)
  · refine wq_last dL_change_14 (kE_71 h) (by decide) (j := 0) rfl ?_
    refine wp_goto dL_change_15 rfl ?_
    refine wp_cst (v := .int (0 : Int32)) dL_change_30 rfl rfl ?_
    exact wp_end dL_change_31 rfl (am_end_i rfl) (hP _ _ (ok_s k) (shE_sL h))
  · by_cases c3 : e = 3
    · have k := ok_pos c3 k
      subst c3
      refine ⟨_, _, rfl, ?_⟩
      refine wp_cst (v := .int (1 : Int32)) dL_change_20 rfl rfl ?_
      exact wp_end dL_change_21 rfl (am_end_i rfl) (hP _ _ (ok_s k) h)
    replace k := ok_neg c3 k
    by_cases c4 : e = 1
    · have k := ok_pos c4 k
      subst c4
      refine ⟨_, _, rfl, ?_⟩
      refine wp_cst (v := .int (2 : Int32)) dL_change_24 rfl rfl ?_
      exact wp_end dL_change_25 rfl (am_end_i rfl) (hP _ _ (ok_s k) h)
    replace k := ok_neg c4 k
    by_cases c5 : e = 0
    · have k := ok_pos c5 k
      subst c5
      refine ⟨_, _, rfl, ?_⟩
      refine wp_cst (v := .int (3 : Int32)) dL_change_28 rfl rfl ?_
      exact wp_end dL_change_29 rfl (am_end_i rfl) (hP _ _ (ok_s k) h)
    replace k := ok_neg c5 k
    exact (ok_no k).elim
noncomputable def f_X4_add (a : Nat) (x1 : Int32) (x2 : Int32) (x3 : Int32) (s : am_S) : am_F :=
  if (am_I s a 2) < (am_I s a 1) then
    am_bu (f_X4_put a (am_I s a 2) (0 : Int32) x1 (am_sI s a 2 ((am_I s a 2) + (1 : Int32)))) (fun s2 =>
      am_bu (f_X4_put a (am_I s a 2) (1 : Int32) x2 s2) (fun s4 =>
        am_bu (f_X4_put a (am_I s a 2) (2 : Int32) x3 s4) (fun s6 =>
          some (.inl (some (.int (am_I s a 2))), s6)
        )
      )
    )
  else
    some (.inl (some (.int (-1 : Int32))), s)
theorem s_X4_add {N n : Nat} {d : Nat} {a : Nat} {x1 : Int32} {x2 : Int32} {x3 : Int32} {s : am_S} (h : am_sh N n s) (fa : am_kf n a 4) : am_S1 (am_sh N n) (d + 1) mX4_add [.ref a, .int x1, .int x2, .int x3] s (f_X4_add a x1 x2 x3 s) := by
  intro P Q k hP
  show am_WP (d + 1) mX4_add 0 [(0, .ref a), (1, .int x1), (2, .int x2), (3, .int x3)] [] s Q
  unfold f_X4_add at k
  refine wp_ld (v := .ref a) dX4_add_0 rfl rfl rfl rfl ?_
  refine wq_gI dX4_add_1 rfl rfl (kk_f h fa) (v := (am_I s a 2)) rfl ?_
  refine wp_ld (v := .ref a) dX4_add_4 rfl rfl rfl rfl ?_
  refine wq_gI dX4_add_5 rfl rfl (kk_f h fa) (v := (am_I s a 1)) rfl ?_
  refine wp_ic_lt dX4_add_8 rfl (fun c1 => have k := ok_pos c1 k; ?_) (fun c1 => have k := ok_neg c1 k; ?_)
  · refine wp_ld (v := .ref a) dX4_add_13 rfl rfl rfl rfl ?_
    refine wq_gI dX4_add_14 rfl rfl (kk_f h fa) (v := (am_I s a 2)) rfl ?_
    refine wp_st (ls' := [(0, .ref a), (1, .int x1), (2, .int x2), (3, .int x3), (4, .int (am_I s a 2))]) dX4_add_17 rfl rfl rfl (Nat.le_of_ble_eq_true rfl) rfl ?_
    refine wp_ld (v := .ref a) dX4_add_19 rfl rfl rfl rfl ?_
    refine wp_ld (v := .int (am_I s a 2)) dX4_add_20 rfl rfl rfl rfl ?_
    refine wp_cst (v := .int (1 : Int32)) dX4_add_22 rfl rfl ?_
    refine wp_pu dX4_add_23 rfl rfl ?_
    refine wp_pI dX4_add_24 rfl rfl rfl (fun h => absurd h (by decide)) (kk_f h fa) ?_
    refine wp_ld (v := .ref a) dX4_add_27 rfl rfl rfl rfl ?_
    refine wp_ld (v := .int (am_I s a 2)) dX4_add_28 rfl rfl rfl rfl ?_
    refine wp_cst (v := .int (0 : Int32)) dX4_add_30 rfl rfl ?_
    show am_WP (d + 1) mX4_add 31 _ _ _ Q
    refine wp_ld (v := .int x1) dX4_add_31 rfl rfl rfl rfl ?_
    refine c_u dX4_add_32 rfl rfl rfl (am_inv_v rfl (kk_f (sh_sI h) fa) rfl rfl rfl) (s_X4_put (sh_sI h) fa) k (fun s2 h k => ?_)
    refine wp_ld (v := .ref a) dX4_add_35 rfl rfl rfl rfl ?_
    refine wp_ld (v := .int (am_I s a 2)) dX4_add_36 rfl rfl rfl rfl ?_
    refine wp_cst (v := .int (1 : Int32)) dX4_add_38 rfl rfl ?_
    refine wp_ld (v := .int x2) dX4_add_39 rfl rfl rfl rfl ?_
    refine c_u dX4_add_40 rfl rfl rfl (am_inv_v rfl (kk_f h fa) rfl rfl rfl) (s_X4_put h fa) k (fun s4 h k => ?_)
    refine wp_ld (v := .ref a) dX4_add_43 rfl rfl rfl rfl ?_
    refine wp_ld (v := .int (am_I s a 2)) dX4_add_44 rfl rfl rfl rfl ?_
    refine wp_cst (v := .int (2 : Int32)) dX4_add_46 rfl rfl ?_
    refine wp_ld (v := .int x3) dX4_add_47 rfl rfl rfl rfl ?_
    refine c_u dX4_add_48 rfl rfl rfl (am_inv_v rfl (kk_f h fa) rfl rfl rfl) (s_X4_put h fa) k (fun s6 h k => ?_)
    refine wp_ld (v := .int (am_I s a 2)) dX4_add_51 rfl rfl rfl rfl ?_
    exact wp_end dX4_add_53 rfl (am_end_i rfl) (hP _ _ (ok_s k) h)
  · refine wp_cst (v := .int (-1 : Int32)) dX4_add_11 rfl rfl ?_
    exact wp_end dX4_add_12 rfl (am_end_i rfl) (hP _ _ (ok_s k) h)
noncomputable def f_X7_crate (x1 : Int32) (x2 : Int32) (s : am_S) : am_F :=
  am_tu (f_X7_needWithin x1 (1 : Int32) (99999 : Int32) s) (fun s1 =>
    am_tu (f_X7_needWithin x2 (1 : Int32) (9999 : Int32) s1) (fun s3 =>
      am_bi (f_X4_add 7 x1 x2 (0 : Int32) s3) (fun v6 s5 =>
        some (.inl (some (.int v6)), s5)
      )
    )
  )
theorem s_X7_crate {N n : Nat} {d : Nat} {x1 : Int32} {x2 : Int32} {s : am_S} (h : am_sh N n s)  : am_S1 (am_sh N n) (d + 2) mX7_crate [.ref 0, .int x1, .int x2] s (f_X7_crate x1 x2 s) := by
  intro P Q k hP
  show am_WP (d + 2) mX7_crate 0 [(0, .ref 0), (1, .int x1), (2, .int x2)] [] s Q
  unfold f_X7_crate at k
  refine wp_ld (v := .int x1) dX7_crate_0 rfl rfl rfl rfl ?_
  refine wp_cst (v := .int (1 : Int32)) dX7_crate_1 rfl rfl ?_
  refine wp_cst (v := .int (99999 : Int32)) dX7_crate_2 rfl rfl ?_
  refine t_u dX7_crate_4 rfl rfl rfl (am_inv_s rfl rfl rfl rfl) (s_X7_needWithin h) k rfl rfl hP (fun s1 h k => ?_)
  refine wp_ld (v := .int x2) dX7_crate_7 rfl rfl rfl rfl ?_
  refine wp_cst (v := .int (1 : Int32)) dX7_crate_8 rfl rfl ?_
  refine wp_cst (v := .int (9999 : Int32)) dX7_crate_9 rfl rfl ?_
  refine t_u dX7_crate_12 rfl rfl rfl (am_inv_s rfl rfl rfl rfl) (s_X7_needWithin h) k rfl rfl hP (fun s3 h k => ?_)
  refine wp_ld (v := .ref 0) dX7_crate_15 rfl rfl rfl rfl ?_
  refine wp_gr dX7_crate_16 rfl rfl (kk_0 h) (rr_0_0 h) ?_
  refine wp_gr dX7_crate_19 rfl rfl (kk_1 h) (rr_1_9 h) ?_
  refine wp_ld (v := .int x1) dX7_crate_22 rfl rfl rfl rfl ?_
  refine wp_ld (v := .int x2) dX7_crate_23 rfl rfl rfl rfl ?_
  refine wp_cst (v := .int (0 : Int32)) dX7_crate_24 rfl rfl ?_
  refine c_i dX7_crate_25 rfl rfl rfl (am_inv_v rfl (kk_7 h) rfl rfl rfl) (s_X4_add h (kf_7 h)) k (fun v6 s5 h k => ?_)
  exact wp_end dX7_crate_28 rfl (am_end_i rfl) (hP _ _ (ok_s k) h)
noncomputable def f_L_crate (x2 : Int32) (x3 : Int32) (s : am_S) : am_F :=
  am_xi (f_X7_crate x2 x3 s) (fun v2 s1 =>
    some (.inl (some (.int (0 : Int32))), (am_sL s1 71 0 v2.toInt64))
  ) (fun e s1 =>
    if e = 0 then
      some (.inl (some (.int (1 : Int32))), s1)
    else
      none
  )
theorem s_L_crate {N : Nat} {d : Nat} {x2 : Int32} {x3 : Int32} {s : am_S} (h : am_shE N s)  : am_S1 (am_shE N) (d + 3) mL_crate [.ref 0, .int x2, .int x3, .ref 71] s (f_L_crate x2 x3 s) := by
  intro P Q k hP
  show am_WP (d + 3) mL_crate 0 [(0, .ref 0), (1, .int x2), (2, .int x3), (3, .ref 71)] [] s Q
  unfold f_L_crate at k
  refine wp_ld (v := .ref 71) dL_crate_0 rfl rfl rfl rfl ?_
  refine wp_cst (v := .int (0 : Int32)) dL_crate_1 rfl rfl ?_
  refine wp_ld (v := .ref 0) dL_crate_2 rfl rfl rfl rfl ?_
  refine wp_ld (v := .int x2) dL_crate_3 rfl rfl rfl rfl ?_
  refine wp_ld (v := .int x3) dL_crate_4 rfl rfl rfl rfl ?_
  refine x_i dL_crate_5 rfl rfl rfl (am_inv_v rfl (kE_0 h) rfl rfl rfl) (sE h (fun _ h => s_X7_crate h)) k rfl (List.cons_ne_nil _ _) (fun v2 s1 h k => ?_) (fun e s1 h k => ?_)
  · refine wp_pu dL_crate_8 rfl rfl ?_
    refine wq_last dL_crate_9 (kE_71 h) (by decide) (j := 0) rfl ?_
    refine wp_goto dL_crate_10 rfl ?_
    refine wp_cst (v := .int (0 : Int32)) dL_crate_17 rfl rfl ?_
    exact wp_end dL_crate_18 rfl (am_end_i rfl) (hP _ _ (ok_s k) (shE_sL h))
  · by_cases c3 : e = 0
    · have k := ok_pos c3 k
      subst c3
      refine ⟨_, _, rfl, ?_⟩
      refine wp_cst (v := .int (1 : Int32)) dL_crate_15 rfl rfl ?_
      exact wp_end dL_crate_16 rfl (am_end_i rfl) (hP _ _ (ok_s k) h)
    replace k := ok_neg c3 k
    exact (ok_no k).elim
noncomputable def f_X7_damp (x1 : Int32) (s : am_S) : am_F :=
  am_tu (f_X7_needWithin x1 (0 : Int32) (50 : Int32) s) (fun s1 =>
    some (.inl (some (.int (am_I s1 1 2))), (am_sI s1 1 2 x1))
  )
theorem s_X7_damp {N n : Nat} {d : Nat} {x1 : Int32} {s : am_S} (h : am_sh N n s)  : am_S1 (am_sh N n) (d + 1) mX7_damp [.ref 0, .int x1] s (f_X7_damp x1 s) := by
  intro P Q k hP
  show am_WP (d + 1) mX7_damp 0 [(0, .ref 0), (1, .int x1)] [] s Q
  unfold f_X7_damp at k
  refine wp_ld (v := .int x1) dX7_damp_0 rfl rfl rfl rfl ?_
  refine wp_cst (v := .int (0 : Int32)) dX7_damp_1 rfl rfl ?_
  refine wp_cst (v := .int (50 : Int32)) dX7_damp_2 rfl rfl ?_
  refine t_u dX7_damp_4 rfl rfl rfl (am_inv_s rfl rfl rfl rfl) (s_X7_needWithin h) k rfl rfl hP (fun s1 h k => ?_)
  refine wp_ld (v := .ref 0) dX7_damp_7 rfl rfl rfl rfl ?_
  refine wp_gr dX7_damp_8 rfl rfl (kk_0 h) (rr_0_0 h) ?_
  refine wq_gI dX7_damp_11 rfl rfl (kk_1 h) (v := (am_I s1 1 2)) rfl ?_
  refine wp_st (ls' := [(0, .ref 0), (1, .int x1), (2, .int (am_I s1 1 2))]) dX7_damp_14 rfl rfl rfl (Nat.le_of_ble_eq_true rfl) rfl ?_
  refine wp_ld (v := .ref 0) dX7_damp_15 rfl rfl rfl rfl ?_
  refine wp_gr dX7_damp_16 rfl rfl (kk_0 h) (rr_0_0 h) ?_
  refine wp_ld (v := .int x1) dX7_damp_19 rfl rfl rfl rfl ?_
  refine wp_pI dX7_damp_20 rfl rfl rfl (fun h => absurd h (by decide)) (kk_1 h) ?_
  refine wp_ld (v := .int (am_I s1 1 2)) dX7_damp_23 rfl rfl rfl rfl ?_
  exact wp_end dX7_damp_24 rfl (am_end_i rfl) (hP _ _ (ok_s k) (sh_sI h))
noncomputable def f_L_damp (x2 : Int32) (s : am_S) : am_F :=
  am_xi (f_X7_damp x2 s) (fun v2 s1 =>
    some (.inl (some (.int (0 : Int32))), (am_sL s1 71 0 v2.toInt64))
  ) (fun e s1 =>
    if e = 0 then
      some (.inl (some (.int (1 : Int32))), s1)
    else
      none
  )
theorem s_L_damp {N : Nat} {d : Nat} {x2 : Int32} {s : am_S} (h : am_shE N s)  : am_S1 (am_shE N) (d + 2) mL_damp [.ref 0, .int x2, .ref 71] s (f_L_damp x2 s) := by
  intro P Q k hP
  show am_WP (d + 2) mL_damp 0 [(0, .ref 0), (1, .int x2), (2, .ref 71)] [] s Q
  unfold f_L_damp at k
  refine wp_ld (v := .ref 71) dL_damp_0 rfl rfl rfl rfl ?_
  refine wp_cst (v := .int (0 : Int32)) dL_damp_1 rfl rfl ?_
  refine wp_ld (v := .ref 0) dL_damp_2 rfl rfl rfl rfl ?_
  refine wp_ld (v := .int x2) dL_damp_3 rfl rfl rfl rfl ?_
  refine x_i dL_damp_4 rfl rfl rfl (am_inv_v rfl (kE_0 h) rfl rfl rfl) (sE h (fun _ h => s_X7_damp h)) k rfl (List.cons_ne_nil _ _) (fun v2 s1 h k => ?_) (fun e s1 h k => ?_)
  · refine wp_pu dL_damp_7 rfl rfl ?_
    refine wq_last dL_damp_8 (kE_71 h) (by decide) (j := 0) rfl ?_
    refine wp_goto dL_damp_9 rfl ?_
    refine wp_cst (v := .int (0 : Int32)) dL_damp_15 rfl rfl ?_
    exact wp_end dL_damp_16 rfl (am_end_i rfl) (hP _ _ (ok_s k) (shE_sL h))
  · by_cases c3 : e = 0
    · have k := ok_pos c3 k
      subst c3
      refine ⟨_, _, rfl, ?_⟩
      refine wp_cst (v := .int (1 : Int32)) dL_damp_13 rfl rfl ?_
      exact wp_end dL_damp_14 rfl (am_end_i rfl) (hP _ _ (ok_s k) h)
    replace k := ok_neg c3 k
    exact (ok_no k).elim
noncomputable def f_X7_draught (x1 : Int32) (x2 : Int32) (x3 : Int32) (s : am_S) : am_F :=
  am_tu (f_X7_needWithin x1 (1 : Int32) (200 : Int32) s) (fun s1 =>
    am_tu (f_X7_needWithin x2 x1 (200 : Int32) s1) (fun s3 =>
      am_tu (f_X7_needWithin x3 (-20 : Int32) (20 : Int32) s3) (fun s5 =>
        am_bi (f_X4_add 5 x1 x2 x3 s5) (fun v8 s7 =>
          some (.inl (some (.int v8)), s7)
        )
      )
    )
  )
theorem s_X7_draught {N n : Nat} {d : Nat} {x1 : Int32} {x2 : Int32} {x3 : Int32} {s : am_S} (h : am_sh N n s)  : am_S1 (am_sh N n) (d + 2) mX7_draught [.ref 0, .int x1, .int x2, .int x3] s (f_X7_draught x1 x2 x3 s) := by
  intro P Q k hP
  show am_WP (d + 2) mX7_draught 0 [(0, .ref 0), (1, .int x1), (2, .int x2), (3, .int x3)] [] s Q
  unfold f_X7_draught at k
  refine wp_ld (v := .int x1) dX7_draught_0 rfl rfl rfl rfl ?_
  refine wp_cst (v := .int (1 : Int32)) dX7_draught_1 rfl rfl ?_
  refine wp_cst (v := .int (200 : Int32)) dX7_draught_2 rfl rfl ?_
  refine t_u dX7_draught_5 rfl rfl rfl (am_inv_s rfl rfl rfl rfl) (s_X7_needWithin h) k rfl rfl hP (fun s1 h k => ?_)
  refine wp_ld (v := .int x2) dX7_draught_8 rfl rfl rfl rfl ?_
  refine wp_ld (v := .int x1) dX7_draught_9 rfl rfl rfl rfl ?_
  refine wp_cst (v := .int (200 : Int32)) dX7_draught_10 rfl rfl ?_
  refine t_u dX7_draught_13 rfl rfl rfl (am_inv_s rfl rfl rfl rfl) (s_X7_needWithin h) k rfl rfl hP (fun s3 h k => ?_)
  refine wp_ld (v := .int x3) dX7_draught_16 rfl rfl rfl rfl ?_
  refine wp_cst (v := .int (-20 : Int32)) dX7_draught_17 rfl rfl ?_
  refine wp_cst (v := .int (20 : Int32)) dX7_draught_19 rfl rfl ?_
  refine t_u dX7_draught_21 rfl rfl rfl (am_inv_s rfl rfl rfl rfl) (s_X7_needWithin h) k rfl rfl hP (fun s5 h k => ?_)
  refine wp_ld (v := .ref 0) dX7_draught_24 rfl rfl rfl rfl ?_
  refine wp_gr dX7_draught_25 rfl rfl (kk_0 h) (rr_0_0 h) ?_
  refine wp_gr dX7_draught_28 rfl rfl (kk_1 h) (rr_1_8 h) ?_
  refine wp_ld (v := .int x1) dX7_draught_31 rfl rfl rfl rfl ?_
  refine wp_ld (v := .int x2) dX7_draught_32 rfl rfl rfl rfl ?_
  refine wp_ld (v := .int x3) dX7_draught_33 rfl rfl rfl rfl ?_
  refine c_i dX7_draught_34 rfl rfl rfl (am_inv_v rfl (kk_5 h) rfl rfl rfl) (s_X4_add h (kf_5 h)) k (fun v8 s7 h k => ?_)
  exact wp_end dX7_draught_37 rfl (am_end_i rfl) (hP _ _ (ok_s k) h)
noncomputable def f_L_draught (x2 : Int32) (x3 : Int32) (x4 : Int32) (s : am_S) : am_F :=
  am_xi (f_X7_draught x2 x3 x4 s) (fun v2 s1 =>
    some (.inl (some (.int (0 : Int32))), (am_sL s1 71 0 v2.toInt64))
  ) (fun e s1 =>
    if e = 0 then
      some (.inl (some (.int (1 : Int32))), s1)
    else
      none
  )
theorem s_L_draught {N : Nat} {d : Nat} {x2 : Int32} {x3 : Int32} {x4 : Int32} {s : am_S} (h : am_shE N s)  : am_S1 (am_shE N) (d + 3) mL_draught [.ref 0, .int x2, .int x3, .int x4, .ref 71] s (f_L_draught x2 x3 x4 s) := by
  intro P Q k hP
  show am_WP (d + 3) mL_draught 0 [(0, .ref 0), (1, .int x2), (2, .int x3), (3, .int x4), (4, .ref 71)] [] s Q
  unfold f_L_draught at k
  refine wp_ld (v := .ref 71) dL_draught_0 rfl rfl rfl rfl ?_
  refine wp_cst (v := .int (0 : Int32)) dL_draught_2 rfl rfl ?_
  refine wp_ld (v := .ref 0) dL_draught_3 rfl rfl rfl rfl ?_
  refine wp_ld (v := .int x2) dL_draught_4 rfl rfl rfl rfl ?_
  refine wp_ld (v := .int x3) dL_draught_5 rfl rfl rfl rfl ?_
  refine wp_ld (v := .int x4) dL_draught_6 rfl rfl rfl rfl ?_
  refine x_i dL_draught_7 rfl rfl rfl (am_inv_v rfl (kE_0 h) rfl rfl rfl) (sE h (fun _ h => s_X7_draught h)) k rfl (List.cons_ne_nil _ _) (fun v2 s1 h k => ?_) (fun e s1 h k => ?_)
  · refine wp_pu dL_draught_10 rfl rfl ?_
    refine wq_last dL_draught_11 (kE_71 h) (by decide) (j := 0) rfl ?_
    refine wp_goto dL_draught_12 rfl ?_
    refine wp_cst (v := .int (0 : Int32)) dL_draught_19 rfl rfl ?_
    exact wp_end dL_draught_20 rfl (am_end_i rfl) (hP _ _ (ok_s k) (shE_sL h))
  · by_cases c3 : e = 0
    · have k := ok_pos c3 k
      subst c3
      refine ⟨_, _, rfl, ?_⟩
      refine wp_cst (v := .int (1 : Int32)) dL_draught_17 rfl rfl ?_
      exact wp_end dL_draught_18 rfl (am_end_i rfl) (hP _ _ (ok_s k) h)
    replace k := ok_neg c3 k
    exact (ok_no k).elim
noncomputable def f_X7_ears (x1 : Int32) (x2 : Int32) (x3 : Int32) (s : am_S) : am_F :=
  am_tv (f_X7_needWay x1 s) (fun v2 s1 =>
    am_mv v2 none (fun t3 => if am_k0 t3 = (4, 0) ∧ t3 < 72 then
      am_tv (f_X7_needHand x2 s1) (fun v8 s7 =>
        am_mv v8 none (fun t9 => if am_k0 t9 = (4, 0) ∧ t9 < 72 then
          am_tu (f_X7_needMake t3 s7) (fun s13 =>
            am_bi (f_X7_bestEarsOf t9 x3 s13) (fun v16 s15 =>
              some (.inl (some (.int v16)), s15)
            )
          )
        else none)
      )
    else none)
  )
theorem s_X7_ears {N n : Nat} {d : Nat} {x1 : Int32} {x2 : Int32} {x3 : Int32} {s : am_S} (h : am_sh N n s)  : am_S1 (am_sh N n) (d + 6) mX7_ears [.ref 0, .int x1, .int x2, .int x3] s (f_X7_ears x1 x2 x3 s) := by
  intro P Q k hP
  show am_WP (d + 6) mX7_ears 0 [(0, .ref 0), (1, .int x1), (2, .int x2), (3, .int x3)] [] s Q
  unfold f_X7_ears at k
  refine wp_ld (v := .ref 0) dX7_ears_0 rfl rfl rfl rfl ?_
  refine wp_ld (v := .int x1) dX7_ears_1 rfl rfl rfl rfl ?_
  refine t_v dX7_ears_2 rfl rfl rfl (am_inv_v rfl (kk_0 h) rfl rfl rfl) (s_X7_needWay h) k rfl rfl hP (fun v2 s1 h k => ?_)
  obtain ⟨t3, c4, k⟩ := ok_mn k
  subst c4
  obtain ⟨g5, k⟩ := ok_g k
  have f6 := kk_up h g5
  refine wp_st (ls' := [(0, .ref 0), (1, .int x1), (2, .int x2), (3, .int x3), (4, .ref t3)]) dX7_ears_5 rfl rfl rfl (Nat.le_of_ble_eq_true rfl) rfl ?_
  refine wp_ld (v := .ref 0) dX7_ears_7 rfl rfl rfl rfl ?_
  refine wp_ld (v := .int x2) dX7_ears_8 rfl rfl rfl rfl ?_
  refine t_v dX7_ears_9 rfl rfl rfl (am_inv_v rfl (kk_0 h) rfl rfl rfl) (s_X7_needHand h) k rfl rfl hP (fun v8 s7 h k => ?_)
  obtain ⟨t9, c10, k⟩ := ok_mn k
  subst c10
  obtain ⟨g11, k⟩ := ok_g k
  have f12 := kk_up h g11
  refine wp_st (ls' := [(0, .ref 0), (1, .int x1), (2, .int x2), (3, .int x3), (4, .ref t3), (5, .ref t9)]) dX7_ears_12 rfl rfl rfl (Nat.le_of_ble_eq_true rfl) rfl ?_
  refine wp_ld (v := .ref 0) dX7_ears_14 rfl rfl rfl rfl ?_
  refine wp_ld (v := .ref t3) dX7_ears_15 rfl rfl rfl rfl ?_
  refine t_u dX7_ears_17 rfl rfl rfl (am_inv_v rfl (kk_0 h) rfl rfl rfl) (s_X7_needMake h f6) k rfl rfl hP (fun s13 h k => ?_)
  refine wp_ld (v := .ref 0) dX7_ears_20 rfl rfl rfl rfl ?_
  refine wp_ld (v := .ref t9) dX7_ears_21 rfl rfl rfl rfl ?_
  refine wp_ld (v := .int x3) dX7_ears_23 rfl rfl rfl rfl ?_
  refine c_i dX7_ears_24 rfl rfl rfl (am_inv_v rfl (kk_0 h) rfl rfl rfl) (s_X7_bestEarsOf h f12) k (fun v16 s15 h k => ?_)
  exact wp_end dX7_ears_27 rfl (am_end_i rfl) (hP _ _ (ok_s k) h)
noncomputable def f_L_ears (x2 : Int32) (x3 : Int32) (x4 : Int32) (s : am_S) : am_F :=
  am_xi (f_X7_ears x2 x3 x4 s) (fun v2 s1 =>
    some (.inl (some (.int (0 : Int32))), (am_sL s1 71 0 v2.toInt64))
  ) (fun e s1 =>
    if e = 3 then
      some (.inl (some (.int (1 : Int32))), s1)
    else
      if e = 1 then
        some (.inl (some (.int (2 : Int32))), s1)
      else
        none
  )
theorem s_L_ears {N : Nat} {d : Nat} {x2 : Int32} {x3 : Int32} {x4 : Int32} {s : am_S} (h : am_shE N s)  : am_S1 (am_shE N) (d + 7) mL_ears [.ref 0, .int x2, .int x3, .int x4, .ref 71] s (f_L_ears x2 x3 x4 s) := by
  intro P Q k hP
  show am_WP (d + 7) mL_ears 0 [(0, .ref 0), (1, .int x2), (2, .int x3), (3, .int x4), (4, .ref 71)] [] s Q
  unfold f_L_ears at k
  refine wp_ld (v := .ref 71) dL_ears_0 rfl rfl rfl rfl ?_
  refine wp_cst (v := .int (0 : Int32)) dL_ears_2 rfl rfl ?_
  refine wp_ld (v := .ref 0) dL_ears_3 rfl rfl rfl rfl ?_
  refine wp_ld (v := .int x2) dL_ears_4 rfl rfl rfl rfl ?_
  refine wp_ld (v := .int x3) dL_ears_5 rfl rfl rfl rfl ?_
  refine wp_ld (v := .int x4) dL_ears_6 rfl rfl rfl rfl ?_
  refine x_i dL_ears_7 rfl rfl rfl (am_inv_v rfl (kE_0 h) rfl rfl rfl) (sE h (fun _ h => s_X7_ears h)) k rfl (List.cons_ne_nil _ _) (fun v2 s1 h k => ?_) (fun e s1 h k => ?_)
  · refine wp_pu dL_ears_10 rfl rfl ?_
    refine wq_last dL_ears_11 (kE_71 h) (by decide) (j := 0) rfl ?_
    refine wp_goto dL_ears_12 rfl ?_
    refine wp_cst (v := .int (0 : Int32)) dL_ears_23 rfl rfl ?_
    exact wp_end dL_ears_24 rfl (am_end_i rfl) (hP _ _ (ok_s k) (shE_sL h))
  · by_cases c3 : e = 3
    · have k := ok_pos c3 k
      subst c3
      refine ⟨_, _, rfl, ?_⟩
      refine wp_cst (v := .int (1 : Int32)) dL_ears_17 rfl rfl ?_
      exact wp_end dL_ears_18 rfl (am_end_i rfl) (hP _ _ (ok_s k) h)
    replace k := ok_neg c3 k
    by_cases c4 : e = 1
    · have k := ok_pos c4 k
      subst c4
      refine ⟨_, _, rfl, ?_⟩
      refine wp_cst (v := .int (2 : Int32)) dL_ears_21 rfl rfl ?_
      exact wp_end dL_ears_22 rfl (am_end_i rfl) (hP _ _ (ok_s k) h)
    replace k := ok_neg c4 k
    exact (ok_no k).elim
noncomputable def f_X7_enter (x1 : Int32) (x2 : Int32) (x3 : Int32) (s : am_S) : am_F :=
  am_tv (f_X7_needWay x1 s) (fun v2 s1 =>
    am_mv v2 none (fun t3 => if am_k0 t3 = (4, 0) ∧ t3 < 72 then
      am_tv (f_X7_needHand x3 s1) (fun v8 s7 =>
        am_mv v8 none (fun t9 => if am_k0 t9 = (4, 0) ∧ t9 < 72 then
          am_tu (f_X7_needEars x2 s7) (fun s13 =>
            am_bi (f_X4_add 9 x1 x2 x3 s13) (fun v16 s15 =>
              some (.inl (some (.int v16)), s15)
            )
          )
        else none)
      )
    else none)
  )
theorem s_X7_enter {N n : Nat} {d : Nat} {x1 : Int32} {x2 : Int32} {x3 : Int32} {s : am_S} (h : am_sh N n s)  : am_S1 (am_sh N n) (d + 2) mX7_enter [.ref 0, .int x1, .int x2, .int x3] s (f_X7_enter x1 x2 x3 s) := by
  intro P Q k hP
  show am_WP (d + 2) mX7_enter 0 [(0, .ref 0), (1, .int x1), (2, .int x2), (3, .int x3)] [] s Q
  unfold f_X7_enter at k
  refine wp_ld (v := .ref 0) dX7_enter_0 rfl rfl rfl rfl ?_
  refine wp_ld (v := .int x1) dX7_enter_1 rfl rfl rfl rfl ?_
  refine t_v dX7_enter_2 rfl rfl rfl (am_inv_v rfl (kk_0 h) rfl rfl rfl) (s_X7_needWay h) k rfl rfl hP (fun v2 s1 h k => ?_)
  obtain ⟨t3, c4, k⟩ := ok_mn k
  subst c4
  obtain ⟨g5, k⟩ := ok_g k
  have f6 := kk_up h g5
  refine wp_pu dX7_enter_5 rfl rfl ?_
  refine wp_ld (v := .ref 0) dX7_enter_6 rfl rfl rfl rfl ?_
  refine wp_ld (v := .int x3) dX7_enter_7 rfl rfl rfl rfl ?_
  refine t_v dX7_enter_8 rfl rfl rfl (am_inv_v rfl (kk_0 h) rfl rfl rfl) (s_X7_needHand h) k rfl rfl hP (fun v8 s7 h k => ?_)
  obtain ⟨t9, c10, k⟩ := ok_mn k
  subst c10
  obtain ⟨g11, k⟩ := ok_g k
  have f12 := kk_up h g11
  refine wp_pu dX7_enter_11 rfl rfl ?_
  refine wp_ld (v := .int x2) dX7_enter_12 rfl rfl rfl rfl ?_
  refine t_u dX7_enter_13 rfl rfl rfl (am_inv_s rfl rfl rfl rfl) (s_X7_needEars h) k rfl rfl hP (fun s13 h k => ?_)
  refine wp_ld (v := .ref 0) dX7_enter_16 rfl rfl rfl rfl ?_
  refine wp_gr dX7_enter_17 rfl rfl (kk_0 h) (rr_0_0 h) ?_
  refine wp_gr dX7_enter_20 rfl rfl (kk_1 h) (rr_1_10 h) ?_
  refine wp_ld (v := .int x1) dX7_enter_23 rfl rfl rfl rfl ?_
  refine wp_ld (v := .int x2) dX7_enter_24 rfl rfl rfl rfl ?_
  refine wp_ld (v := .int x3) dX7_enter_25 rfl rfl rfl rfl ?_
  refine c_i dX7_enter_26 rfl rfl rfl (am_inv_v rfl (kk_9 h) rfl rfl rfl) (s_X4_add h (kf_9 h)) k (fun v16 s15 h k => ?_)
  exact wp_end dX7_enter_29 rfl (am_end_i rfl) (hP _ _ (ok_s k) h)
noncomputable def f_L_enter (x2 : Int32) (x3 : Int32) (x4 : Int32) (s : am_S) : am_F :=
  am_xi (f_X7_enter x2 x3 x4 s) (fun v2 s1 =>
    some (.inl (some (.int (0 : Int32))), (am_sL s1 71 0 v2.toInt64))
  ) (fun e s1 =>
    if e = 3 then
      some (.inl (some (.int (1 : Int32))), s1)
    else
      if e = 0 then
        some (.inl (some (.int (2 : Int32))), s1)
      else
        none
  )
theorem s_L_enter {N : Nat} {d : Nat} {x2 : Int32} {x3 : Int32} {x4 : Int32} {s : am_S} (h : am_shE N s)  : am_S1 (am_shE N) (d + 3) mL_enter [.ref 0, .int x2, .int x3, .int x4, .ref 71] s (f_L_enter x2 x3 x4 s) := by
  intro P Q k hP
  show am_WP (d + 3) mL_enter 0 [(0, .ref 0), (1, .int x2), (2, .int x3), (3, .int x4), (4, .ref 71)] [] s Q
  unfold f_L_enter at k
  refine wp_ld (v := .ref 71) dL_enter_0 rfl rfl rfl rfl ?_
  refine wp_cst (v := .int (0 : Int32)) dL_enter_2 rfl rfl ?_
  refine wp_ld (v := .ref 0) dL_enter_3 rfl rfl rfl rfl ?_
  refine wp_ld (v := .int x2) dL_enter_4 rfl rfl rfl rfl ?_
  refine wp_ld (v := .int x3) dL_enter_5 rfl rfl rfl rfl ?_
  refine wp_ld (v := .int x4) dL_enter_6 rfl rfl rfl rfl ?_
  refine x_i dL_enter_7 rfl rfl rfl (am_inv_v rfl (kE_0 h) rfl rfl rfl) (sE h (fun _ h => s_X7_enter h)) k rfl (List.cons_ne_nil _ _) (fun v2 s1 h k => ?_) (fun e s1 h k => ?_)
  · refine wp_pu dL_enter_10 rfl rfl ?_
    refine wq_last dL_enter_11 (kE_71 h) (by decide) (j := 0) rfl ?_
    refine wp_goto dL_enter_12 rfl ?_
    refine wp_cst (v := .int (0 : Int32)) dL_enter_23 rfl rfl ?_
    exact wp_end dL_enter_24 rfl (am_end_i rfl) (hP _ _ (ok_s k) (shE_sL h))
  · by_cases c3 : e = 3
    · have k := ok_pos c3 k
      subst c3
      refine ⟨_, _, rfl, ?_⟩
      refine wp_cst (v := .int (1 : Int32)) dL_enter_17 rfl rfl ?_
      exact wp_end dL_enter_18 rfl (am_end_i rfl) (hP _ _ (ok_s k) h)
    replace k := ok_neg c3 k
    by_cases c4 : e = 0
    · have k := ok_pos c4 k
      subst c4
      refine ⟨_, _, rfl, ?_⟩
      refine wp_cst (v := .int (2 : Int32)) dL_enter_21 rfl rfl ?_
      exact wp_end dL_enter_22 rfl (am_end_i rfl) (hP _ _ (ok_s k) h)
    replace k := ok_neg c4 k
    exact (ok_no k).elim
noncomputable def f_X1_loops  (s : am_S) : am_F :=
  some (.inl (some (.int ((am_abs (am_I s 41 13)) / (1024 : Int32)))), s)
theorem s_X1_loops {N n : Nat} {d : Nat}  {s : am_S} (h : am_sh N n s)  : am_S1 (am_sh N n) (d) mX1_loops [.ref 41] s (f_X1_loops s) := by
  intro P Q k hP
  show am_WP (d) mX1_loops 0 [(0, .ref 41)] [] s Q
  unfold f_X1_loops at k
  refine wp_ld (v := .ref 41) dX1_loops_0 rfl rfl rfl rfl ?_
  refine wq_gI dX1_loops_1 rfl rfl (kk_41 h) (v := (am_I s 41 13)) rfl ?_
  refine wp_mem (st' := .int (am_abs (am_I s 41 13)) :: []) dX1_loops_4 rfl rfl rfl rfl ?_
  refine wp_cst (v := .int (1024 : Int32)) dX1_loops_7 rfl rfl ?_
  refine wp_div dX1_loops_10 (by decide) ?_
  exact wp_end dX1_loops_11 rfl (am_end_i rfl) (hP _ _ (ok_s k) h)
noncomputable def f_X1_evenFrom  (s : am_S) : am_F :=
  if ((am_I s 41 11) - (am_I s 41 14)) < (20 : Int32) then
    some (.inl (some (.int (-1 : Int32))), s)
  else
    some (.inl (some (.int ((am_I s 41 14) + (1 : Int32)))), s)
theorem s_X1_evenFrom {N n : Nat} {d : Nat}  {s : am_S} (h : am_sh N n s)  : am_S1 (am_sh N n) (d) mX1_evenFrom [.ref 41] s (f_X1_evenFrom s) := by
  intro P Q k hP
  show am_WP (d) mX1_evenFrom 0 [(0, .ref 41)] [] s Q
  unfold f_X1_evenFrom at k
  refine wp_ld (v := .ref 41) dX1_evenFrom_0 rfl rfl rfl rfl ?_
  refine wq_gI dX1_evenFrom_1 rfl rfl (kk_41 h) (v := (am_I s 41 11)) rfl ?_
  refine wp_ld (v := .ref 41) dX1_evenFrom_4 rfl rfl rfl rfl ?_
  refine wq_gI dX1_evenFrom_5 rfl rfl (kk_41 h) (v := (am_I s 41 14)) rfl ?_
  refine wp_pu dX1_evenFrom_8 rfl rfl ?_
  refine wp_cst (v := .int (20 : Int32)) dX1_evenFrom_9 rfl rfl ?_
  refine wp_ic_lt dX1_evenFrom_11 rfl (fun c1 => have k := ok_pos c1 k; ?_) (fun c1 => have k := ok_neg c1 k; ?_)
  · refine wp_cst (v := .int (-1 : Int32)) dX1_evenFrom_23 rfl rfl ?_
    exact wp_end dX1_evenFrom_24 rfl (am_end_i rfl) (hP _ _ (ok_s k) h)
  · refine wp_ld (v := .ref 41) dX1_evenFrom_14 rfl rfl rfl rfl ?_
    refine wq_gI dX1_evenFrom_15 rfl rfl (kk_41 h) (v := (am_I s 41 14)) rfl ?_
    refine wp_cst (v := .int (1 : Int32)) dX1_evenFrom_18 rfl rfl ?_
    refine wp_pu dX1_evenFrom_19 rfl rfl ?_
    refine wp_goto dX1_evenFrom_20 rfl ?_
    exact wp_end dX1_evenFrom_24 rfl (am_end_i rfl) (hP _ _ (ok_s k) h)
noncomputable def f_X7_fly (x1 : Int32) (x2 : Int32) (x3 : Int32) (x4 : Int32) (x5 : Int32) (s : am_S) : am_F :=
  am_tv (f_X7_needWay x1 s) (fun v2 s1 =>
    am_mv v2 none (fun t3 => if am_k0 t3 = (4, 0) ∧ t3 < 72 then
      am_tu (f_X7_needMake t3 s1) (fun s7 =>
        am_tu (f_X7_needThrow x2 x3 x4 s7) (fun s9 =>
          am_tu (f_X7_needWithin x5 (0 : Int32) (5 : Int32) s9) (fun s11 =>
            am_bu (f_X1_flyOut x2 x3 x4 s11) (fun s13 =>
              if x5 = (0 : Int32) then
                some (.inl (some (.int (am_I s13 41 4))), s13)
              else if x5 = (1 : Int32) then
                some (.inl (some (.int (am_I s13 41 11))), s13)
              else if x5 = (2 : Int32) then
                some (.inl (some (.int (am_I s13 41 12))), s13)
              else if x5 = (3 : Int32) then
                some (.inl (some (.int (am_I s13 41 15))), s13)
              else if x5 = (4 : Int32) then
                am_bi (f_X1_loops s13) (fun v21 s20 =>
                  some (.inl (some (.int v21)), s20)
                )
              else
                am_bi (f_X1_evenFrom s13) (fun v23 s22 =>
                  some (.inl (some (.int v23)), s22)
                )
            )
          )
        )
      )
    else none)
  )
theorem s_X7_fly {N n : Nat} {d : Nat} {x1 : Int32} {x2 : Int32} {x3 : Int32} {x4 : Int32} {x5 : Int32} {s : am_S} (h : am_sh N n s)  : am_S1 (am_sh N n) (d + 6) mX7_fly [.ref 0, .int x1, .int x2, .int x3, .int x4, .int x5] s (f_X7_fly x1 x2 x3 x4 x5 s) := by
  intro P Q k hP
  show am_WP (d + 6) mX7_fly 0 [(0, .ref 0), (1, .int x1), (2, .int x2), (3, .int x3), (4, .int x4), (5, .int x5)] [] s Q
  unfold f_X7_fly at k
  refine wp_ld (v := .ref 0) dX7_fly_0 rfl rfl rfl rfl ?_
  refine wp_ld (v := .ref 0) dX7_fly_1 rfl rfl rfl rfl ?_
  refine wp_ld (v := .int x1) dX7_fly_2 rfl rfl rfl rfl ?_
  refine t_v dX7_fly_3 rfl rfl rfl (am_inv_v rfl (kk_0 h) rfl rfl rfl) (s_X7_needWay h) k rfl rfl hP (fun v2 s1 h k => ?_)
  obtain ⟨t3, c4, k⟩ := ok_mn k
  subst c4
  obtain ⟨g5, k⟩ := ok_g k
  have f6 := kk_up h g5
  refine t_u dX7_fly_6 rfl rfl rfl (am_inv_v rfl (kk_0 h) rfl rfl rfl) (s_X7_needMake h f6) k rfl rfl hP (fun s7 h k => ?_)
  refine wp_ld (v := .int x2) dX7_fly_9 rfl rfl rfl rfl ?_
  refine wp_ld (v := .int x3) dX7_fly_10 rfl rfl rfl rfl ?_
  refine wp_ld (v := .int x4) dX7_fly_11 rfl rfl rfl rfl ?_
  refine t_u dX7_fly_13 rfl rfl rfl (am_inv_s rfl rfl rfl rfl) (s_X7_needThrow h) k rfl rfl hP (fun s9 h k => ?_)
  refine wp_ld (v := .int x5) dX7_fly_16 rfl rfl rfl rfl ?_
  refine wp_cst (v := .int (0 : Int32)) dX7_fly_18 rfl rfl ?_
  refine wp_cst (v := .int (5 : Int32)) dX7_fly_19 rfl rfl ?_
  refine t_u dX7_fly_20 rfl rfl rfl (am_inv_s rfl rfl rfl rfl) (s_X7_needWithin h) k rfl rfl hP (fun s11 h k => ?_)
  refine wp_ld (v := .ref 0) dX7_fly_23 rfl rfl rfl rfl ?_
  refine wp_gr dX7_fly_24 rfl rfl (kk_0 h) (rr_0_6 h) ?_
  refine wp_ld (v := .int x2) dX7_fly_27 rfl rfl rfl rfl ?_
  refine wp_ld (v := .int x3) dX7_fly_28 rfl rfl rfl rfl ?_
  refine wp_ld (v := .int x4) dX7_fly_29 rfl rfl rfl rfl ?_
  refine c_u dX7_fly_31 rfl rfl rfl (am_inv_v rfl (kk_41 h) rfl rfl rfl) (s_X1_flyOut h) k (fun s13 h k => ?_)
  refine wp_ld (v := .int x5) dX7_fly_34 rfl rfl rfl rfl ?_
  by_cases c15 : x5 = (0 : Int32)
  · have k := ok_pos c15 k
    refine sw_hit dX7_fly_36 rfl c15 rfl ?_
    refine wp_ld (v := .ref 0) dX7_fly_72 rfl rfl rfl rfl ?_
    refine wp_gr dX7_fly_73 rfl rfl (kk_0 h) (rr_0_6 h) ?_
    refine wq_gI dX7_fly_76 rfl rfl (kk_41 h) (v := (am_I s13 41 4)) rfl ?_
    exact wp_end dX7_fly_79 rfl (am_end_i rfl) (hP _ _ (ok_s k) h)
  replace k := ok_neg c15 k
  by_cases c16 : x5 = (1 : Int32)
  · have k := ok_pos c16 k
    refine sw_hit dX7_fly_36 rfl c16 rfl ?_
    refine wp_ld (v := .ref 0) dX7_fly_80 rfl rfl rfl rfl ?_
    refine wp_gr dX7_fly_81 rfl rfl (kk_0 h) (rr_0_6 h) ?_
    refine wq_gI dX7_fly_84 rfl rfl (kk_41 h) (v := (am_I s13 41 11)) rfl ?_
    exact wp_end dX7_fly_87 rfl (am_end_i rfl) (hP _ _ (ok_s k) h)
  replace k := ok_neg c16 k
  by_cases c17 : x5 = (2 : Int32)
  · have k := ok_pos c17 k
    refine sw_hit dX7_fly_36 rfl c17 rfl ?_
    refine wp_ld (v := .ref 0) dX7_fly_88 rfl rfl rfl rfl ?_
    refine wp_gr dX7_fly_89 rfl rfl (kk_0 h) (rr_0_6 h) ?_
    refine wq_gI dX7_fly_92 rfl rfl (kk_41 h) (v := (am_I s13 41 12)) rfl ?_
    exact wp_end dX7_fly_95 rfl (am_end_i rfl) (hP _ _ (ok_s k) h)
  replace k := ok_neg c17 k
  by_cases c18 : x5 = (3 : Int32)
  · have k := ok_pos c18 k
    refine sw_hit dX7_fly_36 rfl c18 rfl ?_
    refine wp_ld (v := .ref 0) dX7_fly_96 rfl rfl rfl rfl ?_
    refine wp_gr dX7_fly_97 rfl rfl (kk_0 h) (rr_0_6 h) ?_
    refine wq_gI dX7_fly_100 rfl rfl (kk_41 h) (v := (am_I s13 41 15)) rfl ?_
    exact wp_end dX7_fly_103 rfl (am_end_i rfl) (hP _ _ (ok_s k) h)
  replace k := ok_neg c18 k
  by_cases c19 : x5 = (4 : Int32)
  · have k := ok_pos c19 k
    refine sw_hit dX7_fly_36 rfl c19 rfl ?_
    refine wp_ld (v := .ref 0) dX7_fly_104 rfl rfl rfl rfl ?_
    refine wp_gr dX7_fly_105 rfl rfl (kk_0 h) (rr_0_6 h) ?_
    refine c_i dX7_fly_108 rfl rfl rfl (am_inv_v rfl (kk_41 h) rfl rfl rfl) (s_X1_loops h) k (fun v21 s20 h k => ?_)
    exact wp_end dX7_fly_111 rfl (am_end_i rfl) (hP _ _ (ok_s k) h)
  replace k := ok_neg c19 k
  refine ts_out dX7_fly_36 rfl (by
      intro j h1 h2
      have hj : j = 0 ∨ j = 1 ∨ j = 2 ∨ j = 3 ∨ j = 4 := by omega
      rcases hj with e | e | e | e | e
      · subst e; exact c15
      · subst e; exact c16
      · subst e; exact c17
      · subst e; exact c18
      · subst e; exact c19
      ) ?_
  refine wp_ld (v := .ref 0) dX7_fly_112 rfl rfl rfl rfl ?_
  refine wp_gr dX7_fly_113 rfl rfl (kk_0 h) (rr_0_6 h) ?_
  refine c_i dX7_fly_116 rfl rfl rfl (am_inv_v rfl (kk_41 h) rfl rfl rfl) (s_X1_evenFrom h) k (fun v23 s22 h k => ?_)
  exact wp_end dX7_fly_119 rfl (am_end_i rfl) (hP _ _ (ok_s k) h)
noncomputable def f_L_fly (x2 : Int32) (x3 : Int32) (x4 : Int32) (x5 : Int32) (x6 : Int32) (s : am_S) : am_F :=
  am_xi (f_X7_fly x2 x3 x4 x5 x6 s) (fun v2 s1 =>
    some (.inl (some (.int (0 : Int32))), (am_sL s1 71 0 v2.toInt64))
  ) (fun e s1 =>
    if e = 3 then
      some (.inl (some (.int (1 : Int32))), s1)
    else
      if e = 1 then
        some (.inl (some (.int (2 : Int32))), s1)
      else
        if e = 0 then
          some (.inl (some (.int (3 : Int32))), s1)
        else
          none
  )
theorem s_L_fly {N : Nat} {d : Nat} {x2 : Int32} {x3 : Int32} {x4 : Int32} {x5 : Int32} {x6 : Int32} {s : am_S} (h : am_shE N s)  : am_S1 (am_shE N) (d + 7) mL_fly [.ref 0, .int x2, .int x3, .int x4, .int x5, .int x6, .ref 71] s (f_L_fly x2 x3 x4 x5 x6 s) := by
  intro P Q k hP
  show am_WP (d + 7) mL_fly 0 [(0, .ref 0), (1, .int x2), (2, .int x3), (3, .int x4), (4, .int x5), (5, .int x6), (6, .ref 71)] [] s Q
  unfold f_L_fly at k
  refine wp_ld (v := .ref 71) dL_fly_0 rfl rfl rfl rfl ?_
  refine wp_cst (v := .int (0 : Int32)) dL_fly_2 rfl rfl ?_
  refine wp_ld (v := .ref 0) dL_fly_3 rfl rfl rfl rfl ?_
  refine wp_ld (v := .int x2) dL_fly_4 rfl rfl rfl rfl ?_
  refine wp_ld (v := .int x3) dL_fly_5 rfl rfl rfl rfl ?_
  refine wp_ld (v := .int x4) dL_fly_6 rfl rfl rfl rfl ?_
  refine wp_ld (v := .int x5) dL_fly_7 rfl rfl rfl rfl ?_
  refine wp_ld (v := .int x6) dL_fly_9 rfl rfl rfl rfl ?_
  refine x_i dL_fly_11 rfl rfl rfl (am_inv_v rfl (kE_0 h) rfl rfl rfl) (sE h (fun _ h => s_X7_fly h)) k rfl (List.cons_ne_nil _ _) (fun v2 s1 h k => ?_) (fun e s1 h k => ?_)
  · refine wp_pu dL_fly_14 rfl rfl ?_
    refine wq_last dL_fly_15 (kE_71 h) (by decide) (j := 0) rfl ?_
    refine wp_goto dL_fly_16 rfl ?_
    refine wp_cst (v := .int (0 : Int32)) dL_fly_31 rfl rfl ?_
    exact wp_end dL_fly_32 rfl (am_end_i rfl) (hP _ _ (ok_s k) (shE_sL h))
  · by_cases c3 : e = 3
    · have k := ok_pos c3 k
      subst c3
      refine ⟨_, _, rfl, ?_⟩
      refine wp_cst (v := .int (1 : Int32)) dL_fly_21 rfl rfl ?_
      exact wp_end dL_fly_22 rfl (am_end_i rfl) (hP _ _ (ok_s k) h)
    replace k := ok_neg c3 k
    by_cases c4 : e = 1
    · have k := ok_pos c4 k
      subst c4
      refine ⟨_, _, rfl, ?_⟩
      refine wp_cst (v := .int (2 : Int32)) dL_fly_25 rfl rfl ?_
      exact wp_end dL_fly_26 rfl (am_end_i rfl) (hP _ _ (ok_s k) h)
    replace k := ok_neg c4 k
    by_cases c5 : e = 0
    · have k := ok_pos c5 k
      subst c5
      refine ⟨_, _, rfl, ?_⟩
      refine wp_cst (v := .int (3 : Int32)) dL_fly_29 rfl rfl ?_
      exact wp_end dL_fly_30 rfl (am_end_i rfl) (hP _ _ (ok_s k) h)
    replace k := ok_neg c5 k
    exact (ok_no k).elim
noncomputable def f_X7_codeOf (b1 : Nat) (x2 : Int32) (s : am_S) : am_F :=
  if x2 < 0 then
    some (.inl (some (.int (-1 : Int32))), s)
  else
    if x2 < (am_I s b1 2) then
      am_bi (f_X4_get b1 x2 (0 : Int32) s) (fun v4 s3 =>
        am_bi (f_X4_get b1 x2 (1 : Int32) s3) (fun v6 s5 =>
          some (.inl (some (.int (((100 : Int32) * v4) + v6))), s5)
        )
      )
    else
      some (.inl (some (.int (-1 : Int32))), s)
theorem s_X7_codeOf {N n : Nat} {d : Nat} {b1 : Nat} {x2 : Int32} {s : am_S} (h : am_sh N n s) (fb1 : am_kf n b1 4) : am_S1 (am_sh N n) (d + 1) mX7_codeOf [.ref b1, .int x2] s (f_X7_codeOf b1 x2 s) := by
  intro P Q k hP
  show am_WP (d + 1) mX7_codeOf 0 [(0, .ref b1), (1, .int x2)] [] s Q
  unfold f_X7_codeOf at k
  refine wp_ld (v := .int x2) dX7_codeOf_0 rfl rfl rfl rfl ?_
  refine wp_if_lt dX7_codeOf_1 rfl (fun c1 => have k := ok_pos c1 k; ?_) (fun c1 => have k := ok_neg c1 k; ?_)
  · refine wp_cst (v := .int (-1 : Int32)) dX7_codeOf_12 rfl rfl ?_
    exact wp_end dX7_codeOf_13 rfl (am_end_i rfl) (hP _ _ (ok_s k) h)
  · refine wp_ld (v := .int x2) dX7_codeOf_4 rfl rfl rfl rfl ?_
    refine wp_ld (v := .ref b1) dX7_codeOf_5 rfl rfl rfl rfl ?_
    refine wq_gI dX7_codeOf_6 rfl rfl (kk_f h fb1) (v := (am_I s b1 2)) rfl ?_
    refine wp_ic_lt dX7_codeOf_9 rfl (fun c2 => have k := ok_pos c2 k; ?_) (fun c2 => have k := ok_neg c2 k; ?_)
    · refine wp_cst (v := .int (100 : Int32)) dX7_codeOf_14 rfl rfl ?_
      refine wp_ld (v := .ref b1) dX7_codeOf_16 rfl rfl rfl rfl ?_
      refine wp_ld (v := .int x2) dX7_codeOf_17 rfl rfl rfl rfl ?_
      refine wp_cst (v := .int (0 : Int32)) dX7_codeOf_18 rfl rfl ?_
      refine c_i dX7_codeOf_19 rfl rfl rfl (am_inv_v rfl (kk_f h fb1) rfl rfl rfl) (s_X4_get h fb1) k (fun v4 s3 h k => ?_)
      refine wp_pu dX7_codeOf_22 rfl rfl ?_
      refine wp_ld (v := .ref b1) dX7_codeOf_23 rfl rfl rfl rfl ?_
      refine wp_ld (v := .int x2) dX7_codeOf_24 rfl rfl rfl rfl ?_
      refine wp_cst (v := .int (1 : Int32)) dX7_codeOf_25 rfl rfl ?_
      refine c_i dX7_codeOf_26 rfl rfl rfl (am_inv_v rfl (kk_f h fb1) rfl rfl rfl) (s_X4_get h fb1) k (fun v6 s5 h k => ?_)
      refine wp_pu dX7_codeOf_29 rfl rfl ?_
      exact wp_end dX7_codeOf_30 rfl (am_end_i rfl) (hP _ _ (ok_s k) h)
    · refine wp_cst (v := .int (-1 : Int32)) dX7_codeOf_12 rfl rfl ?_
      exact wp_end dX7_codeOf_13 rfl (am_end_i rfl) (hP _ _ (ok_s k) h)
noncomputable def f_X7_fold (x1 : Int32) (x2 : Int32) (s : am_S) : am_F :=
  am_tv (f_X7_needWay x1 s) (fun v2 s1 =>
    am_mv v2 none (fun t3 => if am_k0 t3 = (4, 0) ∧ t3 < 72 then
      if x2 = (-1 : Int32) then
        some (.inl (some (.int (am_I s1 t3 2))), s1)
      else
        am_bi (f_X7_codeOf t3 x2 s1) (fun v9 s8 =>
          some (.inl (some (.int v9)), s8)
        )
    else none)
  )
theorem s_X7_fold {N n : Nat} {d : Nat} {x1 : Int32} {x2 : Int32} {s : am_S} (h : am_sh N n s)  : am_S1 (am_sh N n) (d + 2) mX7_fold [.ref 0, .int x1, .int x2] s (f_X7_fold x1 x2 s) := by
  intro P Q k hP
  show am_WP (d + 2) mX7_fold 0 [(0, .ref 0), (1, .int x1), (2, .int x2)] [] s Q
  unfold f_X7_fold at k
  refine wp_ld (v := .ref 0) dX7_fold_0 rfl rfl rfl rfl ?_
  refine wp_ld (v := .int x1) dX7_fold_1 rfl rfl rfl rfl ?_
  refine t_v dX7_fold_2 rfl rfl rfl (am_inv_v rfl (kk_0 h) rfl rfl rfl) (s_X7_needWay h) k rfl rfl hP (fun v2 s1 h k => ?_)
  obtain ⟨t3, c4, k⟩ := ok_mn k
  subst c4
  obtain ⟨g5, k⟩ := ok_g k
  have f6 := kk_up h g5
  refine wp_st (ls' := [(0, .ref 0), (1, .int x1), (2, .int x2), (3, .ref t3)]) dX7_fold_5 rfl rfl rfl (Nat.le_of_ble_eq_true rfl) rfl ?_
  refine wp_ld (v := .int x2) dX7_fold_6 rfl rfl rfl rfl ?_
  refine wp_cst (v := .int (-1 : Int32)) dX7_fold_7 rfl rfl ?_
  refine wp_ic_ne dX7_fold_8 rfl (fun c7 => have k := ok_neg c7 k; ?_) (fun c7 => have k := ok_pos c7 k; ?_)
  · refine wp_ld (v := .ref t3) dX7_fold_18 rfl rfl rfl rfl ?_
    refine wp_ld (v := .int x2) dX7_fold_19 rfl rfl rfl rfl ?_
    refine c_i dX7_fold_20 rfl rfl rfl (am_inv_s rfl rfl rfl rfl) (s_X7_codeOf h f6) k (fun v9 s8 h k => ?_)
    exact wp_end dX7_fold_23 rfl (am_end_i rfl) (hP _ _ (ok_s k) h)
  · refine wp_ld (v := .ref t3) dX7_fold_11 rfl rfl rfl rfl ?_
    refine wq_gI dX7_fold_12 rfl rfl (kk_f h f6) (v := (am_I s1 t3 2)) rfl ?_
    refine wp_goto dX7_fold_15 rfl ?_
    exact wp_end dX7_fold_23 rfl (am_end_i rfl) (hP _ _ (ok_s k) h)
noncomputable def f_L_fold (x2 : Int32) (x3 : Int32) (s : am_S) : am_F :=
  am_xi (f_X7_fold x2 x3 s) (fun v2 s1 =>
    some (.inl (some (.int (0 : Int32))), (am_sL s1 71 0 v2.toInt64))
  ) (fun e s1 =>
    if e = 3 then
      some (.inl (some (.int (1 : Int32))), s1)
    else
      none
  )
theorem s_L_fold {N : Nat} {d : Nat} {x2 : Int32} {x3 : Int32} {s : am_S} (h : am_shE N s)  : am_S1 (am_shE N) (d + 3) mL_fold [.ref 0, .int x2, .int x3, .ref 71] s (f_L_fold x2 x3 s) := by
  intro P Q k hP
  show am_WP (d + 3) mL_fold 0 [(0, .ref 0), (1, .int x2), (2, .int x3), (3, .ref 71)] [] s Q
  unfold f_L_fold at k
  refine wp_ld (v := .ref 71) dL_fold_0 rfl rfl rfl rfl ?_
  refine wp_cst (v := .int (0 : Int32)) dL_fold_1 rfl rfl ?_
  refine wp_ld (v := .ref 0) dL_fold_2 rfl rfl rfl rfl ?_
  refine wp_ld (v := .int x2) dL_fold_3 rfl rfl rfl rfl ?_
  refine wp_ld (v := .int x3) dL_fold_4 rfl rfl rfl rfl ?_
  refine x_i dL_fold_5 rfl rfl rfl (am_inv_v rfl (kE_0 h) rfl rfl rfl) (sE h (fun _ h => s_X7_fold h)) k rfl (List.cons_ne_nil _ _) (fun v2 s1 h k => ?_) (fun e s1 h k => ?_)
  · refine wp_pu dL_fold_8 rfl rfl ?_
    refine wq_last dL_fold_9 (kE_71 h) (by decide) (j := 0) rfl ?_
    refine wp_goto dL_fold_10 rfl ?_
    refine wp_cst (v := .int (0 : Int32)) dL_fold_17 rfl rfl ?_
    exact wp_end dL_fold_18 rfl (am_end_i rfl) (hP _ _ (ok_s k) (shE_sL h))
  · by_cases c3 : e = 3
    · have k := ok_pos c3 k
      subst c3
      refine ⟨_, _, rfl, ?_⟩
      refine wp_cst (v := .int (1 : Int32)) dL_fold_15 rfl rfl ?_
      exact wp_end dL_fold_16 rfl (am_end_i rfl) (hP _ _ (ok_s k) h)
    replace k := ok_neg c3 k
    exact (ok_no k).elim
noncomputable def f_X7_needHoop (x1 : Int32) (x2 : Int32) (x3 : Int32) (s : am_S) : am_F :=
  am_tu (f_X7_needWithin x1 (1 : Int32) (99999 : Int32) s) (fun s1 =>
    am_tu (f_X7_needWithin x2 (0 : Int32) (9999 : Int32) s1) (fun s3 =>
      am_tu (f_X7_needWithin x3 x2 (9999 : Int32) s3) (fun s5 =>
        some (.inl none, s5)
      )
    )
  )
theorem s_X7_needHoop {N n : Nat} {d : Nat} {x1 : Int32} {x2 : Int32} {x3 : Int32} {s : am_S} (h : am_sh N n s)  : am_S1 (am_sh N n) (d + 1) mX7_needHoop [.int x1, .int x2, .int x3] s (f_X7_needHoop x1 x2 x3 s) := by
  intro P Q k hP
  show am_WP (d + 1) mX7_needHoop 0 [(0, .int x1), (1, .int x2), (2, .int x3)] [] s Q
  unfold f_X7_needHoop at k
  refine wp_ld (v := .int x1) dX7_needHoop_0 rfl rfl rfl rfl ?_
  refine wp_cst (v := .int (1 : Int32)) dX7_needHoop_1 rfl rfl ?_
  refine wp_cst (v := .int (99999 : Int32)) dX7_needHoop_2 rfl rfl ?_
  refine t_u dX7_needHoop_4 rfl rfl rfl (am_inv_s rfl rfl rfl rfl) (s_X7_needWithin h) k rfl rfl hP (fun s1 h k => ?_)
  refine wp_ld (v := .int x2) dX7_needHoop_7 rfl rfl rfl rfl ?_
  refine wp_cst (v := .int (0 : Int32)) dX7_needHoop_8 rfl rfl ?_
  refine wp_cst (v := .int (9999 : Int32)) dX7_needHoop_9 rfl rfl ?_
  refine t_u dX7_needHoop_12 rfl rfl rfl (am_inv_s rfl rfl rfl rfl) (s_X7_needWithin h) k rfl rfl hP (fun s3 h k => ?_)
  refine wp_ld (v := .int x3) dX7_needHoop_15 rfl rfl rfl rfl ?_
  refine wp_ld (v := .int x2) dX7_needHoop_16 rfl rfl rfl rfl ?_
  refine wp_cst (v := .int (9999 : Int32)) dX7_needHoop_17 rfl rfl ?_
  refine t_u dX7_needHoop_20 rfl rfl rfl (am_inv_s rfl rfl rfl rfl) (s_X7_needWithin h) k rfl rfl hP (fun s5 h k => ?_)
  exact wp_end dX7_needHoop_23 rfl rfl (hP _ _ (ok_s k) h)
noncomputable def L_X1_goesThrough_3 : Nat → Int32 → Int32 → Int32 → Int32 → am_S → am_FE (Unit)
  | 0, _, _, _, _, _ => none
  | m + 1, x1, x2, x3, x4, s =>
    if (200 : Int32) ≤ x4 then
      some (.inr ((), s))
    else
      am_bi (f_X1_goesOn s) (fun v3 s2 =>
        if v3 = 0 then
          some (.inr ((), s2))
        else
          am_bu (f_X1_tick s2) (fun s5 =>
            if x1 ≤ (am_I s5 41 10) then
              L_X1_goesThrough_3 m x1 x2 x3 (x4 + (1 : Int32)) s5
            else
              if (am_I s5 41 4) < x1 then
                L_X1_goesThrough_3 m x1 x2 x3 (x4 + (1 : Int32)) s5
              else
                if (am_I s5 41 5) < x2 then
                  L_X1_goesThrough_3 m x1 x2 x3 (x4 + (1 : Int32)) s5
                else
                  if x3 < (am_I s5 41 5) then
                    L_X1_goesThrough_3 m x1 x2 x3 (x4 + (1 : Int32)) s5
                  else
                    some (.inl (.inl (some (.int (1 : Int32))), s5))
          )
      )
theorem q_X1_goesThrough_3 : ∀ (m : Nat) {N n : Nat} {d : Nat} {x1 : Int32} {x2 : Int32} {x3 : Int32} {x4 : Int32} {s : am_S} {P : (am_O × am_S) ⊕ (Unit × am_S) → Prop} {Q : am_O → am_S → Prop} (h : am_sh N n s)  (k : am_ok (L_X1_goesThrough_3 m x1 x2 x3 x4 s) P) (hP : ∀ o s, P (.inl (o, s)) → am_sh N n s → Q o s) (hX : ∀ (e : Unit) s, P (.inr (e, s)) → am_sh N n s → am_WP (d + 3) mX1_goesThrough 62 [] [] s Q), am_WP (d + 3) mX1_goesThrough 3 [(0, .ref 41), (1, .int x1), (2, .int x2), (3, .int x3), (4, .int x4)] [] s Q := by
  intro m
  induction m with
  | zero =>
    intro N n d x1 x2 x3 x4 s P Q h  k hP hX
    exact (ok_no k).elim
  | succ m ih =>
    intro N n d x1 x2 x3 x4 s P Q h  k hP hX
    unfold L_X1_goesThrough_3 at k
    refine wp_ld (v := .int x4) dX1_goesThrough_3 rfl rfl rfl rfl ?_
    refine wp_cst (v := .int (200 : Int32)) dX1_goesThrough_5 rfl rfl ?_
    refine wp_ic_ge dX1_goesThrough_8 rfl (fun c1 => have k := ok_pos c1 k; ?_) (fun c1 => have k := ok_neg c1 k; ?_)
    · exact wp_sub (hX _ _ (ok_s k) h) rfl trivial
    · refine wp_ld (v := .ref 41) dX1_goesThrough_11 rfl rfl rfl rfl ?_
      refine c_i dX1_goesThrough_12 rfl rfl rfl (am_inv_v rfl (kk_41 h) rfl rfl rfl) (s_X1_goesOn h) k (fun v3 s2 h k => ?_)
      refine wp_if_eq dX1_goesThrough_15 rfl (fun c4 => have k := ok_pos c4 k; ?_) (fun c4 => have k := ok_neg c4 k; ?_)
      · exact wp_sub (hX _ _ (ok_s k) h) rfl trivial
      · refine wp_ld (v := .ref 41) dX1_goesThrough_18 rfl rfl rfl rfl ?_
        refine c_u dX1_goesThrough_19 rfl rfl rfl (am_inv_v rfl (kk_41 h) rfl rfl rfl) (s_X1_tick h) k (fun s5 h k => ?_)
        refine wp_ld (v := .ref 41) dX1_goesThrough_22 rfl rfl rfl rfl ?_
        refine wq_gI dX1_goesThrough_23 rfl rfl (kk_41 h) (v := (am_I s5 41 10)) rfl ?_
        refine wp_ld (v := .int x1) dX1_goesThrough_26 rfl rfl rfl rfl ?_
        refine wp_ic_ge dX1_goesThrough_27 rfl (fun c7 => have k := ok_pos c7 k; ?_) (fun c7 => have k := ok_neg c7 k; ?_)
        · refine wp_inc (v := (x4 + (1 : Int32))) (ls' := [(0, .ref 41), (1, .int x1), (2, .int x2), (3, .int x3), (4, .int (x4 + (1 : Int32)))]) dX1_goesThrough_56 rfl (Nat.le_of_ble_eq_true rfl) rfl rfl ?_
          refine wp_goto dX1_goesThrough_59 rfl ?_
          exact wp_sub (ih h k hP hX) rfl ⟨rfl, rfl, rfl, rfl, rfl, trivial⟩
        · refine wp_ld (v := .ref 41) dX1_goesThrough_30 rfl rfl rfl rfl ?_
          refine wq_gI dX1_goesThrough_31 rfl rfl (kk_41 h) (v := (am_I s5 41 4)) rfl ?_
          refine wp_ld (v := .int x1) dX1_goesThrough_34 rfl rfl rfl rfl ?_
          refine wp_ic_lt dX1_goesThrough_35 rfl (fun c8 => have k := ok_pos c8 k; ?_) (fun c8 => have k := ok_neg c8 k; ?_)
          · refine wp_inc (v := (x4 + (1 : Int32))) (ls' := [(0, .ref 41), (1, .int x1), (2, .int x2), (3, .int x3), (4, .int (x4 + (1 : Int32)))]) dX1_goesThrough_56 rfl (Nat.le_of_ble_eq_true rfl) rfl rfl ?_
            refine wp_goto dX1_goesThrough_59 rfl ?_
            exact wp_sub (ih h k hP hX) rfl ⟨rfl, rfl, rfl, rfl, rfl, trivial⟩
          · refine wp_ld (v := .ref 41) dX1_goesThrough_38 rfl rfl rfl rfl ?_
            refine wq_gI dX1_goesThrough_39 rfl rfl (kk_41 h) (v := (am_I s5 41 5)) rfl ?_
            refine wp_ld (v := .int x2) dX1_goesThrough_42 rfl rfl rfl rfl ?_
            refine wp_ic_lt dX1_goesThrough_43 rfl (fun c9 => have k := ok_pos c9 k; ?_) (fun c9 => have k := ok_neg c9 k; ?_)
            · refine wp_inc (v := (x4 + (1 : Int32))) (ls' := [(0, .ref 41), (1, .int x1), (2, .int x2), (3, .int x3), (4, .int (x4 + (1 : Int32)))]) dX1_goesThrough_56 rfl (Nat.le_of_ble_eq_true rfl) rfl rfl ?_
              refine wp_goto dX1_goesThrough_59 rfl ?_
              exact wp_sub (ih h k hP hX) rfl ⟨rfl, rfl, rfl, rfl, rfl, trivial⟩
            · refine wp_ld (v := .ref 41) dX1_goesThrough_46 rfl rfl rfl rfl ?_
              refine wq_gI dX1_goesThrough_47 rfl rfl (kk_41 h) (v := (am_I s5 41 5)) rfl ?_
              refine wp_ld (v := .int x3) dX1_goesThrough_50 rfl rfl rfl rfl ?_
              refine wp_ic_gt dX1_goesThrough_51 rfl (fun c10 => have k := ok_pos c10 k; ?_) (fun c10 => have k := ok_neg c10 k; ?_)
              · refine wp_inc (v := (x4 + (1 : Int32))) (ls' := [(0, .ref 41), (1, .int x1), (2, .int x2), (3, .int x3), (4, .int (x4 + (1 : Int32)))]) dX1_goesThrough_56 rfl (Nat.le_of_ble_eq_true rfl) rfl rfl ?_
                refine wp_goto dX1_goesThrough_59 rfl ?_
                exact wp_sub (ih h k hP hX) rfl ⟨rfl, rfl, rfl, rfl, rfl, trivial⟩
              · refine wp_cst (v := .int (1 : Int32)) dX1_goesThrough_54 rfl rfl ?_
                exact wp_end dX1_goesThrough_55 rfl rfl (hP _ _ (ok_s k) h)
noncomputable def f_X1_goesThrough (x1 : Int32) (x2 : Int32) (x3 : Int32) (s : am_S) : am_F :=
  am_lm (L_X1_goesThrough_3 ax_fuel x1 x2 x3 (0 : Int32) s) (fun e11 s12 =>
    some (.inl (some (.int (0 : Int32))), s12)
  )
theorem s_X1_goesThrough {N n : Nat} {d : Nat} {x1 : Int32} {x2 : Int32} {x3 : Int32} {s : am_S} (h : am_sh N n s)  : am_S1 (am_sh N n) (d + 3) mX1_goesThrough [.ref 41, .int x1, .int x2, .int x3] s (f_X1_goesThrough x1 x2 x3 s) := by
  intro P Q k hP
  show am_WP (d + 3) mX1_goesThrough 0 [(0, .ref 41), (1, .int x1), (2, .int x2), (3, .int x3)] [] s Q
  unfold f_X1_goesThrough at k
  refine wp_cst (v := .int (0 : Int32)) dX1_goesThrough_0 rfl rfl ?_
  refine wp_st (ls' := [(0, .ref 41), (1, .int x1), (2, .int x2), (3, .int x3), (4, .int (0 : Int32))]) dX1_goesThrough_1 rfl rfl rfl (Nat.le_of_ble_eq_true rfl) rfl ?_
  refine lp_m k (fun P1 k hA hB => ?_)
  refine wp_sub (q_X1_goesThrough_3 ax_fuel h k (fun o s p h => hP o s (hA o s p) h) (fun e11 s12 p h => have k := hB e11 s12 p; ?_)) rfl ⟨rfl, rfl, rfl, rfl, rfl, trivial⟩
  refine wp_cst (v := .int (0 : Int32)) dX1_goesThrough_62 rfl rfl ?_
  exact wp_end dX1_goesThrough_63 rfl rfl (hP _ _ (ok_s k) h)
noncomputable def f_X7_hoop (x1 : Int32) (x2 : Int32) (x3 : Int32) (x4 : Int32) (x5 : Int32) (x6 : Int32) (x7 : Int32) (s : am_S) : am_F :=
  am_tv (f_X7_needWay x1 s) (fun v2 s1 =>
    am_mv v2 none (fun t3 => if am_k0 t3 = (4, 0) ∧ t3 < 72 then
      am_tu (f_X7_needMake t3 s1) (fun s7 =>
        am_tu (f_X7_needThrow x2 x3 x4 s7) (fun s9 =>
          am_tu (f_X7_needHoop x5 x6 x7 s9) (fun s11 =>
            am_bu (f_X1_begin x2 x3 x4 s11) (fun s13 =>
              am_bi (f_X1_goesThrough x5 x6 x7 s13) (fun v16 s15 =>
                if v16 = 0 ∨ v16 = 1 then
                  some (.inl (some (.int v16)), s15)
                else none
              )
            )
          )
        )
      )
    else none)
  )
theorem s_X7_hoop {N n : Nat} {d : Nat} {x1 : Int32} {x2 : Int32} {x3 : Int32} {x4 : Int32} {x5 : Int32} {x6 : Int32} {x7 : Int32} {s : am_S} (h : am_sh N n s)  : am_S1 (am_sh N n) (d + 6) mX7_hoop [.ref 0, .int x1, .int x2, .int x3, .int x4, .int x5, .int x6, .int x7] s (f_X7_hoop x1 x2 x3 x4 x5 x6 x7 s) := by
  intro P Q k hP
  show am_WP (d + 6) mX7_hoop 0 [(0, .ref 0), (1, .int x1), (2, .int x2), (3, .int x3), (4, .int x4), (5, .int x5), (6, .int x6), (7, .int x7)] [] s Q
  unfold f_X7_hoop at k
  refine wp_ld (v := .ref 0) dX7_hoop_0 rfl rfl rfl rfl ?_
  refine wp_ld (v := .ref 0) dX7_hoop_1 rfl rfl rfl rfl ?_
  refine wp_ld (v := .int x1) dX7_hoop_2 rfl rfl rfl rfl ?_
  refine t_v dX7_hoop_3 rfl rfl rfl (am_inv_v rfl (kk_0 h) rfl rfl rfl) (s_X7_needWay h) k rfl rfl hP (fun v2 s1 h k => ?_)
  obtain ⟨t3, c4, k⟩ := ok_mn k
  subst c4
  obtain ⟨g5, k⟩ := ok_g k
  have f6 := kk_up h g5
  refine t_u dX7_hoop_6 rfl rfl rfl (am_inv_v rfl (kk_0 h) rfl rfl rfl) (s_X7_needMake h f6) k rfl rfl hP (fun s7 h k => ?_)
  refine wp_ld (v := .int x2) dX7_hoop_9 rfl rfl rfl rfl ?_
  refine wp_ld (v := .int x3) dX7_hoop_10 rfl rfl rfl rfl ?_
  refine wp_ld (v := .int x4) dX7_hoop_11 rfl rfl rfl rfl ?_
  refine t_u dX7_hoop_13 rfl rfl rfl (am_inv_s rfl rfl rfl rfl) (s_X7_needThrow h) k rfl rfl hP (fun s9 h k => ?_)
  refine wp_ld (v := .int x5) dX7_hoop_16 rfl rfl rfl rfl ?_
  refine wp_ld (v := .int x6) dX7_hoop_18 rfl rfl rfl rfl ?_
  refine wp_ld (v := .int x7) dX7_hoop_20 rfl rfl rfl rfl ?_
  refine t_u dX7_hoop_22 rfl rfl rfl (am_inv_s rfl rfl rfl rfl) (s_X7_needHoop h) k rfl rfl hP (fun s11 h k => ?_)
  refine wp_ld (v := .ref 0) dX7_hoop_25 rfl rfl rfl rfl ?_
  refine wp_gr dX7_hoop_26 rfl rfl (kk_0 h) (rr_0_6 h) ?_
  refine wp_ld (v := .int x2) dX7_hoop_29 rfl rfl rfl rfl ?_
  refine wp_ld (v := .int x3) dX7_hoop_30 rfl rfl rfl rfl ?_
  refine wp_ld (v := .int x4) dX7_hoop_31 rfl rfl rfl rfl ?_
  refine c_u dX7_hoop_33 rfl rfl rfl (am_inv_v rfl (kk_41 h) rfl rfl rfl) (s_X1_begin h) k (fun s13 h k => ?_)
  refine wp_ld (v := .ref 0) dX7_hoop_36 rfl rfl rfl rfl ?_
  refine wp_gr dX7_hoop_37 rfl rfl (kk_0 h) (rr_0_6 h) ?_
  refine wp_ld (v := .int x5) dX7_hoop_40 rfl rfl rfl rfl ?_
  refine wp_ld (v := .int x6) dX7_hoop_42 rfl rfl rfl rfl ?_
  refine wp_ld (v := .int x7) dX7_hoop_44 rfl rfl rfl rfl ?_
  refine c_i dX7_hoop_46 rfl rfl rfl (am_inv_v rfl (kk_41 h) rfl rfl rfl) (s_X1_goesThrough h) k (fun v16 s15 h k => ?_)
  obtain ⟨g17, k⟩ := ok_g k
  exact wp_end dX7_hoop_49 rfl (am_end_b rfl g17) (hP _ _ (ok_s k) h)
