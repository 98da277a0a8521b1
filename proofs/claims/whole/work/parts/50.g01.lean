noncomputable def f_X7_pathOf (x1 : Int32) (x2 : Int32) (s : am_S) : am_F :=
  am_bi (f_X7_steepness (am_abs x1) (am_abs x2) s) (fun v2 s1 =>
    am_jn (fun (e4 : Unit) s5 =>
      am_jn (fun (e7 : Unit) s8 =>
        am_jn (fun (e10 : Unit) s11 =>
          am_jn (fun (e13 : Int32) s14 =>
            if 0 ≤ x1 then
              some (.inl (some (.int ((64 : Int32) - e13))), s14)
            else
              some (.inl (some (.int ((32 : Int32) - e13))), s14)
          ) (fun J12 =>
            if (16 : Int32) ≤ v2 then
              J12 v2 s11
            else
              if am_in v2 16 = true then
                if am_in ((15 : Int32) - v2) 16 = true then
                  if ((am_abs x2) * (am_I s11 3000006 v2.toNatClampNeg)) = ((am_abs x1) * (am_I s11 3000006 (((15 : Int32) - v2).toNatClampNeg))) then
                    J12 (v2 + (1 : Int32)) s11
                  else
                    J12 v2 s11
                else none
              else none
          )
        ) (fun J9 =>
          if x1 < 0 then
            J9 () s8
          else
            if v2 = 0 then
              some (.inl (some (.int (0 : Int32))), s8)
            else
              J9 () s8
        )
      ) (fun J6 =>
        if 0 ≤ x1 then
          J6 () s5
        else
          if 0 ≤ x2 then
            J6 () s5
          else
            some (.inl (some (.int ((32 : Int32) + v2))), s5)
      )
    ) (fun J3 =>
      if x1 < 0 then
        J3 () s1
      else
        if x2 < 0 then
          J3 () s1
        else
          some (.inl (some (.int v2)), s1)
    )
  )
theorem s_X7_pathOf {N n : Nat} {d : Nat} {x1 : Int32} {x2 : Int32} {s : am_S} (h : am_sh N n s)  : am_S1 (am_sh N n) (d + 1) mX7_pathOf [.int x1, .int x2] s (f_X7_pathOf x1 x2 s) := by
  intro P Q k hP
  show am_WP (d + 1) mX7_pathOf 0 [(0, .int x1), (1, .int x2)] [] s Q
  unfold f_X7_pathOf at k
  refine wp_ld (v := .int x1) dX7_pathOf_0 rfl rfl rfl rfl ?_
  refine wp_mem (st' := .int (am_abs x1) :: []) dX7_pathOf_1 rfl rfl rfl rfl ?_
  refine wp_st (ls' := [(0, .int x1), (1, .int x2), (2, .int (am_abs x1))]) dX7_pathOf_4 rfl rfl rfl (Nat.le_of_ble_eq_true rfl) rfl ?_
  refine wp_ld (v := .int x2) dX7_pathOf_5 rfl rfl rfl rfl ?_
  refine wp_mem (st' := .int (am_abs x2) :: []) dX7_pathOf_6 rfl rfl rfl rfl ?_
  refine wp_st (ls' := [(0, .int x1), (1, .int x2), (2, .int (am_abs x1)), (3, .int (am_abs x2))]) dX7_pathOf_9 rfl rfl rfl (Nat.le_of_ble_eq_true rfl) rfl ?_
  refine wp_ld (v := .int (am_abs x1)) dX7_pathOf_10 rfl rfl rfl rfl ?_
  refine wp_ld (v := .int (am_abs x2)) dX7_pathOf_11 rfl rfl rfl rfl ?_
  refine c_i dX7_pathOf_12 rfl rfl rfl (am_inv_s rfl rfl rfl rfl) (s_X7_steepness h) k (fun v2 s1 h k => ?_)
  refine wp_st (ls' := [(0, .int x1), (1, .int x2), (2, .int (am_abs x1)), (3, .int (am_abs x2)), (4, .int v2)]) dX7_pathOf_15 rfl rfl rfl (Nat.le_of_ble_eq_true rfl) rfl ?_
  refine wp_ld (v := .int x1) dX7_pathOf_17 rfl rfl rfl rfl ?_
  refine jn_rule k (fun J3 hJ3 k => ?_)
  have HJ3 : ∀ (e4 : Unit) (s5 : am_S), am_sh N n s5 → am_ok (J3 e4 s5) P → am_WP (d + 1) mX7_pathOf 28 [(0, .int x1), (1, .int x2), (2, .int (am_abs x1)), (3, .int (am_abs x2)), (4, .int v2)] [] s5 Q := by
    intro e4 s5 h k
    replace k := hJ3 _ _ k
    refine wp_ld (v := .int x1) dX7_pathOf_28 rfl rfl rfl rfl ?_
    refine jn_rule k (fun J6 hJ6 k => ?_)
    have HJ6 : ∀ (e7 : Unit) (s8 : am_S), am_sh N n s8 → am_ok (J6 e7 s8) P → am_WP (d + 1) mX7_pathOf 42 [(0, .int x1), (2, .int (am_abs x1)), (3, .int (am_abs x2)), (4, .int v2)] [] s8 Q := by
      intro e7 s8 h k
      replace k := hJ6 _ _ k
      refine wp_ld (v := .int x1) dX7_pathOf_42 rfl rfl rfl rfl ?_
      refine jn_rule k (fun J9 hJ9 k => ?_)
      have HJ9 : ∀ (e10 : Unit) (s11 : am_S), am_sh N n s11 → am_ok (J9 e10 s11) P → am_WP (d + 1) mX7_pathOf 53 [(0, .int x1), (2, .int (am_abs x1)), (3, .int (am_abs x2)), (4, .int v2)] [] s11 Q := by
        intro e10 s11 h k
        replace k := hJ9 _ _ k
        refine wp_ld (v := .int v2) dX7_pathOf_53 rfl rfl rfl rfl ?_
        refine wp_cst (v := .int (16 : Int32)) dX7_pathOf_55 rfl rfl ?_
        refine jn_rule k (fun J12 hJ12 k => ?_)
        have HJ12 : ∀ (e13 : Int32) (s14 : am_S), am_sh N n s14 → am_ok (J12 e13 s14) P → am_WP (d + 1) mX7_pathOf 85 [(0, .int x1), (4, .int e13)] [] s14 Q := by
          intro e13 s14 h k
          replace k := hJ12 _ _ k
          refine wp_ld (v := .int x1) dX7_pathOf_85 rfl rfl rfl rfl ?_
          refine wp_if_ge dX7_pathOf_86 rfl (fun c15 => have k := ok_pos c15 k; ?_) (fun c15 => have k := ok_neg c15 k; ?_)
          · refine wp_cst (v := .int (64 : Int32)) dX7_pathOf_97 rfl rfl ?_
            refine wp_ld (v := .int e13) dX7_pathOf_99 rfl rfl rfl rfl ?_
            refine wp_pu dX7_pathOf_101 rfl rfl ?_
            exact wp_end dX7_pathOf_102 rfl (am_end_i rfl) (hP _ _ (ok_s k) h)
          · refine wp_cst (v := .int (32 : Int32)) dX7_pathOf_89 rfl rfl ?_
            refine wp_ld (v := .int e13) dX7_pathOf_91 rfl rfl rfl rfl ?_
            refine wp_pu dX7_pathOf_93 rfl rfl ?_
            refine wp_goto dX7_pathOf_94 rfl ?_
            exact wp_end dX7_pathOf_102 rfl (am_end_i rfl) (hP _ _ (ok_s k) h)
        refine wp_ic_ge dX7_pathOf_57 rfl (fun c16 => have k := ok_pos c16 k; ?_) (fun c16 => have k := ok_neg c16 k; ?_)
        · exact wp_sub (HJ12 _ _ h k) rfl ⟨rfl, rfl, trivial⟩
        · refine wp_ld (v := .int (am_abs x2)) dX7_pathOf_60 rfl rfl rfl rfl ?_
          refine wp_cst (v := .ref 3000006) dX7_pathOf_61 rfl rfl ?_
          refine wp_ld (v := .int v2) dX7_pathOf_64 rfl rfl rfl rfl ?_
          obtain ⟨g17, k⟩ := ok_g k
          refine wq_sald dX7_pathOf_66 (kk_3000006 h) g17 (v := (am_I s11 3000006 v2.toNatClampNeg)) rfl ?_
          refine wp_pu dX7_pathOf_67 rfl rfl ?_
          refine wp_ld (v := .int (am_abs x1)) dX7_pathOf_68 rfl rfl rfl rfl ?_
          refine wp_cst (v := .ref 3000006) dX7_pathOf_69 rfl rfl ?_
          refine wp_cst (v := .int (15 : Int32)) dX7_pathOf_72 rfl rfl ?_
          refine wp_ld (v := .int v2) dX7_pathOf_74 rfl rfl rfl rfl ?_
          refine wp_pu dX7_pathOf_76 rfl rfl ?_
          obtain ⟨g18, k⟩ := ok_g k
          refine wq_sald dX7_pathOf_77 (kk_3000006 h) g18 (v := (am_I s11 3000006 (((15 : Int32) - v2).toNatClampNeg))) rfl ?_
          show am_WP (d + 1) mX7_pathOf 78 _ _ _ Q
          refine wp_pu dX7_pathOf_78 rfl rfl ?_
          refine wp_ic_ne dX7_pathOf_79 rfl (fun c19 => have k := ok_neg c19 k; ?_) (fun c19 => have k := ok_pos c19 k; ?_)
          · exact wp_sub (HJ12 _ _ h k) rfl ⟨rfl, rfl, trivial⟩
          · refine wp_inc (v := (v2 + (1 : Int32))) (ls' := [(0, .int x1), (2, .int (am_abs x1)), (3, .int (am_abs x2)), (4, .int (v2 + (1 : Int32)))]) dX7_pathOf_82 rfl (Nat.le_of_ble_eq_true rfl) rfl rfl ?_
            exact wp_sub (HJ12 _ _ h k) rfl ⟨rfl, rfl, trivial⟩
      refine wp_if_lt dX7_pathOf_43 rfl (fun c20 => have k := ok_pos c20 k; ?_) (fun c20 => have k := ok_neg c20 k; ?_)
      · exact wp_sub (HJ9 _ _ h k) rfl ⟨rfl, rfl, rfl, rfl, trivial⟩
      · refine wp_ld (v := .int v2) dX7_pathOf_46 rfl rfl rfl rfl ?_
        refine wp_if_ne dX7_pathOf_48 rfl (fun c21 => have k := ok_neg c21 k; ?_) (fun c21 => have k := ok_pos c21 k; ?_)
        · exact wp_sub (HJ9 _ _ h k) rfl ⟨rfl, rfl, rfl, rfl, trivial⟩
        · refine wp_cst (v := .int (0 : Int32)) dX7_pathOf_51 rfl rfl ?_
          exact wp_end dX7_pathOf_52 rfl (am_end_i rfl) (hP _ _ (ok_s k) h)
    refine wp_if_ge dX7_pathOf_29 rfl (fun c22 => have k := ok_pos c22 k; ?_) (fun c22 => have k := ok_neg c22 k; ?_)
    · exact wp_sub (HJ6 _ _ h k) rfl ⟨rfl, rfl, rfl, rfl, trivial⟩
    · refine wp_ld (v := .int x2) dX7_pathOf_32 rfl rfl rfl rfl ?_
      refine wp_if_ge dX7_pathOf_33 rfl (fun c23 => have k := ok_pos c23 k; ?_) (fun c23 => have k := ok_neg c23 k; ?_)
      · exact wp_sub (HJ6 _ _ h k) rfl ⟨rfl, rfl, rfl, rfl, trivial⟩
      · refine wp_cst (v := .int (32 : Int32)) dX7_pathOf_36 rfl rfl ?_
        refine wp_ld (v := .int v2) dX7_pathOf_38 rfl rfl rfl rfl ?_
        refine wp_pu dX7_pathOf_40 rfl rfl ?_
        exact wp_end dX7_pathOf_41 rfl (am_end_i rfl) (hP _ _ (ok_s k) h)
  refine wp_if_lt dX7_pathOf_18 rfl (fun c24 => have k := ok_pos c24 k; ?_) (fun c24 => have k := ok_neg c24 k; ?_)
  · exact wp_sub (HJ3 _ _ h k) rfl ⟨rfl, rfl, rfl, rfl, rfl, trivial⟩
  · refine wp_ld (v := .int x2) dX7_pathOf_21 rfl rfl rfl rfl ?_
    refine wp_if_lt dX7_pathOf_22 rfl (fun c25 => have k := ok_pos c25 k; ?_) (fun c25 => have k := ok_neg c25 k; ?_)
    · exact wp_sub (HJ3 _ _ h k) rfl ⟨rfl, rfl, rfl, rfl, rfl, trivial⟩
    · refine wp_ld (v := .int v2) dX7_pathOf_25 rfl rfl rfl rfl ?_
      exact wp_end dX7_pathOf_27 rfl (am_end_i rfl) (hP _ _ (ok_s k) h)
noncomputable def f_X7_keptWithin (x1 : Int64) (x2 : Int32) (s : am_S) : am_F :=
  some (.inl (some (.int (am_lmax (-x2).toInt64 (am_lmin x2.toInt64 x1)).toInt32)), s)
theorem s_X7_keptWithin {N n : Nat} {d : Nat} {x1 : Int64} {x2 : Int32} {s : am_S} (h : am_sh N n s)  : am_S1 (am_sh N n) (d) mX7_keptWithin [.long x1, .int x2] s (f_X7_keptWithin x1 x2 s) := by
  intro P Q k hP
  show am_WP (d) mX7_keptWithin 0 [(0, .long x1), (2, .int x2)] [] s Q
  unfold f_X7_keptWithin at k
  refine wp_ld (v := .int x2) dX7_keptWithin_0 rfl rfl rfl rfl ?_
  refine wp_pu dX7_keptWithin_1 rfl rfl ?_
  refine wp_pu dX7_keptWithin_2 rfl rfl ?_
  refine wp_ld (v := .int x2) dX7_keptWithin_3 rfl rfl rfl rfl ?_
  refine wp_pu dX7_keptWithin_4 rfl rfl ?_
  refine wp_ld (v := .long x1) dX7_keptWithin_5 rfl rfl rfl rfl ?_
  refine wp_mem (st' := .long (am_lmin x2.toInt64 x1) :: [.long (-x2).toInt64]) dX7_keptWithin_6 rfl rfl rfl rfl ?_
  refine wp_mem (st' := .long (am_lmax (-x2).toInt64 (am_lmin x2.toInt64 x1)) :: []) dX7_keptWithin_9 rfl rfl rfl rfl ?_
  refine wp_pu dX7_keptWithin_12 rfl rfl ?_
  exact wp_end dX7_keptWithin_13 rfl (am_end_i rfl) (hP _ _ (ok_s k) h)
noncomputable def f_X7_attackOf (x1 : Int32) (x2 : Int32) (s : am_S) : am_F :=
  am_jn (fun (e2 : Int32) s3 =>
    am_bi (f_X7_keptWithin e2.toInt64 (8 : Int32) s3) (fun v5 s4 =>
      some (.inl (some (.int v5)), s4)
    )
  ) (fun J1 =>
    if (-32 : Int32) ≤ ((x1 / (16 : Int32)) - x2) then
      if ((x1 / (16 : Int32)) - x2) < (32 : Int32) then
        J1 ((x1 / (16 : Int32)) - x2) s
      else
        J1 (((x1 / (16 : Int32)) - x2) + (-64 : Int32)) s
    else
      J1 (((x1 / (16 : Int32)) - x2) + (64 : Int32)) s
  )
theorem s_X7_attackOf {N n : Nat} {d : Nat} {x1 : Int32} {x2 : Int32} {s : am_S} (h : am_sh N n s)  : am_S1 (am_sh N n) (d + 1) mX7_attackOf [.int x1, .int x2] s (f_X7_attackOf x1 x2 s) := by
  intro P Q k hP
  show am_WP (d + 1) mX7_attackOf 0 [(0, .int x1), (1, .int x2)] [] s Q
  unfold f_X7_attackOf at k
  refine wp_ld (v := .int x1) dX7_attackOf_0 rfl rfl rfl rfl ?_
  refine wp_cst (v := .int (16 : Int32)) dX7_attackOf_1 rfl rfl ?_
  refine wp_div dX7_attackOf_3 (by decide) ?_
  refine wp_ld (v := .int x2) dX7_attackOf_4 rfl rfl rfl rfl ?_
  refine wp_pu dX7_attackOf_5 rfl rfl ?_
  refine wp_st (ls' := [(0, .int x1), (1, .int x2), (2, .int ((x1 / (16 : Int32)) - x2))]) dX7_attackOf_6 rfl rfl rfl (Nat.le_of_ble_eq_true rfl) rfl ?_
  refine wp_ld (v := .int ((x1 / (16 : Int32)) - x2)) dX7_attackOf_7 rfl rfl rfl rfl ?_
  refine wp_cst (v := .int (-32 : Int32)) dX7_attackOf_8 rfl rfl ?_
  refine jn_rule k (fun J1 hJ1 k => ?_)
  have HJ1 : ∀ (e2 : Int32) (s3 : am_S), am_sh N n s3 → am_ok (J1 e2 s3) P → am_WP (d + 1) mX7_attackOf 28 [(2, .int e2)] [] s3 Q := by
    intro e2 s3 h k
    replace k := hJ1 _ _ k
    refine wp_ld (v := .int e2) dX7_attackOf_28 rfl rfl rfl rfl ?_
    refine wp_pu dX7_attackOf_29 rfl rfl ?_
    refine wp_cst (v := .int (8 : Int32)) dX7_attackOf_30 rfl rfl ?_
    refine c_i dX7_attackOf_32 rfl rfl rfl (am_inv_s rfl rfl rfl rfl) (s_X7_keptWithin h) k (fun v5 s4 h k => ?_)
    exact wp_end dX7_attackOf_35 rfl (am_end_i rfl) (hP _ _ (ok_s k) h)
  refine wp_ic_ge dX7_attackOf_10 rfl (fun c6 => have k := ok_pos c6 k; ?_) (fun c6 => have k := ok_neg c6 k; ?_)
  · refine wp_ld (v := .int ((x1 / (16 : Int32)) - x2)) dX7_attackOf_19 rfl rfl rfl rfl ?_
    refine wp_cst (v := .int (32 : Int32)) dX7_attackOf_20 rfl rfl ?_
    refine wp_ic_lt dX7_attackOf_22 rfl (fun c7 => have k := ok_pos c7 k; ?_) (fun c7 => have k := ok_neg c7 k; ?_)
    · exact wp_sub (HJ1 _ _ h k) rfl ⟨rfl, trivial⟩
    · refine wp_inc (v := (((x1 / (16 : Int32)) - x2) + (-64 : Int32))) (ls' := [(0, .int x1), (1, .int x2), (2, .int (((x1 / (16 : Int32)) - x2) + (-64 : Int32)))]) dX7_attackOf_25 rfl (Nat.le_of_ble_eq_true rfl) rfl rfl ?_
      exact wp_sub (HJ1 _ _ h k) rfl ⟨rfl, trivial⟩
  · refine wp_inc (v := (((x1 / (16 : Int32)) - x2) + (64 : Int32))) (ls' := [(0, .int x1), (1, .int x2), (2, .int (((x1 / (16 : Int32)) - x2) + (64 : Int32)))]) dX7_attackOf_13 rfl (Nat.le_of_ble_eq_true rfl) rfl rfl ?_
    refine wp_goto dX7_attackOf_16 rfl ?_
    exact wp_sub (HJ1 _ _ h k) rfl ⟨rfl, trivial⟩
noncomputable def f_X1_force (x1 : Int32) (x2 : Int64) (s : am_S) : am_F :=
  if (am_L s 41 3) ≤ (0 : Int64) then
    some (.inl (some (.long (0 : Int64))), s)
  else
    if ¬ (am_L s 41 3) = 0 then
      some (.inl (some (.long (((x1.toInt64 * x2) * (am_I s 37 4).toInt64) / (am_L s 41 3)))), s)
    else none
theorem s_X1_force {N n : Nat} {d : Nat} {x1 : Int32} {x2 : Int64} {s : am_S} (h : am_sh N n s)  : am_S1 (am_sh N n) (d) mX1_force [.ref 41, .int x1, .long x2] s (f_X1_force x1 x2 s) := by
  intro P Q k hP
  show am_WP (d) mX1_force 0 [(0, .ref 41), (1, .int x1), (2, .long x2)] [] s Q
  unfold f_X1_force at k
  refine wp_ld (v := .ref 41) dX1_force_0 rfl rfl rfl rfl ?_
  refine wq_gL dX1_force_1 rfl rfl (kk_41 h) (l := (am_L s 41 3)) rfl ?_
  refine wp_cst (v := .long (0 : Int64)) dX1_force_4 rfl rfl ?_
  refine wl_le dX1_force_5 dX1_force_6 rfl (fun c1 => have k := ok_pos c1 k; ?_) (fun c1 => have k := ok_neg c1 k; ?_)
  · refine wp_cst (v := .long (0 : Int64)) dX1_force_30 rfl rfl ?_
    exact wp_end dX1_force_31 rfl (am_end_l rfl) (hP _ _ (ok_s k) h)
  · refine wp_ld (v := .int x1) dX1_force_9 rfl rfl rfl rfl ?_
    refine wp_pu dX1_force_10 rfl rfl ?_
    refine wp_ld (v := .long x2) dX1_force_11 rfl rfl rfl rfl ?_
    refine wp_pu dX1_force_12 rfl rfl ?_
    refine wp_ld (v := .ref 41) dX1_force_13 rfl rfl rfl rfl ?_
    refine wp_gr dX1_force_14 rfl rfl (kk_41 h) (rr_41_1 h) ?_
    refine wq_gI dX1_force_17 rfl rfl (kk_37 h) (v := (am_I s 37 4)) rfl ?_
    refine wp_pu dX1_force_20 rfl rfl ?_
    refine wp_pu dX1_force_21 rfl rfl ?_
    refine wp_ld (v := .ref 41) dX1_force_22 rfl rfl rfl rfl ?_
    refine wq_gL dX1_force_23 rfl rfl (kk_41 h) (l := (am_L s 41 3)) rfl ?_
    show am_WP (d) mX1_force 26 _ _ _ Q
    obtain ⟨g2, k⟩ := ok_g k
    refine wp_ldiv dX1_force_26 g2 ?_
    refine wp_goto dX1_force_27 rfl ?_
    exact wp_end dX1_force_31 rfl (am_end_l rfl) (hP _ _ (ok_s k) h)
noncomputable def f_X1_turnNose (x1 : Int64) (s : am_S) : am_F :=
  ax_le (((am_I s 41 9).toInt64 + x1) - ((((am_I s 41 9).toInt64 + x1) * (am_I s 2 21).toInt64) / (10 : Int64))) (fun y1 =>
    am_bi (f_X7_keptWithin y1 (200 : Int32) s) (fun v3 s2 =>
      am_jn (fun (e5 : Unit) s6 =>
        some (.inl none, (am_sI s6 41 14 (am_I s6 41 11)))
      ) (fun J4 =>
        if v3 < (-2 : Int32) then
          J4 () (am_sI (am_sI (am_sI s2 41 9 v3) 41 8 (((am_I s2 41 8) + v3) &&& (1023 : Int32))) 41 13 ((am_I s2 41 13) + v3))
        else
          if v3 ≤ (2 : Int32) then
            some (.inl none, (am_sI (am_sI (am_sI s2 41 9 v3) 41 8 (((am_I s2 41 8) + v3) &&& (1023 : Int32))) 41 13 ((am_I s2 41 13) + v3)))
          else
            J4 () (am_sI (am_sI (am_sI s2 41 9 v3) 41 8 (((am_I s2 41 8) + v3) &&& (1023 : Int32))) 41 13 ((am_I s2 41 13) + v3))
      )
    )
  )
theorem s_X1_turnNose {N n : Nat} {d : Nat} {x1 : Int64} {s : am_S} (h : am_sh N n s)  : am_S1 (am_sh N n) (d + 1) mX1_turnNose [.ref 41, .long x1] s (f_X1_turnNose x1 s) := by
  intro P Q k hP
  show am_WP (d + 1) mX1_turnNose 0 [(0, .ref 41), (1, .long x1)] [] s Q
  unfold f_X1_turnNose at k
  refine wp_ld (v := .ref 41) dX1_turnNose_0 rfl rfl rfl rfl ?_
  refine wq_gI dX1_turnNose_1 rfl rfl (kk_41 h) (v := (am_I s 41 9)) rfl ?_
  refine wp_pu dX1_turnNose_4 rfl rfl ?_
  refine wp_ld (v := .long x1) dX1_turnNose_5 rfl rfl rfl rfl ?_
  refine wp_pu dX1_turnNose_6 rfl rfl ?_
  refine wp_st (ls' := [(0, .ref 41), (1, .long x1), (3, .long ((am_I s 41 9).toInt64 + x1))]) dX1_turnNose_7 rfl rfl rfl (Nat.le_of_ble_eq_true rfl) rfl ?_
  refine wp_ld (v := .long ((am_I s 41 9).toInt64 + x1)) dX1_turnNose_8 rfl rfl rfl rfl ?_
  refine wp_ld (v := .long ((am_I s 41 9).toInt64 + x1)) dX1_turnNose_9 rfl rfl rfl rfl ?_
  refine wp_ld (v := .ref 41) dX1_turnNose_10 rfl rfl rfl rfl ?_
  refine wp_gr dX1_turnNose_11 rfl rfl (kk_41 h) (rr_41_0 h) ?_
  refine wp_gr dX1_turnNose_14 rfl rfl (kk_1 h) (rr_1_3 h) ?_
  show am_WP (d + 1) mX1_turnNose 17 _ _ _ Q
  refine wp_cst (v := .int (21 : Int32)) dX1_turnNose_17 rfl rfl ?_
  refine wq_iald dX1_turnNose_19 (kk_2 h) (by decide) (v := (am_I s 2 21)) rfl ?_
  refine wp_pu dX1_turnNose_20 rfl rfl ?_
  refine wp_pu dX1_turnNose_21 rfl rfl ?_
  refine wp_cst (v := .long (10 : Int64)) dX1_turnNose_22 rfl rfl ?_
  refine wp_ldiv dX1_turnNose_25 (by decide) ?_
  refine wp_pu dX1_turnNose_26 rfl rfl ?_
  refine ls_l k (fun y1 _ k => ?_)
  refine wp_st (ls' := [(0, .ref 41), (1, .long x1), (3, .long y1)]) dX1_turnNose_27 rfl rfl rfl (Nat.le_of_ble_eq_true rfl) rfl ?_
  refine wp_ld (v := .ref 41) dX1_turnNose_28 rfl rfl rfl rfl ?_
  refine wp_ld (v := .long y1) dX1_turnNose_29 rfl rfl rfl rfl ?_
  refine wp_cst (v := .int (200 : Int32)) dX1_turnNose_30 rfl rfl ?_
  refine c_i dX1_turnNose_33 rfl rfl rfl (am_inv_s rfl rfl rfl rfl) (s_X7_keptWithin h) k (fun v3 s2 h k => ?_)
  refine wp_pI dX1_turnNose_36 rfl rfl rfl (fun h => absurd h (by decide)) (kk_41 h) ?_
  refine wp_ld (v := .ref 41) dX1_turnNose_39 rfl rfl rfl rfl ?_
  refine wp_ld (v := .ref 41) dX1_turnNose_40 rfl rfl rfl rfl ?_
  refine wq_gI dX1_turnNose_41 rfl rfl (kk_41 (sh_sI h)) (v := (am_I s2 41 8)) rfl ?_
  refine wp_ld (v := .ref 41) dX1_turnNose_44 rfl rfl rfl rfl ?_
  refine wq_gI dX1_turnNose_45 rfl rfl (kk_41 (sh_sI h)) (v := v3) rfl ?_
  refine wp_pu dX1_turnNose_48 rfl rfl ?_
  refine wp_cst (v := .int (1023 : Int32)) dX1_turnNose_49 rfl rfl ?_
  refine wp_pu dX1_turnNose_52 rfl rfl ?_
  refine wp_pI dX1_turnNose_53 rfl rfl rfl (fun h => absurd h (by decide)) (kk_41 (sh_sI h)) ?_
  refine wp_ld (v := .ref 41) dX1_turnNose_56 rfl rfl rfl rfl ?_
  show am_WP (d + 1) mX1_turnNose 57 _ _ _ Q
  refine wp_pu dX1_turnNose_57 rfl rfl ?_
  refine wq_gI dX1_turnNose_58 rfl rfl (kk_41 (sh_sI (sh_sI h))) (v := (am_I s2 41 13)) rfl ?_
  refine wp_ld (v := .ref 41) dX1_turnNose_61 rfl rfl rfl rfl ?_
  refine wq_gI dX1_turnNose_62 rfl rfl (kk_41 (sh_sI (sh_sI h))) (v := v3) rfl ?_
  refine wp_pu dX1_turnNose_65 rfl rfl ?_
  refine wp_pI dX1_turnNose_66 rfl rfl rfl (fun h => absurd h (by decide)) (kk_41 (sh_sI (sh_sI h))) ?_
  refine wp_ld (v := .ref 41) dX1_turnNose_69 rfl rfl rfl rfl ?_
  refine wq_gI dX1_turnNose_70 rfl rfl (kk_41 (sh_sI (sh_sI (sh_sI h)))) (v := v3) rfl ?_
  refine wp_cst (v := .int (-2 : Int32)) dX1_turnNose_73 rfl rfl ?_
  refine jn_rule k (fun J4 hJ4 k => ?_)
  have HJ4 : ∀ (e5 : Unit) (s6 : am_S), am_sh N n s6 → am_ok (J4 e5 s6) P → am_WP (d + 1) mX1_turnNose 86 [(0, .ref 41)] [] s6 Q := by
    intro e5 s6 h k
    replace k := hJ4 _ _ k
    refine wp_ld (v := .ref 41) dX1_turnNose_86 rfl rfl rfl rfl ?_
    refine wp_ld (v := .ref 41) dX1_turnNose_87 rfl rfl rfl rfl ?_
    refine wq_gI dX1_turnNose_88 rfl rfl (kk_41 h) (v := (am_I s6 41 11)) rfl ?_
    refine wp_pI dX1_turnNose_91 rfl rfl rfl (fun h => absurd h (by decide)) (kk_41 h) ?_
    exact wp_end dX1_turnNose_94 rfl rfl (hP _ _ (ok_s k) (sh_sI h))
  refine wp_ic_lt dX1_turnNose_75 rfl (fun c7 => have k := ok_pos c7 k; ?_) (fun c7 => have k := ok_neg c7 k; ?_)
  · exact wp_sub (HJ4 _ _ (sh_sI (sh_sI (sh_sI h))) k) rfl ⟨rfl, trivial⟩
  · refine wp_ld (v := .ref 41) dX1_turnNose_78 rfl rfl rfl rfl ?_
    refine wq_gI dX1_turnNose_79 rfl rfl (kk_41 (sh_sI (sh_sI (sh_sI h)))) (v := v3) rfl ?_
    refine wp_cst (v := .int (2 : Int32)) dX1_turnNose_82 rfl rfl ?_
    refine wp_ic_le dX1_turnNose_83 rfl (fun c8 => have k := ok_pos c8 k; ?_) (fun c8 => have k := ok_neg c8 k; ?_)
    · exact wp_end dX1_turnNose_94 rfl rfl (hP _ _ (ok_s k) (sh_sI (sh_sI (sh_sI h))))
    · exact wp_sub (HJ4 _ _ (sh_sI (sh_sI (sh_sI h))) k) rfl ⟨rfl, trivial⟩
noncomputable def L_X1_pullNow_13 : Nat → Int32 → Int32 → am_S → am_FE (Int32)
  | 0, _, _, _ => none
  | m + 1, x1, x2, s =>
    if (am_I s 5 2) ≤ x2 then
      some (.inr (x1, s))
    else
      am_bi (f_X4_get 5 x2 (0 : Int32) s) (fun v3 s2 =>
        if (am_I s2 41 11) < v3 then
          L_X1_pullNow_13 m x1 (x2 + (1 : Int32)) s2
        else
          am_bi (f_X4_get 5 x2 (1 : Int32) s2) (fun v6 s5 =>
            if v6 < (am_I s2 41 11) then
              L_X1_pullNow_13 m x1 (x2 + (1 : Int32)) s5
            else
              am_bi (f_X4_get 5 x2 (2 : Int32) s5) (fun v9 s8 =>
                L_X1_pullNow_13 m (x1 - v9) (x2 + (1 : Int32)) s8
              )
          )
      )
theorem q_X1_pullNow_13 : ∀ (m : Nat) {N n : Nat} {d : Nat} {x1 : Int32} {x2 : Int32} {s : am_S} {P : (am_O × am_S) ⊕ (Int32 × am_S) → Prop} {Q : am_O → am_S → Prop} (h : am_sh N n s)  (k : am_ok (L_X1_pullNow_13 m x1 x2 s) P) (hP : ∀ o s, P (.inl (o, s)) → am_sh N n s → Q o s) (hX : ∀ (e : Int32) s, P (.inr (e, s)) → am_sh N n s → am_WP (d + 1) mX1_pullNow 86 [(1, .int e)] [] s Q), am_WP (d + 1) mX1_pullNow 13 [(0, .ref 41), (1, .int x1), (2, .int x2)] [] s Q := by
  intro m
  induction m with
  | zero =>
    intro N n d x1 x2 s P Q h  k hP hX
    exact (ok_no k).elim
  | succ m ih =>
    intro N n d x1 x2 s P Q h  k hP hX
    unfold L_X1_pullNow_13 at k
    refine wp_ld (v := .int x2) dX1_pullNow_13 rfl rfl rfl rfl ?_
    refine wp_ld (v := .ref 41) dX1_pullNow_14 rfl rfl rfl rfl ?_
    refine wp_gr dX1_pullNow_15 rfl rfl (kk_41 h) (rr_41_0 h) ?_
    refine wp_gr dX1_pullNow_18 rfl rfl (kk_1 h) (rr_1_8 h) ?_
    refine wq_gI dX1_pullNow_21 rfl rfl (kk_5 h) (v := (am_I s 5 2)) rfl ?_
    refine wp_ic_ge dX1_pullNow_24 rfl (fun c1 => have k := ok_pos c1 k; ?_) (fun c1 => have k := ok_neg c1 k; ?_)
    · exact wp_sub (hX _ _ (ok_s k) h) rfl ⟨rfl, trivial⟩
    · refine wp_ld (v := .ref 41) dX1_pullNow_27 rfl rfl rfl rfl ?_
      refine wp_gr dX1_pullNow_28 rfl rfl (kk_41 h) (rr_41_0 h) ?_
      refine wp_gr dX1_pullNow_31 rfl rfl (kk_1 h) (rr_1_8 h) ?_
      refine wp_ld (v := .int x2) dX1_pullNow_34 rfl rfl rfl rfl ?_
      refine wp_cst (v := .int (0 : Int32)) dX1_pullNow_35 rfl rfl ?_
      refine c_i dX1_pullNow_36 rfl rfl rfl (am_inv_v rfl (kk_5 h) rfl rfl rfl) (s_X4_get h (kf_5 h)) k (fun v3 s2 h k => ?_)
      refine wp_ld (v := .ref 41) dX1_pullNow_39 rfl rfl rfl rfl ?_
      refine wq_gI dX1_pullNow_40 rfl rfl (kk_41 h) (v := (am_I s2 41 11)) rfl ?_
      refine wp_ic_gt dX1_pullNow_43 rfl (fun c4 => have k := ok_pos c4 k; ?_) (fun c4 => have k := ok_neg c4 k; ?_)
      · refine wp_inc (v := (x2 + (1 : Int32))) (ls' := [(0, .ref 41), (1, .int x1), (2, .int (x2 + (1 : Int32)))]) dX1_pullNow_80 rfl (Nat.le_of_ble_eq_true rfl) rfl rfl ?_
        refine wp_goto dX1_pullNow_83 rfl ?_
        exact wp_sub (ih h k hP hX) rfl ⟨rfl, rfl, rfl, trivial⟩
      · refine wp_ld (v := .ref 41) dX1_pullNow_46 rfl rfl rfl rfl ?_
        refine wq_gI dX1_pullNow_47 rfl rfl (kk_41 h) (v := (am_I s2 41 11)) rfl ?_
        refine wp_ld (v := .ref 41) dX1_pullNow_50 rfl rfl rfl rfl ?_
        refine wp_gr dX1_pullNow_51 rfl rfl (kk_41 h) (rr_41_0 h) ?_
        refine wp_gr dX1_pullNow_54 rfl rfl (kk_1 h) (rr_1_8 h) ?_
        refine wp_ld (v := .int x2) dX1_pullNow_57 rfl rfl rfl rfl ?_
        refine wp_cst (v := .int (1 : Int32)) dX1_pullNow_58 rfl rfl ?_
        refine c_i dX1_pullNow_59 rfl rfl rfl (am_inv_v rfl (kk_5 h) rfl rfl rfl) (s_X4_get h (kf_5 h)) k (fun v6 s5 h k => ?_)
        refine wp_ic_gt dX1_pullNow_62 rfl (fun c7 => have k := ok_pos c7 k; ?_) (fun c7 => have k := ok_neg c7 k; ?_)
        · refine wp_inc (v := (x2 + (1 : Int32))) (ls' := [(0, .ref 41), (1, .int x1), (2, .int (x2 + (1 : Int32)))]) dX1_pullNow_80 rfl (Nat.le_of_ble_eq_true rfl) rfl rfl ?_
          refine wp_goto dX1_pullNow_83 rfl ?_
          exact wp_sub (ih h k hP hX) rfl ⟨rfl, rfl, rfl, trivial⟩
        · refine wp_ld (v := .int x1) dX1_pullNow_65 rfl rfl rfl rfl ?_
          refine wp_ld (v := .ref 41) dX1_pullNow_66 rfl rfl rfl rfl ?_
          refine wp_gr dX1_pullNow_67 rfl rfl (kk_41 h) (rr_41_0 h) ?_
          refine wp_gr dX1_pullNow_70 rfl rfl (kk_1 h) (rr_1_8 h) ?_
          refine wp_ld (v := .int x2) dX1_pullNow_73 rfl rfl rfl rfl ?_
          refine wp_cst (v := .int (2 : Int32)) dX1_pullNow_74 rfl rfl ?_
          refine c_i dX1_pullNow_75 rfl rfl rfl (am_inv_v rfl (kk_5 h) rfl rfl rfl) (s_X4_get h (kf_5 h)) k (fun v9 s8 h k => ?_)
          refine wp_pu dX1_pullNow_78 rfl rfl ?_
          refine wp_st (ls' := [(0, .ref 41), (1, .int (x1 - v9)), (2, .int x2)]) dX1_pullNow_79 rfl rfl rfl (Nat.le_of_ble_eq_true rfl) rfl ?_
          refine wp_inc (v := (x2 + (1 : Int32))) (ls' := [(0, .ref 41), (1, .int (x1 - v9)), (2, .int (x2 + (1 : Int32)))]) dX1_pullNow_80 rfl (Nat.le_of_ble_eq_true rfl) rfl rfl ?_
          refine wp_goto dX1_pullNow_83 rfl ?_
          exact wp_sub (ih h k hP hX) rfl ⟨rfl, rfl, rfl, trivial⟩
noncomputable def f_X1_pullNow  (s : am_S) : am_F :=
  am_lm (L_X1_pullNow_13 ax_fuel (am_I s 2 18) (0 : Int32) s) (fun e10 s11 =>
    some (.inl (some (.int e10)), s11)
  )
theorem s_X1_pullNow {N n : Nat} {d : Nat}  {s : am_S} (h : am_sh N n s)  : am_S1 (am_sh N n) (d + 1) mX1_pullNow [.ref 41] s (f_X1_pullNow s) := by
  intro P Q k hP
  show am_WP (d + 1) mX1_pullNow 0 [(0, .ref 41)] [] s Q
  unfold f_X1_pullNow at k
  refine wp_ld (v := .ref 41) dX1_pullNow_0 rfl rfl rfl rfl ?_
  refine wp_gr dX1_pullNow_1 rfl rfl (kk_41 h) (rr_41_0 h) ?_
  refine wp_gr dX1_pullNow_4 rfl rfl (kk_1 h) (rr_1_3 h) ?_
  refine wp_cst (v := .int (18 : Int32)) dX1_pullNow_7 rfl rfl ?_
  refine wq_iald dX1_pullNow_9 (kk_2 h) (by decide) (v := (am_I s 2 18)) rfl ?_
  refine wp_st (ls' := [(0, .ref 41), (1, .int (am_I s 2 18))]) dX1_pullNow_10 rfl rfl rfl (Nat.le_of_ble_eq_true rfl) rfl ?_
  refine wp_cst (v := .int (0 : Int32)) dX1_pullNow_11 rfl rfl ?_
  refine wp_st (ls' := [(0, .ref 41), (1, .int (am_I s 2 18)), (2, .int (0 : Int32))]) dX1_pullNow_12 rfl rfl rfl (Nat.le_of_ble_eq_true rfl) rfl ?_
  refine lp_m k (fun P1 k hA hB => ?_)
  refine wp_sub (q_X1_pullNow_13 ax_fuel h k (fun o s p h => hP o s (hA o s p) h) (fun e10 s11 p h => have k := hB e10 s11 p; ?_)) rfl ⟨rfl, rfl, rfl, trivial⟩
  refine wp_ld (v := .int e10) dX1_pullNow_86 rfl rfl rfl rfl ?_
  exact wp_end dX1_pullNow_87 rfl (am_end_i rfl) (hP _ _ (ok_s k) h)
noncomputable def f_X1_move  (s : am_S) : am_F :=
  am_jn (fun (e2 : Unit) s3 =>
    some (.inl none, (am_sI s3 41 12 (am_max (am_I s3 41 12) (am_I s3 41 5))))
  ) (fun J1 =>
    if (am_I s 2 22) = (-1 : Int32) then
      J1 () (am_sI (am_sI (am_sI s 41 10 (am_I s 41 4)) 41 4 ((am_I s 41 4) + (am_I s 41 6))) 41 5 ((am_I s 41 5) + (am_I s 41 7)))
    else
      if ((am_I s 41 5) + (am_I s 41 7)) ≤ ((100 : Int32) * (am_I s 2 22)) then
        J1 () (am_sI (am_sI (am_sI s 41 10 (am_I s 41 4)) 41 4 ((am_I s 41 4) + (am_I s 41 6))) 41 5 ((am_I s 41 5) + (am_I s 41 7)))
      else
        J1 () (am_sI (am_sI (am_sI (am_sI (am_sI s 41 10 (am_I s 41 4)) 41 4 ((am_I s 41 4) + (am_I s 41 6))) 41 5 ((am_I s 41 5) + (am_I s 41 7))) 41 5 ((100 : Int32) * (am_I s 2 22))) 41 7 ((-(am_I s 41 7)) / (2 : Int32)))
  )
theorem s_X1_move {N n : Nat} {d : Nat}  {s : am_S} (h : am_sh N n s)  : am_S1 (am_sh N n) (d) mX1_move [.ref 41] s (f_X1_move s) := by
  intro P Q k hP
  show am_WP (d) mX1_move 0 [(0, .ref 41)] [] s Q
  unfold f_X1_move at k
  refine wp_ld (v := .ref 41) dX1_move_0 rfl rfl rfl rfl ?_
  refine wp_ld (v := .ref 41) dX1_move_1 rfl rfl rfl rfl ?_
  refine wq_gI dX1_move_2 rfl rfl (kk_41 h) (v := (am_I s 41 4)) rfl ?_
  refine wp_pI dX1_move_5 rfl rfl rfl (fun h => absurd h (by decide)) (kk_41 h) ?_
  refine wp_ld (v := .ref 41) dX1_move_8 rfl rfl rfl rfl ?_
  refine wp_pu dX1_move_9 rfl rfl ?_
  refine wq_gI dX1_move_10 rfl rfl (kk_41 (sh_sI h)) (v := (am_I s 41 4)) rfl ?_
  refine wp_ld (v := .ref 41) dX1_move_13 rfl rfl rfl rfl ?_
  refine wq_gI dX1_move_14 rfl rfl (kk_41 (sh_sI h)) (v := (am_I s 41 6)) rfl ?_
  refine wp_pu dX1_move_17 rfl rfl ?_
  refine wp_pI dX1_move_18 rfl rfl rfl (fun h => absurd h (by decide)) (kk_41 (sh_sI h)) ?_
  show am_WP (d) mX1_move 21 _ _ _ Q
  refine wp_ld (v := .ref 41) dX1_move_21 rfl rfl rfl rfl ?_
  refine wp_pu dX1_move_22 rfl rfl ?_
  refine wq_gI dX1_move_23 rfl rfl (kk_41 (sh_sI (sh_sI h))) (v := (am_I s 41 5)) rfl ?_
  refine wp_ld (v := .ref 41) dX1_move_26 rfl rfl rfl rfl ?_
  refine wq_gI dX1_move_27 rfl rfl (kk_41 (sh_sI (sh_sI h))) (v := (am_I s 41 7)) rfl ?_
  refine wp_pu dX1_move_30 rfl rfl ?_
  refine wp_pI dX1_move_31 rfl rfl rfl (fun h => absurd h (by decide)) (kk_41 (sh_sI (sh_sI h))) ?_
  refine wp_ld (v := .ref 41) dX1_move_34 rfl rfl rfl rfl ?_
  refine wp_gr dX1_move_35 rfl rfl (kk_41 (sh_sI (sh_sI (sh_sI h)))) (rr_41_0 (sh_sI (sh_sI (sh_sI h)))) ?_
  refine wp_gr dX1_move_38 rfl rfl (kk_1 (sh_sI (sh_sI (sh_sI h)))) (rr_1_3 (sh_sI (sh_sI (sh_sI h)))) ?_
  refine wp_cst (v := .int (22 : Int32)) dX1_move_41 rfl rfl ?_
  refine wq_iald dX1_move_43 (kk_2 (sh_sI (sh_sI (sh_sI h)))) (by decide) (v := (am_I s 2 22)) rfl ?_
  show am_WP (d) mX1_move 44 _ _ _ Q
  refine wp_st (ls' := [(0, .ref 41), (1, .int (am_I s 2 22))]) dX1_move_44 rfl rfl rfl (Nat.le_of_ble_eq_true rfl) rfl ?_
  refine wp_ld (v := .int (am_I s 2 22)) dX1_move_45 rfl rfl rfl rfl ?_
  refine wp_cst (v := .int (-1 : Int32)) dX1_move_46 rfl rfl ?_
  refine jn_rule k (fun J1 hJ1 k => ?_)
  have HJ1 : ∀ (e2 : Unit) (s3 : am_S), am_sh N n s3 → am_ok (J1 e2 s3) P → am_WP (d) mX1_move 80 [(0, .ref 41)] [] s3 Q := by
    intro e2 s3 h k
    replace k := hJ1 _ _ k
    refine wp_ld (v := .ref 41) dX1_move_80 rfl rfl rfl rfl ?_
    refine wp_ld (v := .ref 41) dX1_move_81 rfl rfl rfl rfl ?_
    refine wq_gI dX1_move_82 rfl rfl (kk_41 h) (v := (am_I s3 41 12)) rfl ?_
    refine wp_ld (v := .ref 41) dX1_move_85 rfl rfl rfl rfl ?_
    refine wq_gI dX1_move_86 rfl rfl (kk_41 h) (v := (am_I s3 41 5)) rfl ?_
    refine wp_mem (st' := .int (am_max (am_I s3 41 12) (am_I s3 41 5)) :: [.ref 41]) dX1_move_89 rfl rfl rfl rfl ?_
    refine wp_pI dX1_move_92 rfl rfl rfl (fun h => absurd h (by decide)) (kk_41 h) ?_
    exact wp_end dX1_move_95 rfl rfl (hP _ _ (ok_s k) (sh_sI h))
  refine wp_ic_eq dX1_move_47 rfl (fun c4 => have k := ok_pos c4 k; ?_) (fun c4 => have k := ok_neg c4 k; ?_)
  · exact wp_sub (HJ1 _ _ (sh_sI (sh_sI (sh_sI h))) k) rfl ⟨rfl, trivial⟩
  · refine wp_ld (v := .ref 41) dX1_move_50 rfl rfl rfl rfl ?_
    refine wq_gI dX1_move_51 rfl rfl (kk_41 (sh_sI (sh_sI (sh_sI h)))) (v := ((am_I s 41 5) + (am_I s 41 7))) rfl ?_
    refine wp_cst (v := .int (100 : Int32)) dX1_move_54 rfl rfl ?_
    refine wp_ld (v := .int (am_I s 2 22)) dX1_move_56 rfl rfl rfl rfl ?_
    refine wp_pu dX1_move_57 rfl rfl ?_
    refine wp_ic_le dX1_move_58 rfl (fun c5 => have k := ok_pos c5 k; ?_) (fun c5 => have k := ok_neg c5 k; ?_)
    · exact wp_sub (HJ1 _ _ (sh_sI (sh_sI (sh_sI h))) k) rfl ⟨rfl, trivial⟩
    · refine wp_ld (v := .ref 41) dX1_move_61 rfl rfl rfl rfl ?_
      refine wp_cst (v := .int (100 : Int32)) dX1_move_62 rfl rfl ?_
      refine wp_ld (v := .int (am_I s 2 22)) dX1_move_64 rfl rfl rfl rfl ?_
      refine wp_pu dX1_move_65 rfl rfl ?_
      refine wp_pI dX1_move_66 rfl rfl rfl (fun h => absurd h (by decide)) (kk_41 (sh_sI (sh_sI (sh_sI h)))) ?_
      refine wp_ld (v := .ref 41) dX1_move_69 rfl rfl rfl rfl ?_
      refine wp_ld (v := .ref 41) dX1_move_70 rfl rfl rfl rfl ?_
      refine wq_gI dX1_move_71 rfl rfl (kk_41 (sh_sI (sh_sI (sh_sI (sh_sI h))))) (v := (am_I s 41 7)) rfl ?_
      refine wp_pu dX1_move_74 rfl rfl ?_
      refine wp_cst (v := .int (2 : Int32)) dX1_move_75 rfl rfl ?_
      refine wp_div dX1_move_76 (by decide) ?_
      show am_WP (d) mX1_move 77 _ _ _ Q
      refine wp_pI dX1_move_77 rfl rfl rfl (fun h => absurd h (by decide)) (kk_41 (sh_sI (sh_sI (sh_sI (sh_sI h))))) ?_
      exact wp_sub (HJ1 _ _ (sh_sI (sh_sI (sh_sI (sh_sI (sh_sI h))))) k) rfl ⟨rfl, trivial⟩
noncomputable def L_X1_noteEnd_4 : Nat → Int32 → Int32 → am_S → am_FE (Int32)
  | 0, _, _, _ => none
  | m + 1, x1, x2, s =>
    if (am_I s 7 2) ≤ x2 then
      some (.inr (x1, s))
    else
      am_bi (f_X4_get 7 x2 (0 : Int32) s) (fun v3 s2 =>
        if v3 ≤ (am_I s2 41 10) then
          L_X1_noteEnd_4 m x1 (x2 + (1 : Int32)) s2
        else
          if (am_I s2 41 4) < v3 then
            L_X1_noteEnd_4 m x1 (x2 + (1 : Int32)) s2
          else
            am_bi (f_X4_get 7 x2 (1 : Int32) s2) (fun v7 s6 =>
              if v7 < (am_I s2 41 5) then
                L_X1_noteEnd_4 m x1 (x2 + (1 : Int32)) s6
              else
                if x1 = (-1 : Int32) then
                  L_X1_noteEnd_4 m v3 (x2 + (1 : Int32)) s6
                else
                  if x1 ≤ v3 then
                    L_X1_noteEnd_4 m x1 (x2 + (1 : Int32)) s6
                  else
                    L_X1_noteEnd_4 m v3 (x2 + (1 : Int32)) s6
            )
      )
theorem q_X1_noteEnd_4 : ∀ (m : Nat) {N n : Nat} {d : Nat} {x1 : Int32} {x2 : Int32} {s : am_S} {P : (am_O × am_S) ⊕ (Int32 × am_S) → Prop} {Q : am_O → am_S → Prop} (h : am_sh N n s)  (k : am_ok (L_X1_noteEnd_4 m x1 x2 s) P) (hP : ∀ o s, P (.inl (o, s)) → am_sh N n s → Q o s) (hX : ∀ (e : Int32) s, P (.inr (e, s)) → am_sh N n s → am_WP (d + 1) mX1_noteEnd 84 [(0, .ref 41), (1, .int e)] [] s Q), am_WP (d + 1) mX1_noteEnd 4 [(0, .ref 41), (1, .int x1), (2, .int x2)] [] s Q := by
  intro m
  induction m with
  | zero =>
    intro N n d x1 x2 s P Q h  k hP hX
    exact (ok_no k).elim
  | succ m ih =>
    intro N n d x1 x2 s P Q h  k hP hX
    unfold L_X1_noteEnd_4 at k
    refine wp_ld (v := .int x2) dX1_noteEnd_4 rfl rfl rfl rfl ?_
    refine wp_ld (v := .ref 41) dX1_noteEnd_5 rfl rfl rfl rfl ?_
    refine wp_gr dX1_noteEnd_6 rfl rfl (kk_41 h) (rr_41_0 h) ?_
    refine wp_gr dX1_noteEnd_9 rfl rfl (kk_1 h) (rr_1_9 h) ?_
    refine wq_gI dX1_noteEnd_12 rfl rfl (kk_7 h) (v := (am_I s 7 2)) rfl ?_
    refine wp_ic_ge dX1_noteEnd_15 rfl (fun c1 => have k := ok_pos c1 k; ?_) (fun c1 => have k := ok_neg c1 k; ?_)
    · exact wp_sub (hX _ _ (ok_s k) h) rfl ⟨rfl, rfl, trivial⟩
    · refine wp_ld (v := .ref 41) dX1_noteEnd_18 rfl rfl rfl rfl ?_
      refine wp_gr dX1_noteEnd_19 rfl rfl (kk_41 h) (rr_41_0 h) ?_
      refine wp_gr dX1_noteEnd_22 rfl rfl (kk_1 h) (rr_1_9 h) ?_
      refine wp_ld (v := .int x2) dX1_noteEnd_25 rfl rfl rfl rfl ?_
      refine wp_cst (v := .int (0 : Int32)) dX1_noteEnd_26 rfl rfl ?_
      refine c_i dX1_noteEnd_27 rfl rfl rfl (am_inv_v rfl (kk_7 h) rfl rfl rfl) (s_X4_get h (kf_7 h)) k (fun v3 s2 h k => ?_)
      refine wp_st (ls' := [(0, .ref 41), (1, .int x1), (2, .int x2), (3, .int v3)]) dX1_noteEnd_30 rfl rfl rfl (Nat.le_of_ble_eq_true rfl) rfl ?_
      refine wp_ld (v := .ref 41) dX1_noteEnd_31 rfl rfl rfl rfl ?_
      refine wq_gI dX1_noteEnd_32 rfl rfl (kk_41 h) (v := (am_I s2 41 10)) rfl ?_
      refine wp_ld (v := .int v3) dX1_noteEnd_35 rfl rfl rfl rfl ?_
      refine wp_ic_ge dX1_noteEnd_36 rfl (fun c4 => have k := ok_pos c4 k; ?_) (fun c4 => have k := ok_neg c4 k; ?_)
      · refine wp_inc (v := (x2 + (1 : Int32))) (ls' := [(0, .ref 41), (1, .int x1), (2, .int (x2 + (1 : Int32))), (3, .int v3)]) dX1_noteEnd_78 rfl (Nat.le_of_ble_eq_true rfl) rfl rfl ?_
        refine wp_goto dX1_noteEnd_81 rfl ?_
        exact wp_sub (ih h k hP hX) rfl ⟨rfl, rfl, rfl, trivial⟩
      · refine wp_ld (v := .ref 41) dX1_noteEnd_39 rfl rfl rfl rfl ?_
        refine wq_gI dX1_noteEnd_40 rfl rfl (kk_41 h) (v := (am_I s2 41 4)) rfl ?_
        refine wp_ld (v := .int v3) dX1_noteEnd_43 rfl rfl rfl rfl ?_
        refine wp_ic_lt dX1_noteEnd_44 rfl (fun c5 => have k := ok_pos c5 k; ?_) (fun c5 => have k := ok_neg c5 k; ?_)
        · refine wp_inc (v := (x2 + (1 : Int32))) (ls' := [(0, .ref 41), (1, .int x1), (2, .int (x2 + (1 : Int32))), (3, .int v3)]) dX1_noteEnd_78 rfl (Nat.le_of_ble_eq_true rfl) rfl rfl ?_
          refine wp_goto dX1_noteEnd_81 rfl ?_
          exact wp_sub (ih h k hP hX) rfl ⟨rfl, rfl, rfl, trivial⟩
        · refine wp_ld (v := .ref 41) dX1_noteEnd_47 rfl rfl rfl rfl ?_
          refine wq_gI dX1_noteEnd_48 rfl rfl (kk_41 h) (v := (am_I s2 41 5)) rfl ?_
          refine wp_ld (v := .ref 41) dX1_noteEnd_51 rfl rfl rfl rfl ?_
          refine wp_gr dX1_noteEnd_52 rfl rfl (kk_41 h) (rr_41_0 h) ?_
          refine wp_gr dX1_noteEnd_55 rfl rfl (kk_1 h) (rr_1_9 h) ?_
          refine wp_ld (v := .int x2) dX1_noteEnd_58 rfl rfl rfl rfl ?_
          refine wp_cst (v := .int (1 : Int32)) dX1_noteEnd_59 rfl rfl ?_
          refine c_i dX1_noteEnd_60 rfl rfl rfl (am_inv_v rfl (kk_7 h) rfl rfl rfl) (s_X4_get h (kf_7 h)) k (fun v7 s6 h k => ?_)
          refine wp_ic_gt dX1_noteEnd_63 rfl (fun c8 => have k := ok_pos c8 k; ?_) (fun c8 => have k := ok_neg c8 k; ?_)
          · refine wp_inc (v := (x2 + (1 : Int32))) (ls' := [(0, .ref 41), (1, .int x1), (2, .int (x2 + (1 : Int32))), (3, .int v3)]) dX1_noteEnd_78 rfl (Nat.le_of_ble_eq_true rfl) rfl rfl ?_
            refine wp_goto dX1_noteEnd_81 rfl ?_
            exact wp_sub (ih h k hP hX) rfl ⟨rfl, rfl, rfl, trivial⟩
          · refine wp_ld (v := .int x1) dX1_noteEnd_66 rfl rfl rfl rfl ?_
            refine wp_cst (v := .int (-1 : Int32)) dX1_noteEnd_67 rfl rfl ?_
            refine wp_ic_eq dX1_noteEnd_68 rfl (fun c9 => have k := ok_pos c9 k; ?_) (fun c9 => have k := ok_neg c9 k; ?_)
            · refine wp_ld (v := .int v3) dX1_noteEnd_76 rfl rfl rfl rfl ?_
              refine wp_st (ls' := [(0, .ref 41), (1, .int v3), (2, .int x2), (3, .int v3)]) dX1_noteEnd_77 rfl rfl rfl (Nat.le_of_ble_eq_true rfl) rfl ?_
              refine wp_inc (v := (x2 + (1 : Int32))) (ls' := [(0, .ref 41), (1, .int v3), (2, .int (x2 + (1 : Int32))), (3, .int v3)]) dX1_noteEnd_78 rfl (Nat.le_of_ble_eq_true rfl) rfl rfl ?_
              refine wp_goto dX1_noteEnd_81 rfl ?_
              exact wp_sub (ih h k hP hX) rfl ⟨rfl, rfl, rfl, trivial⟩
            · refine wp_ld (v := .int v3) dX1_noteEnd_71 rfl rfl rfl rfl ?_
              refine wp_ld (v := .int x1) dX1_noteEnd_72 rfl rfl rfl rfl ?_
              refine wp_ic_ge dX1_noteEnd_73 rfl (fun c10 => have k := ok_pos c10 k; ?_) (fun c10 => have k := ok_neg c10 k; ?_)
              · refine wp_inc (v := (x2 + (1 : Int32))) (ls' := [(0, .ref 41), (1, .int x1), (2, .int (x2 + (1 : Int32))), (3, .int v3)]) dX1_noteEnd_78 rfl (Nat.le_of_ble_eq_true rfl) rfl rfl ?_
                refine wp_goto dX1_noteEnd_81 rfl ?_
                exact wp_sub (ih h k hP hX) rfl ⟨rfl, rfl, rfl, trivial⟩
              · refine wp_ld (v := .int v3) dX1_noteEnd_76 rfl rfl rfl rfl ?_
                refine wp_st (ls' := [(0, .ref 41), (1, .int v3), (2, .int x2), (3, .int v3)]) dX1_noteEnd_77 rfl rfl rfl (Nat.le_of_ble_eq_true rfl) rfl ?_
                refine wp_inc (v := (x2 + (1 : Int32))) (ls' := [(0, .ref 41), (1, .int v3), (2, .int (x2 + (1 : Int32))), (3, .int v3)]) dX1_noteEnd_78 rfl (Nat.le_of_ble_eq_true rfl) rfl rfl ?_
                refine wp_goto dX1_noteEnd_81 rfl ?_
                exact wp_sub (ih h k hP hX) rfl ⟨rfl, rfl, rfl, trivial⟩
noncomputable def f_X1_noteEnd  (s : am_S) : am_F :=
  am_lm (L_X1_noteEnd_4 ax_fuel (-1 : Int32) (0 : Int32) s) (fun e11 s12 =>
    if e11 = (-1 : Int32) then
      if 0 < (am_I s12 41 5) then
        some (.inl none, s12)
      else
        some (.inl none, (am_sI s12 41 15 (1 : Int32)))
    else
      some (.inl none, (am_sI (am_sI s12 41 4 e11) 41 15 (2 : Int32)))
  )
theorem s_X1_noteEnd {N n : Nat} {d : Nat}  {s : am_S} (h : am_sh N n s)  : am_S1 (am_sh N n) (d + 1) mX1_noteEnd [.ref 41] s (f_X1_noteEnd s) := by
  intro P Q k hP
  show am_WP (d + 1) mX1_noteEnd 0 [(0, .ref 41)] [] s Q
  unfold f_X1_noteEnd at k
  refine wp_cst (v := .int (-1 : Int32)) dX1_noteEnd_0 rfl rfl ?_
  refine wp_st (ls' := [(0, .ref 41), (1, .int (-1 : Int32))]) dX1_noteEnd_1 rfl rfl rfl (Nat.le_of_ble_eq_true rfl) rfl ?_
  refine wp_cst (v := .int (0 : Int32)) dX1_noteEnd_2 rfl rfl ?_
  refine wp_st (ls' := [(0, .ref 41), (1, .int (-1 : Int32)), (2, .int (0 : Int32))]) dX1_noteEnd_3 rfl rfl rfl (Nat.le_of_ble_eq_true rfl) rfl ?_
  refine lp_m k (fun P1 k hA hB => ?_)
  refine wp_sub (q_X1_noteEnd_4 ax_fuel h k (fun o s p h => hP o s (hA o s p) h) (fun e11 s12 p h => have k := hB e11 s12 p; ?_)) rfl ⟨rfl, rfl, rfl, trivial⟩
  refine wp_ld (v := .int e11) dX1_noteEnd_84 rfl rfl rfl rfl ?_
  refine wp_cst (v := .int (-1 : Int32)) dX1_noteEnd_85 rfl rfl ?_
  refine wp_ic_eq dX1_noteEnd_86 rfl (fun c13 => have k := ok_pos c13 k; ?_) (fun c13 => have k := ok_neg c13 k; ?_)
  · refine wp_ld (v := .ref 41) dX1_noteEnd_102 rfl rfl rfl rfl ?_
    refine wq_gI dX1_noteEnd_103 rfl rfl (kk_41 h) (v := (am_I s12 41 5)) rfl ?_
    refine wp_if_gt dX1_noteEnd_106 rfl (fun c14 => have k := ok_pos c14 k; ?_) (fun c14 => have k := ok_neg c14 k; ?_)
    · exact wp_end dX1_noteEnd_114 rfl rfl (hP _ _ (ok_s k) h)
    · refine wp_ld (v := .ref 41) dX1_noteEnd_109 rfl rfl rfl rfl ?_
      refine wp_cst (v := .int (1 : Int32)) dX1_noteEnd_110 rfl rfl ?_
      refine wp_pI dX1_noteEnd_111 rfl rfl rfl (fun h => absurd h (by decide)) (kk_41 h) ?_
      exact wp_end dX1_noteEnd_114 rfl rfl (hP _ _ (ok_s k) (sh_sI h))
  · refine wp_ld (v := .ref 41) dX1_noteEnd_89 rfl rfl rfl rfl ?_
    refine wp_ld (v := .int e11) dX1_noteEnd_90 rfl rfl rfl rfl ?_
    refine wp_pI dX1_noteEnd_91 rfl rfl rfl (fun h => absurd h (by decide)) (kk_41 h) ?_
    refine wp_ld (v := .ref 41) dX1_noteEnd_94 rfl rfl rfl rfl ?_
    refine wp_cst (v := .int (2 : Int32)) dX1_noteEnd_95 rfl rfl ?_
    refine wp_pI dX1_noteEnd_96 rfl rfl rfl (fun h => absurd h (by decide)) (kk_41 (sh_sI h)) ?_
    refine wp_goto dX1_noteEnd_99 rfl ?_
    exact wp_end dX1_noteEnd_114 rfl rfl (hP _ _ (ok_s k) (sh_sI (sh_sI h)))
noncomputable def f_X1_tick  (s : am_S) : am_F :=
  am_bi (f_X7_pathOf (am_I s 41 6) (am_I s 41 7) s) (fun v2 s1 =>
    am_bi (f_X7_attackOf (am_I s1 41 8) v2 s1) (fun v4 s3 =>
      ax_le ((((am_I s3 41 6) * (am_I s3 41 6)) + ((am_I s3 41 7) * (am_I s3 41 7))) / (1000 : Int32)).toInt64 (fun y5 =>
        if am_in ((0 : Int32) + (am_abs v4)) 23 = true then
          am_bl (f_X1_force (am_I s3 2 (((0 : Int32) + (am_abs v4)).toNatClampNeg)) y5 s3) (fun v8 s7 =>
            am_jn (fun (e10 : Int64) s11 =>
              if am_in ((9 : Int32) + (am_abs v4)) 23 = true then
                am_bl (f_X1_force (am_I s11 2 (((9 : Int32) + (am_abs v4)).toNatClampNeg)) y5 s11) (fun v14 s13 =>
                  am_bu (f_X1_turnNose (((((am_I s13 41 2).toInt64 * y5) - ((am_I s13 37 8).toInt64 * e10)) * (am_I s13 2 20).toInt64) / (1000 : Int64)) (am_sI s13 41 11 ((am_I s13 41 11) + (1 : Int32)))) (fun s15 =>
                    am_bi (f_X7_sine v2 s15) (fun v18 s17 =>
                      am_bi (f_X7_cosine v2 s17) (fun v20 s19 =>
                        am_bi (f_X7_keptWithin ((am_I s19 41 6).toInt64 + ((((-v14) * v20.toInt64) - (e10 * v18.toInt64)) / (1000 : Int64))) (2000 : Int32) s19) (fun v22 s21 =>
                          am_bi (f_X1_pullNow (am_sI s21 41 6 v22)) (fun v24 s23 =>
                            am_bi (f_X7_keptWithin (((am_I s21 41 7).toInt64 + ((((-v14) * v18.toInt64) + (e10 * v20.toInt64)) / (1000 : Int64))) - v24.toInt64) (2000 : Int32) s23) (fun v26 s25 =>
                              am_bu (f_X1_move (am_sI s25 41 7 v26)) (fun s27 =>
                                am_bu (f_X1_noteEnd s27) (fun s29 =>
                                  some (.inl none, s29)
                                )
                              )
                            )
                          )
                        )
                      )
                    )
                  )
                )
              else none
            ) (fun J9 =>
              if 0 ≤ v4 then
                J9 v8 s7
              else
                J9 (-v8) s7
            )
          )
        else none
      )
    )
  )
theorem s_X1_tick {N n : Nat} {d : Nat}  {s : am_S} (h : am_sh N n s)  : am_S1 (am_sh N n) (d + 2) mX1_tick [.ref 41] s (f_X1_tick s) := by
  intro P Q k hP
  show am_WP (d + 2) mX1_tick 0 [(0, .ref 41)] [] s Q
  unfold f_X1_tick at k
  refine wp_ld (v := .ref 41) dX1_tick_0 rfl rfl rfl rfl ?_
  refine wq_gI dX1_tick_1 rfl rfl (kk_41 h) (v := (am_I s 41 6)) rfl ?_
  refine wp_ld (v := .ref 41) dX1_tick_4 rfl rfl rfl rfl ?_
  refine wq_gI dX1_tick_5 rfl rfl (kk_41 h) (v := (am_I s 41 7)) rfl ?_
  refine c_i dX1_tick_8 rfl rfl rfl (am_inv_s rfl rfl rfl rfl) (s_X7_pathOf h) k (fun v2 s1 h k => ?_)
  refine wp_st (ls' := [(0, .ref 41), (1, .int v2)]) dX1_tick_11 rfl rfl rfl (Nat.le_of_ble_eq_true rfl) rfl ?_
  refine wp_ld (v := .ref 41) dX1_tick_12 rfl rfl rfl rfl ?_
  refine wq_gI dX1_tick_13 rfl rfl (kk_41 h) (v := (am_I s1 41 8)) rfl ?_
  refine wp_ld (v := .int v2) dX1_tick_16 rfl rfl rfl rfl ?_
  refine c_i dX1_tick_17 rfl rfl rfl (am_inv_s rfl rfl rfl rfl) (s_X7_attackOf h) k (fun v4 s3 h k => ?_)
  refine wp_st (ls' := [(0, .ref 41), (1, .int v2), (2, .int v4)]) dX1_tick_20 rfl rfl rfl (Nat.le_of_ble_eq_true rfl) rfl ?_
  refine wp_ld (v := .int v4) dX1_tick_21 rfl rfl rfl rfl ?_
  refine wp_mem (st' := .int (am_abs v4) :: []) dX1_tick_22 rfl rfl rfl rfl ?_
  refine wp_st (ls' := [(0, .ref 41), (1, .int v2), (2, .int v4), (3, .int (am_abs v4))]) dX1_tick_25 rfl rfl rfl (Nat.le_of_ble_eq_true rfl) rfl ?_
  refine wp_ld (v := .ref 41) dX1_tick_26 rfl rfl rfl rfl ?_
  refine wq_gI dX1_tick_27 rfl rfl (kk_41 h) (v := (am_I s3 41 6)) rfl ?_
  refine wp_ld (v := .ref 41) dX1_tick_30 rfl rfl rfl rfl ?_
  refine wq_gI dX1_tick_31 rfl rfl (kk_41 h) (v := (am_I s3 41 6)) rfl ?_
  refine wp_pu dX1_tick_34 rfl rfl ?_
  refine wp_ld (v := .ref 41) dX1_tick_35 rfl rfl rfl rfl ?_
  refine wq_gI dX1_tick_36 rfl rfl (kk_41 h) (v := (am_I s3 41 7)) rfl ?_
  show am_WP (d + 2) mX1_tick 39 _ _ _ Q
  refine wp_ld (v := .ref 41) dX1_tick_39 rfl rfl rfl rfl ?_
  refine wq_gI dX1_tick_40 rfl rfl (kk_41 h) (v := (am_I s3 41 7)) rfl ?_
  refine wp_pu dX1_tick_43 rfl rfl ?_
  refine wp_pu dX1_tick_44 rfl rfl ?_
  refine wp_cst (v := .int (1000 : Int32)) dX1_tick_45 rfl rfl ?_
  refine wp_div dX1_tick_48 (by decide) ?_
  refine wp_pu dX1_tick_49 rfl rfl ?_
  refine ls_l k (fun y5 _ k => ?_)
  refine wp_st (ls' := [(0, .ref 41), (1, .int v2), (2, .int v4), (3, .int (am_abs v4)), (4, .long y5)]) dX1_tick_50 rfl rfl rfl (Nat.le_of_ble_eq_true rfl) rfl ?_
  refine wp_ld (v := .ref 41) dX1_tick_52 rfl rfl rfl rfl ?_
  refine wp_ld (v := .ref 41) dX1_tick_53 rfl rfl rfl rfl ?_
  refine wp_gr dX1_tick_54 rfl rfl (kk_41 h) (rr_41_0 h) ?_
  refine wp_gr dX1_tick_57 rfl rfl (kk_1 h) (rr_1_3 h) ?_
  show am_WP (d + 2) mX1_tick 60 _ _ _ Q
  refine wp_cst (v := .int (0 : Int32)) dX1_tick_60 rfl rfl ?_
  refine wp_ld (v := .int (am_abs v4)) dX1_tick_61 rfl rfl rfl rfl ?_
  refine wp_pu dX1_tick_62 rfl rfl ?_
  obtain ⟨g6, k⟩ := ok_g k
  refine wq_iald dX1_tick_63 (kk_2 h) g6 (v := (am_I s3 2 (((0 : Int32) + (am_abs v4)).toNatClampNeg))) rfl ?_
  refine wp_ld (v := .long y5) dX1_tick_64 rfl rfl rfl rfl ?_
  refine c_l dX1_tick_66 rfl rfl rfl (am_inv_v rfl (kk_41 h) rfl rfl rfl) (s_X1_force h) k (fun v8 s7 h k => ?_)
  refine wp_st (ls' := [(0, .ref 41), (1, .int v2), (2, .int v4), (3, .int (am_abs v4)), (4, .long y5), (6, .long v8)]) dX1_tick_69 rfl rfl rfl (Nat.le_of_ble_eq_true rfl) rfl ?_
  refine wp_ld (v := .int v4) dX1_tick_71 rfl rfl rfl rfl ?_
  refine jn_rule k (fun J9 hJ9 k => ?_)
  have HJ9 : ∀ (e10 : Int64) (s11 : am_S), am_sh N n s11 → am_ok (J9 e10 s11) P → am_WP (d + 2) mX1_tick 80 [(0, .ref 41), (1, .int v2), (3, .int (am_abs v4)), (4, .long y5), (6, .long e10)] [] s11 Q := by
    intro e10 s11 h k
    replace k := hJ9 _ _ k
    refine wp_ld (v := .ref 41) dX1_tick_80 rfl rfl rfl rfl ?_
    refine wp_ld (v := .ref 41) dX1_tick_81 rfl rfl rfl rfl ?_
    refine wp_gr dX1_tick_82 rfl rfl (kk_41 h) (rr_41_0 h) ?_
    refine wp_gr dX1_tick_85 rfl rfl (kk_1 h) (rr_1_3 h) ?_
    refine wp_cst (v := .int (9 : Int32)) dX1_tick_88 rfl rfl ?_
    refine wp_ld (v := .int (am_abs v4)) dX1_tick_90 rfl rfl rfl rfl ?_
    refine wp_pu dX1_tick_91 rfl rfl ?_
    obtain ⟨g12, k⟩ := ok_g k
    refine wq_iald dX1_tick_92 (kk_2 h) g12 (v := (am_I s11 2 (((9 : Int32) + (am_abs v4)).toNatClampNeg))) rfl ?_
    refine wp_ld (v := .long y5) dX1_tick_93 rfl rfl rfl rfl ?_
    refine c_l dX1_tick_95 rfl rfl rfl (am_inv_v rfl (kk_41 h) rfl rfl rfl) (s_X1_force h) k (fun v14 s13 h k => ?_)
    refine wp_st (ls' := [(0, .ref 41), (1, .int v2), (3, .int (am_abs v4)), (4, .long y5), (6, .long e10), (8, .long v14)]) dX1_tick_98 rfl rfl rfl (Nat.le_of_ble_eq_true rfl) rfl ?_
    refine wp_ld (v := .ref 41) dX1_tick_100 rfl rfl rfl rfl ?_
    refine wp_pu dX1_tick_101 rfl rfl ?_
    refine wq_gI dX1_tick_102 rfl rfl (kk_41 h) (v := (am_I s13 41 11)) rfl ?_
    refine wp_cst (v := .int (1 : Int32)) dX1_tick_105 rfl rfl ?_
    refine wp_pu dX1_tick_106 rfl rfl ?_
    refine wp_pI dX1_tick_107 rfl rfl rfl (fun h => absurd h (by decide)) (kk_41 h) ?_
    refine wp_ld (v := .ref 41) dX1_tick_110 rfl rfl rfl rfl ?_
    refine wp_ld (v := .ref 41) dX1_tick_111 rfl rfl rfl rfl ?_
    refine wq_gI dX1_tick_112 rfl rfl (kk_41 (sh_sI h)) (v := (am_I s13 41 2)) rfl ?_
    refine wp_pu dX1_tick_115 rfl rfl ?_
    show am_WP (d + 2) mX1_tick 116 _ _ _ Q
    refine wp_ld (v := .long y5) dX1_tick_116 rfl rfl rfl rfl ?_
    refine wp_pu dX1_tick_118 rfl rfl ?_
    refine wp_ld (v := .ref 41) dX1_tick_119 rfl rfl rfl rfl ?_
    refine wp_gr dX1_tick_120 rfl rfl (kk_41 (sh_sI h)) (rr_41_1 (sh_sI h)) ?_
    refine wq_gI dX1_tick_123 rfl rfl (kk_37 (sh_sI h)) (v := (am_I s13 37 8)) rfl ?_
    refine wp_pu dX1_tick_126 rfl rfl ?_
    refine wp_ld (v := .long e10) dX1_tick_127 rfl rfl rfl rfl ?_
    refine wp_pu dX1_tick_129 rfl rfl ?_
    refine wp_pu dX1_tick_130 rfl rfl ?_
    refine wp_ld (v := .ref 41) dX1_tick_131 rfl rfl rfl rfl ?_
    refine wp_gr dX1_tick_132 rfl rfl (kk_41 (sh_sI h)) (rr_41_0 (sh_sI h)) ?_
    refine wp_gr dX1_tick_135 rfl rfl (kk_1 (sh_sI h)) (rr_1_3 (sh_sI h)) ?_
    show am_WP (d + 2) mX1_tick 138 _ _ _ Q
    refine wp_cst (v := .int (20 : Int32)) dX1_tick_138 rfl rfl ?_
    refine wq_iald dX1_tick_140 (kk_2 (sh_sI h)) (by decide) (v := (am_I s13 2 20)) rfl ?_
    refine wp_pu dX1_tick_141 rfl rfl ?_
    refine wp_pu dX1_tick_142 rfl rfl ?_
    refine wp_cst (v := .long (1000 : Int64)) dX1_tick_143 rfl rfl ?_
    refine wp_ldiv dX1_tick_146 (by decide) ?_
    refine c_u dX1_tick_147 rfl rfl rfl (am_inv_v rfl (kk_41 (sh_sI h)) rfl rfl rfl) (s_X1_turnNose (sh_sI h)) k (fun s15 h k => ?_)
    refine wp_ld (v := .int v2) dX1_tick_150 rfl rfl rfl rfl ?_
    refine c_i dX1_tick_151 rfl rfl rfl (am_inv_s rfl rfl rfl rfl) (s_X7_sine h) k (fun v18 s17 h k => ?_)
    refine wp_st (ls' := [(0, .ref 41), (1, .int v2), (3, .int (am_abs v4)), (4, .long y5), (6, .long e10), (8, .long v14), (10, .int v18)]) dX1_tick_154 rfl rfl rfl (Nat.le_of_ble_eq_true rfl) rfl ?_
    refine wp_ld (v := .int v2) dX1_tick_156 rfl rfl rfl rfl ?_
    refine c_i dX1_tick_157 rfl rfl rfl (am_inv_s rfl rfl rfl rfl) (s_X7_cosine h) k (fun v20 s19 h k => ?_)
    refine wp_st (ls' := [(0, .ref 41), (1, .int v2), (3, .int (am_abs v4)), (4, .long y5), (6, .long e10), (8, .long v14), (10, .int v18), (11, .int v20)]) dX1_tick_160 rfl rfl rfl (Nat.le_of_ble_eq_true rfl) rfl ?_
    refine wp_ld (v := .ref 41) dX1_tick_162 rfl rfl rfl rfl ?_
    refine wp_ld (v := .ref 41) dX1_tick_163 rfl rfl rfl rfl ?_
    refine wq_gI dX1_tick_164 rfl rfl (kk_41 h) (v := (am_I s19 41 6)) rfl ?_
    refine wp_pu dX1_tick_167 rfl rfl ?_
    refine wp_ld (v := .long v14) dX1_tick_168 rfl rfl rfl rfl ?_
    refine wp_pu dX1_tick_170 rfl rfl ?_
    refine wp_ld (v := .int v20) dX1_tick_171 rfl rfl rfl rfl ?_
    refine wp_pu dX1_tick_173 rfl rfl ?_
    refine wp_pu dX1_tick_174 rfl rfl ?_
    refine wp_ld (v := .long e10) dX1_tick_175 rfl rfl rfl rfl ?_
    show am_WP (d + 2) mX1_tick 177 _ _ _ Q
    refine wp_ld (v := .int v18) dX1_tick_177 rfl rfl rfl rfl ?_
    refine wp_pu dX1_tick_179 rfl rfl ?_
    refine wp_pu dX1_tick_180 rfl rfl ?_
    refine wp_pu dX1_tick_181 rfl rfl ?_
    refine wp_cst (v := .long (1000 : Int64)) dX1_tick_182 rfl rfl ?_
    refine wp_ldiv dX1_tick_185 (by decide) ?_
    refine wp_pu dX1_tick_186 rfl rfl ?_
    refine wp_cst (v := .int (2000 : Int32)) dX1_tick_187 rfl rfl ?_
    refine c_i dX1_tick_190 rfl rfl rfl (am_inv_s rfl rfl rfl rfl) (s_X7_keptWithin h) k (fun v22 s21 h k => ?_)
    refine wp_pI dX1_tick_193 rfl rfl rfl (fun h => absurd h (by decide)) (kk_41 h) ?_
    refine wp_ld (v := .ref 41) dX1_tick_196 rfl rfl rfl rfl ?_
    refine wp_ld (v := .ref 41) dX1_tick_197 rfl rfl rfl rfl ?_
    refine wq_gI dX1_tick_198 rfl rfl (kk_41 (sh_sI h)) (v := (am_I s21 41 7)) rfl ?_
    refine wp_pu dX1_tick_201 rfl rfl ?_
    refine wp_ld (v := .long v14) dX1_tick_202 rfl rfl rfl rfl ?_
    refine wp_pu dX1_tick_204 rfl rfl ?_
    refine wp_ld (v := .int v18) dX1_tick_205 rfl rfl rfl rfl ?_
    refine wp_pu dX1_tick_207 rfl rfl ?_
    refine wp_pu dX1_tick_208 rfl rfl ?_
    refine wp_ld (v := .long e10) dX1_tick_209 rfl rfl rfl rfl ?_
    show am_WP (d + 2) mX1_tick 211 _ _ _ Q
    refine wp_ld (v := .int v20) dX1_tick_211 rfl rfl rfl rfl ?_
    refine wp_pu dX1_tick_213 rfl rfl ?_
    refine wp_pu dX1_tick_214 rfl rfl ?_
    refine wp_pu dX1_tick_215 rfl rfl ?_
    refine wp_cst (v := .long (1000 : Int64)) dX1_tick_216 rfl rfl ?_
    refine wp_ldiv dX1_tick_219 (by decide) ?_
    refine wp_pu dX1_tick_220 rfl rfl ?_
    refine wp_ld (v := .ref 41) dX1_tick_221 rfl rfl rfl rfl ?_
    refine c_i dX1_tick_222 rfl rfl rfl (am_inv_v rfl (kk_41 (sh_sI h)) rfl rfl rfl) (s_X1_pullNow (sh_sI h)) k (fun v24 s23 h k => ?_)
    refine wp_pu dX1_tick_225 rfl rfl ?_
    refine wp_pu dX1_tick_226 rfl rfl ?_
    refine wp_cst (v := .int (2000 : Int32)) dX1_tick_227 rfl rfl ?_
    refine c_i dX1_tick_230 rfl rfl rfl (am_inv_s rfl rfl rfl rfl) (s_X7_keptWithin h) k (fun v26 s25 h k => ?_)
    refine wp_pI dX1_tick_233 rfl rfl rfl (fun h => absurd h (by decide)) (kk_41 h) ?_
    refine wp_ld (v := .ref 41) dX1_tick_236 rfl rfl rfl rfl ?_
    refine c_u dX1_tick_237 rfl rfl rfl (am_inv_v rfl (kk_41 (sh_sI h)) rfl rfl rfl) (s_X1_move (sh_sI h)) k (fun s27 h k => ?_)
    refine wp_ld (v := .ref 41) dX1_tick_240 rfl rfl rfl rfl ?_
    refine c_u dX1_tick_241 rfl rfl rfl (am_inv_v rfl (kk_41 h) rfl rfl rfl) (s_X1_noteEnd h) k (fun s29 h k => ?_)
    exact wp_end dX1_tick_244 rfl rfl (hP _ _ (ok_s k) h)
  refine wp_if_ge dX1_tick_72 rfl (fun c31 => have k := ok_pos c31 k; ?_) (fun c31 => have k := ok_neg c31 k; ?_)
  · exact wp_sub (HJ9 _ _ h k) rfl ⟨rfl, rfl, rfl, rfl, rfl, trivial⟩
  · refine wp_ld (v := .long v8) dX1_tick_75 rfl rfl rfl rfl ?_
    refine wp_pu dX1_tick_77 rfl rfl ?_
    refine wp_st (ls' := [(0, .ref 41), (1, .int v2), (2, .int v4), (3, .int (am_abs v4)), (4, .long y5), (6, .long (-v8))]) dX1_tick_78 rfl rfl rfl (Nat.le_of_ble_eq_true rfl) rfl ?_
    exact wp_sub (HJ9 _ _ h k) rfl ⟨rfl, rfl, rfl, rfl, rfl, trivial⟩
noncomputable def L_X7_at_46 : Nat → Int32 → Int32 → Int32 → am_S → am_FE (Unit)
  | 0, _, _, _, _ => none
  | m + 1, x5, x6, x7, s =>
    if x5 ≤ x7 then
      some (.inr ((), s))
    else
      am_bi (f_X1_goesOn s) (fun v19 s18 =>
        if v19 = 0 then
          some (.inr ((), s18))
        else
          am_bu (f_X1_tick s18) (fun s21 =>
            L_X7_at_46 m x5 x6 (x7 + (1 : Int32)) s21
          )
      )
theorem q_X7_at_46 : ∀ (m : Nat) {N n : Nat} {d : Nat} {x5 : Int32} {x6 : Int32} {x7 : Int32} {s : am_S} {P : (am_O × am_S) ⊕ (Unit × am_S) → Prop} {Q : am_O → am_S → Prop} (h : am_sh N n s)  (k : am_ok (L_X7_at_46 m x5 x6 x7 s) P) (hP : ∀ o s, P (.inl (o, s)) → am_sh N n s → Q o s) (hX : ∀ (e : Unit) s, P (.inr (e, s)) → am_sh N n s → am_WP (d + 6) mX7_at 76 [(0, .ref 0), (6, .int x6)] [] s Q), am_WP (d + 6) mX7_at 46 [(0, .ref 0), (5, .int x5), (6, .int x6), (7, .int x7)] [] s Q := by
  intro m
  induction m with
  | zero =>
    intro N n d x5 x6 x7 s P Q h  k hP hX
    exact (ok_no k).elim
  | succ m ih =>
    intro N n d x5 x6 x7 s P Q h  k hP hX
    unfold L_X7_at_46 at k
    refine wp_ld (v := .int x7) dX7_at_46 rfl rfl rfl rfl ?_
    refine wp_ld (v := .int x5) dX7_at_48 rfl rfl rfl rfl ?_
    refine wp_ic_ge dX7_at_50 rfl (fun c17 => have k := ok_pos c17 k; ?_) (fun c17 => have k := ok_neg c17 k; ?_)
    · exact wp_sub (hX _ _ (ok_s k) h) rfl ⟨rfl, rfl, trivial⟩
    · refine wp_ld (v := .ref 0) dX7_at_53 rfl rfl rfl rfl ?_
      refine wp_gr dX7_at_54 rfl rfl (kk_0 h) (rr_0_6 h) ?_
      refine c_i dX7_at_57 rfl rfl rfl (am_inv_v rfl (kk_41 h) rfl rfl rfl) (s_X1_goesOn h) k (fun v19 s18 h k => ?_)
      refine wp_if_eq dX7_at_60 rfl (fun c20 => have k := ok_pos c20 k; ?_) (fun c20 => have k := ok_neg c20 k; ?_)
      · exact wp_sub (hX _ _ (ok_s k) h) rfl ⟨rfl, rfl, trivial⟩
      · refine wp_ld (v := .ref 0) dX7_at_63 rfl rfl rfl rfl ?_
        refine wp_gr dX7_at_64 rfl rfl (kk_0 h) (rr_0_6 h) ?_
        refine c_u dX7_at_67 rfl rfl rfl (am_inv_v rfl (kk_41 h) rfl rfl rfl) (s_X1_tick h) k (fun s21 h k => ?_)
        refine wp_inc (v := (x7 + (1 : Int32))) (ls' := [(0, .ref 0), (5, .int x5), (6, .int x6), (7, .int (x7 + (1 : Int32)))]) dX7_at_70 rfl (Nat.le_of_ble_eq_true rfl) rfl rfl ?_
        refine wp_goto dX7_at_73 rfl ?_
        exact wp_sub (ih h k hP hX) rfl ⟨rfl, rfl, rfl, rfl, trivial⟩
noncomputable def f_X7_at (x1 : Int32) (x2 : Int32) (x3 : Int32) (x4 : Int32) (x5 : Int32) (x6 : Int32) (s : am_S) : am_F :=
  am_tv (f_X7_needWay x1 s) (fun v2 s1 =>
    am_mv v2 none (fun t3 => if am_k0 t3 = (4, 0) ∧ t3 < 72 then
      am_tu (f_X7_needMake t3 s1) (fun s7 =>
        am_tu (f_X7_needThrow x2 x3 x4 s7) (fun s9 =>
          am_tu (f_X7_needWithin x5 (0 : Int32) (200 : Int32) s9) (fun s11 =>
            am_tu (f_X7_needWithin x6 (0 : Int32) (5 : Int32) s11) (fun s13 =>
              am_bu (f_X1_begin x2 x3 x4 s13) (fun s15 =>
                am_lm (L_X7_at_46 ax_fuel x5 x6 (0 : Int32) s15) (fun e23 s24 =>
                  if x6 = (0 : Int32) then
                    some (.inl (some (.int (am_I s24 41 4))), s24)
                  else if x6 = (1 : Int32) then
                    some (.inl (some (.int (am_I s24 41 5))), s24)
                  else if x6 = (2 : Int32) then
                    some (.inl (some (.int (am_I s24 41 6))), s24)
                  else if x6 = (3 : Int32) then
                    some (.inl (some (.int (am_I s24 41 7))), s24)
                  else if x6 = (4 : Int32) then
                    some (.inl (some (.int (am_I s24 41 8))), s24)
                  else
                    some (.inl (some (.int (am_I s24 41 9))), s24)
                )
              )
            )
          )
        )
      )
    else none)
  )
theorem s_X7_at {N n : Nat} {d : Nat} {x1 : Int32} {x2 : Int32} {x3 : Int32} {x4 : Int32} {x5 : Int32} {x6 : Int32} {s : am_S} (h : am_sh N n s)  : am_S1 (am_sh N n) (d + 6) mX7_at [.ref 0, .int x1, .int x2, .int x3, .int x4, .int x5, .int x6] s (f_X7_at x1 x2 x3 x4 x5 x6 s) := by
  intro P Q k hP
  show am_WP (d + 6) mX7_at 0 [(0, .ref 0), (1, .int x1), (2, .int x2), (3, .int x3), (4, .int x4), (5, .int x5), (6, .int x6)] [] s Q
  unfold f_X7_at at k
  refine wp_ld (v := .ref 0) dX7_at_0 rfl rfl rfl rfl ?_
  refine wp_ld (v := .ref 0) dX7_at_1 rfl rfl rfl rfl ?_
  refine wp_ld (v := .int x1) dX7_at_2 rfl rfl rfl rfl ?_
  refine t_v dX7_at_3 rfl rfl rfl (am_inv_v rfl (kk_0 h) rfl rfl rfl) (s_X7_needWay h) k rfl rfl hP (fun v2 s1 h k => ?_)
  obtain ⟨t3, c4, k⟩ := ok_mn k
  subst c4
  obtain ⟨g5, k⟩ := ok_g k
  have f6 := kk_up h g5
  refine t_u dX7_at_6 rfl rfl rfl (am_inv_v rfl (kk_0 h) rfl rfl rfl) (s_X7_needMake h f6) k rfl rfl hP (fun s7 h k => ?_)
  refine wp_ld (v := .int x2) dX7_at_9 rfl rfl rfl rfl ?_
  refine wp_ld (v := .int x3) dX7_at_10 rfl rfl rfl rfl ?_
  refine wp_ld (v := .int x4) dX7_at_11 rfl rfl rfl rfl ?_
  refine t_u dX7_at_13 rfl rfl rfl (am_inv_s rfl rfl rfl rfl) (s_X7_needThrow h) k rfl rfl hP (fun s9 h k => ?_)
  refine wp_ld (v := .int x5) dX7_at_16 rfl rfl rfl rfl ?_
  refine wp_cst (v := .int (0 : Int32)) dX7_at_18 rfl rfl ?_
  refine wp_cst (v := .int (200 : Int32)) dX7_at_19 rfl rfl ?_
  refine t_u dX7_at_22 rfl rfl rfl (am_inv_s rfl rfl rfl rfl) (s_X7_needWithin h) k rfl rfl hP (fun s11 h k => ?_)
  refine wp_ld (v := .int x6) dX7_at_25 rfl rfl rfl rfl ?_
  refine wp_cst (v := .int (0 : Int32)) dX7_at_27 rfl rfl ?_
  refine wp_cst (v := .int (5 : Int32)) dX7_at_28 rfl rfl ?_
  refine t_u dX7_at_29 rfl rfl rfl (am_inv_s rfl rfl rfl rfl) (s_X7_needWithin h) k rfl rfl hP (fun s13 h k => ?_)
  refine wp_ld (v := .ref 0) dX7_at_32 rfl rfl rfl rfl ?_
  refine wp_gr dX7_at_33 rfl rfl (kk_0 h) (rr_0_6 h) ?_
  refine wp_ld (v := .int x2) dX7_at_36 rfl rfl rfl rfl ?_
  refine wp_ld (v := .int x3) dX7_at_37 rfl rfl rfl rfl ?_
  refine wp_ld (v := .int x4) dX7_at_38 rfl rfl rfl rfl ?_
  refine c_u dX7_at_40 rfl rfl rfl (am_inv_v rfl (kk_41 h) rfl rfl rfl) (s_X1_begin h) k (fun s15 h k => ?_)
  refine wp_cst (v := .int (0 : Int32)) dX7_at_43 rfl rfl ?_
  refine wp_st (ls' := [(0, .ref 0), (1, .int x1), (2, .int x2), (3, .int x3), (4, .int x4), (5, .int x5), (6, .int x6), (7, .int (0 : Int32))]) dX7_at_44 rfl rfl rfl (Nat.le_of_ble_eq_true rfl) rfl ?_
  refine lp_m k (fun P1 k hA hB => ?_)
  refine wp_sub (q_X7_at_46 ax_fuel h k (fun o s p h => hP o s (hA o s p) h) (fun e23 s24 p h => have k := hB e23 s24 p; ?_)) rfl ⟨rfl, rfl, rfl, rfl, trivial⟩
  refine wp_ld (v := .int x6) dX7_at_76 rfl rfl rfl rfl ?_
  by_cases c25 : x6 = (0 : Int32)
  · have k := ok_pos c25 k
    refine sw_hit dX7_at_78 rfl c25 rfl ?_
    refine wp_ld (v := .ref 0) dX7_at_112 rfl rfl rfl rfl ?_
    refine wp_gr dX7_at_113 rfl rfl (kk_0 h) (rr_0_6 h) ?_
    refine wq_gI dX7_at_116 rfl rfl (kk_41 h) (v := (am_I s24 41 4)) rfl ?_
    exact wp_end dX7_at_119 rfl (am_end_i rfl) (hP _ _ (ok_s k) h)
  replace k := ok_neg c25 k
  by_cases c26 : x6 = (1 : Int32)
  · have k := ok_pos c26 k
    refine sw_hit dX7_at_78 rfl c26 rfl ?_
    refine wp_ld (v := .ref 0) dX7_at_120 rfl rfl rfl rfl ?_
    refine wp_gr dX7_at_121 rfl rfl (kk_0 h) (rr_0_6 h) ?_
    refine wq_gI dX7_at_124 rfl rfl (kk_41 h) (v := (am_I s24 41 5)) rfl ?_
    exact wp_end dX7_at_127 rfl (am_end_i rfl) (hP _ _ (ok_s k) h)
  replace k := ok_neg c26 k
  by_cases c27 : x6 = (2 : Int32)
  · have k := ok_pos c27 k
    refine sw_hit dX7_at_78 rfl c27 rfl ?_
    refine wp_ld (v := .ref 0) dX7_at_128 rfl rfl rfl rfl ?_
    refine wp_gr dX7_at_129 rfl rfl (kk_0 h) (rr_0_6 h) ?_
    refine wq_gI dX7_at_132 rfl rfl (kk_41 h) (v := (am_I s24 41 6)) rfl ?_
    exact wp_end dX7_at_135 rfl (am_end_i rfl) (hP _ _ (ok_s k) h)
  replace k := ok_neg c27 k
  by_cases c28 : x6 = (3 : Int32)
  · have k := ok_pos c28 k
    refine sw_hit dX7_at_78 rfl c28 rfl ?_
    refine wp_ld (v := .ref 0) dX7_at_136 rfl rfl rfl rfl ?_
    refine wp_gr dX7_at_137 rfl rfl (kk_0 h) (rr_0_6 h) ?_
    refine wq_gI dX7_at_140 rfl rfl (kk_41 h) (v := (am_I s24 41 7)) rfl ?_
    exact wp_end dX7_at_143 rfl (am_end_i rfl) (hP _ _ (ok_s k) h)
  replace k := ok_neg c28 k
  by_cases c29 : x6 = (4 : Int32)
  · have k := ok_pos c29 k
    refine sw_hit dX7_at_78 rfl c29 rfl ?_
    refine wp_ld (v := .ref 0) dX7_at_144 rfl rfl rfl rfl ?_
    refine wp_gr dX7_at_145 rfl rfl (kk_0 h) (rr_0_6 h) ?_
    refine wq_gI dX7_at_148 rfl rfl (kk_41 h) (v := (am_I s24 41 8)) rfl ?_
    exact wp_end dX7_at_151 rfl (am_end_i rfl) (hP _ _ (ok_s k) h)
  replace k := ok_neg c29 k
  refine ts_out dX7_at_78 rfl (by
      intro j h1 h2
      have hj : j = 0 ∨ j = 1 ∨ j = 2 ∨ j = 3 ∨ j = 4 := by omega
      rcases hj with e | e | e | e | e
      · subst e; exact c25
      · subst e; exact c26
      · subst e; exact c27
      · subst e; exact c28
      · subst e; exact c29
      ) ?_
  refine wp_ld (v := .ref 0) dX7_at_152 rfl rfl rfl rfl ?_
  refine wp_gr dX7_at_153 rfl rfl (kk_0 h) (rr_0_6 h) ?_
  refine wq_gI dX7_at_156 rfl rfl (kk_41 h) (v := (am_I s24 41 9)) rfl ?_
  exact wp_end dX7_at_159 rfl (am_end_i rfl) (hP _ _ (ok_s k) h)
noncomputable def f_L_at (x2 : Int32) (x3 : Int32) (x4 : Int32) (x5 : Int32) (x6 : Int32) (x7 : Int32) (s : am_S) : am_F :=
  am_xi (f_X7_at x2 x3 x4 x5 x6 x7 s) (fun v2 s1 =>
    some (.inl (some (.int (0 : Int32))), (am_sL s1 71 0 v2.toInt64))
  ) (fun e s1 =>
    if e = 3 then
      some (.inl (some (.int (1 : Int32))), s1)
    else
      if e = 1 then
        some (.inl (some (.int (2 : Int32))), s1)
      else
        if e = 0 then
          some (.inl (some (.int (3 : Int32))), s1)
        else
          none
  )
theorem s_L_at {N : Nat} {d : Nat} {x2 : Int32} {x3 : Int32} {x4 : Int32} {x5 : Int32} {x6 : Int32} {x7 : Int32} {s : am_S} (h : am_shE N s)  : am_S1 (am_shE N) (d + 7) mL_at [.ref 0, .int x2, .int x3, .int x4, .int x5, .int x6, .int x7, .ref 71] s (f_L_at x2 x3 x4 x5 x6 x7 s) := by
  intro P Q k hP
  show am_WP (d + 7) mL_at 0 [(0, .ref 0), (1, .int x2), (2, .int x3), (3, .int x4), (4, .int x5), (5, .int x6), (6, .int x7), (7, .ref 71)] [] s Q
  unfold f_L_at at k
  refine wp_ld (v := .ref 71) dL_at_0 rfl rfl rfl rfl ?_
  refine wp_cst (v := .int (0 : Int32)) dL_at_2 rfl rfl ?_
  refine wp_ld (v := .ref 0) dL_at_3 rfl rfl rfl rfl ?_
  refine wp_ld (v := .int x2) dL_at_4 rfl rfl rfl rfl ?_
  refine wp_ld (v := .int x3) dL_at_5 rfl rfl rfl rfl ?_
  refine wp_ld (v := .int x4) dL_at_6 rfl rfl rfl rfl ?_
  refine wp_ld (v := .int x5) dL_at_7 rfl rfl rfl rfl ?_
  refine wp_ld (v := .int x6) dL_at_9 rfl rfl rfl rfl ?_
  refine wp_ld (v := .int x7) dL_at_11 rfl rfl rfl rfl ?_
  refine x_i dL_at_13 rfl rfl rfl (am_inv_v rfl (kE_0 h) rfl rfl rfl) (sE h (fun _ h => s_X7_at h)) k rfl (List.cons_ne_nil _ _) (fun v2 s1 h k => ?_) (fun e s1 h k => ?_)
  · refine wp_pu dL_at_16 rfl rfl ?_
    refine wq_last dL_at_17 (kE_71 h) (by decide) (j := 0) rfl ?_
    refine wp_goto dL_at_18 rfl ?_
    refine wp_cst (v := .int (0 : Int32)) dL_at_33 rfl rfl ?_
    exact wp_end dL_at_34 rfl (am_end_i rfl) (hP _ _ (ok_s k) (shE_sL h))
  · by_cases c3 : e = 3
    · have k := ok_pos c3 k
      subst c3
      refine ⟨_, _, rfl, ?_⟩
      refine wp_cst (v := .int (1 : Int32)) dL_at_23 rfl rfl ?_
      exact wp_end dL_at_24 rfl (am_end_i rfl) (hP _ _ (ok_s k) h)
    replace k := ok_neg c3 k
    by_cases c4 : e = 1
    · have k := ok_pos c4 k
      subst c4
      refine ⟨_, _, rfl, ?_⟩
      refine wp_cst (v := .int (2 : Int32)) dL_at_27 rfl rfl ?_
      exact wp_end dL_at_28 rfl (am_end_i rfl) (hP _ _ (ok_s k) h)
    replace k := ok_neg c4 k
    by_cases c5 : e = 0
    · have k := ok_pos c5 k
      subst c5
      refine ⟨_, _, rfl, ?_⟩
      refine wp_cst (v := .int (3 : Int32)) dL_at_31 rfl rfl ?_
      exact wp_end dL_at_32 rfl (am_end_i rfl) (hP _ _ (ok_s k) h)
    replace k := ok_neg c5 k
    exact (ok_no k).elim
noncomputable def f_X5_handAt (x1 : Int32) (s : am_S) : am_F :=
  if x1 < 0 then
    some (.inl (some (.null)), s)
  else
    if (am_I s 1 7) ≤ x1 then
      some (.inl (some (.null)), s)
    else
      if (5 : Int32) ≤ x1 then
        some (.inl (some (.null)), s)
      else
        if am_in x1 5 = true then
          some (.inl (some (.ref (23 + 2 * x1.toNatClampNeg))), s)
        else none
theorem s_X5_handAt {N n : Nat} {d : Nat} {x1 : Int32} {s : am_S} (h : am_sh N n s)  : am_S1 (am_sh N n) (d) mX5_handAt [.ref 1, .int x1] s (f_X5_handAt x1 s) := by
  intro P Q k hP
  show am_WP (d) mX5_handAt 0 [(0, .ref 1), (1, .int x1)] [] s Q
  unfold f_X5_handAt at k
  refine wp_ld (v := .int x1) dX5_handAt_0 rfl rfl rfl rfl ?_
  refine wp_if_lt dX5_handAt_1 rfl (fun c1 => have k := ok_pos c1 k; ?_) (fun c1 => have k := ok_neg c1 k; ?_)
  · refine wp_cst (v := .null) dX5_handAt_26 rfl rfl ?_
    exact wp_end dX5_handAt_27 rfl rfl (hP _ _ (ok_s k) h)
  · refine wp_ld (v := .int x1) dX5_handAt_4 rfl rfl rfl rfl ?_
    refine wp_ld (v := .ref 1) dX5_handAt_5 rfl rfl rfl rfl ?_
    refine wq_gI dX5_handAt_6 rfl rfl (kk_1 h) (v := (am_I s 1 7)) rfl ?_
    refine wp_ic_ge dX5_handAt_9 rfl (fun c2 => have k := ok_pos c2 k; ?_) (fun c2 => have k := ok_neg c2 k; ?_)
    · refine wp_cst (v := .null) dX5_handAt_26 rfl rfl ?_
      exact wp_end dX5_handAt_27 rfl rfl (hP _ _ (ok_s k) h)
    · refine wp_ld (v := .int x1) dX5_handAt_12 rfl rfl rfl rfl ?_
      refine wp_cst (v := .int (5 : Int32)) dX5_handAt_13 rfl rfl ?_
      refine wp_ic_ge dX5_handAt_14 rfl (fun c3 => have k := ok_pos c3 k; ?_) (fun c3 => have k := ok_neg c3 k; ?_)
      · refine wp_cst (v := .null) dX5_handAt_26 rfl rfl ?_
        exact wp_end dX5_handAt_27 rfl rfl (hP _ _ (ok_s k) h)
      · refine wp_ld (v := .ref 1) dX5_handAt_17 rfl rfl rfl rfl ?_
        refine wp_gr dX5_handAt_18 rfl rfl (kk_1 h) (rr_1_6 h) ?_
        refine wp_ld (v := .int x1) dX5_handAt_21 rfl rfl rfl rfl ?_
        obtain ⟨g4, k⟩ := ok_g k
        have f5 := kf_hands h g4
        refine wq_aald dX5_handAt_22 (kk_4 h) (by decide) g4 (rr_hands h g4) ?_
        refine wp_goto dX5_handAt_23 rfl ?_
        exact wp_end dX5_handAt_27 rfl rfl (hP _ _ (ok_s k) h)
noncomputable def f_X7_needHand (x1 : Int32) (s : am_S) : am_F :=
  am_bv (f_X5_handAt x1 s) (fun v2 s1 =>
    am_mv v2 (
      some (.inr 3, am_tick s1)
    ) (fun t3 => if am_k0 t3 = (4, 0) ∧ t3 < 72 then
      some (.inl (some (.ref t3)), s1)
    else none)
  )
theorem s_X7_needHand {N n : Nat} {d : Nat} {x1 : Int32} {s : am_S} (h : am_sh N n s)  : am_S1 (am_sh N n) (d + 1) mX7_needHand [.ref 0, .int x1] s (f_X7_needHand x1 s) := by
  intro P Q k hP
  show am_WP (d + 1) mX7_needHand 0 [(0, .ref 0), (1, .int x1)] [] s Q
  unfold f_X7_needHand at k
  refine wp_ld (v := .ref 0) dX7_needHand_0 rfl rfl rfl rfl ?_
  refine wp_gr dX7_needHand_1 rfl rfl (kk_0 h) (rr_0_0 h) ?_
  refine wp_ld (v := .int x1) dX7_needHand_4 rfl rfl rfl rfl ?_
  refine c_v dX7_needHand_5 rfl rfl rfl (am_inv_v rfl (kk_1 h) rfl rfl rfl) (s_X5_handAt h) k (fun v2 s1 h k => ?_)
  rcases ok_mv k with ⟨c4, k⟩ | ⟨t3, c4, k⟩
  · subst c4
    refine wp_st (ls' := [(0, .ref 0), (1, .int x1), (2, .null)]) dX7_needHand_8 rfl rfl rfl (Nat.le_of_ble_eq_true rfl) rfl ?_
    refine wp_ld (v := .null) dX7_needHand_9 rfl rfl rfl rfl ?_
    refine wp_jp dX7_needHand_10 rfl rfl ?_
    exact wp_thr dX7_needHand_13 rfl rfl (am_thr_2 rfl rfl dX7_needHand_16 dX7_needHand_17 dX7_needHand_20 dX7_needHand_23 rfl) (hP _ _ (ok_s k) (sh_tk h))
  · subst c4
    obtain ⟨g5, k⟩ := ok_g k
    have f6 := kk_up h g5
    refine wp_st (ls' := [(0, .ref 0), (1, .int x1), (2, .ref t3)]) dX7_needHand_8 rfl rfl rfl (Nat.le_of_ble_eq_true rfl) rfl ?_
    refine wp_ld (v := .ref t3) dX7_needHand_9 rfl rfl rfl rfl ?_
    refine wp_jp dX7_needHand_10 rfl rfl ?_
    refine wp_ld (v := .ref t3) dX7_needHand_24 rfl rfl rfl rfl ?_
    exact wp_end dX7_needHand_25 rfl rfl (hP _ _ (ok_s k) h)
noncomputable def L_X1_flyOut_10 : Nat → Int32 → am_S → am_FE (Unit)
  | 0, _, _ => none
  | m + 1, x4, s =>
    if (200 : Int32) ≤ x4 then
      some (.inr ((), s))
    else
      am_bi (f_X1_goesOn s) (fun v5 s4 =>
        if v5 = 0 then
          some (.inr ((), s4))
        else
          am_bu (f_X1_tick s4) (fun s7 =>
            L_X1_flyOut_10 m (x4 + (1 : Int32)) s7
          )
      )
theorem q_X1_flyOut_10 : ∀ (m : Nat) {N n : Nat} {d : Nat} {x4 : Int32} {s : am_S} {P : (am_O × am_S) ⊕ (Unit × am_S) → Prop} {Q : am_O → am_S → Prop} (h : am_sh N n s)  (k : am_ok (L_X1_flyOut_10 m x4 s) P) (hP : ∀ o s, P (.inl (o, s)) → am_sh N n s → Q o s) (hX : ∀ (e : Unit) s, P (.inr (e, s)) → am_sh N n s → am_WP (d + 3) mX1_flyOut 35 [] [] s Q), am_WP (d + 3) mX1_flyOut 10 [(0, .ref 41), (4, .int x4)] [] s Q := by
  intro m
  induction m with
  | zero =>
    intro N n d x4 s P Q h  k hP hX
    exact (ok_no k).elim
  | succ m ih =>
    intro N n d x4 s P Q h  k hP hX
    unfold L_X1_flyOut_10 at k
    refine wp_ld (v := .int x4) dX1_flyOut_10 rfl rfl rfl rfl ?_
    refine wp_cst (v := .int (200 : Int32)) dX1_flyOut_12 rfl rfl ?_
    refine wp_ic_ge dX1_flyOut_15 rfl (fun c3 => have k := ok_pos c3 k; ?_) (fun c3 => have k := ok_neg c3 k; ?_)
    · exact wp_sub (hX _ _ (ok_s k) h) rfl trivial
    · refine wp_ld (v := .ref 41) dX1_flyOut_18 rfl rfl rfl rfl ?_
      refine c_i dX1_flyOut_19 rfl rfl rfl (am_inv_v rfl (kk_41 h) rfl rfl rfl) (s_X1_goesOn h) k (fun v5 s4 h k => ?_)
      refine wp_if_eq dX1_flyOut_22 rfl (fun c6 => have k := ok_pos c6 k; ?_) (fun c6 => have k := ok_neg c6 k; ?_)
      · exact wp_sub (hX _ _ (ok_s k) h) rfl trivial
      · refine wp_ld (v := .ref 41) dX1_flyOut_25 rfl rfl rfl rfl ?_
        refine c_u dX1_flyOut_26 rfl rfl rfl (am_inv_v rfl (kk_41 h) rfl rfl rfl) (s_X1_tick h) k (fun s7 h k => ?_)
        refine wp_inc (v := (x4 + (1 : Int32))) (ls' := [(0, .ref 41), (4, .int (x4 + (1 : Int32)))]) dX1_flyOut_29 rfl (Nat.le_of_ble_eq_true rfl) rfl rfl ?_
        refine wp_goto dX1_flyOut_32 rfl ?_
        exact wp_sub (ih h k hP hX) rfl ⟨rfl, rfl, trivial⟩
noncomputable def f_X1_flyOut (x1 : Int32) (x2 : Int32) (x3 : Int32) (s : am_S) : am_F :=
  am_bu (f_X1_begin x1 x2 x3 s) (fun s1 =>
    am_lm (L_X1_flyOut_10 ax_fuel (0 : Int32) s1) (fun e9 s10 =>
      some (.inl none, s10)
    )
  )
theorem s_X1_flyOut {N n : Nat} {d : Nat} {x1 : Int32} {x2 : Int32} {x3 : Int32} {s : am_S} (h : am_sh N n s)  : am_S1 (am_sh N n) (d + 3) mX1_flyOut [.ref 41, .int x1, .int x2, .int x3] s (f_X1_flyOut x1 x2 x3 s) := by
  intro P Q k hP
  show am_WP (d + 3) mX1_flyOut 0 [(0, .ref 41), (1, .int x1), (2, .int x2), (3, .int x3)] [] s Q
  unfold f_X1_flyOut at k
  refine wp_ld (v := .ref 41) dX1_flyOut_0 rfl rfl rfl rfl ?_
  refine wp_ld (v := .int x1) dX1_flyOut_1 rfl rfl rfl rfl ?_
  refine wp_ld (v := .int x2) dX1_flyOut_2 rfl rfl rfl rfl ?_
  refine wp_ld (v := .int x3) dX1_flyOut_3 rfl rfl rfl rfl ?_
  refine c_u dX1_flyOut_4 rfl rfl rfl (am_inv_v rfl (kk_41 h) rfl rfl rfl) (s_X1_begin h) k (fun s1 h k => ?_)
  refine wp_cst (v := .int (0 : Int32)) dX1_flyOut_7 rfl rfl ?_
  refine wp_st (ls' := [(0, .ref 41), (1, .int x1), (2, .int x2), (3, .int x3), (4, .int (0 : Int32))]) dX1_flyOut_8 rfl rfl rfl (Nat.le_of_ble_eq_true rfl) rfl ?_
  refine lp_m k (fun P1 k hA hB => ?_)
  refine wp_sub (q_X1_flyOut_10 ax_fuel h k (fun o s p h => hP o s (hA o s p) h) (fun e9 s10 p h => have k := hB e9 s10 p; ?_)) rfl ⟨rfl, rfl, trivial⟩
  exact wp_end dX1_flyOut_35 rfl rfl (hP _ _ (ok_s k) h)
noncomputable def f_X1_score (x1 : Int32) (s : am_S) : am_F :=
  if x1 = 0 then
    some (.inl (some (.int (am_I s 41 4))), s)
  else
    some (.inl (some (.int (am_I s 41 11))), s)
theorem s_X1_score {N n : Nat} {d : Nat} {x1 : Int32} {s : am_S} (h : am_sh N n s)  : am_S1 (am_sh N n) (d) mX1_score [.ref 41, .int x1] s (f_X1_score x1 s) := by
  intro P Q k hP
  show am_WP (d) mX1_score 0 [(0, .ref 41), (1, .int x1)] [] s Q
  unfold f_X1_score at k
  refine wp_ld (v := .int x1) dX1_score_0 rfl rfl rfl rfl ?_
  refine wp_if_eq dX1_score_1 rfl (fun c1 => have k := ok_pos c1 k; ?_) (fun c1 => have k := ok_neg c1 k; ?_)
  · refine wp_ld (v := .ref 41) dX1_score_11 rfl rfl rfl rfl ?_
    refine wq_gI dX1_score_12 rfl rfl (kk_41 h) (v := (am_I s 41 4)) rfl ?_
    exact wp_end dX1_score_15 rfl (am_end_i rfl) (hP _ _ (ok_s k) h)
  · refine wp_ld (v := .ref 41) dX1_score_4 rfl rfl rfl rfl ?_
    refine wq_gI dX1_score_5 rfl rfl (kk_41 h) (v := (am_I s 41 11)) rfl ?_
    refine wp_goto dX1_score_8 rfl ?_
    exact wp_end dX1_score_15 rfl (am_end_i rfl) (hP _ _ (ok_s k) h)
noncomputable def L_X7_reachOf_6 : Nat → Nat → Int32 → Int32 → Int64 → Int32 → am_S → am_FE (Int64)
  | 0, _, _, _, _, _, _ => none
  | m + 1, a1, x2, x3, x4, x6, s =>
    if (am_I s a1 2) ≤ x6 then
      some (.inr (x4, s))
    else
      am_bi (f_X4_get a1 x6 (0 : Int32) s) (fun v3 s2 =>
        am_bi (f_X4_get a1 x6 (1 : Int32) s2) (fun v5 s4 =>
          am_bu (f_X1_flyOut x2 v3 v5 s4) (fun s6 =>
            am_bi (f_X4_get a1 x6 (2 : Int32) s6) (fun v9 s8 =>
              am_bi (f_X1_score x3 s8) (fun v11 s10 =>
                L_X7_reachOf_6 m a1 x2 x3 (x4 + (v9 * v11).toInt64) (x6 + (1 : Int32)) s10
              )
            )
          )
        )
      )
theorem q_X7_reachOf_6 : ∀ (m : Nat) {N n : Nat} {d : Nat} {a1 : Nat} {x2 : Int32} {x3 : Int32} {x4 : Int64} {x6 : Int32} {s : am_S} {P : (am_O × am_S) ⊕ (Int64 × am_S) → Prop} {Q : am_O → am_S → Prop} (h : am_sh N n s) (fa1 : am_kf n a1 4) (k : am_ok (L_X7_reachOf_6 m a1 x2 x3 x4 x6 s) P) (hP : ∀ o s, P (.inl (o, s)) → am_sh N n s → Q o s) (hX : ∀ (e : Int64) s, P (.inr (e, s)) → am_sh N n s → am_WP (d + 4) mX7_reachOf 65 [(4, .long e)] [] s Q), am_WP (d + 4) mX7_reachOf 6 [(0, .ref 0), (1, .ref a1), (2, .int x2), (3, .int x3), (4, .long x4), (6, .int x6)] [] s Q := by
  intro m
  induction m with
  | zero =>
    intro N n d a1 x2 x3 x4 x6 s P Q h fa1 k hP hX
    exact (ok_no k).elim
  | succ m ih =>
    intro N n d a1 x2 x3 x4 x6 s P Q h fa1 k hP hX
    unfold L_X7_reachOf_6 at k
    refine wp_ld (v := .int x6) dX7_reachOf_6 rfl rfl rfl rfl ?_
    refine wp_ld (v := .ref a1) dX7_reachOf_8 rfl rfl rfl rfl ?_
    refine wq_gI dX7_reachOf_9 rfl rfl (kk_f h fa1) (v := (am_I s a1 2)) rfl ?_
    refine wp_ic_ge dX7_reachOf_12 rfl (fun c1 => have k := ok_pos c1 k; ?_) (fun c1 => have k := ok_neg c1 k; ?_)
    · exact wp_sub (hX _ _ (ok_s k) h) rfl ⟨rfl, trivial⟩
    · refine wp_ld (v := .ref 0) dX7_reachOf_15 rfl rfl rfl rfl ?_
      refine wp_gr dX7_reachOf_16 rfl rfl (kk_0 h) (rr_0_6 h) ?_
      refine wp_ld (v := .int x2) dX7_reachOf_19 rfl rfl rfl rfl ?_
      refine wp_ld (v := .ref a1) dX7_reachOf_20 rfl rfl rfl rfl ?_
      refine wp_ld (v := .int x6) dX7_reachOf_21 rfl rfl rfl rfl ?_
      refine wp_cst (v := .int (0 : Int32)) dX7_reachOf_23 rfl rfl ?_
      refine c_i dX7_reachOf_24 rfl rfl rfl (am_inv_v rfl (kk_f h fa1) rfl rfl rfl) (s_X4_get h fa1) k (fun v3 s2 h k => ?_)
      refine wp_ld (v := .ref a1) dX7_reachOf_27 rfl rfl rfl rfl ?_
      refine wp_ld (v := .int x6) dX7_reachOf_28 rfl rfl rfl rfl ?_
      refine wp_cst (v := .int (1 : Int32)) dX7_reachOf_30 rfl rfl ?_
      refine c_i dX7_reachOf_31 rfl rfl rfl (am_inv_v rfl (kk_f h fa1) rfl rfl rfl) (s_X4_get h fa1) k (fun v5 s4 h k => ?_)
      refine c_u dX7_reachOf_34 rfl rfl rfl (am_inv_v rfl (kk_41 h) rfl rfl rfl) (s_X1_flyOut h) k (fun s6 h k => ?_)
      refine wp_ld (v := .long x4) dX7_reachOf_37 rfl rfl rfl rfl ?_
      refine wp_ld (v := .ref a1) dX7_reachOf_39 rfl rfl rfl rfl ?_
      refine wp_ld (v := .int x6) dX7_reachOf_40 rfl rfl rfl rfl ?_
      refine wp_cst (v := .int (2 : Int32)) dX7_reachOf_42 rfl rfl ?_
      refine c_i dX7_reachOf_43 rfl rfl rfl (am_inv_v rfl (kk_f h fa1) rfl rfl rfl) (s_X4_get h fa1) k (fun v9 s8 h k => ?_)
      refine wp_ld (v := .ref 0) dX7_reachOf_46 rfl rfl rfl rfl ?_
      refine wp_gr dX7_reachOf_47 rfl rfl (kk_0 h) (rr_0_6 h) ?_
      refine wp_ld (v := .int x3) dX7_reachOf_50 rfl rfl rfl rfl ?_
      refine c_i dX7_reachOf_51 rfl rfl rfl (am_inv_v rfl (kk_41 h) rfl rfl rfl) (s_X1_score h) k (fun v11 s10 h k => ?_)
      refine wp_pu dX7_reachOf_54 rfl rfl ?_
      refine wp_pu dX7_reachOf_55 rfl rfl ?_
      refine wp_pu dX7_reachOf_56 rfl rfl ?_
      refine wp_st (ls' := [(0, .ref 0), (1, .ref a1), (2, .int x2), (3, .int x3), (4, .long (x4 + (v9 * v11).toInt64)), (6, .int x6)]) dX7_reachOf_57 rfl rfl rfl (Nat.le_of_ble_eq_true rfl) rfl ?_
      refine wp_inc (v := (x6 + (1 : Int32))) (ls' := [(0, .ref 0), (1, .ref a1), (2, .int x2), (3, .int x3), (4, .long (x4 + (v9 * v11).toInt64)), (6, .int (x6 + (1 : Int32)))]) dX7_reachOf_59 rfl (Nat.le_of_ble_eq_true rfl) rfl rfl ?_
      refine wp_goto dX7_reachOf_62 rfl ?_
      exact wp_sub (ih h fa1 k hP hX) rfl ⟨rfl, rfl, rfl, rfl, rfl, rfl, trivial⟩
noncomputable def f_X7_reachOf (b1 : Nat) (x2 : Int32) (x3 : Int32) (s : am_S) : am_F :=
  am_lm (L_X7_reachOf_6 ax_fuel b1 x2 x3 (0 : Int64) (0 : Int32) s) (fun e12 s13 =>
    some (.inl (some (.long e12)), s13)
  )
theorem s_X7_reachOf {N n : Nat} {d : Nat} {b1 : Nat} {x2 : Int32} {x3 : Int32} {s : am_S} (h : am_sh N n s) (fb1 : am_kf n b1 4) : am_S1 (am_sh N n) (d + 4) mX7_reachOf [.ref 0, .ref b1, .int x2, .int x3] s (f_X7_reachOf b1 x2 x3 s) := by
  intro P Q k hP
  show am_WP (d + 4) mX7_reachOf 0 [(0, .ref 0), (1, .ref b1), (2, .int x2), (3, .int x3)] [] s Q
  unfold f_X7_reachOf at k
  refine wp_cst (v := .long (0 : Int64)) dX7_reachOf_0 rfl rfl ?_
  refine wp_st (ls' := [(0, .ref 0), (1, .ref b1), (2, .int x2), (3, .int x3), (4, .long (0 : Int64))]) dX7_reachOf_1 rfl rfl rfl (Nat.le_of_ble_eq_true rfl) rfl ?_
  refine wp_cst (v := .int (0 : Int32)) dX7_reachOf_3 rfl rfl ?_
  refine wp_st (ls' := [(0, .ref 0), (1, .ref b1), (2, .int x2), (3, .int x3), (4, .long (0 : Int64)), (6, .int (0 : Int32))]) dX7_reachOf_4 rfl rfl rfl (Nat.le_of_ble_eq_true rfl) rfl ?_
  refine lp_m k (fun P1 k hA hB => ?_)
  refine wp_sub (q_X7_reachOf_6 ax_fuel h fb1 k (fun o s p h => hP o s (hA o s p) h) (fun e12 s13 p h => have k := hB e12 s13 p; ?_)) rfl ⟨rfl, rfl, rfl, rfl, rfl, rfl, trivial⟩
  refine wp_ld (v := .long e12) dX7_reachOf_65 rfl rfl rfl rfl ?_
  exact wp_end dX7_reachOf_67 rfl (am_end_l rfl) (hP _ _ (ok_s k) h)
noncomputable def L_X7_bestEarsOf_14 : Nat → Nat → Int32 → Int32 → Int64 → Int32 → am_S → am_FE (Int32)
  | 0, _, _, _, _, _, _ => none
  | m + 1, a1, x2, x3, x4, x6, s =>
    if (9 : Int32) < x6 then
      some (.inr (x3, s))
    else
      am_bl (f_X7_reachOf a1 (-x6) x2 s) (fun v5 s4 =>
        am_jn (fun (e7 : (Int32 × Int64)) s8 =>
          am_bl (f_X7_reachOf a1 x6 x2 s8) (fun v10 s9 =>
            if v10 ≤ e7.2 then
              L_X7_bestEarsOf_14 m a1 x2 e7.1 e7.2 (x6 + (1 : Int32)) s9
            else
              L_X7_bestEarsOf_14 m a1 x2 x6 v10 (x6 + (1 : Int32)) s9
          )
        ) (fun J6 =>
          if v5 ≤ x4 then
            J6 (x3, x4) s4
          else
            J6 ((-x6), v5) s4
        )
      )
theorem q_X7_bestEarsOf_14 : ∀ (m : Nat) {N n : Nat} {d : Nat} {a1 : Nat} {x2 : Int32} {x3 : Int32} {x4 : Int64} {x6 : Int32} {s : am_S} {P : (am_O × am_S) ⊕ (Int32 × am_S) → Prop} {Q : am_O → am_S → Prop} (h : am_sh N n s) (fa1 : am_kf n a1 4) (k : am_ok (L_X7_bestEarsOf_14 m a1 x2 x3 x4 x6 s) P) (hP : ∀ o s, P (.inl (o, s)) → am_sh N n s → Q o s) (hX : ∀ (e : Int32) s, P (.inr (e, s)) → am_sh N n s → am_WP (d + 5) mX7_bestEarsOf 79 [(3, .int e)] [] s Q), am_WP (d + 5) mX7_bestEarsOf 14 [(0, .ref 0), (1, .ref a1), (2, .int x2), (3, .int x3), (4, .long x4), (6, .int x6)] [] s Q := by
  intro m
  induction m with
  | zero =>
    intro N n d a1 x2 x3 x4 x6 s P Q h fa1 k hP hX
    exact (ok_no k).elim
  | succ m ih =>
    intro N n d a1 x2 x3 x4 x6 s P Q h fa1 k hP hX
    unfold L_X7_bestEarsOf_14 at k
    refine wp_ld (v := .int x6) dX7_bestEarsOf_14 rfl rfl rfl rfl ?_
    refine wp_cst (v := .int (9 : Int32)) dX7_bestEarsOf_16 rfl rfl ?_
    refine wp_ic_gt dX7_bestEarsOf_18 rfl (fun c3 => have k := ok_pos c3 k; ?_) (fun c3 => have k := ok_neg c3 k; ?_)
    · exact wp_sub (hX _ _ (ok_s k) h) rfl ⟨rfl, trivial⟩
    · refine wp_ld (v := .ref 0) dX7_bestEarsOf_21 rfl rfl rfl rfl ?_
      refine wp_ld (v := .ref a1) dX7_bestEarsOf_22 rfl rfl rfl rfl ?_
      refine wp_ld (v := .int x6) dX7_bestEarsOf_23 rfl rfl rfl rfl ?_
      refine wp_pu dX7_bestEarsOf_25 rfl rfl ?_
      refine wp_ld (v := .int x2) dX7_bestEarsOf_26 rfl rfl rfl rfl ?_
      refine c_l dX7_bestEarsOf_27 rfl rfl rfl (am_inv_v rfl (kk_0 h) rfl rfl rfl) (s_X7_reachOf h fa1) k (fun v5 s4 h k => ?_)
      refine wp_st (ls' := [(0, .ref 0), (1, .ref a1), (2, .int x2), (3, .int x3), (4, .long x4), (6, .int x6), (7, .long v5)]) dX7_bestEarsOf_30 rfl rfl rfl (Nat.le_of_ble_eq_true rfl) rfl ?_
      refine wp_ld (v := .long v5) dX7_bestEarsOf_32 rfl rfl rfl rfl ?_
      refine wp_ld (v := .long x4) dX7_bestEarsOf_34 rfl rfl rfl rfl ?_
      refine jn_rule k (fun J6 hJ6 k => ?_)
      have HJ6 : ∀ (e7 : (Int32 × Int64)) (s8 : am_S), am_sh N n s8 → am_ok (J6 e7 s8) P → am_WP (d + 5) mX7_bestEarsOf 48 [(0, .ref 0), (1, .ref a1), (2, .int x2), (3, .int e7.1), (4, .long e7.2), (6, .int x6)] [] s8 Q := by
        intro e7 s8 h k
        replace k := hJ6 _ _ k
        refine wp_ld (v := .ref 0) dX7_bestEarsOf_48 rfl rfl rfl rfl ?_
        refine wp_ld (v := .ref a1) dX7_bestEarsOf_49 rfl rfl rfl rfl ?_
        refine wp_ld (v := .int x6) dX7_bestEarsOf_50 rfl rfl rfl rfl ?_
        refine wp_ld (v := .int x2) dX7_bestEarsOf_52 rfl rfl rfl rfl ?_
        refine c_l dX7_bestEarsOf_53 rfl rfl rfl (am_inv_v rfl (kk_0 h) rfl rfl rfl) (s_X7_reachOf h fa1) k (fun v10 s9 h k => ?_)
        refine wp_st (ls' := [(0, .ref 0), (1, .ref a1), (2, .int x2), (3, .int e7.1), (4, .long e7.2), (6, .int x6), (9, .long v10)]) dX7_bestEarsOf_56 rfl rfl rfl (Nat.le_of_ble_eq_true rfl) rfl ?_
        refine wp_ld (v := .long v10) dX7_bestEarsOf_58 rfl rfl rfl rfl ?_
        refine wp_ld (v := .long e7.2) dX7_bestEarsOf_60 rfl rfl rfl rfl ?_
        refine wl_le dX7_bestEarsOf_62 dX7_bestEarsOf_63 rfl (fun c11 => have k := ok_pos c11 k; ?_) (fun c11 => have k := ok_neg c11 k; ?_)
        · refine wp_inc (v := (x6 + (1 : Int32))) (ls' := [(0, .ref 0), (1, .ref a1), (2, .int x2), (3, .int e7.1), (4, .long e7.2), (6, .int (x6 + (1 : Int32))), (9, .long v10)]) dX7_bestEarsOf_73 rfl (Nat.le_of_ble_eq_true rfl) rfl rfl ?_
          refine wp_goto dX7_bestEarsOf_76 rfl ?_
          exact wp_sub (ih h fa1 k hP hX) rfl ⟨rfl, rfl, rfl, rfl, rfl, rfl, trivial⟩
        · refine wp_ld (v := .long v10) dX7_bestEarsOf_66 rfl rfl rfl rfl ?_
          refine wp_st (ls' := [(0, .ref 0), (1, .ref a1), (2, .int x2), (3, .int e7.1), (4, .long v10), (6, .int x6), (9, .long v10)]) dX7_bestEarsOf_68 rfl rfl rfl (Nat.le_of_ble_eq_true rfl) rfl ?_
          refine wp_ld (v := .int x6) dX7_bestEarsOf_70 rfl rfl rfl rfl ?_
          refine wp_st (ls' := [(0, .ref 0), (1, .ref a1), (2, .int x2), (3, .int x6), (4, .long v10), (6, .int x6), (9, .long v10)]) dX7_bestEarsOf_72 rfl rfl rfl (Nat.le_of_ble_eq_true rfl) rfl ?_
          refine wp_inc (v := (x6 + (1 : Int32))) (ls' := [(0, .ref 0), (1, .ref a1), (2, .int x2), (3, .int x6), (4, .long v10), (6, .int (x6 + (1 : Int32))), (9, .long v10)]) dX7_bestEarsOf_73 rfl (Nat.le_of_ble_eq_true rfl) rfl rfl ?_
          refine wp_goto dX7_bestEarsOf_76 rfl ?_
          exact wp_sub (ih h fa1 k hP hX) rfl ⟨rfl, rfl, rfl, rfl, rfl, rfl, trivial⟩
      refine wl_le dX7_bestEarsOf_36 dX7_bestEarsOf_37 rfl (fun c12 => have k := ok_pos c12 k; ?_) (fun c12 => have k := ok_neg c12 k; ?_)
      · exact wp_sub (HJ6 _ _ h k) rfl ⟨rfl, rfl, rfl, rfl, rfl, rfl, trivial⟩
      · refine wp_ld (v := .long v5) dX7_bestEarsOf_40 rfl rfl rfl rfl ?_
        refine wp_st (ls' := [(0, .ref 0), (1, .ref a1), (2, .int x2), (3, .int x3), (4, .long v5), (6, .int x6), (7, .long v5)]) dX7_bestEarsOf_42 rfl rfl rfl (Nat.le_of_ble_eq_true rfl) rfl ?_
        refine wp_ld (v := .int x6) dX7_bestEarsOf_44 rfl rfl rfl rfl ?_
        refine wp_pu dX7_bestEarsOf_46 rfl rfl ?_
        refine wp_st (ls' := [(0, .ref 0), (1, .ref a1), (2, .int x2), (3, .int (-x6)), (4, .long v5), (6, .int x6), (7, .long v5)]) dX7_bestEarsOf_47 rfl rfl rfl (Nat.le_of_ble_eq_true rfl) rfl ?_
        exact wp_sub (HJ6 _ _ h k) rfl ⟨rfl, rfl, rfl, rfl, rfl, rfl, trivial⟩
noncomputable def f_X7_bestEarsOf (b1 : Nat) (x2 : Int32) (s : am_S) : am_F :=
  am_bl (f_X7_reachOf b1 (0 : Int32) x2 s) (fun v2 s1 =>
    am_lm (L_X7_bestEarsOf_14 ax_fuel b1 x2 (0 : Int32) v2 (1 : Int32) s1) (fun e13 s14 =>
      some (.inl (some (.int e13)), s14)
    )
  )
theorem s_X7_bestEarsOf {N n : Nat} {d : Nat} {b1 : Nat} {x2 : Int32} {s : am_S} (h : am_sh N n s) (fb1 : am_kf n b1 4) : am_S1 (am_sh N n) (d + 5) mX7_bestEarsOf [.ref 0, .ref b1, .int x2] s (f_X7_bestEarsOf b1 x2 s) := by
  intro P Q k hP
  show am_WP (d + 5) mX7_bestEarsOf 0 [(0, .ref 0), (1, .ref b1), (2, .int x2)] [] s Q
  unfold f_X7_bestEarsOf at k
  refine wp_cst (v := .int (0 : Int32)) dX7_bestEarsOf_0 rfl rfl ?_
  refine wp_st (ls' := [(0, .ref 0), (1, .ref b1), (2, .int x2), (3, .int (0 : Int32))]) dX7_bestEarsOf_1 rfl rfl rfl (Nat.le_of_ble_eq_true rfl) rfl ?_
  refine wp_ld (v := .ref 0) dX7_bestEarsOf_2 rfl rfl rfl rfl ?_
  refine wp_ld (v := .ref b1) dX7_bestEarsOf_3 rfl rfl rfl rfl ?_
  refine wp_cst (v := .int (0 : Int32)) dX7_bestEarsOf_4 rfl rfl ?_
  refine wp_ld (v := .int x2) dX7_bestEarsOf_5 rfl rfl rfl rfl ?_
  refine c_l dX7_bestEarsOf_6 rfl rfl rfl (am_inv_v rfl (kk_0 h) rfl rfl rfl) (s_X7_reachOf h fb1) k (fun v2 s1 h k => ?_)
  refine wp_st (ls' := [(0, .ref 0), (1, .ref b1), (2, .int x2), (3, .int (0 : Int32)), (4, .long v2)]) dX7_bestEarsOf_9 rfl rfl rfl (Nat.le_of_ble_eq_true rfl) rfl ?_
  refine wp_cst (v := .int (1 : Int32)) dX7_bestEarsOf_11 rfl rfl ?_
  refine wp_st (ls' := [(0, .ref 0), (1, .ref b1), (2, .int x2), (3, .int (0 : Int32)), (4, .long v2), (6, .int (1 : Int32))]) dX7_bestEarsOf_12 rfl rfl rfl (Nat.le_of_ble_eq_true rfl) rfl ?_
  refine lp_m k (fun P1 k hA hB => ?_)
  refine wp_sub (q_X7_bestEarsOf_14 ax_fuel h fb1 k (fun o s p h => hP o s (hA o s p) h) (fun e13 s14 p h => have k := hB e13 s14 p; ?_)) rfl ⟨rfl, rfl, rfl, rfl, rfl, rfl, trivial⟩
  refine wp_ld (v := .int e13) dX7_bestEarsOf_79 rfl rfl rfl rfl ?_
  exact wp_end dX7_bestEarsOf_80 rfl (am_end_i rfl) (hP _ _ (ok_s k) h)
noncomputable def L_X7_best_15 : Nat → Int32 → Nat → Int32 → Int64 → Int32 → am_S → am_FE (Int32)
  | 0, _, _, _, _, _, _ => none
  | m + 1, x2, a3, x4, x5, x7, s =>
    if (am_I s 1 5) ≤ x7 then
      some (.inr (x4, s))
    else
      am_bv (f_X5_wayAt x7 s) (fun v9 s8 =>
        am_mv v9 (
          L_X7_best_15 m x2 a3 x4 x5 (x7 + (1 : Int32)) s8
        ) (fun t10 => if am_k0 t10 = (4, 0) ∧ t10 < 72 then
          am_bi (f_X7_breakOf t10 s8) (fun v15 s14 =>
            if v15 = (-1 : Int32) then
              am_bi (f_X7_bestEarsOf a3 x2 s14) (fun v18 s17 =>
                am_bl (f_X7_reachOf a3 v18 x2 s17) (fun v20 s19 =>
                  am_jn (fun (e22 : Unit) s23 =>
                    L_X7_best_15 m x2 a3 x7 v20 (x7 + (1 : Int32)) s23
                  ) (fun J21 =>
                    if x4 = (-1 : Int32) then
                      J21 () s19
                    else
                      if v20 ≤ x5 then
                        L_X7_best_15 m x2 a3 x4 x5 (x7 + (1 : Int32)) s19
                      else
                        J21 () s19
                  )
                )
              )
            else
              L_X7_best_15 m x2 a3 x4 x5 (x7 + (1 : Int32)) s14
          )
        else none)
      )
theorem q_X7_best_15 : ∀ (m : Nat) {N n : Nat} {d : Nat} {x2 : Int32} {a3 : Nat} {x4 : Int32} {x5 : Int64} {x7 : Int32} {s : am_S} {P : (am_O × am_S) ⊕ (Int32 × am_S) → Prop} {Q : am_O → am_S → Prop} (h : am_sh N n s) (fa3 : am_kf n a3 4) (k : am_ok (L_X7_best_15 m x2 a3 x4 x5 x7 s) P) (hP : ∀ o s, P (.inl (o, s)) → am_sh N n s → Q o s) (hX : ∀ (e : Int32) s, P (.inr (e, s)) → am_sh N n s → am_WP (d + 6) mX7_best 98 [(4, .int e)] [] s Q), am_WP (d + 6) mX7_best 15 [(0, .ref 0), (2, .int x2), (3, .ref a3), (4, .int x4), (5, .long x5), (7, .int x7)] [] s Q := by
  intro m
  induction m with
  | zero =>
    intro N n d x2 a3 x4 x5 x7 s P Q h fa3 k hP hX
    exact (ok_no k).elim
  | succ m ih =>
    intro N n d x2 a3 x4 x5 x7 s P Q h fa3 k hP hX
    unfold L_X7_best_15 at k
    refine wp_ld (v := .int x7) dX7_best_15 rfl rfl rfl rfl ?_
    refine wp_ld (v := .ref 0) dX7_best_17 rfl rfl rfl rfl ?_
    refine wp_gr dX7_best_18 rfl rfl (kk_0 h) (rr_0_0 h) ?_
    refine wq_gI dX7_best_21 rfl rfl (kk_1 h) (v := (am_I s 1 5)) rfl ?_
    refine wp_ic_ge dX7_best_24 rfl (fun c7 => have k := ok_pos c7 k; ?_) (fun c7 => have k := ok_neg c7 k; ?_)
    · exact wp_sub (hX _ _ (ok_s k) h) rfl ⟨rfl, trivial⟩
    · refine wp_ld (v := .ref 0) dX7_best_27 rfl rfl rfl rfl ?_
      refine wp_gr dX7_best_28 rfl rfl (kk_0 h) (rr_0_0 h) ?_
      refine wp_ld (v := .int x7) dX7_best_31 rfl rfl rfl rfl ?_
      refine c_v dX7_best_33 rfl rfl rfl (am_inv_v rfl (kk_1 h) rfl rfl rfl) (s_X5_wayAt h) k (fun v9 s8 h k => ?_)
      rcases ok_mv k with ⟨c11, k⟩ | ⟨t10, c11, k⟩
      · subst c11
        refine wp_st (ls' := [(0, .ref 0), (2, .int x2), (3, .ref a3), (4, .int x4), (5, .long x5), (7, .int x7), (8, .null)]) dX7_best_36 rfl rfl rfl (Nat.le_of_ble_eq_true rfl) rfl ?_
        refine wp_ld (v := .null) dX7_best_38 rfl rfl rfl rfl ?_
        refine wp_jp dX7_best_40 rfl rfl ?_
        refine wp_inc (v := (x7 + (1 : Int32))) (ls' := [(0, .ref 0), (2, .int x2), (3, .ref a3), (4, .int x4), (5, .long x5), (7, .int (x7 + (1 : Int32))), (8, .null)]) dX7_best_92 rfl (Nat.le_of_ble_eq_true rfl) rfl rfl ?_
        refine wp_goto dX7_best_95 rfl ?_
        exact wp_sub (ih h fa3 k hP hX) rfl ⟨rfl, rfl, rfl, rfl, rfl, rfl, trivial⟩
      · subst c11
        obtain ⟨g12, k⟩ := ok_g k
        have f13 := kk_up h g12
        refine wp_st (ls' := [(0, .ref 0), (2, .int x2), (3, .ref a3), (4, .int x4), (5, .long x5), (7, .int x7), (8, .ref t10)]) dX7_best_36 rfl rfl rfl (Nat.le_of_ble_eq_true rfl) rfl ?_
        refine wp_ld (v := .ref t10) dX7_best_38 rfl rfl rfl rfl ?_
        refine wp_jp dX7_best_40 rfl rfl ?_
        refine wp_ld (v := .ref 0) dX7_best_43 rfl rfl rfl rfl ?_
        refine wp_ld (v := .ref t10) dX7_best_44 rfl rfl rfl rfl ?_
        refine c_i dX7_best_46 rfl rfl rfl (am_inv_v rfl (kk_0 h) rfl rfl rfl) (s_X7_breakOf h f13) k (fun v15 s14 h k => ?_)
        refine wp_cst (v := .int (-1 : Int32)) dX7_best_49 rfl rfl ?_
        refine wp_ic_eq dX7_best_50 rfl (fun c16 => have k := ok_pos c16 k; ?_) (fun c16 => have k := ok_neg c16 k; ?_)
        · refine wp_ld (v := .ref 0) dX7_best_56 rfl rfl rfl rfl ?_
          refine wp_ld (v := .ref a3) dX7_best_57 rfl rfl rfl rfl ?_
          refine wp_ld (v := .ref 0) dX7_best_58 rfl rfl rfl rfl ?_
          refine wp_ld (v := .ref a3) dX7_best_59 rfl rfl rfl rfl ?_
          refine wp_ld (v := .int x2) dX7_best_60 rfl rfl rfl rfl ?_
          refine c_i dX7_best_61 rfl rfl rfl (am_inv_v rfl (kk_0 h) rfl rfl rfl) (s_X7_bestEarsOf h fa3) k (fun v18 s17 h k => ?_)
          refine wp_ld (v := .int x2) dX7_best_64 rfl rfl rfl rfl ?_
          refine c_l dX7_best_65 rfl rfl rfl (am_inv_v rfl (kk_0 h) rfl rfl rfl) (s_X7_reachOf h fa3) k (fun v20 s19 h k => ?_)
          refine wp_st (ls' := [(0, .ref 0), (2, .int x2), (3, .ref a3), (4, .int x4), (5, .long x5), (7, .int x7), (8, .ref t10), (9, .long v20)]) dX7_best_68 rfl rfl rfl (Nat.le_of_ble_eq_true rfl) rfl ?_
          refine wp_ld (v := .int x4) dX7_best_70 rfl rfl rfl rfl ?_
          refine wp_cst (v := .int (-1 : Int32)) dX7_best_72 rfl rfl ?_
          refine jn_rule k (fun J21 hJ21 k => ?_)
          have HJ21 : ∀ (e22 : Unit) (s23 : am_S), am_sh N n s23 → am_ok (J21 e22 s23) P → am_WP (d + 6) mX7_best 84 [(0, .ref 0), (2, .int x2), (3, .ref a3), (7, .int x7), (9, .long v20)] [] s23 Q := by
            intro e22 s23 h k
            replace k := hJ21 _ _ k
            refine wp_ld (v := .int x7) dX7_best_84 rfl rfl rfl rfl ?_
            refine wp_st (ls' := [(0, .ref 0), (2, .int x2), (3, .ref a3), (4, .int x7), (7, .int x7), (9, .long v20)]) dX7_best_86 rfl rfl rfl (Nat.le_of_ble_eq_true rfl) rfl ?_
            refine wp_ld (v := .long v20) dX7_best_88 rfl rfl rfl rfl ?_
            refine wp_st (ls' := [(0, .ref 0), (2, .int x2), (3, .ref a3), (4, .int x7), (5, .long v20), (7, .int x7), (9, .long v20)]) dX7_best_90 rfl rfl rfl (Nat.le_of_ble_eq_true rfl) rfl ?_
            refine wp_inc (v := (x7 + (1 : Int32))) (ls' := [(0, .ref 0), (2, .int x2), (3, .ref a3), (4, .int x7), (5, .long v20), (7, .int (x7 + (1 : Int32))), (9, .long v20)]) dX7_best_92 rfl (Nat.le_of_ble_eq_true rfl) rfl rfl ?_
            refine wp_goto dX7_best_95 rfl ?_
            exact wp_sub (ih h fa3 k hP hX) rfl ⟨rfl, rfl, rfl, rfl, rfl, rfl, trivial⟩
          refine wp_ic_eq dX7_best_73 rfl (fun c24 => have k := ok_pos c24 k; ?_) (fun c24 => have k := ok_neg c24 k; ?_)
          · exact wp_sub (HJ21 _ _ h k) rfl ⟨rfl, rfl, rfl, rfl, rfl, trivial⟩
          · refine wp_ld (v := .long v20) dX7_best_76 rfl rfl rfl rfl ?_
            refine wp_ld (v := .long x5) dX7_best_78 rfl rfl rfl rfl ?_
            refine wl_le dX7_best_80 dX7_best_81 rfl (fun c25 => have k := ok_pos c25 k; ?_) (fun c25 => have k := ok_neg c25 k; ?_)
            · refine wp_inc (v := (x7 + (1 : Int32))) (ls' := [(0, .ref 0), (2, .int x2), (3, .ref a3), (4, .int x4), (5, .long x5), (7, .int (x7 + (1 : Int32))), (8, .ref t10), (9, .long v20)]) dX7_best_92 rfl (Nat.le_of_ble_eq_true rfl) rfl rfl ?_
              refine wp_goto dX7_best_95 rfl ?_
              exact wp_sub (ih h fa3 k hP hX) rfl ⟨rfl, rfl, rfl, rfl, rfl, rfl, trivial⟩
            · exact wp_sub (HJ21 _ _ h k) rfl ⟨rfl, rfl, rfl, rfl, rfl, trivial⟩
        · refine wp_goto dX7_best_53 rfl ?_
          refine wp_inc (v := (x7 + (1 : Int32))) (ls' := [(0, .ref 0), (2, .int x2), (3, .ref a3), (4, .int x4), (5, .long x5), (7, .int (x7 + (1 : Int32))), (8, .ref t10)]) dX7_best_92 rfl (Nat.le_of_ble_eq_true rfl) rfl rfl ?_
          refine wp_goto dX7_best_95 rfl ?_
          exact wp_sub (ih h fa3 k hP hX) rfl ⟨rfl, rfl, rfl, rfl, rfl, rfl, trivial⟩
noncomputable def f_X7_best (x1 : Int32) (x2 : Int32) (s : am_S) : am_F :=
  am_tv (f_X7_needHand x1 s) (fun v2 s1 =>
    am_mv v2 none (fun t3 => if am_k0 t3 = (4, 0) ∧ t3 < 72 then
      am_lm (L_X7_best_15 ax_fuel x2 t3 (-1 : Int32) (0 : Int64) (0 : Int32) s1) (fun e26 s27 =>
        some (.inl (some (.int e26)), s27)
      )
    else none)
  )
theorem s_X7_best {N n : Nat} {d : Nat} {x1 : Int32} {x2 : Int32} {s : am_S} (h : am_sh N n s)  : am_S1 (am_sh N n) (d + 6) mX7_best [.ref 0, .int x1, .int x2] s (f_X7_best x1 x2 s) := by
  intro P Q k hP
  show am_WP (d + 6) mX7_best 0 [(0, .ref 0), (1, .int x1), (2, .int x2)] [] s Q
  unfold f_X7_best at k
  refine wp_ld (v := .ref 0) dX7_best_0 rfl rfl rfl rfl ?_
  refine wp_ld (v := .int x1) dX7_best_1 rfl rfl rfl rfl ?_
  refine t_v dX7_best_2 rfl rfl rfl (am_inv_v rfl (kk_0 h) rfl rfl rfl) (s_X7_needHand h) k rfl rfl hP (fun v2 s1 h k => ?_)
  obtain ⟨t3, c4, k⟩ := ok_mn k
  subst c4
  obtain ⟨g5, k⟩ := ok_g k
  have f6 := kk_up h g5
  refine wp_st (ls' := [(0, .ref 0), (1, .int x1), (2, .int x2), (3, .ref t3)]) dX7_best_5 rfl rfl rfl (Nat.le_of_ble_eq_true rfl) rfl ?_
  refine wp_cst (v := .int (-1 : Int32)) dX7_best_6 rfl rfl ?_
  refine wp_st (ls' := [(0, .ref 0), (1, .int x1), (2, .int x2), (3, .ref t3), (4, .int (-1 : Int32))]) dX7_best_7 rfl rfl rfl (Nat.le_of_ble_eq_true rfl) rfl ?_
  refine wp_cst (v := .long (0 : Int64)) dX7_best_9 rfl rfl ?_
  refine wp_st (ls' := [(0, .ref 0), (1, .int x1), (2, .int x2), (3, .ref t3), (4, .int (-1 : Int32)), (5, .long (0 : Int64))]) dX7_best_10 rfl rfl rfl (Nat.le_of_ble_eq_true rfl) rfl ?_
  refine wp_cst (v := .int (0 : Int32)) dX7_best_12 rfl rfl ?_
  refine wp_st (ls' := [(0, .ref 0), (1, .int x1), (2, .int x2), (3, .ref t3), (4, .int (-1 : Int32)), (5, .long (0 : Int64)), (7, .int (0 : Int32))]) dX7_best_13 rfl rfl rfl (Nat.le_of_ble_eq_true rfl) rfl ?_
  refine lp_m k (fun P1 k hA hB => ?_)
  refine wp_sub (q_X7_best_15 ax_fuel h f6 k (fun o s p h => hP o s (hA o s p) h) (fun e26 s27 p h => have k := hB e26 s27 p; ?_)) rfl ⟨rfl, rfl, rfl, rfl, rfl, rfl, trivial⟩
  refine wp_ld (v := .int e26) dX7_best_98 rfl rfl rfl rfl ?_
  exact wp_end dX7_best_100 rfl (am_end_i rfl) (hP _ _ (ok_s k) h)
