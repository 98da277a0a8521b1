noncomputable def f_L_hoop (x2 : Int32) (x3 : Int32) (x4 : Int32) (x5 : Int32) (x6 : Int32) (x7 : Int32) (x8 : Int32) (s : am_S) : am_F :=
  am_xi (f_X7_hoop x2 x3 x4 x5 x6 x7 x8 s) (fun v2 s1 =>
    am_jn (fun (e4 : Int64) s5 =>
      some (.inl (some (.int (0 : Int32))), (am_sL s5 71 0 e4))
    ) (fun J3 =>
      if v2 = 0 then
        J3 (0 : Int64) s1
      else
        J3 (1 : Int64) s1
    )
  ) (fun e s1 =>
    if e = 3 then
      some (.inl (some (.int (1 : Int32))), s1)
    else
      if e = 1 then
        some (.inl (some (.int (2 : Int32))), s1)
      else
        if e = 0 then
          some (.inl (some (.int (3 : Int32))), s1)
        else
          none
  )
theorem s_L_hoop {N : Nat} {d : Nat} {x2 : Int32} {x3 : Int32} {x4 : Int32} {x5 : Int32} {x6 : Int32} {x7 : Int32} {x8 : Int32} {s : am_S} (h : am_shE N s)  : am_S1 (am_shE N) (d + 7) mL_hoop [.ref 0, .int x2, .int x3, .int x4, .int x5, .int x6, .int x7, .int x8, .ref 71] s (f_L_hoop x2 x3 x4 x5 x6 x7 x8 s) := by
  intro P Q k hP
  show am_WP (d + 7) mL_hoop 0 [(0, .ref 0), (1, .int x2), (2, .int x3), (3, .int x4), (4, .int x5), (5, .int x6), (6, .int x7), (7, .int x8), (8, .ref 71)] [] s Q
  unfold f_L_hoop at k
  refine wp_ld (v := .ref 71) dL_hoop_0 rfl rfl rfl rfl ?_
  refine wp_cst (v := .int (0 : Int32)) dL_hoop_2 rfl rfl ?_
  refine wp_ld (v := .ref 0) dL_hoop_3 rfl rfl rfl rfl ?_
  refine wp_ld (v := .int x2) dL_hoop_4 rfl rfl rfl rfl ?_
  refine wp_ld (v := .int x3) dL_hoop_5 rfl rfl rfl rfl ?_
  refine wp_ld (v := .int x4) dL_hoop_6 rfl rfl rfl rfl ?_
  refine wp_ld (v := .int x5) dL_hoop_7 rfl rfl rfl rfl ?_
  refine wp_ld (v := .int x6) dL_hoop_9 rfl rfl rfl rfl ?_
  refine wp_ld (v := .int x7) dL_hoop_11 rfl rfl rfl rfl ?_
  refine wp_ld (v := .int x8) dL_hoop_13 rfl rfl rfl rfl ?_
  refine x_i dL_hoop_15 rfl rfl rfl (am_inv_v rfl (kE_0 h) rfl rfl rfl) (sE h (fun _ h => s_X7_hoop h)) k rfl (List.cons_ne_nil _ _) (fun v2 s1 h k => ?_) (fun e s1 h k => ?_)
  · refine jn_rule k (fun J3 hJ3 k => ?_)
    have HJ3 : ∀ (e4 : Int64) (s5 : am_S), am_shE N s5 → am_ok (J3 e4 s5) P → am_WP (d + 7) mL_hoop 26 [] [.long e4, .int (0 : Int32), .ref 71] s5 Q := by
      intro e4 s5 h k
      replace k := hJ3 _ _ k
      refine wq_last dL_hoop_26 (kE_71 h) (by decide) (j := 0) rfl ?_
      refine wp_goto dL_hoop_27 rfl ?_
      refine wp_cst (v := .int (0 : Int32)) dL_hoop_42 rfl rfl ?_
      exact wp_end dL_hoop_43 rfl (am_end_i rfl) (hP _ _ (ok_s k) (shE_sL h))
    refine wp_if_eq dL_hoop_18 rfl (fun c6 => have k := ok_pos c6 k; ?_) (fun c6 => have k := ok_neg c6 k; ?_)
    · refine wp_cst (v := .long (0 : Int64)) dL_hoop_25 rfl rfl ?_
      exact wp_sub (HJ3 _ _ h k) rfl trivial
    · refine wp_cst (v := .long (1 : Int64)) dL_hoop_21 rfl rfl ?_
      refine wp_goto dL_hoop_22 rfl ?_
      exact wp_sub (HJ3 _ _ h k) rfl trivial
  · by_cases c7 : e = 3
    · have k := ok_pos c7 k
      subst c7
      refine ⟨_, _, rfl, ?_⟩
      refine wp_cst (v := .int (1 : Int32)) dL_hoop_32 rfl rfl ?_
      exact wp_end dL_hoop_33 rfl (am_end_i rfl) (hP _ _ (ok_s k) h)
    replace k := ok_neg c7 k
    by_cases c8 : e = 1
    · have k := ok_pos c8 k
      subst c8
      refine ⟨_, _, rfl, ?_⟩
      refine wp_cst (v := .int (2 : Int32)) dL_hoop_36 rfl rfl ?_
      exact wp_end dL_hoop_37 rfl (am_end_i rfl) (hP _ _ (ok_s k) h)
    replace k := ok_neg c8 k
    by_cases c9 : e = 0
    · have k := ok_pos c9 k
      subst c9
      refine ⟨_, _, rfl, ?_⟩
      refine wp_cst (v := .int (3 : Int32)) dL_hoop_40 rfl rfl ?_
      exact wp_end dL_hoop_41 rfl (am_end_i rfl) (hP _ _ (ok_s k) h)
    replace k := ok_neg c9 k
    exact (ok_no k).elim
noncomputable def L_X7_hours_27 : Nat → Int32 → Int32 → Int64 → Nat → Int32 → am_S → am_FE (Unit)
  | 0, _, _, _, _, _, _ => none
  | m + 1, x2, x4, x5, a8, x9, s =>
    if (18 : Int32) < x9 then
      some (.inr ((), s))
    else
      am_jn (fun (e19 : Int32) s20 =>
        am_bl (f_X7_reachOf a8 e19 x4 s20) (fun v22 s21 =>
          if x5 ≤ v22 then
            L_X7_hours_27 m x2 x4 x5 a8 (x9 + (2 : Int32)) s21
          else
            some (.inl (.inl (some (.int x9)), s21))
        )
      ) (fun J18 =>
        if 0 ≤ x2 then
          J18 (am_max ((am_abs x2) - (x9 / (2 : Int32))) (0 : Int32)) s
        else
          J18 (-(am_max ((am_abs x2) - (x9 / (2 : Int32))) (0 : Int32))) s
      )
theorem q_X7_hours_27 : ∀ (m : Nat) {N n : Nat} {d : Nat} {x2 : Int32} {x4 : Int32} {x5 : Int64} {a8 : Nat} {x9 : Int32} {s : am_S} {P : (am_O × am_S) ⊕ (Unit × am_S) → Prop} {Q : am_O → am_S → Prop} (h : am_sh N n s) (fa8 : am_kf n a8 4) (k : am_ok (L_X7_hours_27 m x2 x4 x5 a8 x9 s) P) (hP : ∀ o s, P (.inl (o, s)) → am_sh N n s → Q o s) (hX : ∀ (e : Unit) s, P (.inr (e, s)) → am_sh N n s → am_WP (d + 6) mX7_hours 84 [] [] s Q), am_WP (d + 6) mX7_hours 27 [(0, .ref 0), (2, .int x2), (4, .int x4), (5, .long x5), (8, .ref a8), (9, .int x9)] [] s Q := by
  intro m
  induction m with
  | zero =>
    intro N n d x2 x4 x5 a8 x9 s P Q h fa8 k hP hX
    exact (ok_no k).elim
  | succ m ih =>
    intro N n d x2 x4 x5 a8 x9 s P Q h fa8 k hP hX
    unfold L_X7_hours_27 at k
    refine wp_ld (v := .int x9) dX7_hours_27 rfl rfl rfl rfl ?_
    refine wp_cst (v := .int (18 : Int32)) dX7_hours_29 rfl rfl ?_
    refine wp_ic_gt dX7_hours_31 rfl (fun c17 => have k := ok_pos c17 k; ?_) (fun c17 => have k := ok_neg c17 k; ?_)
    · exact wp_sub (hX _ _ (ok_s k) h) rfl trivial
    · refine wp_ld (v := .int x2) dX7_hours_34 rfl rfl rfl rfl ?_
      refine wp_mem (st' := .int (am_abs x2) :: []) dX7_hours_35 rfl rfl rfl rfl ?_
      refine wp_ld (v := .int x9) dX7_hours_38 rfl rfl rfl rfl ?_
      refine wp_cst (v := .int (2 : Int32)) dX7_hours_40 rfl rfl ?_
      refine wp_div dX7_hours_41 (by decide) ?_
      refine wp_pu dX7_hours_42 rfl rfl ?_
      refine wp_cst (v := .int (0 : Int32)) dX7_hours_43 rfl rfl ?_
      refine wp_mem (st' := .int (am_max ((am_abs x2) - (x9 / (2 : Int32))) (0 : Int32)) :: []) dX7_hours_44 rfl rfl rfl rfl ?_
      refine wp_st (ls' := [(0, .ref 0), (2, .int x2), (4, .int x4), (5, .long x5), (8, .ref a8), (9, .int x9), (10, .int (am_max ((am_abs x2) - (x9 / (2 : Int32))) (0 : Int32)))]) dX7_hours_47 rfl rfl rfl (Nat.le_of_ble_eq_true rfl) rfl ?_
      refine wp_ld (v := .ref 0) dX7_hours_49 rfl rfl rfl rfl ?_
      refine wp_ld (v := .ref a8) dX7_hours_50 rfl rfl rfl rfl ?_
      show am_WP (d + 6) mX7_hours 52 _ _ _ Q
      refine wp_ld (v := .int x2) dX7_hours_52 rfl rfl rfl rfl ?_
      refine jn_rule k (fun J18 hJ18 k => ?_)
      have HJ18 : ∀ (e19 : Int32) (s20 : am_S), am_sh N n s20 → am_ok (J18 e19 s20) P → am_WP (d + 6) mX7_hours 64 [(0, .ref 0), (2, .int x2), (4, .int x4), (5, .long x5), (8, .ref a8), (9, .int x9)] [.int e19, .ref a8, .ref 0] s20 Q := by
        intro e19 s20 h k
        replace k := hJ18 _ _ k
        refine wp_ld (v := .int x4) dX7_hours_64 rfl rfl rfl rfl ?_
        refine c_l dX7_hours_66 rfl rfl rfl (am_inv_v rfl (kk_0 h) rfl rfl rfl) (s_X7_reachOf h fa8) k (fun v22 s21 h k => ?_)
        refine wp_ld (v := .long x5) dX7_hours_69 rfl rfl rfl rfl ?_
        refine wl_ge dX7_hours_71 dX7_hours_72 rfl (fun c23 => have k := ok_pos c23 k; ?_) (fun c23 => have k := ok_neg c23 k; ?_)
        · refine wp_inc (v := (x9 + (2 : Int32))) (ls' := [(0, .ref 0), (2, .int x2), (4, .int x4), (5, .long x5), (8, .ref a8), (9, .int (x9 + (2 : Int32)))]) dX7_hours_78 rfl (Nat.le_of_ble_eq_true rfl) rfl rfl ?_
          refine wp_goto dX7_hours_81 rfl ?_
          exact wp_sub (ih h fa8 k hP hX) rfl ⟨rfl, rfl, rfl, rfl, rfl, rfl, trivial⟩
        · refine wp_ld (v := .int x9) dX7_hours_75 rfl rfl rfl rfl ?_
          exact wp_end dX7_hours_77 rfl (am_end_i rfl) (hP _ _ (ok_s k) h)
      refine wp_if_ge dX7_hours_53 rfl (fun c24 => have k := ok_pos c24 k; ?_) (fun c24 => have k := ok_neg c24 k; ?_)
      · refine wp_ld (v := .int (am_max ((am_abs x2) - (x9 / (2 : Int32))) (0 : Int32))) dX7_hours_62 rfl rfl rfl rfl ?_
        exact wp_sub (HJ18 _ _ h k) rfl ⟨rfl, rfl, rfl, rfl, rfl, rfl, trivial⟩
      · refine wp_ld (v := .int (am_max ((am_abs x2) - (x9 / (2 : Int32))) (0 : Int32))) dX7_hours_56 rfl rfl rfl rfl ?_
        refine wp_pu dX7_hours_58 rfl rfl ?_
        refine wp_goto dX7_hours_59 rfl ?_
        exact wp_sub (HJ18 _ _ h k) rfl ⟨rfl, rfl, rfl, rfl, rfl, rfl, trivial⟩
noncomputable def f_X7_hours (x1 : Int32) (x2 : Int32) (x3 : Int32) (x4 : Int32) (x5 : Int64) (s : am_S) : am_F :=
  am_tv (f_X7_needWay x1 s) (fun v2 s1 =>
    am_mv v2 none (fun t3 => if am_k0 t3 = (4, 0) ∧ t3 < 72 then
      am_tv (f_X7_needHand x3 s1) (fun v8 s7 =>
        am_mv v8 none (fun t9 => if am_k0 t9 = (4, 0) ∧ t9 < 72 then
          am_tu (f_X7_needMake t3 s7) (fun s13 =>
            am_tu (f_X7_needEars x2 s13) (fun s15 =>
              am_lm (L_X7_hours_27 ax_fuel x2 x4 x5 t9 (0 : Int32) s15) (fun e25 s26 =>
                some (.inl (some (.int (-1 : Int32))), s26)
              )
            )
          )
        else none)
      )
    else none)
  )
theorem s_X7_hours {N n : Nat} {d : Nat} {x1 : Int32} {x2 : Int32} {x3 : Int32} {x4 : Int32} {x5 : Int64} {s : am_S} (h : am_sh N n s)  : am_S1 (am_sh N n) (d + 6) mX7_hours [.ref 0, .int x1, .int x2, .int x3, .int x4, .long x5] s (f_X7_hours x1 x2 x3 x4 x5 s) := by
  intro P Q k hP
  show am_WP (d + 6) mX7_hours 0 [(0, .ref 0), (1, .int x1), (2, .int x2), (3, .int x3), (4, .int x4), (5, .long x5)] [] s Q
  unfold f_X7_hours at k
  refine wp_ld (v := .ref 0) dX7_hours_0 rfl rfl rfl rfl ?_
  refine wp_ld (v := .int x1) dX7_hours_1 rfl rfl rfl rfl ?_
  refine t_v dX7_hours_2 rfl rfl rfl (am_inv_v rfl (kk_0 h) rfl rfl rfl) (s_X7_needWay h) k rfl rfl hP (fun v2 s1 h k => ?_)
  obtain ⟨t3, c4, k⟩ := ok_mn k
  subst c4
  obtain ⟨g5, k⟩ := ok_g k
  have f6 := kk_up h g5
  refine wp_st (ls' := [(0, .ref 0), (1, .int x1), (2, .int x2), (3, .int x3), (4, .int x4), (5, .long x5), (7, .ref t3)]) dX7_hours_5 rfl rfl rfl (Nat.le_of_ble_eq_true rfl) rfl ?_
  refine wp_ld (v := .ref 0) dX7_hours_7 rfl rfl rfl rfl ?_
  refine wp_ld (v := .int x3) dX7_hours_8 rfl rfl rfl rfl ?_
  refine t_v dX7_hours_9 rfl rfl rfl (am_inv_v rfl (kk_0 h) rfl rfl rfl) (s_X7_needHand h) k rfl rfl hP (fun v8 s7 h k => ?_)
  obtain ⟨t9, c10, k⟩ := ok_mn k
  subst c10
  obtain ⟨g11, k⟩ := ok_g k
  have f12 := kk_up h g11
  refine wp_st (ls' := [(0, .ref 0), (1, .int x1), (2, .int x2), (3, .int x3), (4, .int x4), (5, .long x5), (7, .ref t3), (8, .ref t9)]) dX7_hours_12 rfl rfl rfl (Nat.le_of_ble_eq_true rfl) rfl ?_
  refine wp_ld (v := .ref 0) dX7_hours_14 rfl rfl rfl rfl ?_
  refine wp_ld (v := .ref t3) dX7_hours_15 rfl rfl rfl rfl ?_
  refine t_u dX7_hours_17 rfl rfl rfl (am_inv_v rfl (kk_0 h) rfl rfl rfl) (s_X7_needMake h f6) k rfl rfl hP (fun s13 h k => ?_)
  refine wp_ld (v := .int x2) dX7_hours_20 rfl rfl rfl rfl ?_
  refine t_u dX7_hours_21 rfl rfl rfl (am_inv_s rfl rfl rfl rfl) (s_X7_needEars h) k rfl rfl hP (fun s15 h k => ?_)
  refine wp_cst (v := .int (0 : Int32)) dX7_hours_24 rfl rfl ?_
  refine wp_st (ls' := [(0, .ref 0), (1, .int x1), (2, .int x2), (3, .int x3), (4, .int x4), (5, .long x5), (7, .ref t3), (8, .ref t9), (9, .int (0 : Int32))]) dX7_hours_25 rfl rfl rfl (Nat.le_of_ble_eq_true rfl) rfl ?_
  refine lp_m k (fun P1 k hA hB => ?_)
  refine wp_sub (q_X7_hours_27 ax_fuel h f12 k (fun o s p h => hP o s (hA o s p) h) (fun e25 s26 p h => have k := hB e25 s26 p; ?_)) rfl ⟨rfl, rfl, rfl, rfl, rfl, rfl, trivial⟩
  refine wp_cst (v := .int (-1 : Int32)) dX7_hours_84 rfl rfl ?_
  exact wp_end dX7_hours_85 rfl (am_end_i rfl) (hP _ _ (ok_s k) h)
noncomputable def f_L_hours (x2 : Int32) (x3 : Int32) (x4 : Int32) (x5 : Int32) (x6 : Int64) (s : am_S) : am_F :=
  am_xi (f_X7_hours x2 x3 x4 x5 x6 s) (fun v2 s1 =>
    some (.inl (some (.int (0 : Int32))), (am_sL s1 71 0 v2.toInt64))
  ) (fun e s1 =>
    if e = 3 then
      some (.inl (some (.int (1 : Int32))), s1)
    else
      if e = 1 then
        some (.inl (some (.int (2 : Int32))), s1)
      else
        if e = 0 then
          some (.inl (some (.int (3 : Int32))), s1)
        else
          none
  )
theorem s_L_hours {N : Nat} {d : Nat} {x2 : Int32} {x3 : Int32} {x4 : Int32} {x5 : Int32} {x6 : Int64} {s : am_S} (h : am_shE N s)  : am_S1 (am_shE N) (d + 7) mL_hours [.ref 0, .int x2, .int x3, .int x4, .int x5, .long x6, .ref 71] s (f_L_hours x2 x3 x4 x5 x6 s) := by
  intro P Q k hP
  show am_WP (d + 7) mL_hours 0 [(0, .ref 0), (1, .int x2), (2, .int x3), (3, .int x4), (4, .int x5), (5, .long x6), (7, .ref 71)] [] s Q
  unfold f_L_hours at k
  refine wp_ld (v := .ref 71) dL_hours_0 rfl rfl rfl rfl ?_
  refine wp_cst (v := .int (0 : Int32)) dL_hours_2 rfl rfl ?_
  refine wp_ld (v := .ref 0) dL_hours_3 rfl rfl rfl rfl ?_
  refine wp_ld (v := .int x2) dL_hours_4 rfl rfl rfl rfl ?_
  refine wp_ld (v := .int x3) dL_hours_5 rfl rfl rfl rfl ?_
  refine wp_ld (v := .int x4) dL_hours_6 rfl rfl rfl rfl ?_
  refine wp_ld (v := .int x5) dL_hours_7 rfl rfl rfl rfl ?_
  refine wp_ld (v := .long x6) dL_hours_9 rfl rfl rfl rfl ?_
  refine x_i dL_hours_11 rfl rfl rfl (am_inv_v rfl (kE_0 h) rfl rfl rfl) (sE h (fun _ h => s_X7_hours h)) k rfl (List.cons_ne_nil _ _) (fun v2 s1 h k => ?_) (fun e s1 h k => ?_)
  · refine wp_pu dL_hours_14 rfl rfl ?_
    refine wq_last dL_hours_15 (kE_71 h) (by decide) (j := 0) rfl ?_
    refine wp_goto dL_hours_16 rfl ?_
    refine wp_cst (v := .int (0 : Int32)) dL_hours_31 rfl rfl ?_
    exact wp_end dL_hours_32 rfl (am_end_i rfl) (hP _ _ (ok_s k) (shE_sL h))
  · by_cases c3 : e = 3
    · have k := ok_pos c3 k
      subst c3
      refine ⟨_, _, rfl, ?_⟩
      refine wp_cst (v := .int (1 : Int32)) dL_hours_21 rfl rfl ?_
      exact wp_end dL_hours_22 rfl (am_end_i rfl) (hP _ _ (ok_s k) h)
    replace k := ok_neg c3 k
    by_cases c4 : e = 1
    · have k := ok_pos c4 k
      subst c4
      refine ⟨_, _, rfl, ?_⟩
      refine wp_cst (v := .int (2 : Int32)) dL_hours_25 rfl rfl ?_
      exact wp_end dL_hours_26 rfl (am_end_i rfl) (hP _ _ (ok_s k) h)
    replace k := ok_neg c4 k
    by_cases c5 : e = 0
    · have k := ok_pos c5 k
      subst c5
      refine ⟨_, _, rfl, ?_⟩
      refine wp_cst (v := .int (3 : Int32)) dL_hours_29 rfl rfl ?_
      exact wp_end dL_hours_30 rfl (am_end_i rfl) (hP _ _ (ok_s k) h)
    replace k := ok_neg c5 k
    exact (ok_no k).elim
noncomputable def f_X3_byteAt (x1 : Int32) (s : am_S) : am_F :=
  if x1 < 0 then
    some (.inl (some (.int (-1 : Int32))), s)
  else
    if (am_I s 34 2) ≤ x1 then
      some (.inl (some (.int (-1 : Int32))), s)
    else
      if (400 : Int32) ≤ x1 then
        some (.inl (some (.int (-1 : Int32))), s)
      else
        if am_in x1 400 = true then
          some (.inl (some (.int (am_I s 35 x1.toNatClampNeg))), s)
        else none
theorem s_X3_byteAt {N n : Nat} {d : Nat} {x1 : Int32} {s : am_S} (h : am_sh N n s)  : am_S1 (am_sh N n) (d) mX3_byteAt [.ref 34, .int x1] s (f_X3_byteAt x1 s) := by
  intro P Q k hP
  show am_WP (d) mX3_byteAt 0 [(0, .ref 34), (1, .int x1)] [] s Q
  unfold f_X3_byteAt at k
  refine wp_ld (v := .int x1) dX3_byteAt_0 rfl rfl rfl rfl ?_
  refine wp_if_lt dX3_byteAt_1 rfl (fun c1 => have k := ok_pos c1 k; ?_) (fun c1 => have k := ok_neg c1 k; ?_)
  · refine wp_cst (v := .int (-1 : Int32)) dX3_byteAt_28 rfl rfl ?_
    exact wp_end dX3_byteAt_29 rfl (am_end_i rfl) (hP _ _ (ok_s k) h)
  · refine wp_ld (v := .int x1) dX3_byteAt_4 rfl rfl rfl rfl ?_
    refine wp_ld (v := .ref 34) dX3_byteAt_5 rfl rfl rfl rfl ?_
    refine wq_gI dX3_byteAt_6 rfl rfl (kk_34 h) (v := (am_I s 34 2)) rfl ?_
    refine wp_ic_ge dX3_byteAt_9 rfl (fun c2 => have k := ok_pos c2 k; ?_) (fun c2 => have k := ok_neg c2 k; ?_)
    · refine wp_cst (v := .int (-1 : Int32)) dX3_byteAt_28 rfl rfl ?_
      exact wp_end dX3_byteAt_29 rfl (am_end_i rfl) (hP _ _ (ok_s k) h)
    · refine wp_ld (v := .int x1) dX3_byteAt_12 rfl rfl rfl rfl ?_
      refine wp_cst (v := .int (400 : Int32)) dX3_byteAt_13 rfl rfl ?_
      refine wp_ic_ge dX3_byteAt_16 rfl (fun c3 => have k := ok_pos c3 k; ?_) (fun c3 => have k := ok_neg c3 k; ?_)
      · refine wp_cst (v := .int (-1 : Int32)) dX3_byteAt_28 rfl rfl ?_
        exact wp_end dX3_byteAt_29 rfl (am_end_i rfl) (hP _ _ (ok_s k) h)
      · refine wp_ld (v := .ref 34) dX3_byteAt_19 rfl rfl rfl rfl ?_
        refine wp_gr dX3_byteAt_20 rfl rfl (kk_34 h) (rr_34_0 h) ?_
        refine wp_ld (v := .int x1) dX3_byteAt_23 rfl rfl rfl rfl ?_
        obtain ⟨g4, k⟩ := ok_g k
        refine wq_iald dX3_byteAt_24 (kk_35 h) g4 (v := (am_I s 35 x1.toNatClampNeg)) rfl ?_
        refine wp_goto dX3_byteAt_25 rfl ?_
        exact wp_end dX3_byteAt_29 rfl (am_end_i rfl) (hP _ _ (ok_s k) h)
noncomputable def f_X3_isBlank (x1 : Int32) (s : am_S) : am_F :=
  if x1 = (10 : Int32) then
    some (.inl (some (.int (1 : Int32))), s)
  else
    if x1 = (32 : Int32) then
      some (.inl (some (.int (1 : Int32))), s)
    else
      some (.inl (some (.int (0 : Int32))), s)
theorem s_X3_isBlank {N n : Nat} {d : Nat} {x1 : Int32} {s : am_S} (h : am_sh N n s)  : am_S1 (am_sh N n) (d) mX3_isBlank [.int x1] s (f_X3_isBlank x1 s) := by
  intro P Q k hP
  show am_WP (d) mX3_isBlank 0 [(0, .int x1)] [] s Q
  unfold f_X3_isBlank at k
  refine wp_ld (v := .int x1) dX3_isBlank_0 rfl rfl rfl rfl ?_
  refine wp_cst (v := .int (10 : Int32)) dX3_isBlank_1 rfl rfl ?_
  refine wp_ic_eq dX3_isBlank_3 rfl (fun c1 => have k := ok_pos c1 k; ?_) (fun c1 => have k := ok_neg c1 k; ?_)
  · refine wp_cst (v := .int (1 : Int32)) dX3_isBlank_12 rfl rfl ?_
    refine wp_goto dX3_isBlank_13 rfl ?_
    exact wp_end dX3_isBlank_17 rfl rfl (hP _ _ (ok_s k) h)
  · refine wp_ld (v := .int x1) dX3_isBlank_6 rfl rfl rfl rfl ?_
    refine wp_cst (v := .int (32 : Int32)) dX3_isBlank_7 rfl rfl ?_
    refine wp_ic_ne dX3_isBlank_9 rfl (fun c2 => have k := ok_neg c2 k; ?_) (fun c2 => have k := ok_pos c2 k; ?_)
    · refine wp_cst (v := .int (0 : Int32)) dX3_isBlank_16 rfl rfl ?_
      exact wp_end dX3_isBlank_17 rfl rfl (hP _ _ (ok_s k) h)
    · refine wp_cst (v := .int (1 : Int32)) dX3_isBlank_12 rfl rfl ?_
      refine wp_goto dX3_isBlank_13 rfl ?_
      exact wp_end dX3_isBlank_17 rfl rfl (hP _ _ (ok_s k) h)
noncomputable def f_X3_isLetter (x1 : Int32) (s : am_S) : am_F :=
  if x1 < (97 : Int32) then
    some (.inl (some (.int (0 : Int32))), s)
  else
    if (122 : Int32) < x1 then
      some (.inl (some (.int (0 : Int32))), s)
    else
      some (.inl (some (.int (1 : Int32))), s)
theorem s_X3_isLetter {N n : Nat} {d : Nat} {x1 : Int32} {s : am_S} (h : am_sh N n s)  : am_S1 (am_sh N n) (d) mX3_isLetter [.int x1] s (f_X3_isLetter x1 s) := by
  intro P Q k hP
  show am_WP (d) mX3_isLetter 0 [(0, .int x1)] [] s Q
  unfold f_X3_isLetter at k
  refine wp_ld (v := .int x1) dX3_isLetter_0 rfl rfl rfl rfl ?_
  refine wp_cst (v := .int (97 : Int32)) dX3_isLetter_1 rfl rfl ?_
  refine wp_ic_lt dX3_isLetter_3 rfl (fun c1 => have k := ok_pos c1 k; ?_) (fun c1 => have k := ok_neg c1 k; ?_)
  · refine wp_cst (v := .int (0 : Int32)) dX3_isLetter_16 rfl rfl ?_
    exact wp_end dX3_isLetter_17 rfl rfl (hP _ _ (ok_s k) h)
  · refine wp_ld (v := .int x1) dX3_isLetter_6 rfl rfl rfl rfl ?_
    refine wp_cst (v := .int (122 : Int32)) dX3_isLetter_7 rfl rfl ?_
    refine wp_ic_gt dX3_isLetter_9 rfl (fun c2 => have k := ok_pos c2 k; ?_) (fun c2 => have k := ok_neg c2 k; ?_)
    · refine wp_cst (v := .int (0 : Int32)) dX3_isLetter_16 rfl rfl ?_
      exact wp_end dX3_isLetter_17 rfl rfl (hP _ _ (ok_s k) h)
    · refine wp_cst (v := .int (1 : Int32)) dX3_isLetter_12 rfl rfl ?_
      refine wp_goto dX3_isLetter_13 rfl ?_
      exact wp_end dX3_isLetter_17 rfl rfl (hP _ _ (ok_s k) h)
noncomputable def f_X3_isDigit (x1 : Int32) (s : am_S) : am_F :=
  if x1 < (48 : Int32) then
    some (.inl (some (.int (0 : Int32))), s)
  else
    if (57 : Int32) < x1 then
      some (.inl (some (.int (0 : Int32))), s)
    else
      some (.inl (some (.int (1 : Int32))), s)
theorem s_X3_isDigit {N n : Nat} {d : Nat} {x1 : Int32} {s : am_S} (h : am_sh N n s)  : am_S1 (am_sh N n) (d) mX3_isDigit [.int x1] s (f_X3_isDigit x1 s) := by
  intro P Q k hP
  show am_WP (d) mX3_isDigit 0 [(0, .int x1)] [] s Q
  unfold f_X3_isDigit at k
  refine wp_ld (v := .int x1) dX3_isDigit_0 rfl rfl rfl rfl ?_
  refine wp_cst (v := .int (48 : Int32)) dX3_isDigit_1 rfl rfl ?_
  refine wp_ic_lt dX3_isDigit_3 rfl (fun c1 => have k := ok_pos c1 k; ?_) (fun c1 => have k := ok_neg c1 k; ?_)
  · refine wp_cst (v := .int (0 : Int32)) dX3_isDigit_16 rfl rfl ?_
    exact wp_end dX3_isDigit_17 rfl rfl (hP _ _ (ok_s k) h)
  · refine wp_ld (v := .int x1) dX3_isDigit_6 rfl rfl rfl rfl ?_
    refine wp_cst (v := .int (57 : Int32)) dX3_isDigit_7 rfl rfl ?_
    refine wp_ic_gt dX3_isDigit_9 rfl (fun c2 => have k := ok_pos c2 k; ?_) (fun c2 => have k := ok_neg c2 k; ?_)
    · refine wp_cst (v := .int (0 : Int32)) dX3_isDigit_16 rfl rfl ?_
      exact wp_end dX3_isDigit_17 rfl rfl (hP _ _ (ok_s k) h)
    · refine wp_cst (v := .int (1 : Int32)) dX3_isDigit_12 rfl rfl ?_
      refine wp_goto dX3_isDigit_13 rfl ?_
      exact wp_end dX3_isDigit_17 rfl rfl (hP _ _ (ok_s k) h)
noncomputable def L_X3_advanceDigits_7 : Nat → Int32 → Int32 → am_S → am_FE (Int32)
  | 0, _, _, _ => none
  | m + 1, x1, x2, s =>
    if (am_I s 34 2) ≤ x2 then
      some (.inr (x2, s))
    else
      am_bi (f_X3_byteAt x2 s) (fun v3 s2 =>
        am_bi (f_X3_isDigit v3 s2) (fun v5 s4 =>
          if v5 = 0 then
            some (.inr (x2, s4))
          else
            am_bi (f_X3_byteAt x2 s4) (fun v8 s7 =>
              L_X3_advanceDigits_7 m x1 (x2 + (1 : Int32)) (am_sI s7 34 6 ((((10 : Int32) * (am_I s4 34 6)) + v8) - (48 : Int32)))
            )
        )
      )
theorem q_X3_advanceDigits_7 : ∀ (m : Nat) {N n : Nat} {d : Nat} {x1 : Int32} {x2 : Int32} {s : am_S} {P : (am_O × am_S) ⊕ (Int32 × am_S) → Prop} {Q : am_O → am_S → Prop} (h : am_sh N n s)  (k : am_ok (L_X3_advanceDigits_7 m x1 x2 s) P) (hP : ∀ o s, P (.inl (o, s)) → am_sh N n s → Q o s) (hX : ∀ (e : Int32) s, P (.inr (e, s)) → am_sh N n s → am_WP (d + 1) mX3_advanceDigits 52 [(0, .ref 34), (1, .int x1), (2, .int e)] [] s Q), am_WP (d + 1) mX3_advanceDigits 7 [(0, .ref 34), (1, .int x1), (2, .int x2)] [] s Q := by
  intro m
  induction m with
  | zero =>
    intro N n d x1 x2 s P Q h  k hP hX
    exact (ok_no k).elim
  | succ m ih =>
    intro N n d x1 x2 s P Q h  k hP hX
    unfold L_X3_advanceDigits_7 at k
    refine wp_ld (v := .int x2) dX3_advanceDigits_7 rfl rfl rfl rfl ?_
    refine wp_ld (v := .ref 34) dX3_advanceDigits_8 rfl rfl rfl rfl ?_
    refine wq_gI dX3_advanceDigits_9 rfl rfl (kk_34 h) (v := (am_I s 34 2)) rfl ?_
    refine wp_ic_ge dX3_advanceDigits_12 rfl (fun c1 => have k := ok_pos c1 k; ?_) (fun c1 => have k := ok_neg c1 k; ?_)
    · exact wp_sub (hX _ _ (ok_s k) h) rfl ⟨rfl, rfl, rfl, trivial⟩
    · refine wp_ld (v := .ref 34) dX3_advanceDigits_15 rfl rfl rfl rfl ?_
      refine wp_ld (v := .int x2) dX3_advanceDigits_16 rfl rfl rfl rfl ?_
      refine c_i dX3_advanceDigits_17 rfl rfl rfl (am_inv_v rfl (kk_34 h) rfl rfl rfl) (s_X3_byteAt h) k (fun v3 s2 h k => ?_)
      refine c_i dX3_advanceDigits_20 rfl rfl rfl (am_inv_s rfl rfl rfl rfl) (s_X3_isDigit h) k (fun v5 s4 h k => ?_)
      refine wp_if_eq dX3_advanceDigits_23 rfl (fun c6 => have k := ok_pos c6 k; ?_) (fun c6 => have k := ok_neg c6 k; ?_)
      · exact wp_sub (hX _ _ (ok_s k) h) rfl ⟨rfl, rfl, rfl, trivial⟩
      · refine wp_ld (v := .ref 34) dX3_advanceDigits_26 rfl rfl rfl rfl ?_
        refine wp_cst (v := .int (10 : Int32)) dX3_advanceDigits_27 rfl rfl ?_
        refine wp_ld (v := .ref 34) dX3_advanceDigits_29 rfl rfl rfl rfl ?_
        refine wq_gI dX3_advanceDigits_30 rfl rfl (kk_34 h) (v := (am_I s4 34 6)) rfl ?_
        refine wp_pu dX3_advanceDigits_33 rfl rfl ?_
        refine wp_ld (v := .ref 34) dX3_advanceDigits_34 rfl rfl rfl rfl ?_
        refine wp_ld (v := .int x2) dX3_advanceDigits_35 rfl rfl rfl rfl ?_
        refine c_i dX3_advanceDigits_36 rfl rfl rfl (am_inv_v rfl (kk_34 h) rfl rfl rfl) (s_X3_byteAt h) k (fun v8 s7 h k => ?_)
        refine wp_pu dX3_advanceDigits_39 rfl rfl ?_
        refine wp_cst (v := .int (48 : Int32)) dX3_advanceDigits_40 rfl rfl ?_
        refine wp_pu dX3_advanceDigits_42 rfl rfl ?_
        refine wp_pI dX3_advanceDigits_43 rfl rfl rfl (fun h => absurd h (by decide)) (kk_34 h) ?_
        refine wp_inc (v := (x2 + (1 : Int32))) (ls' := [(0, .ref 34), (1, .int x1), (2, .int (x2 + (1 : Int32)))]) dX3_advanceDigits_46 rfl (Nat.le_of_ble_eq_true rfl) rfl rfl ?_
        refine wp_goto dX3_advanceDigits_49 rfl ?_
        exact wp_sub (ih (sh_sI h) k hP hX) rfl ⟨rfl, rfl, rfl, trivial⟩
noncomputable def f_X3_advanceDigits (x1 : Int32) (s : am_S) : am_F :=
  am_lm (L_X3_advanceDigits_7 ax_fuel x1 x1 (am_sI s 34 6 (0 : Int32))) (fun e9 s10 =>
    am_jn (fun (e12 : Int32) s13 =>
      some (.inl (some (.int e9)), (am_sI s13 34 4 e12))
    ) (fun J11 =>
      if (2 : Int32) < (e9 - x1) then
        J11 (4 : Int32) s10
      else
        J11 (2 : Int32) s10
    )
  )
theorem s_X3_advanceDigits {N n : Nat} {d : Nat} {x1 : Int32} {s : am_S} (h : am_sh N n s)  : am_S1 (am_sh N n) (d + 1) mX3_advanceDigits [.ref 34, .int x1] s (f_X3_advanceDigits x1 s) := by
  intro P Q k hP
  show am_WP (d + 1) mX3_advanceDigits 0 [(0, .ref 34), (1, .int x1)] [] s Q
  unfold f_X3_advanceDigits at k
  refine wp_ld (v := .int x1) dX3_advanceDigits_0 rfl rfl rfl rfl ?_
  refine wp_st (ls' := [(0, .ref 34), (1, .int x1), (2, .int x1)]) dX3_advanceDigits_1 rfl rfl rfl (Nat.le_of_ble_eq_true rfl) rfl ?_
  refine wp_ld (v := .ref 34) dX3_advanceDigits_2 rfl rfl rfl rfl ?_
  refine wp_cst (v := .int (0 : Int32)) dX3_advanceDigits_3 rfl rfl ?_
  refine wp_pI dX3_advanceDigits_4 rfl rfl rfl (fun h => absurd h (by decide)) (kk_34 h) ?_
  refine lp_m k (fun P1 k hA hB => ?_)
  refine wp_sub (q_X3_advanceDigits_7 ax_fuel (sh_sI h) k (fun o s p h => hP o s (hA o s p) h) (fun e9 s10 p h => have k := hB e9 s10 p; ?_)) rfl ⟨rfl, rfl, rfl, trivial⟩
  refine wp_ld (v := .ref 34) dX3_advanceDigits_52 rfl rfl rfl rfl ?_
  refine wp_ld (v := .int e9) dX3_advanceDigits_53 rfl rfl rfl rfl ?_
  refine wp_ld (v := .int x1) dX3_advanceDigits_54 rfl rfl rfl rfl ?_
  refine wp_pu dX3_advanceDigits_55 rfl rfl ?_
  refine wp_cst (v := .int (2 : Int32)) dX3_advanceDigits_56 rfl rfl ?_
  refine jn_rule k (fun J11 hJ11 k => ?_)
  have HJ11 : ∀ (e12 : Int32) (s13 : am_S), am_sh N n s13 → am_ok (J11 e12 s13) P → am_WP (d + 1) mX3_advanceDigits 65 [(2, .int e9)] [.int e12, .ref 34] s13 Q := by
    intro e12 s13 h k
    replace k := hJ11 _ _ k
    refine wp_pI dX3_advanceDigits_65 rfl rfl rfl (fun h => absurd h (by decide)) (kk_34 h) ?_
    refine wp_ld (v := .int e9) dX3_advanceDigits_68 rfl rfl rfl rfl ?_
    exact wp_end dX3_advanceDigits_69 rfl (am_end_i rfl) (hP _ _ (ok_s k) (sh_sI h))
  refine wp_ic_gt dX3_advanceDigits_57 rfl (fun c14 => have k := ok_pos c14 k; ?_) (fun c14 => have k := ok_neg c14 k; ?_)
  · refine wp_cst (v := .int (4 : Int32)) dX3_advanceDigits_64 rfl rfl ?_
    exact wp_sub (HJ11 _ _ h k) rfl ⟨rfl, trivial⟩
  · refine wp_cst (v := .int (2 : Int32)) dX3_advanceDigits_60 rfl rfl ?_
    refine wp_goto dX3_advanceDigits_61 rfl ?_
    exact wp_sub (HJ11 _ _ h k) rfl ⟨rfl, trivial⟩
noncomputable def L_X3_advance_5 : Nat → Int32 → am_S → am_FE (Int32)
  | 0, _, _ => none
  | m + 1, x1, s =>
    if (am_I s 34 2) ≤ x1 then
      some (.inr (x1, s))
    else
      am_bi (f_X3_byteAt x1 s) (fun v3 s2 =>
        am_bi (f_X3_isBlank v3 s2) (fun v5 s4 =>
          if v5 = 0 then
            some (.inr (x1, s4))
          else
            L_X3_advance_5 m (x1 + (1 : Int32)) s4
        )
      )
theorem q_X3_advance_5 : ∀ (m : Nat) {N n : Nat} {d : Nat} {x1 : Int32} {s : am_S} {P : (am_O × am_S) ⊕ (Int32 × am_S) → Prop} {Q : am_O → am_S → Prop} (h : am_sh N n s)  (k : am_ok (L_X3_advance_5 m x1 s) P) (hP : ∀ o s, P (.inl (o, s)) → am_sh N n s → Q o s) (hX : ∀ (e : Int32) s, P (.inr (e, s)) → am_sh N n s → am_WP (d + 2) mX3_advance 30 [(0, .ref 34), (1, .int e)] [] s Q), am_WP (d + 2) mX3_advance 5 [(0, .ref 34), (1, .int x1)] [] s Q := by
  intro m
  induction m with
  | zero =>
    intro N n d x1 s P Q h  k hP hX
    exact (ok_no k).elim
  | succ m ih =>
    intro N n d x1 s P Q h  k hP hX
    unfold L_X3_advance_5 at k
    refine wp_ld (v := .int x1) dX3_advance_5 rfl rfl rfl rfl ?_
    refine wp_ld (v := .ref 34) dX3_advance_6 rfl rfl rfl rfl ?_
    refine wq_gI dX3_advance_7 rfl rfl (kk_34 h) (v := (am_I s 34 2)) rfl ?_
    refine wp_ic_ge dX3_advance_10 rfl (fun c1 => have k := ok_pos c1 k; ?_) (fun c1 => have k := ok_neg c1 k; ?_)
    · exact wp_sub (hX _ _ (ok_s k) h) rfl ⟨rfl, rfl, trivial⟩
    · refine wp_ld (v := .ref 34) dX3_advance_13 rfl rfl rfl rfl ?_
      refine wp_ld (v := .int x1) dX3_advance_14 rfl rfl rfl rfl ?_
      refine c_i dX3_advance_15 rfl rfl rfl (am_inv_v rfl (kk_34 h) rfl rfl rfl) (s_X3_byteAt h) k (fun v3 s2 h k => ?_)
      refine c_i dX3_advance_18 rfl rfl rfl (am_inv_s rfl rfl rfl rfl) (s_X3_isBlank h) k (fun v5 s4 h k => ?_)
      refine wp_if_eq dX3_advance_21 rfl (fun c6 => have k := ok_pos c6 k; ?_) (fun c6 => have k := ok_neg c6 k; ?_)
      · exact wp_sub (hX _ _ (ok_s k) h) rfl ⟨rfl, rfl, trivial⟩
      · refine wp_inc (v := (x1 + (1 : Int32))) (ls' := [(0, .ref 34), (1, .int (x1 + (1 : Int32)))]) dX3_advance_24 rfl (Nat.le_of_ble_eq_true rfl) rfl rfl ?_
        refine wp_goto dX3_advance_27 rfl ?_
        exact wp_sub (ih h k hP hX) rfl ⟨rfl, rfl, trivial⟩
noncomputable def L_X3_advance_83 : Nat → Int32 → am_S → am_FE (Int32)
  | 0, _, _ => none
  | m + 1, x1, s =>
    if (am_I s 34 2) ≤ x1 then
      some (.inr (x1, s))
    else
      am_bi (f_X3_byteAt x1 s) (fun v26 s25 =>
        am_bi (f_X3_isLetter v26 s25) (fun v28 s27 =>
          if v28 = 0 then
            some (.inr (x1, s27))
          else
            L_X3_advance_83 m (x1 + (1 : Int32)) s27
        )
      )
theorem q_X3_advance_83 : ∀ (m : Nat) {N n : Nat} {d : Nat} {x1 : Int32} {s : am_S} {P : (am_O × am_S) ⊕ (Int32 × am_S) → Prop} {Q : am_O → am_S → Prop} (h : am_sh N n s)  (k : am_ok (L_X3_advance_83 m x1 s) P) (hP : ∀ o s, P (.inl (o, s)) → am_sh N n s → Q o s) (hX : ∀ (e : Int32) s, P (.inr (e, s)) → am_sh N n s → am_WP (d + 2) mX3_advance 129 [(0, .ref 34), (1, .int e)] [] s Q), am_WP (d + 2) mX3_advance 83 [(0, .ref 34), (1, .int x1)] [] s Q := by
  intro m
  induction m with
  | zero =>
    intro N n d x1 s P Q h  k hP hX
    exact (ok_no k).elim
  | succ m ih =>
    intro N n d x1 s P Q h  k hP hX
    unfold L_X3_advance_83 at k
    refine wp_ld (v := .int x1) dX3_advance_83 rfl rfl rfl rfl ?_
    refine wp_ld (v := .ref 34) dX3_advance_84 rfl rfl rfl rfl ?_
    refine wq_gI dX3_advance_85 rfl rfl (kk_34 h) (v := (am_I s 34 2)) rfl ?_
    refine wp_ic_ge dX3_advance_88 rfl (fun c24 => have k := ok_pos c24 k; ?_) (fun c24 => have k := ok_neg c24 k; ?_)
    · exact wp_sub (hX _ _ (ok_s k) h) rfl ⟨rfl, rfl, trivial⟩
    · refine wp_ld (v := .ref 34) dX3_advance_91 rfl rfl rfl rfl ?_
      refine wp_ld (v := .int x1) dX3_advance_92 rfl rfl rfl rfl ?_
      refine c_i dX3_advance_93 rfl rfl rfl (am_inv_v rfl (kk_34 h) rfl rfl rfl) (s_X3_byteAt h) k (fun v26 s25 h k => ?_)
      refine c_i dX3_advance_96 rfl rfl rfl (am_inv_s rfl rfl rfl rfl) (s_X3_isLetter h) k (fun v28 s27 h k => ?_)
      refine wp_if_eq dX3_advance_99 rfl (fun c29 => have k := ok_pos c29 k; ?_) (fun c29 => have k := ok_neg c29 k; ?_)
      · exact wp_sub (hX _ _ (ok_s k) h) rfl ⟨rfl, rfl, trivial⟩
      · refine wp_inc (v := (x1 + (1 : Int32))) (ls' := [(0, .ref 34), (1, .int (x1 + (1 : Int32)))]) dX3_advance_102 rfl (Nat.le_of_ble_eq_true rfl) rfl rfl ?_
        refine wp_goto dX3_advance_105 rfl ?_
        exact wp_sub (ih h k hP hX) rfl ⟨rfl, rfl, trivial⟩
noncomputable def f_X3_advance  (s : am_S) : am_F :=
  am_lm (L_X3_advance_5 ax_fuel (am_I s 34 3) s) (fun e7 s8 =>
    am_bi (f_X3_byteAt e7 (am_sI s8 34 5 e7)) (fun v10 s9 =>
      am_jn (fun (e12 : Int32) s13 =>
        some (.inl none, (am_sI s13 34 3 e12))
      ) (fun J11 =>
        if v10 = (-1 : Int32) then
          J11 e7 (am_sI s9 34 4 (0 : Int32))
        else
          if v10 = (59 : Int32) then
            J11 (e7 + (1 : Int32)) (am_sI s9 34 4 (3 : Int32))
          else
            am_bi (f_X3_isLetter v10 s9) (fun v17 s16 =>
              if v17 = 0 then
                am_bi (f_X3_isDigit v10 s16) (fun v20 s19 =>
                  if v20 = 0 then
                    J11 e7 (am_sI s19 34 4 (4 : Int32))
                  else
                    am_bi (f_X3_advanceDigits e7 s19) (fun v23 s22 =>
                      J11 v23 s22
                    )
                )
              else
                am_lm (L_X3_advance_83 ax_fuel e7 (am_sI s16 34 4 (1 : Int32))) (fun e30 s31 =>
                  J11 e30 s31
                )
            )
      )
    )
  )
theorem s_X3_advance {N n : Nat} {d : Nat}  {s : am_S} (h : am_sh N n s)  : am_S1 (am_sh N n) (d + 2) mX3_advance [.ref 34] s (f_X3_advance s) := by
  intro P Q k hP
  show am_WP (d + 2) mX3_advance 0 [(0, .ref 34)] [] s Q
  unfold f_X3_advance at k
  refine wp_ld (v := .ref 34) dX3_advance_0 rfl rfl rfl rfl ?_
  refine wq_gI dX3_advance_1 rfl rfl (kk_34 h) (v := (am_I s 34 3)) rfl ?_
  refine wp_st (ls' := [(0, .ref 34), (1, .int (am_I s 34 3))]) dX3_advance_4 rfl rfl rfl (Nat.le_of_ble_eq_true rfl) rfl ?_
  refine lp_m k (fun P1 k hA hB => ?_)
  refine wp_sub (q_X3_advance_5 ax_fuel h k (fun o s p h => hP o s (hA o s p) h) (fun e7 s8 p h => have k := hB e7 s8 p; ?_)) rfl ⟨rfl, rfl, trivial⟩
  refine wp_ld (v := .ref 34) dX3_advance_30 rfl rfl rfl rfl ?_
  refine wp_ld (v := .int e7) dX3_advance_31 rfl rfl rfl rfl ?_
  refine wp_pI dX3_advance_32 rfl rfl rfl (fun h => absurd h (by decide)) (kk_34 h) ?_
  refine wp_ld (v := .ref 34) dX3_advance_35 rfl rfl rfl rfl ?_
  refine wp_ld (v := .int e7) dX3_advance_36 rfl rfl rfl rfl ?_
  refine c_i dX3_advance_37 rfl rfl rfl (am_inv_v rfl (kk_34 (sh_sI h)) rfl rfl rfl) (s_X3_byteAt (sh_sI h)) k (fun v10 s9 h k => ?_)
  refine wp_st (ls' := [(0, .ref 34), (1, .int e7), (2, .int v10)]) dX3_advance_40 rfl rfl rfl (Nat.le_of_ble_eq_true rfl) rfl ?_
  refine wp_ld (v := .int v10) dX3_advance_41 rfl rfl rfl rfl ?_
  refine wp_cst (v := .int (-1 : Int32)) dX3_advance_42 rfl rfl ?_
  refine jn_rule k (fun J11 hJ11 k => ?_)
  have HJ11 : ∀ (e12 : Int32) (s13 : am_S), am_sh N n s13 → am_ok (J11 e12 s13) P → am_WP (d + 2) mX3_advance 129 [(0, .ref 34), (1, .int e12)] [] s13 Q := by
    intro e12 s13 h k
    replace k := hJ11 _ _ k
    refine wp_ld (v := .ref 34) dX3_advance_129 rfl rfl rfl rfl ?_
    refine wp_ld (v := .int e12) dX3_advance_130 rfl rfl rfl rfl ?_
    refine wp_pI dX3_advance_131 rfl rfl rfl (fun h => absurd h (by decide)) (kk_34 h) ?_
    exact wp_end dX3_advance_134 rfl rfl (hP _ _ (ok_s k) (sh_sI h))
  refine wp_ic_ne dX3_advance_43 rfl (fun c14 => have k := ok_neg c14 k; ?_) (fun c14 => have k := ok_pos c14 k; ?_)
  · refine wp_ld (v := .int v10) dX3_advance_54 rfl rfl rfl rfl ?_
    refine wp_cst (v := .int (59 : Int32)) dX3_advance_55 rfl rfl ?_
    refine wp_ic_ne dX3_advance_57 rfl (fun c15 => have k := ok_neg c15 k; ?_) (fun c15 => have k := ok_pos c15 k; ?_)
    · refine wp_ld (v := .int v10) dX3_advance_71 rfl rfl rfl rfl ?_
      refine c_i dX3_advance_72 rfl rfl rfl (am_inv_s rfl rfl rfl rfl) (s_X3_isLetter h) k (fun v17 s16 h k => ?_)
      refine wp_if_eq dX3_advance_75 rfl (fun c18 => have k := ok_pos c18 k; ?_) (fun c18 => have k := ok_neg c18 k; ?_)
      · refine wp_ld (v := .int v10) dX3_advance_108 rfl rfl rfl rfl ?_
        refine c_i dX3_advance_109 rfl rfl rfl (am_inv_s rfl rfl rfl rfl) (s_X3_isDigit h) k (fun v20 s19 h k => ?_)
        refine wp_if_eq dX3_advance_112 rfl (fun c21 => have k := ok_pos c21 k; ?_) (fun c21 => have k := ok_neg c21 k; ?_)
        · refine wp_ld (v := .ref 34) dX3_advance_124 rfl rfl rfl rfl ?_
          refine wp_cst (v := .int (4 : Int32)) dX3_advance_125 rfl rfl ?_
          refine wp_pI dX3_advance_126 rfl rfl rfl (fun h => absurd h (by decide)) (kk_34 h) ?_
          exact wp_sub (HJ11 _ _ (sh_sI h) k) rfl ⟨rfl, rfl, trivial⟩
        · refine wp_ld (v := .ref 34) dX3_advance_115 rfl rfl rfl rfl ?_
          refine wp_ld (v := .int e7) dX3_advance_116 rfl rfl rfl rfl ?_
          refine c_i dX3_advance_117 rfl rfl rfl (am_inv_v rfl (kk_34 h) rfl rfl rfl) (s_X3_advanceDigits h) k (fun v23 s22 h k => ?_)
          refine wp_st (ls' := [(0, .ref 34), (1, .int v23), (2, .int v10)]) dX3_advance_120 rfl rfl rfl (Nat.le_of_ble_eq_true rfl) rfl ?_
          refine wp_goto dX3_advance_121 rfl ?_
          exact wp_sub (HJ11 _ _ h k) rfl ⟨rfl, rfl, trivial⟩
      · refine wp_ld (v := .ref 34) dX3_advance_78 rfl rfl rfl rfl ?_
        refine wp_cst (v := .int (1 : Int32)) dX3_advance_79 rfl rfl ?_
        refine wp_pI dX3_advance_80 rfl rfl rfl (fun h => absurd h (by decide)) (kk_34 h) ?_
        refine lp_m k (fun P1 k hA hB => ?_)
        refine wp_sub (q_X3_advance_83 ax_fuel (sh_sI h) k (fun o s p h => hP o s (hA o s p) h) (fun e30 s31 p h => have k := hB e30 s31 p; ?_)) rfl ⟨rfl, rfl, trivial⟩
        exact wp_sub (HJ11 _ _ h k) rfl ⟨rfl, rfl, trivial⟩
    · refine wp_ld (v := .ref 34) dX3_advance_60 rfl rfl rfl rfl ?_
      refine wp_cst (v := .int (3 : Int32)) dX3_advance_61 rfl rfl ?_
      refine wp_pI dX3_advance_62 rfl rfl rfl (fun h => absurd h (by decide)) (kk_34 h) ?_
      refine wp_inc (v := (e7 + (1 : Int32))) (ls' := [(0, .ref 34), (1, .int (e7 + (1 : Int32))), (2, .int v10)]) dX3_advance_65 rfl (Nat.le_of_ble_eq_true rfl) rfl rfl ?_
      refine wp_goto dX3_advance_68 rfl ?_
      exact wp_sub (HJ11 _ _ (sh_sI h) k) rfl ⟨rfl, rfl, trivial⟩
  · refine wp_ld (v := .ref 34) dX3_advance_46 rfl rfl rfl rfl ?_
    refine wp_cst (v := .int (0 : Int32)) dX3_advance_47 rfl rfl ?_
    refine wp_pI dX3_advance_48 rfl rfl rfl (fun h => absurd h (by decide)) (kk_34 h) ?_
    refine wp_goto dX3_advance_51 rfl ?_
    exact wp_sub (HJ11 _ _ (sh_sI h) k) rfl ⟨rfl, rfl, trivial⟩
noncomputable def f_X3_begin (x1 : Int32) (s : am_S) : am_F :=
  am_bu (f_X3_advance (am_sI (am_sI (am_sI (am_sI (am_sI s 34 2 (am_min x1 (am_I s 34 1))) 34 1 (0 : Int32)) 34 3 (0 : Int32)) 34 7 (0 : Int32)) 34 8 (-1 : Int32))) (fun s1 =>
    some (.inl none, s1)
  )
theorem s_X3_begin {N n : Nat} {d : Nat} {x1 : Int32} {s : am_S} (h : am_sh N n s)  : am_S1 (am_sh N n) (d + 3) mX3_begin [.ref 34, .int x1] s (f_X3_begin x1 s) := by
  intro P Q k hP
  show am_WP (d + 3) mX3_begin 0 [(0, .ref 34), (1, .int x1)] [] s Q
  unfold f_X3_begin at k
  refine wp_ld (v := .ref 34) dX3_begin_0 rfl rfl rfl rfl ?_
  refine wp_ld (v := .int x1) dX3_begin_1 rfl rfl rfl rfl ?_
  refine wp_ld (v := .ref 34) dX3_begin_2 rfl rfl rfl rfl ?_
  refine wq_gI dX3_begin_3 rfl rfl (kk_34 h) (v := (am_I s 34 1)) rfl ?_
  refine wp_mem (st' := .int (am_min x1 (am_I s 34 1)) :: [.ref 34]) dX3_begin_6 rfl rfl rfl rfl ?_
  refine wp_pI dX3_begin_9 rfl rfl rfl (fun h => absurd h (by decide)) (kk_34 h) ?_
  refine wp_ld (v := .ref 34) dX3_begin_12 rfl rfl rfl rfl ?_
  refine wp_cst (v := .int (0 : Int32)) dX3_begin_13 rfl rfl ?_
  refine wp_pI dX3_begin_14 rfl rfl rfl (fun h => absurd h (by decide)) (kk_34 (sh_sI h)) ?_
  refine wp_ld (v := .ref 34) dX3_begin_17 rfl rfl rfl rfl ?_
  refine wp_cst (v := .int (0 : Int32)) dX3_begin_18 rfl rfl ?_
  show am_WP (d + 3) mX3_begin 19 _ _ _ Q
  refine wp_pI dX3_begin_19 rfl rfl rfl (fun h => absurd h (by decide)) (kk_34 (sh_sI (sh_sI h))) ?_
  refine wp_ld (v := .ref 34) dX3_begin_22 rfl rfl rfl rfl ?_
  refine wp_cst (v := .int (0 : Int32)) dX3_begin_23 rfl rfl ?_
  refine wp_pI dX3_begin_24 rfl rfl rfl (fun h => absurd h (by decide)) (kk_34 (sh_sI (sh_sI (sh_sI h)))) ?_
  refine wp_ld (v := .ref 34) dX3_begin_27 rfl rfl rfl rfl ?_
  refine wp_cst (v := .int (-1 : Int32)) dX3_begin_28 rfl rfl ?_
  refine wp_pI dX3_begin_29 rfl rfl rfl (fun h => absurd h (by decide)) (kk_34 (sh_sI (sh_sI (sh_sI (sh_sI h))))) ?_
  refine wp_ld (v := .ref 34) dX3_begin_32 rfl rfl rfl rfl ?_
  refine c_u dX3_begin_33 rfl rfl rfl (am_inv_v rfl (kk_34 (sh_sI (sh_sI (sh_sI (sh_sI (sh_sI h)))))) rfl rfl rfl) (s_X3_advance (sh_sI (sh_sI (sh_sI (sh_sI (sh_sI h)))))) k (fun s1 h k => ?_)
  exact wp_end dX3_begin_36 rfl rfl (hP _ _ (ok_s k) h)
noncomputable def f_X3_lineWord (x1 : Int32) (s : am_S) : am_F :=
  if x1 = (0 : Int32) then
    some (.inl (some (.ref 1000003)), s)
  else if x1 = (1 : Int32) then
    some (.inl (some (.ref 1000004)), s)
  else if x1 = (2 : Int32) then
    some (.inl (some (.ref 1000005)), s)
  else if x1 = (3 : Int32) then
    some (.inl (some (.ref 1000006)), s)
  else if x1 = (4 : Int32) then
    some (.inl (some (.ref 1000007)), s)
  else if x1 = (5 : Int32) then
    some (.inl (some (.ref 1000008)), s)
  else
    some (.inl (some (.ref 1000009)), s)
theorem s_X3_lineWord {N n : Nat} {d : Nat} {x1 : Int32} {s : am_S} (h : am_sh N n s)  : am_S1 (am_sh N n) (d) mX3_lineWord [.int x1] s (f_X3_lineWord x1 s) := by
  intro P Q k hP
  show am_WP (d) mX3_lineWord 0 [(0, .int x1)] [] s Q
  unfold f_X3_lineWord at k
  refine wp_ld (v := .int x1) dX3_lineWord_0 rfl rfl rfl rfl ?_
  by_cases c1 : x1 = (0 : Int32)
  · have k := ok_pos c1 k
    refine sw_hit dX3_lineWord_1 rfl c1 rfl ?_
    refine wp_cst (v := .ref 1000003) dX3_lineWord_40 rfl rfl ?_
    exact wp_end dX3_lineWord_42 rfl rfl (hP _ _ (ok_s k) h)
  replace k := ok_neg c1 k
  by_cases c2 : x1 = (1 : Int32)
  · have k := ok_pos c2 k
    refine sw_hit dX3_lineWord_1 rfl c2 rfl ?_
    refine wp_cst (v := .ref 1000004) dX3_lineWord_43 rfl rfl ?_
    exact wp_end dX3_lineWord_45 rfl rfl (hP _ _ (ok_s k) h)
  replace k := ok_neg c2 k
  by_cases c3 : x1 = (2 : Int32)
  · have k := ok_pos c3 k
    refine sw_hit dX3_lineWord_1 rfl c3 rfl ?_
    refine wp_cst (v := .ref 1000005) dX3_lineWord_46 rfl rfl ?_
    exact wp_end dX3_lineWord_48 rfl rfl (hP _ _ (ok_s k) h)
  replace k := ok_neg c3 k
  by_cases c4 : x1 = (3 : Int32)
  · have k := ok_pos c4 k
    refine sw_hit dX3_lineWord_1 rfl c4 rfl ?_
    refine wp_cst (v := .ref 1000006) dX3_lineWord_49 rfl rfl ?_
    exact wp_end dX3_lineWord_51 rfl rfl (hP _ _ (ok_s k) h)
  replace k := ok_neg c4 k
  by_cases c5 : x1 = (4 : Int32)
  · have k := ok_pos c5 k
    refine sw_hit dX3_lineWord_1 rfl c5 rfl ?_
    refine wp_cst (v := .ref 1000007) dX3_lineWord_52 rfl rfl ?_
    exact wp_end dX3_lineWord_54 rfl rfl (hP _ _ (ok_s k) h)
  replace k := ok_neg c5 k
  by_cases c6 : x1 = (5 : Int32)
  · have k := ok_pos c6 k
    refine sw_hit dX3_lineWord_1 rfl c6 rfl ?_
    refine wp_cst (v := .ref 1000008) dX3_lineWord_55 rfl rfl ?_
    exact wp_end dX3_lineWord_57 rfl rfl (hP _ _ (ok_s k) h)
  replace k := ok_neg c6 k
  refine ts_out dX3_lineWord_1 rfl (by
      intro j h1 h2
      have hj : j = 0 ∨ j = 1 ∨ j = 2 ∨ j = 3 ∨ j = 4 ∨ j = 5 := by omega
      rcases hj with e | e | e | e | e | e
      · subst e; exact c1
      · subst e; exact c2
      · subst e; exact c3
      · subst e; exact c4
      · subst e; exact c5
      · subst e; exact c6
      ) ?_
  refine wp_cst (v := .ref 1000009) dX3_lineWord_58 rfl rfl ?_
  exact wp_end dX3_lineWord_60 rfl rfl (hP _ _ (ok_s k) h)
noncomputable def L_X3_isWord_28 : Nat → Nat → Int32 → am_S → am_FE (Unit)
  | 0, _, _, _ => none
  | m + 1, a1, x2, s =>
    if (Int32.ofNat (am_k0 a1).2) ≤ x2 then
      some (.inr ((), s))
    else
      am_bi (f_X3_byteAt ((am_I s 34 5) + x2) s) (fun v5 s4 =>
        if am_in x2 (am_k0 a1).2 = true then
          if v5 = (am_I s4 a1 x2.toNatClampNeg) then
            L_X3_isWord_28 m a1 (x2 + (1 : Int32)) s4
          else
            some (.inl (.inl (some (.int (0 : Int32))), s4))
        else none
      )
theorem q_X3_isWord_28 : ∀ (m : Nat) {N n : Nat} {d : Nat} {a1 : Nat} {x2 : Int32} {s : am_S} {P : (am_O × am_S) ⊕ (Unit × am_S) → Prop} {Q : am_O → am_S → Prop} (h : am_sh N n s) (fa1 : (am_k0 a1).1 = 18) (k : am_ok (L_X3_isWord_28 m a1 x2 s) P) (hP : ∀ o s, P (.inl (o, s)) → am_sh N n s → Q o s) (hX : ∀ (e : Unit) s, P (.inr (e, s)) → am_sh N n s → am_WP (d + 1) mX3_isWord 62 [] [] s Q), am_WP (d + 1) mX3_isWord 28 [(0, .ref 34), (1, .ref a1), (2, .int x2)] [] s Q := by
  intro m
  induction m with
  | zero =>
    intro N n d a1 x2 s P Q h fa1 k hP hX
    exact (ok_no k).elim
  | succ m ih =>
    intro N n d a1 x2 s P Q h fa1 k hP hX
    unfold L_X3_isWord_28 at k
    refine wp_ld (v := .int x2) dX3_isWord_28 rfl rfl rfl rfl ?_
    refine wp_ld (v := .ref a1) dX3_isWord_29 rfl rfl rfl rfl ?_
    refine wq_slen dX3_isWord_30 rfl (kk_t h fa1) (Nat.le_of_ble_eq_true rfl) ?_
    refine wp_ic_ge dX3_isWord_33 rfl (fun c3 => have k := ok_pos c3 k; ?_) (fun c3 => have k := ok_neg c3 k; ?_)
    · exact wp_sub (hX _ _ (ok_s k) h) rfl trivial
    · refine wp_ld (v := .ref 34) dX3_isWord_36 rfl rfl rfl rfl ?_
      refine wp_ld (v := .ref 34) dX3_isWord_37 rfl rfl rfl rfl ?_
      refine wq_gI dX3_isWord_38 rfl rfl (kk_34 h) (v := (am_I s 34 5)) rfl ?_
      refine wp_ld (v := .int x2) dX3_isWord_41 rfl rfl rfl rfl ?_
      refine wp_pu dX3_isWord_42 rfl rfl ?_
      refine c_i dX3_isWord_43 rfl rfl rfl (am_inv_v rfl (kk_34 h) rfl rfl rfl) (s_X3_byteAt h) k (fun v5 s4 h k => ?_)
      refine wp_ld (v := .ref a1) dX3_isWord_46 rfl rfl rfl rfl ?_
      refine wp_ld (v := .int x2) dX3_isWord_47 rfl rfl rfl rfl ?_
      obtain ⟨g6, k⟩ := ok_g k
      refine wq_chr dX3_isWord_48 rfl (kk_t h fa1) g6 (Nat.le_of_ble_eq_true rfl) ?_
      refine wp_ic_eq dX3_isWord_51 rfl (fun c7 => have k := ok_pos c7 k; ?_) (fun c7 => have k := ok_neg c7 k; ?_)
      · refine wp_inc (v := (x2 + (1 : Int32))) (ls' := [(0, .ref 34), (1, .ref a1), (2, .int (x2 + (1 : Int32)))]) dX3_isWord_56 rfl (Nat.le_of_ble_eq_true rfl) rfl rfl ?_
        refine wp_goto dX3_isWord_59 rfl ?_
        exact wp_sub (ih h fa1 k hP hX) rfl ⟨rfl, rfl, rfl, trivial⟩
      · refine wp_cst (v := .int (0 : Int32)) dX3_isWord_54 rfl rfl ?_
        exact wp_end dX3_isWord_55 rfl rfl (hP _ _ (ok_s k) h)
noncomputable def f_X3_isWord (b1 : Nat) (s : am_S) : am_F :=
  if (am_I s 34 4) = (1 : Int32) then
    if ((am_I s 34 3) - (am_I s 34 5)) = (Int32.ofNat (am_k0 b1).2) then
      am_lm (L_X3_isWord_28 ax_fuel b1 (0 : Int32) s) (fun e8 s9 =>
        some (.inl (some (.int (1 : Int32))), s9)
      )
    else
      some (.inl (some (.int (0 : Int32))), s)
  else
    some (.inl (some (.int (0 : Int32))), s)
theorem s_X3_isWord {N n : Nat} {d : Nat} {b1 : Nat} {s : am_S} (h : am_sh N n s) (fb1 : (am_k0 b1).1 = 18) : am_S1 (am_sh N n) (d + 1) mX3_isWord [.ref 34, .ref b1] s (f_X3_isWord b1 s) := by
  intro P Q k hP
  show am_WP (d + 1) mX3_isWord 0 [(0, .ref 34), (1, .ref b1)] [] s Q
  unfold f_X3_isWord at k
  refine wp_ld (v := .ref 34) dX3_isWord_0 rfl rfl rfl rfl ?_
  refine wq_gI dX3_isWord_1 rfl rfl (kk_34 h) (v := (am_I s 34 4)) rfl ?_
  refine wp_cst (v := .int (1 : Int32)) dX3_isWord_4 rfl rfl ?_
  refine wp_ic_ne dX3_isWord_5 rfl (fun c1 => have k := ok_neg c1 k; ?_) (fun c1 => have k := ok_pos c1 k; ?_)
  · refine wp_cst (v := .int (0 : Int32)) dX3_isWord_24 rfl rfl ?_
    exact wp_end dX3_isWord_25 rfl rfl (hP _ _ (ok_s k) h)
  · refine wp_ld (v := .ref 34) dX3_isWord_8 rfl rfl rfl rfl ?_
    refine wq_gI dX3_isWord_9 rfl rfl (kk_34 h) (v := (am_I s 34 3)) rfl ?_
    refine wp_ld (v := .ref 34) dX3_isWord_12 rfl rfl rfl rfl ?_
    refine wq_gI dX3_isWord_13 rfl rfl (kk_34 h) (v := (am_I s 34 5)) rfl ?_
    refine wp_pu dX3_isWord_16 rfl rfl ?_
    refine wp_ld (v := .ref b1) dX3_isWord_17 rfl rfl rfl rfl ?_
    refine wq_slen dX3_isWord_18 rfl (kk_t h fb1) (Nat.le_of_ble_eq_true rfl) ?_
    refine wp_ic_eq dX3_isWord_21 rfl (fun c2 => have k := ok_pos c2 k; ?_) (fun c2 => have k := ok_neg c2 k; ?_)
    · refine wp_cst (v := .int (0 : Int32)) dX3_isWord_26 rfl rfl ?_
      refine wp_st (ls' := [(0, .ref 34), (1, .ref b1), (2, .int (0 : Int32))]) dX3_isWord_27 rfl rfl rfl (Nat.le_of_ble_eq_true rfl) rfl ?_
      refine lp_m k (fun P1 k hA hB => ?_)
      refine wp_sub (q_X3_isWord_28 ax_fuel h fb1 k (fun o s p h => hP o s (hA o s p) h) (fun e8 s9 p h => have k := hB e8 s9 p; ?_)) rfl ⟨rfl, rfl, rfl, trivial⟩
      refine wp_cst (v := .int (1 : Int32)) dX3_isWord_62 rfl rfl ?_
      exact wp_end dX3_isWord_63 rfl rfl (hP _ _ (ok_s k) h)
    · refine wp_cst (v := .int (0 : Int32)) dX3_isWord_24 rfl rfl ?_
      exact wp_end dX3_isWord_25 rfl rfl (hP _ _ (ok_s k) h)
noncomputable def L_X3_lineOfWord_2 : Nat → Int32 → am_S → am_FE (Unit)
  | 0, _, _ => none
  | m + 1, x1, s =>
    if (7 : Int32) ≤ x1 then
      some (.inr ((), s))
    else
      am_bv (f_X3_lineWord x1 s) (fun v3 s2 =>
        am_mv v3 none (fun t4 => if (am_k0 t4).1 = 18 then
          am_bi (f_X3_isWord t4 s2) (fun v9 s8 =>
            if v9 = 0 then
              L_X3_lineOfWord_2 m (x1 + (1 : Int32)) s8
            else
              some (.inl (.inl (some (.int x1)), s8))
          )
        else none)
      )
theorem q_X3_lineOfWord_2 : ∀ (m : Nat) {N n : Nat} {d : Nat} {x1 : Int32} {s : am_S} {P : (am_O × am_S) ⊕ (Unit × am_S) → Prop} {Q : am_O → am_S → Prop} (h : am_sh N n s)  (k : am_ok (L_X3_lineOfWord_2 m x1 s) P) (hP : ∀ o s, P (.inl (o, s)) → am_sh N n s → Q o s) (hX : ∀ (e : Unit) s, P (.inr (e, s)) → am_sh N n s → am_WP (d + 2) mX3_lineOfWord 27 [] [] s Q), am_WP (d + 2) mX3_lineOfWord 2 [(0, .ref 34), (1, .int x1)] [] s Q := by
  intro m
  induction m with
  | zero =>
    intro N n d x1 s P Q h  k hP hX
    exact (ok_no k).elim
  | succ m ih =>
    intro N n d x1 s P Q h  k hP hX
    unfold L_X3_lineOfWord_2 at k
    refine wp_ld (v := .int x1) dX3_lineOfWord_2 rfl rfl rfl rfl ?_
    refine wp_cst (v := .int (7 : Int32)) dX3_lineOfWord_3 rfl rfl ?_
    refine wp_ic_ge dX3_lineOfWord_5 rfl (fun c1 => have k := ok_pos c1 k; ?_) (fun c1 => have k := ok_neg c1 k; ?_)
    · exact wp_sub (hX _ _ (ok_s k) h) rfl trivial
    · refine wp_ld (v := .ref 34) dX3_lineOfWord_8 rfl rfl rfl rfl ?_
      refine wp_ld (v := .int x1) dX3_lineOfWord_9 rfl rfl rfl rfl ?_
      refine c_v dX3_lineOfWord_10 rfl rfl rfl (am_inv_s rfl rfl rfl rfl) (s_X3_lineWord h) k (fun v3 s2 h k => ?_)
      obtain ⟨t4, c5, k⟩ := ok_mn k
      subst c5
      obtain ⟨g6, k⟩ := ok_g k
      refine c_i dX3_lineOfWord_13 rfl rfl rfl (am_inv_v rfl (kk_34 h) rfl rfl rfl) (s_X3_isWord h g6) k (fun v9 s8 h k => ?_)
      refine wp_if_eq dX3_lineOfWord_16 rfl (fun c10 => have k := ok_pos c10 k; ?_) (fun c10 => have k := ok_neg c10 k; ?_)
      · refine wp_inc (v := (x1 + (1 : Int32))) (ls' := [(0, .ref 34), (1, .int (x1 + (1 : Int32)))]) dX3_lineOfWord_21 rfl (Nat.le_of_ble_eq_true rfl) rfl rfl ?_
        refine wp_goto dX3_lineOfWord_24 rfl ?_
        exact wp_sub (ih h k hP hX) rfl ⟨rfl, rfl, trivial⟩
      · refine wp_ld (v := .int x1) dX3_lineOfWord_19 rfl rfl rfl rfl ?_
        exact wp_end dX3_lineOfWord_20 rfl (am_end_i rfl) (hP _ _ (ok_s k) h)
noncomputable def f_X3_lineOfWord  (s : am_S) : am_F :=
  am_lm (L_X3_lineOfWord_2 ax_fuel (0 : Int32) s) (fun e11 s12 =>
    some (.inl (some (.int (-1 : Int32))), s12)
  )
theorem s_X3_lineOfWord {N n : Nat} {d : Nat}  {s : am_S} (h : am_sh N n s)  : am_S1 (am_sh N n) (d + 2) mX3_lineOfWord [.ref 34] s (f_X3_lineOfWord s) := by
  intro P Q k hP
  show am_WP (d + 2) mX3_lineOfWord 0 [(0, .ref 34)] [] s Q
  unfold f_X3_lineOfWord at k
  refine wp_cst (v := .int (0 : Int32)) dX3_lineOfWord_0 rfl rfl ?_
  refine wp_st (ls' := [(0, .ref 34), (1, .int (0 : Int32))]) dX3_lineOfWord_1 rfl rfl rfl (Nat.le_of_ble_eq_true rfl) rfl ?_
  refine lp_m k (fun P1 k hA hB => ?_)
  refine wp_sub (q_X3_lineOfWord_2 ax_fuel h k (fun o s p h => hP o s (hA o s p) h) (fun e11 s12 p h => have k := hB e11 s12 p; ?_)) rfl ⟨rfl, rfl, trivial⟩
  refine wp_cst (v := .int (-1 : Int32)) dX3_lineOfWord_27 rfl rfl ?_
  exact wp_end dX3_lineOfWord_28 rfl (am_end_i rfl) (hP _ _ (ok_s k) h)
noncomputable def f_X3_fail (x1 : Int32) (s : am_S) : am_F :=
  some (.inl none, (am_sI (am_sI s 34 7 x1) 34 8 (am_I s 34 5)))
theorem s_X3_fail {N n : Nat} {d : Nat} {x1 : Int32} {s : am_S} (h : am_sh N n s)  : am_S1 (am_sh N n) (d) mX3_fail [.ref 34, .int x1] s (f_X3_fail x1 s) := by
  intro P Q k hP
  show am_WP (d) mX3_fail 0 [(0, .ref 34), (1, .int x1)] [] s Q
  unfold f_X3_fail at k
  refine wp_ld (v := .ref 34) dX3_fail_0 rfl rfl rfl rfl ?_
  refine wp_ld (v := .int x1) dX3_fail_1 rfl rfl rfl rfl ?_
  refine wp_pI dX3_fail_2 rfl rfl rfl (fun h => absurd h (by decide)) (kk_34 h) ?_
  refine wp_ld (v := .ref 34) dX3_fail_5 rfl rfl rfl rfl ?_
  refine wp_ld (v := .ref 34) dX3_fail_6 rfl rfl rfl rfl ?_
  refine wq_gI dX3_fail_7 rfl rfl (kk_34 (sh_sI h)) (v := (am_I s 34 5)) rfl ?_
  refine wp_pI dX3_fail_10 rfl rfl rfl (fun h => absurd h (by decide)) (kk_34 (sh_sI h)) ?_
  exact wp_end dX3_fail_13 rfl rfl (hP _ _ (ok_s k) (sh_sI (sh_sI h)))
noncomputable def f_X3_refuse  (s : am_S) : am_F :=
  am_jn (fun (e2 : Int32) s3 =>
    am_bu (f_X3_fail e2 s3) (fun s4 =>
      some (.inl none, s4)
    )
  ) (fun J1 =>
    if (am_I s 34 4) = (4 : Int32) then
      J1 (1 : Int32) s
    else
      J1 (2 : Int32) s
  )
theorem s_X3_refuse {N n : Nat} {d : Nat}  {s : am_S} (h : am_sh N n s)  : am_S1 (am_sh N n) (d + 1) mX3_refuse [.ref 34] s (f_X3_refuse s) := by
  intro P Q k hP
  show am_WP (d + 1) mX3_refuse 0 [(0, .ref 34)] [] s Q
  unfold f_X3_refuse at k
  refine wp_ld (v := .ref 34) dX3_refuse_0 rfl rfl rfl rfl ?_
  refine wp_ld (v := .ref 34) dX3_refuse_1 rfl rfl rfl rfl ?_
  refine wq_gI dX3_refuse_2 rfl rfl (kk_34 h) (v := (am_I s 34 4)) rfl ?_
  refine wp_cst (v := .int (4 : Int32)) dX3_refuse_5 rfl rfl ?_
  refine jn_rule k (fun J1 hJ1 k => ?_)
  have HJ1 : ∀ (e2 : Int32) (s3 : am_S), am_sh N n s3 → am_ok (J1 e2 s3) P → am_WP (d + 1) mX3_refuse 14 [] [.int e2, .ref 34] s3 Q := by
    intro e2 s3 h k
    replace k := hJ1 _ _ k
    refine c_u dX3_refuse_14 rfl rfl rfl (am_inv_v rfl (kk_34 h) rfl rfl rfl) (s_X3_fail h) k (fun s4 h k => ?_)
    exact wp_end dX3_refuse_17 rfl rfl (hP _ _ (ok_s k) h)
  refine wp_ic_ne dX3_refuse_6 rfl (fun c6 => have k := ok_neg c6 k; ?_) (fun c6 => have k := ok_pos c6 k; ?_)
  · refine wp_cst (v := .int (2 : Int32)) dX3_refuse_13 rfl rfl ?_
    exact wp_sub (HJ1 _ _ h k) rfl trivial
  · refine wp_cst (v := .int (1 : Int32)) dX3_refuse_9 rfl rfl ?_
    refine wp_goto dX3_refuse_10 rfl ?_
    exact wp_sub (HJ1 _ _ h k) rfl trivial
noncomputable def f_X3_readNumber (x1 : Int32) (x2 : Int32) (s : am_S) : am_F :=
  if (am_I s 34 7) = 0 then
    if (am_I s 34 4) = (2 : Int32) then
      am_jn (fun (e4 : Unit) s5 =>
        am_bu (f_X3_fail (3 : Int32) s5) (fun s6 =>
          some (.inl (some (.int (0 : Int32))), s6)
        )
      ) (fun J3 =>
        if (am_I s 34 6) < x1 then
          J3 () s
        else
          if (am_I s 34 6) ≤ x2 then
            am_bu (f_X3_advance s) (fun s10 =>
              some (.inl (some (.int (am_I s 34 6))), s10)
            )
          else
            J3 () s
      )
    else
      am_bu (f_X3_refuse s) (fun s12 =>
        some (.inl (some (.int (0 : Int32))), s12)
      )
  else
    some (.inl (some (.int (0 : Int32))), s)
theorem s_X3_readNumber {N n : Nat} {d : Nat} {x1 : Int32} {x2 : Int32} {s : am_S} (h : am_sh N n s)  : am_S1 (am_sh N n) (d + 3) mX3_readNumber [.ref 34, .int x1, .int x2] s (f_X3_readNumber x1 x2 s) := by
  intro P Q k hP
  show am_WP (d + 3) mX3_readNumber 0 [(0, .ref 34), (1, .int x1), (2, .int x2)] [] s Q
  unfold f_X3_readNumber at k
  refine wp_ld (v := .ref 34) dX3_readNumber_0 rfl rfl rfl rfl ?_
  refine wq_gI dX3_readNumber_1 rfl rfl (kk_34 h) (v := (am_I s 34 7)) rfl ?_
  refine wp_if_eq dX3_readNumber_4 rfl (fun c1 => have k := ok_pos c1 k; ?_) (fun c1 => have k := ok_neg c1 k; ?_)
  · refine wp_ld (v := .ref 34) dX3_readNumber_9 rfl rfl rfl rfl ?_
    refine wq_gI dX3_readNumber_10 rfl rfl (kk_34 h) (v := (am_I s 34 4)) rfl ?_
    refine wp_cst (v := .int (2 : Int32)) dX3_readNumber_13 rfl rfl ?_
    refine wp_ic_eq dX3_readNumber_14 rfl (fun c2 => have k := ok_pos c2 k; ?_) (fun c2 => have k := ok_neg c2 k; ?_)
    · refine wp_ld (v := .ref 34) dX3_readNumber_23 rfl rfl rfl rfl ?_
      refine wq_gI dX3_readNumber_24 rfl rfl (kk_34 h) (v := (am_I s 34 6)) rfl ?_
      refine wp_ld (v := .int x1) dX3_readNumber_27 rfl rfl rfl rfl ?_
      refine jn_rule k (fun J3 hJ3 k => ?_)
      have HJ3 : ∀ (e4 : Unit) (s5 : am_S), am_sh N n s5 → am_ok (J3 e4 s5) P → am_WP (d + 3) mX3_readNumber 39 [(0, .ref 34)] [] s5 Q := by
        intro e4 s5 h k
        replace k := hJ3 _ _ k
        refine wp_ld (v := .ref 34) dX3_readNumber_39 rfl rfl rfl rfl ?_
        refine wp_cst (v := .int (3 : Int32)) dX3_readNumber_40 rfl rfl ?_
        refine c_u dX3_readNumber_41 rfl rfl rfl (am_inv_v rfl (kk_34 h) rfl rfl rfl) (s_X3_fail h) k (fun s6 h k => ?_)
        refine wp_cst (v := .int (0 : Int32)) dX3_readNumber_44 rfl rfl ?_
        exact wp_end dX3_readNumber_45 rfl (am_end_i rfl) (hP _ _ (ok_s k) h)
      refine wp_ic_lt dX3_readNumber_28 rfl (fun c8 => have k := ok_pos c8 k; ?_) (fun c8 => have k := ok_neg c8 k; ?_)
      · exact wp_sub (HJ3 _ _ h k) rfl ⟨rfl, trivial⟩
      · refine wp_ld (v := .ref 34) dX3_readNumber_31 rfl rfl rfl rfl ?_
        refine wq_gI dX3_readNumber_32 rfl rfl (kk_34 h) (v := (am_I s 34 6)) rfl ?_
        refine wp_ld (v := .int x2) dX3_readNumber_35 rfl rfl rfl rfl ?_
        refine wp_ic_le dX3_readNumber_36 rfl (fun c9 => have k := ok_pos c9 k; ?_) (fun c9 => have k := ok_neg c9 k; ?_)
        · refine wp_ld (v := .ref 34) dX3_readNumber_46 rfl rfl rfl rfl ?_
          refine wq_gI dX3_readNumber_47 rfl rfl (kk_34 h) (v := (am_I s 34 6)) rfl ?_
          refine wp_st (ls' := [(0, .ref 34), (1, .int x1), (2, .int x2), (3, .int (am_I s 34 6))]) dX3_readNumber_50 rfl rfl rfl (Nat.le_of_ble_eq_true rfl) rfl ?_
          refine wp_ld (v := .ref 34) dX3_readNumber_51 rfl rfl rfl rfl ?_
          refine c_u dX3_readNumber_52 rfl rfl rfl (am_inv_v rfl (kk_34 h) rfl rfl rfl) (s_X3_advance h) k (fun s10 h k => ?_)
          refine wp_ld (v := .int (am_I s 34 6)) dX3_readNumber_55 rfl rfl rfl rfl ?_
          exact wp_end dX3_readNumber_56 rfl (am_end_i rfl) (hP _ _ (ok_s k) h)
        · exact wp_sub (HJ3 _ _ h k) rfl ⟨rfl, trivial⟩
    · refine wp_ld (v := .ref 34) dX3_readNumber_17 rfl rfl rfl rfl ?_
      refine c_u dX3_readNumber_18 rfl rfl rfl (am_inv_v rfl (kk_34 h) rfl rfl rfl) (s_X3_refuse h) k (fun s12 h k => ?_)
      refine wp_cst (v := .int (0 : Int32)) dX3_readNumber_21 rfl rfl ?_
      exact wp_end dX3_readNumber_22 rfl (am_end_i rfl) (hP _ _ (ok_s k) h)
  · refine wp_cst (v := .int (0 : Int32)) dX3_readNumber_7 rfl rfl ?_
    exact wp_end dX3_readNumber_8 rfl (am_end_i rfl) (hP _ _ (ok_s k) h)
noncomputable def f_X3_readStop  (s : am_S) : am_F :=
  if (am_I s 34 7) = 0 then
    if (am_I s 34 4) = (3 : Int32) then
      am_bu (f_X3_advance s) (fun s5 =>
        some (.inl none, s5)
      )
    else
      am_bu (f_X3_refuse s) (fun s3 =>
        some (.inl none, s3)
      )
  else
    some (.inl none, s)
theorem s_X3_readStop {N n : Nat} {d : Nat}  {s : am_S} (h : am_sh N n s)  : am_S1 (am_sh N n) (d + 3) mX3_readStop [.ref 34] s (f_X3_readStop s) := by
  intro P Q k hP
  show am_WP (d + 3) mX3_readStop 0 [(0, .ref 34)] [] s Q
  unfold f_X3_readStop at k
  refine wp_ld (v := .ref 34) dX3_readStop_0 rfl rfl rfl rfl ?_
  refine wq_gI dX3_readStop_1 rfl rfl (kk_34 h) (v := (am_I s 34 7)) rfl ?_
  refine wp_if_eq dX3_readStop_4 rfl (fun c1 => have k := ok_pos c1 k; ?_) (fun c1 => have k := ok_neg c1 k; ?_)
  · refine wp_ld (v := .ref 34) dX3_readStop_8 rfl rfl rfl rfl ?_
    refine wq_gI dX3_readStop_9 rfl rfl (kk_34 h) (v := (am_I s 34 4)) rfl ?_
    refine wp_cst (v := .int (3 : Int32)) dX3_readStop_12 rfl rfl ?_
    refine wp_ic_ne dX3_readStop_13 rfl (fun c2 => have k := ok_neg c2 k; ?_) (fun c2 => have k := ok_pos c2 k; ?_)
    · refine wp_ld (v := .ref 34) dX3_readStop_23 rfl rfl rfl rfl ?_
      refine c_u dX3_readStop_24 rfl rfl rfl (am_inv_v rfl (kk_34 h) rfl rfl rfl) (s_X3_refuse h) k (fun s3 h k => ?_)
      exact wp_end dX3_readStop_27 rfl rfl (hP _ _ (ok_s k) h)
    · refine wp_ld (v := .ref 34) dX3_readStop_16 rfl rfl rfl rfl ?_
      refine c_u dX3_readStop_17 rfl rfl rfl (am_inv_v rfl (kk_34 h) rfl rfl rfl) (s_X3_advance h) k (fun s5 h k => ?_)
      refine wp_goto dX3_readStop_20 rfl ?_
      exact wp_end dX3_readStop_27 rfl rfl (hP _ _ (ok_s k) h)
  · exact wp_end dX3_readStop_7 rfl rfl (hP _ _ (ok_s k) h)
noncomputable def L_X3_readLine_26 : Nat → Int32 → Int32 → am_S → am_FE (Unit)
  | 0, _, _, _ => none
  | m + 1, x2, x3, s =>
    if am_in x2 7 = true then
      if (am_I s 3000002 x2.toNatClampNeg) ≤ x3 then
        some (.inr ((), s))
      else
        if (am_I s 34 7) = 0 then
          if am_in x2 7 = true then
            if am_in x2 7 = true then
              if am_in x2 7 = true then
                am_bi (f_X3_readNumber (am_I s 3000003 x2.toNatClampNeg) (am_I s 3000004 x2.toNatClampNeg) s) (fun v19 s18 =>
                  if (23 : Int32) ≤ ((am_I s 3000001 x2.toNatClampNeg) + x3) then
                    L_X3_readLine_26 m x2 (x3 + (1 : Int32)) s18
                  else
                    if am_in ((am_I s 3000001 x2.toNatClampNeg) + x3) 23 = true then
                      L_X3_readLine_26 m x2 (x3 + (1 : Int32)) (am_sI s18 44 (((am_I s 3000001 x2.toNatClampNeg) + x3).toNatClampNeg) v19)
                    else none
                )
              else none
            else none
          else none
        else
          some (.inr ((), s))
    else none
theorem q_X3_readLine_26 : ∀ (m : Nat) {N n : Nat} {d : Nat} {x2 : Int32} {x3 : Int32} {s : am_S} {P : (am_O × am_S) ⊕ (Unit × am_S) → Prop} {Q : am_O → am_S → Prop} (h : am_sh N n s)  (k : am_ok (L_X3_readLine_26 m x2 x3 s) P) (hP : ∀ o s, P (.inl (o, s)) → am_sh N n s → Q o s) (hX : ∀ (e : Unit) s, P (.inr (e, s)) → am_sh N n s → am_WP (d + 4) mX3_readLine 86 [(0, .ref 34)] [] s Q), am_WP (d + 4) mX3_readLine 26 [(0, .ref 34), (1, .ref 44), (2, .int x2), (3, .int x3)] [] s Q := by
  intro m
  induction m with
  | zero =>
    intro N n d x2 x3 s P Q h  k hP hX
    exact (ok_no k).elim
  | succ m ih =>
    intro N n d x2 x3 s P Q h  k hP hX
    unfold L_X3_readLine_26 at k
    refine wp_ld (v := .int x3) dX3_readLine_26 rfl rfl rfl rfl ?_
    refine wp_cst (v := .ref 3000002) dX3_readLine_27 rfl rfl ?_
    refine wp_ld (v := .int x2) dX3_readLine_30 rfl rfl rfl rfl ?_
    obtain ⟨g12, k⟩ := ok_g k
    refine wq_sald dX3_readLine_31 (kk_3000002 h) g12 (v := (am_I s 3000002 x2.toNatClampNeg)) rfl ?_
    refine wp_ic_ge dX3_readLine_32 rfl (fun c13 => have k := ok_pos c13 k; ?_) (fun c13 => have k := ok_neg c13 k; ?_)
    · exact wp_sub (hX _ _ (ok_s k) h) rfl ⟨rfl, trivial⟩
    · refine wp_ld (v := .ref 34) dX3_readLine_35 rfl rfl rfl rfl ?_
      refine wq_gI dX3_readLine_36 rfl rfl (kk_34 h) (v := (am_I s 34 7)) rfl ?_
      refine wp_if_ne dX3_readLine_39 rfl (fun c14 => have k := ok_neg c14 k; ?_) (fun c14 => have k := ok_pos c14 k; ?_)
      · exact wp_sub (hX _ _ (ok_s k) h) rfl ⟨rfl, trivial⟩
      · refine wp_cst (v := .ref 3000001) dX3_readLine_42 rfl rfl ?_
        refine wp_ld (v := .int x2) dX3_readLine_45 rfl rfl rfl rfl ?_
        obtain ⟨g15, k⟩ := ok_g k
        refine wq_sald dX3_readLine_46 (kk_3000001 h) g15 (v := (am_I s 3000001 x2.toNatClampNeg)) rfl ?_
        refine wp_ld (v := .int x3) dX3_readLine_47 rfl rfl rfl rfl ?_
        refine wp_pu dX3_readLine_48 rfl rfl ?_
        refine wp_st (ls' := [(0, .ref 34), (1, .ref 44), (2, .int x2), (3, .int x3), (4, .int ((am_I s 3000001 x2.toNatClampNeg) + x3))]) dX3_readLine_49 rfl rfl rfl (Nat.le_of_ble_eq_true rfl) rfl ?_
        refine wp_ld (v := .ref 34) dX3_readLine_51 rfl rfl rfl rfl ?_
        refine wp_cst (v := .ref 3000003) dX3_readLine_52 rfl rfl ?_
        refine wp_ld (v := .int x2) dX3_readLine_55 rfl rfl rfl rfl ?_
        obtain ⟨g16, k⟩ := ok_g k
        refine wq_sald dX3_readLine_56 (kk_3000003 h) g16 (v := (am_I s 3000003 x2.toNatClampNeg)) rfl ?_
        refine wp_cst (v := .ref 3000004) dX3_readLine_57 rfl rfl ?_
        show am_WP (d + 4) mX3_readLine 60 _ _ _ Q
        refine wp_ld (v := .int x2) dX3_readLine_60 rfl rfl rfl rfl ?_
        obtain ⟨g17, k⟩ := ok_g k
        refine wq_sald dX3_readLine_61 (kk_3000004 h) g17 (v := (am_I s 3000004 x2.toNatClampNeg)) rfl ?_
        refine c_i dX3_readLine_62 rfl rfl rfl (am_inv_v rfl (kk_34 h) rfl rfl rfl) (s_X3_readNumber h) k (fun v19 s18 h k => ?_)
        refine wp_st (ls' := [(0, .ref 34), (1, .ref 44), (2, .int x2), (3, .int x3), (4, .int ((am_I s 3000001 x2.toNatClampNeg) + x3)), (5, .int v19)]) dX3_readLine_65 rfl rfl rfl (Nat.le_of_ble_eq_true rfl) rfl ?_
        refine wp_ld (v := .int ((am_I s 3000001 x2.toNatClampNeg) + x3)) dX3_readLine_67 rfl rfl rfl rfl ?_
        refine wp_ld (v := .ref 44) dX3_readLine_69 rfl rfl rfl rfl ?_
        refine wp_alen dX3_readLine_70 (kk_44 h) (by decide) (v := (23 : Int32)) rfl ?_
        refine wp_ic_ge dX3_readLine_71 rfl (fun c20 => have k := ok_pos c20 k; ?_) (fun c20 => have k := ok_neg c20 k; ?_)
        · refine wp_inc (v := (x3 + (1 : Int32))) (ls' := [(0, .ref 34), (1, .ref 44), (2, .int x2), (3, .int (x3 + (1 : Int32))), (4, .int ((am_I s 3000001 x2.toNatClampNeg) + x3)), (5, .int v19)]) dX3_readLine_80 rfl (Nat.le_of_ble_eq_true rfl) rfl rfl ?_
          refine wp_goto dX3_readLine_83 rfl ?_
          exact wp_sub (ih h k hP hX) rfl ⟨rfl, rfl, rfl, rfl, trivial⟩
        · refine wp_ld (v := .ref 44) dX3_readLine_74 rfl rfl rfl rfl ?_
          refine wp_ld (v := .int ((am_I s 3000001 x2.toNatClampNeg) + x3)) dX3_readLine_75 rfl rfl rfl rfl ?_
          refine wp_ld (v := .int v19) dX3_readLine_77 rfl rfl rfl rfl ?_
          obtain ⟨g21, k⟩ := ok_g k
          refine wq_iast dX3_readLine_79 (kk_44 h) g21 (j := (((am_I s 3000001 x2.toNatClampNeg) + x3).toNatClampNeg)) rfl ?_
          refine wp_inc (v := (x3 + (1 : Int32))) (ls' := [(0, .ref 34), (1, .ref 44), (2, .int x2), (3, .int (x3 + (1 : Int32))), (4, .int ((am_I s 3000001 x2.toNatClampNeg) + x3)), (5, .int v19)]) dX3_readLine_80 rfl (Nat.le_of_ble_eq_true rfl) rfl rfl ?_
          refine wp_goto dX3_readLine_83 rfl ?_
          exact wp_sub (ih (sh_sI h) k hP hX) rfl ⟨rfl, rfl, rfl, rfl, trivial⟩
noncomputable def f_X3_readLine  (s : am_S) : am_F :=
  am_bi (f_X3_lineOfWord s) (fun v2 s1 =>
    am_jn (fun (e4 : Unit) s5 =>
      am_bu (f_X3_refuse s5) (fun s6 =>
        some (.inl none, s6)
      )
    ) (fun J3 =>
      if v2 < 0 then
        J3 () s1
      else
        if v2 < (7 : Int32) then
          am_bu (f_X3_advance s1) (fun s10 =>
            am_lm (L_X3_readLine_26 ax_fuel v2 (0 : Int32) s10) (fun e22 s23 =>
              am_bu (f_X3_readStop s23) (fun s24 =>
                some (.inl none, s24)
              )
            )
          )
        else
          J3 () s1
    )
  )
theorem s_X3_readLine {N n : Nat} {d : Nat}  {s : am_S} (h : am_sh N n s)  : am_S1 (am_sh N n) (d + 4) mX3_readLine [.ref 34, .ref 44] s (f_X3_readLine s) := by
  intro P Q k hP
  show am_WP (d + 4) mX3_readLine 0 [(0, .ref 34), (1, .ref 44)] [] s Q
  unfold f_X3_readLine at k
  refine wp_ld (v := .ref 34) dX3_readLine_0 rfl rfl rfl rfl ?_
  refine c_i dX3_readLine_1 rfl rfl rfl (am_inv_v rfl (kk_34 h) rfl rfl rfl) (s_X3_lineOfWord h) k (fun v2 s1 h k => ?_)
  refine wp_st (ls' := [(0, .ref 34), (1, .ref 44), (2, .int v2)]) dX3_readLine_4 rfl rfl rfl (Nat.le_of_ble_eq_true rfl) rfl ?_
  refine wp_ld (v := .int v2) dX3_readLine_5 rfl rfl rfl rfl ?_
  refine jn_rule k (fun J3 hJ3 k => ?_)
  have HJ3 : ∀ (e4 : Unit) (s5 : am_S), am_sh N n s5 → am_ok (J3 e4 s5) P → am_WP (d + 4) mX3_readLine 15 [(0, .ref 34)] [] s5 Q := by
    intro e4 s5 h k
    replace k := hJ3 _ _ k
    refine wp_ld (v := .ref 34) dX3_readLine_15 rfl rfl rfl rfl ?_
    refine c_u dX3_readLine_16 rfl rfl rfl (am_inv_v rfl (kk_34 h) rfl rfl rfl) (s_X3_refuse h) k (fun s6 h k => ?_)
    exact wp_end dX3_readLine_19 rfl rfl (hP _ _ (ok_s k) h)
  refine wp_if_lt dX3_readLine_6 rfl (fun c8 => have k := ok_pos c8 k; ?_) (fun c8 => have k := ok_neg c8 k; ?_)
  · exact wp_sub (HJ3 _ _ h k) rfl ⟨rfl, trivial⟩
  · refine wp_ld (v := .int v2) dX3_readLine_9 rfl rfl rfl rfl ?_
    refine wp_cst (v := .int (7 : Int32)) dX3_readLine_10 rfl rfl ?_
    refine wp_ic_lt dX3_readLine_12 rfl (fun c9 => have k := ok_pos c9 k; ?_) (fun c9 => have k := ok_neg c9 k; ?_)
    · refine wp_ld (v := .ref 34) dX3_readLine_20 rfl rfl rfl rfl ?_
      refine c_u dX3_readLine_21 rfl rfl rfl (am_inv_v rfl (kk_34 h) rfl rfl rfl) (s_X3_advance h) k (fun s10 h k => ?_)
      refine wp_cst (v := .int (0 : Int32)) dX3_readLine_24 rfl rfl ?_
      refine wp_st (ls' := [(0, .ref 34), (1, .ref 44), (2, .int v2), (3, .int (0 : Int32))]) dX3_readLine_25 rfl rfl rfl (Nat.le_of_ble_eq_true rfl) rfl ?_
      refine lp_m k (fun P1 k hA hB => ?_)
      refine wp_sub (q_X3_readLine_26 ax_fuel h k (fun o s p h => hP o s (hA o s p) h) (fun e22 s23 p h => have k := hB e22 s23 p; ?_)) rfl ⟨rfl, rfl, rfl, rfl, trivial⟩
      refine wp_ld (v := .ref 34) dX3_readLine_86 rfl rfl rfl rfl ?_
      refine c_u dX3_readLine_87 rfl rfl rfl (am_inv_v rfl (kk_34 h) rfl rfl rfl) (s_X3_readStop h) k (fun s24 h k => ?_)
      exact wp_end dX3_readLine_90 rfl rfl (hP _ _ (ok_s k) h)
    · exact wp_sub (HJ3 _ _ h k) rfl ⟨rfl, trivial⟩
noncomputable def L_X3_readLaw_10 : Nat → Int32 → Int32 → am_S → am_FE (Int32)
  | 0, _, _, _ => none
  | m + 1, x3, x4, s =>
    if (400 : Int32) < x4 then
      some (.inr (x3, s))
    else
      if (am_I s 34 7) = 0 then
        if (am_I s 34 4) = 0 then
          some (.inr (x3, s))
        else
          am_bu (f_X3_readLine s) (fun s6 =>
            L_X3_readLaw_10 m (x3 + (1 : Int32)) (x4 + (1 : Int32)) s6
          )
      else
        some (.inr (x3, s))
theorem q_X3_readLaw_10 : ∀ (m : Nat) {N n : Nat} {d : Nat} {x3 : Int32} {x4 : Int32} {s : am_S} {P : (am_O × am_S) ⊕ (Int32 × am_S) → Prop} {Q : am_O → am_S → Prop} (h : am_sh N n s)  (k : am_ok (L_X3_readLaw_10 m x3 x4 s) P) (hP : ∀ o s, P (.inl (o, s)) → am_sh N n s → Q o s) (hX : ∀ (e : Int32) s, P (.inr (e, s)) → am_sh N n s → am_WP (d + 5) mX3_readLaw 46 [(0, .ref 34), (3, .int e)] [] s Q), am_WP (d + 5) mX3_readLaw 10 [(0, .ref 34), (2, .ref 44), (3, .int x3), (4, .int x4)] [] s Q := by
  intro m
  induction m with
  | zero =>
    intro N n d x3 x4 s P Q h  k hP hX
    exact (ok_no k).elim
  | succ m ih =>
    intro N n d x3 x4 s P Q h  k hP hX
    unfold L_X3_readLaw_10 at k
    refine wp_ld (v := .int x4) dX3_readLaw_10 rfl rfl rfl rfl ?_
    refine wp_cst (v := .int (400 : Int32)) dX3_readLaw_12 rfl rfl ?_
    refine wp_ic_gt dX3_readLaw_15 rfl (fun c3 => have k := ok_pos c3 k; ?_) (fun c3 => have k := ok_neg c3 k; ?_)
    · exact wp_sub (hX _ _ (ok_s k) h) rfl ⟨rfl, rfl, trivial⟩
    · refine wp_ld (v := .ref 34) dX3_readLaw_18 rfl rfl rfl rfl ?_
      refine wq_gI dX3_readLaw_19 rfl rfl (kk_34 h) (v := (am_I s 34 7)) rfl ?_
      refine wp_if_ne dX3_readLaw_22 rfl (fun c4 => have k := ok_neg c4 k; ?_) (fun c4 => have k := ok_pos c4 k; ?_)
      · exact wp_sub (hX _ _ (ok_s k) h) rfl ⟨rfl, rfl, trivial⟩
      · refine wp_ld (v := .ref 34) dX3_readLaw_25 rfl rfl rfl rfl ?_
        refine wq_gI dX3_readLaw_26 rfl rfl (kk_34 h) (v := (am_I s 34 4)) rfl ?_
        refine wp_if_eq dX3_readLaw_29 rfl (fun c5 => have k := ok_pos c5 k; ?_) (fun c5 => have k := ok_neg c5 k; ?_)
        · exact wp_sub (hX _ _ (ok_s k) h) rfl ⟨rfl, rfl, trivial⟩
        · refine wp_ld (v := .ref 34) dX3_readLaw_32 rfl rfl rfl rfl ?_
          refine wp_ld (v := .ref 44) dX3_readLaw_33 rfl rfl rfl rfl ?_
          refine c_u dX3_readLaw_34 rfl rfl rfl (am_inv_v rfl (kk_34 h) rfl rfl rfl) (s_X3_readLine h) k (fun s6 h k => ?_)
          refine wp_inc (v := (x3 + (1 : Int32))) (ls' := [(0, .ref 34), (2, .ref 44), (3, .int (x3 + (1 : Int32))), (4, .int x4)]) dX3_readLaw_37 rfl (Nat.le_of_ble_eq_true rfl) rfl rfl ?_
          refine wp_inc (v := (x4 + (1 : Int32))) (ls' := [(0, .ref 34), (2, .ref 44), (3, .int (x3 + (1 : Int32))), (4, .int (x4 + (1 : Int32)))]) dX3_readLaw_40 rfl (Nat.le_of_ble_eq_true rfl) rfl rfl ?_
          refine wp_goto dX3_readLaw_43 rfl ?_
          exact wp_sub (ih h k hP hX) rfl ⟨rfl, rfl, rfl, rfl, trivial⟩
noncomputable def f_X3_readLaw (x1 : Int32) (s : am_S) : am_F :=
  am_bu (f_X3_begin x1 s) (fun s1 =>
    am_lm (L_X3_readLaw_10 ax_fuel (0 : Int32) (0 : Int32) s1) (fun e8 s9 =>
      if (am_I s9 34 7) = 0 then
        some (.inl (some (.int e8)), s9)
      else
        some (.inl (some (.int (-1 : Int32))), s9)
    )
  )
theorem s_X3_readLaw {N n : Nat} {d : Nat} {x1 : Int32} {s : am_S} (h : am_sh N n s)  : am_S1 (am_sh N n) (d + 5) mX3_readLaw [.ref 34, .int x1, .ref 44] s (f_X3_readLaw x1 s) := by
  intro P Q k hP
  show am_WP (d + 5) mX3_readLaw 0 [(0, .ref 34), (1, .int x1), (2, .ref 44)] [] s Q
  unfold f_X3_readLaw at k
  refine wp_ld (v := .ref 34) dX3_readLaw_0 rfl rfl rfl rfl ?_
  refine wp_ld (v := .int x1) dX3_readLaw_1 rfl rfl rfl rfl ?_
  refine c_u dX3_readLaw_2 rfl rfl rfl (am_inv_v rfl (kk_34 h) rfl rfl rfl) (s_X3_begin h) k (fun s1 h k => ?_)
  refine wp_cst (v := .int (0 : Int32)) dX3_readLaw_5 rfl rfl ?_
  refine wp_st (ls' := [(0, .ref 34), (1, .int x1), (2, .ref 44), (3, .int (0 : Int32))]) dX3_readLaw_6 rfl rfl rfl (Nat.le_of_ble_eq_true rfl) rfl ?_
  refine wp_cst (v := .int (0 : Int32)) dX3_readLaw_7 rfl rfl ?_
  refine wp_st (ls' := [(0, .ref 34), (1, .int x1), (2, .ref 44), (3, .int (0 : Int32)), (4, .int (0 : Int32))]) dX3_readLaw_8 rfl rfl rfl (Nat.le_of_ble_eq_true rfl) rfl ?_
  refine lp_m k (fun P1 k hA hB => ?_)
  refine wp_sub (q_X3_readLaw_10 ax_fuel h k (fun o s p h => hP o s (hA o s p) h) (fun e8 s9 p h => have k := hB e8 s9 p; ?_)) rfl ⟨rfl, rfl, rfl, rfl, trivial⟩
  refine wp_ld (v := .ref 34) dX3_readLaw_46 rfl rfl rfl rfl ?_
  refine wq_gI dX3_readLaw_47 rfl rfl (kk_34 h) (v := (am_I s9 34 7)) rfl ?_
  refine wp_if_ne dX3_readLaw_50 rfl (fun c10 => have k := ok_neg c10 k; ?_) (fun c10 => have k := ok_pos c10 k; ?_)
  · refine wp_cst (v := .int (-1 : Int32)) dX3_readLaw_57 rfl rfl ?_
    exact wp_end dX3_readLaw_58 rfl (am_end_i rfl) (hP _ _ (ok_s k) h)
  · refine wp_ld (v := .int e8) dX3_readLaw_53 rfl rfl rfl rfl ?_
    refine wp_goto dX3_readLaw_54 rfl ?_
    exact wp_end dX3_readLaw_58 rfl (am_end_i rfl) (hP _ _ (ok_s k) h)
noncomputable def f_X7_law (x1 : Int32) (s : am_S) : am_F :=
  am_tu (f_X7_needWithin x1 (0 : Int32) (am_I s 34 1) s) (fun s1 =>
    am_bi (f_X3_readLaw x1 (am_sA s1 44 (va_cpy (am_I s1 3000000) (am_I s1 44) 0 0 23))) (fun v4 s3 =>
      if v4 = (-1 : Int32) then
        some (.inl (some (.int ((-10 : Int32) - (am_I s3 34 7)))), s3)
      else
        some (.inl (some (.int v4)), (am_sA s3 2 (va_cpy (am_I s3 44) (am_I s3 2) 0 0 23)))
    )
  )
theorem s_X7_law {N n : Nat} {d : Nat} {x1 : Int32} {s : am_S} (h : am_sh N n s)  : am_S1 (am_sh N n) (d + 6) mX7_law [.ref 0, .int x1] s (f_X7_law x1 s) := by
  intro P Q k hP
  show am_WP (d + 6) mX7_law 0 [(0, .ref 0), (1, .int x1)] [] s Q
  unfold f_X7_law at k
  refine wp_ld (v := .int x1) dX7_law_0 rfl rfl rfl rfl ?_
  refine wp_cst (v := .int (0 : Int32)) dX7_law_1 rfl rfl ?_
  refine wp_ld (v := .ref 0) dX7_law_2 rfl rfl rfl rfl ?_
  refine wp_gr dX7_law_3 rfl rfl (kk_0 h) (rr_0_2 h) ?_
  refine wq_gI dX7_law_6 rfl rfl (kk_34 h) (v := (am_I s 34 1)) rfl ?_
  refine t_u dX7_law_9 rfl rfl rfl (am_inv_s rfl rfl rfl rfl) (s_X7_needWithin h) k rfl rfl hP (fun s1 h k => ?_)
  refine wp_cst (v := .ref 3000000) dX7_law_12 rfl rfl ?_
  refine wp_cst (v := .int (0 : Int32)) dX7_law_15 rfl rfl ?_
  refine wp_ld (v := .ref 0) dX7_law_16 rfl rfl rfl rfl ?_
  refine wp_gr dX7_law_17 rfl rfl (kk_0 h) (rr_0_8 h) ?_
  refine wp_cst (v := .int (0 : Int32)) dX7_law_20 rfl rfl ?_
  refine wp_cst (v := .int (23 : Int32)) dX7_law_21 rfl rfl ?_
  refine wq_ac dX7_law_23 rfl (kk_3000000 h) (by decide) (kk_44 h) rfl rfl (m := 23) rfl (by decide) (by decide) (by decide) (Nat.le_of_ble_eq_true rfl) ?_
  refine wp_ld (v := .ref 0) dX7_law_26 rfl rfl rfl rfl ?_
  refine wp_gr dX7_law_27 rfl rfl (kk_0 (sh_sA h)) (rr_0_2 (sh_sA h)) ?_
  refine wp_ld (v := .int x1) dX7_law_30 rfl rfl rfl rfl ?_
  refine wp_ld (v := .ref 0) dX7_law_31 rfl rfl rfl rfl ?_
  show am_WP (d + 6) mX7_law 32 _ _ _ Q
  refine wp_gr dX7_law_32 rfl rfl (kk_0 (sh_sA h)) (rr_0_8 (sh_sA h)) ?_
  refine c_i dX7_law_35 rfl rfl rfl (am_inv_v rfl (kk_34 (sh_sA h)) rfl rfl rfl) (s_X3_readLaw (sh_sA h)) k (fun v4 s3 h k => ?_)
  refine wp_st (ls' := [(0, .ref 0), (1, .int x1), (2, .int v4)]) dX7_law_38 rfl rfl rfl (Nat.le_of_ble_eq_true rfl) rfl ?_
  refine wp_ld (v := .int v4) dX7_law_39 rfl rfl rfl rfl ?_
  refine wp_cst (v := .int (-1 : Int32)) dX7_law_40 rfl rfl ?_
  refine wp_ic_ne dX7_law_41 rfl (fun c5 => have k := ok_neg c5 k; ?_) (fun c5 => have k := ok_pos c5 k; ?_)
  · refine wp_ld (v := .ref 0) dX7_law_55 rfl rfl rfl rfl ?_
    refine wp_gr dX7_law_56 rfl rfl (kk_0 h) (rr_0_8 h) ?_
    refine wp_cst (v := .int (0 : Int32)) dX7_law_59 rfl rfl ?_
    refine wp_ld (v := .ref 0) dX7_law_60 rfl rfl rfl rfl ?_
    refine wp_gr dX7_law_61 rfl rfl (kk_0 h) (rr_0_0 h) ?_
    refine wp_gr dX7_law_64 rfl rfl (kk_1 h) (rr_1_3 h) ?_
    refine wp_cst (v := .int (0 : Int32)) dX7_law_67 rfl rfl ?_
    refine wp_cst (v := .int (23 : Int32)) dX7_law_68 rfl rfl ?_
    refine wq_ac dX7_law_70 rfl (kk_44 h) (by decide) (kk_2 h) rfl rfl (m := 23) rfl (by decide) (by decide) (by decide) (Nat.le_of_ble_eq_true rfl) ?_
    refine wp_ld (v := .int v4) dX7_law_73 rfl rfl rfl rfl ?_
    exact wp_end dX7_law_74 rfl (am_end_i rfl) (hP _ _ (ok_s k) (sh_sA h))
  · refine wp_cst (v := .int (-10 : Int32)) dX7_law_44 rfl rfl ?_
    refine wp_ld (v := .ref 0) dX7_law_46 rfl rfl rfl rfl ?_
    refine wp_gr dX7_law_47 rfl rfl (kk_0 h) (rr_0_2 h) ?_
    refine wq_gI dX7_law_50 rfl rfl (kk_34 h) (v := (am_I s3 34 7)) rfl ?_
    refine wp_pu dX7_law_53 rfl rfl ?_
    exact wp_end dX7_law_54 rfl (am_end_i rfl) (hP _ _ (ok_s k) h)
noncomputable def f_L_law (x2 : Int32) (s : am_S) : am_F :=
  am_xi (f_X7_law x2 s) (fun v2 s1 =>
    some (.inl (some (.int (0 : Int32))), (am_sL s1 71 0 v2.toInt64))
  ) (fun e s1 =>
    if e = 0 then
      some (.inl (some (.int (1 : Int32))), s1)
    else
      none
  )
theorem s_L_law {N : Nat} {d : Nat} {x2 : Int32} {s : am_S} (h : am_shE N s)  : am_S1 (am_shE N) (d + 7) mL_law [.ref 0, .int x2, .ref 71] s (f_L_law x2 s) := by
  intro P Q k hP
  show am_WP (d + 7) mL_law 0 [(0, .ref 0), (1, .int x2), (2, .ref 71)] [] s Q
  unfold f_L_law at k
  refine wp_ld (v := .ref 71) dL_law_0 rfl rfl rfl rfl ?_
  refine wp_cst (v := .int (0 : Int32)) dL_law_1 rfl rfl ?_
  refine wp_ld (v := .ref 0) dL_law_2 rfl rfl rfl rfl ?_
  refine wp_ld (v := .int x2) dL_law_3 rfl rfl rfl rfl ?_
  refine x_i dL_law_4 rfl rfl rfl (am_inv_v rfl (kE_0 h) rfl rfl rfl) (sE h (fun _ h => s_X7_law h)) k rfl (List.cons_ne_nil _ _) (fun v2 s1 h k => ?_) (fun e s1 h k => ?_)
  · refine wp_pu dL_law_7 rfl rfl ?_
    refine wq_last dL_law_8 (kE_71 h) (by decide) (j := 0) rfl ?_
    refine wp_goto dL_law_9 rfl ?_
    refine wp_cst (v := .int (0 : Int32)) dL_law_15 rfl rfl ?_
    exact wp_end dL_law_16 rfl (am_end_i rfl) (hP _ _ (ok_s k) (shE_sL h))
  · by_cases c3 : e = 0
    · have k := ok_pos c3 k
      subst c3
      refine ⟨_, _, rfl, ?_⟩
      refine wp_cst (v := .int (1 : Int32)) dL_law_13 rfl rfl ?_
      exact wp_end dL_law_14 rfl (am_end_i rfl) (hP _ _ (ok_s k) h)
    replace k := ok_neg c3 k
    exact (ok_no k).elim
noncomputable def f_X7_sheet (x1 : Int32) (x2 : Int32) (s : am_S) : am_F :=
  am_tu (f_X7_needWithin x1 (4 : Int32) (24 : Int32) s) (fun s1 =>
    am_tu (f_X7_needWithin x2 (3 : Int32) (12 : Int32) s1) (fun s3 =>
      some (.inl none, (am_sI (am_sI s3 1 0 x1) 1 1 x2))
    )
  )
theorem s_X7_sheet {N n : Nat} {d : Nat} {x1 : Int32} {x2 : Int32} {s : am_S} (h : am_sh N n s)  : am_S1 (am_sh N n) (d + 1) mX7_sheet [.ref 0, .int x1, .int x2] s (f_X7_sheet x1 x2 s) := by
  intro P Q k hP
  show am_WP (d + 1) mX7_sheet 0 [(0, .ref 0), (1, .int x1), (2, .int x2)] [] s Q
  unfold f_X7_sheet at k
  refine wp_ld (v := .int x1) dX7_sheet_0 rfl rfl rfl rfl ?_
  refine wp_cst (v := .int (4 : Int32)) dX7_sheet_1 rfl rfl ?_
  refine wp_cst (v := .int (24 : Int32)) dX7_sheet_2 rfl rfl ?_
  refine t_u dX7_sheet_4 rfl rfl rfl (am_inv_s rfl rfl rfl rfl) (s_X7_needWithin h) k rfl rfl hP (fun s1 h k => ?_)
  refine wp_ld (v := .int x2) dX7_sheet_7 rfl rfl rfl rfl ?_
  refine wp_cst (v := .int (3 : Int32)) dX7_sheet_8 rfl rfl ?_
  refine wp_cst (v := .int (12 : Int32)) dX7_sheet_9 rfl rfl ?_
  refine t_u dX7_sheet_11 rfl rfl rfl (am_inv_s rfl rfl rfl rfl) (s_X7_needWithin h) k rfl rfl hP (fun s3 h k => ?_)
  refine wp_ld (v := .ref 0) dX7_sheet_14 rfl rfl rfl rfl ?_
  refine wp_gr dX7_sheet_15 rfl rfl (kk_0 h) (rr_0_0 h) ?_
  refine wp_ld (v := .int x1) dX7_sheet_18 rfl rfl rfl rfl ?_
  refine wp_pI dX7_sheet_19 rfl rfl rfl (fun h => absurd h (by decide)) (kk_1 h) ?_
  refine wp_ld (v := .ref 0) dX7_sheet_22 rfl rfl rfl rfl ?_
  refine wp_gr dX7_sheet_23 rfl rfl (kk_0 (sh_sI h)) (rr_0_0 (sh_sI h)) ?_
  refine wp_ld (v := .int x2) dX7_sheet_26 rfl rfl rfl rfl ?_
  refine wp_pI dX7_sheet_27 rfl rfl rfl (fun h => absurd h (by decide)) (kk_1 (sh_sI h)) ?_
  exact wp_end dX7_sheet_30 rfl rfl (hP _ _ (ok_s k) (sh_sI (sh_sI h)))
noncomputable def f_L_sheet (x2 : Int32) (x3 : Int32) (s : am_S) : am_F :=
  am_xu (f_X7_sheet x2 x3 s) (fun s1 =>
    some (.inl (some (.int (0 : Int32))), s1)
  ) (fun e s1 =>
    if e = 0 then
      some (.inl (some (.int (1 : Int32))), s1)
    else
      none
  )
theorem s_L_sheet {N : Nat} {d : Nat} {x2 : Int32} {x3 : Int32} {s : am_S} (h : am_shE N s)  : am_S1 (am_shE N) (d + 2) mL_sheet [.ref 0, .int x2, .int x3] s (f_L_sheet x2 x3 s) := by
  intro P Q k hP
  show am_WP (d + 2) mL_sheet 0 [(0, .ref 0), (1, .int x2), (2, .int x3)] [] s Q
  unfold f_L_sheet at k
  refine wp_ld (v := .ref 0) dL_sheet_0 rfl rfl rfl rfl ?_
  refine wp_ld (v := .int x2) dL_sheet_1 rfl rfl rfl rfl ?_
  refine wp_ld (v := .int x3) dL_sheet_2 rfl rfl rfl rfl ?_
  refine x_u dL_sheet_3 rfl rfl rfl (am_inv_v rfl (kE_0 h) rfl rfl rfl) (sE h (fun _ h => s_X7_sheet h)) k rfl (List.cons_ne_nil _ _) (fun s1 h k => ?_) (fun e s1 h k => ?_)
  · refine wp_goto dL_sheet_6 rfl ?_
    refine wp_cst (v := .int (0 : Int32)) dL_sheet_12 rfl rfl ?_
    exact wp_end dL_sheet_13 rfl (am_end_i rfl) (hP _ _ (ok_s k) h)
  · by_cases c3 : e = 0
    · have k := ok_pos c3 k
      subst c3
      refine ⟨_, _, rfl, ?_⟩
      refine wp_cst (v := .int (1 : Int32)) dL_sheet_10 rfl rfl ?_
      exact wp_end dL_sheet_11 rfl (am_end_i rfl) (hP _ _ (ok_s k) h)
    replace k := ok_neg c3 k
    exact (ok_no k).elim
noncomputable def f_X8_within (x1 : Int64) (x2 : Int64) (x3 : Int64) (s : am_S) : am_F :=
  if x1 < x2 then
    some (.inl (some (.int (0 : Int32))), s)
  else
    if x3 < x1 then
      some (.inl (some (.int (0 : Int32))), s)
    else
      some (.inl (some (.int (1 : Int32))), s)
theorem s_X8_within {N n : Nat} {d : Nat} {x1 : Int64} {x2 : Int64} {x3 : Int64} {s : am_S} (h : am_sh N n s)  : am_S1 (am_sh N n) (d) mX8_within [.long x1, .long x2, .long x3] s (f_X8_within x1 x2 x3 s) := by
  intro P Q k hP
  show am_WP (d) mX8_within 0 [(0, .long x1), (2, .long x2), (4, .long x3)] [] s Q
  unfold f_X8_within at k
  refine wp_ld (v := .long x1) dX8_within_0 rfl rfl rfl rfl ?_
  refine wp_ld (v := .long x2) dX8_within_1 rfl rfl rfl rfl ?_
  refine wl_lt dX8_within_2 dX8_within_3 rfl (fun c1 => have k := ok_pos c1 k; ?_) (fun c1 => have k := ok_neg c1 k; ?_)
  · refine wp_cst (v := .int (0 : Int32)) dX8_within_17 rfl rfl ?_
    exact wp_end dX8_within_18 rfl rfl (hP _ _ (ok_s k) h)
  · refine wp_ld (v := .long x1) dX8_within_6 rfl rfl rfl rfl ?_
    refine wp_ld (v := .long x3) dX8_within_7 rfl rfl rfl rfl ?_
    refine wl_gt dX8_within_9 dX8_within_10 rfl (fun c2 => have k := ok_pos c2 k; ?_) (fun c2 => have k := ok_neg c2 k; ?_)
    · refine wp_cst (v := .int (0 : Int32)) dX8_within_17 rfl rfl ?_
      exact wp_end dX8_within_18 rfl rfl (hP _ _ (ok_s k) h)
    · refine wp_cst (v := .int (1 : Int32)) dX8_within_13 rfl rfl ?_
      refine wp_goto dX8_within_14 rfl ?_
      exact wp_end dX8_within_18 rfl rfl (hP _ _ (ok_s k) h)
noncomputable def f_X8_sheet (x1 : Int32) (x2 : Int32) (s : am_S) : am_F :=
  am_bi (f_X8_within x1.toInt64 (4 : Int64) (24 : Int64) s) (fun v2 s1 =>
    am_jn (fun (e4 : Int32) s5 =>
      if e4 ≤ 0 then
        some (.inl none, (am_sI (am_sI (am_sI s5 55 3 e4) 56 0 x1) 56 1 x2))
      else
        some (.inl none, (am_sI s5 55 3 e4))
    ) (fun J3 =>
      am_jn (fun (e8 : Unit) s9 =>
        J3 (1 : Int32) s9
      ) (fun J7 =>
        if v2 = 0 then
          J7 () s1
        else
          am_bi (f_X8_within x2.toInt64 (3 : Int64) (12 : Int64) s1) (fun v12 s11 =>
            if v12 = 0 then
              J7 () s11
            else
              J3 (0 : Int32) s11
          )
      )
    )
  )
theorem s_X8_sheet {N n : Nat} {d : Nat} {x1 : Int32} {x2 : Int32} {s : am_S} (h : am_sh N n s)  : am_S1 (am_sh N n) (d + 1) mX8_sheet [.ref 55, .int x1, .int x2] s (f_X8_sheet x1 x2 s) := by
  intro P Q k hP
  show am_WP (d + 1) mX8_sheet 0 [(0, .ref 55), (1, .int x1), (2, .int x2)] [] s Q
  unfold f_X8_sheet at k
  refine wp_ld (v := .ref 55) dX8_sheet_0 rfl rfl rfl rfl ?_
  refine wp_ld (v := .int x1) dX8_sheet_1 rfl rfl rfl rfl ?_
  refine wp_pu dX8_sheet_2 rfl rfl ?_
  refine wp_cst (v := .long (4 : Int64)) dX8_sheet_3 rfl rfl ?_
  refine wp_cst (v := .long (24 : Int64)) dX8_sheet_6 rfl rfl ?_
  refine c_i dX8_sheet_9 rfl rfl rfl (am_inv_s rfl rfl rfl rfl) (s_X8_within h) k (fun v2 s1 h k => ?_)
  refine jn_rule k (fun J3 hJ3 k => ?_)
  have HJ3 : ∀ (e4 : Int32) (s5 : am_S), am_sh N n s5 → am_ok (J3 e4 s5) P → am_WP (d + 1) mX8_sheet 34 [(0, .ref 55), (1, .int x1), (2, .int x2)] [.int e4, .ref 55] s5 Q := by
    intro e4 s5 h k
    replace k := hJ3 _ _ k
    refine wp_pI dX8_sheet_34 rfl rfl rfl (fun h => absurd h (by decide)) (kk_55 h) ?_
    refine wp_ld (v := .ref 55) dX8_sheet_37 rfl rfl rfl rfl ?_
    refine wq_gI dX8_sheet_38 rfl rfl (kk_55 (sh_sI h)) (v := e4) rfl ?_
    refine wp_if_le dX8_sheet_41 rfl (fun c6 => have k := ok_pos c6 k; ?_) (fun c6 => have k := ok_neg c6 k; ?_)
    · refine wp_ld (v := .ref 55) dX8_sheet_45 rfl rfl rfl rfl ?_
      refine wp_gr dX8_sheet_46 rfl rfl (kk_55 (sh_sI h)) (rr_55_0 (sh_sI h)) ?_
      refine wp_cst (v := .int (0 : Int32)) dX8_sheet_49 rfl rfl ?_
      refine wp_ld (v := .int x1) dX8_sheet_50 rfl rfl rfl rfl ?_
      refine wq_iast dX8_sheet_51 (kk_56 (sh_sI h)) (by decide) (j := 0) rfl ?_
      refine wp_ld (v := .ref 55) dX8_sheet_52 rfl rfl rfl rfl ?_
      refine wp_gr dX8_sheet_53 rfl rfl (kk_55 (sh_sI (sh_sI h))) (rr_55_0 (sh_sI (sh_sI h))) ?_
      refine wp_cst (v := .int (1 : Int32)) dX8_sheet_56 rfl rfl ?_
      refine wp_ld (v := .int x2) dX8_sheet_57 rfl rfl rfl rfl ?_
      refine wq_iast dX8_sheet_58 (kk_56 (sh_sI (sh_sI h))) (by decide) (j := 1) rfl ?_
      exact wp_end dX8_sheet_59 rfl rfl (hP _ _ (ok_s k) (sh_sI (sh_sI (sh_sI h))))
    · exact wp_end dX8_sheet_44 rfl rfl (hP _ _ (ok_s k) (sh_sI h))
  refine jn_rule k (fun J7 hJ7 k => ?_)
  have HJ7 : ∀ (e8 : Unit) (s9 : am_S), am_sh N n s9 → am_ok (J7 e8 s9) P → am_WP (d + 1) mX8_sheet 33 [(0, .ref 55), (1, .int x1), (2, .int x2)] [.ref 55] s9 Q := by
    intro e8 s9 h k
    replace k := hJ7 _ _ k
    refine wp_cst (v := .int (1 : Int32)) dX8_sheet_33 rfl rfl ?_
    exact wp_sub (HJ3 _ _ h k) rfl ⟨rfl, rfl, rfl, trivial⟩
  refine wp_if_eq dX8_sheet_12 rfl (fun c10 => have k := ok_pos c10 k; ?_) (fun c10 => have k := ok_neg c10 k; ?_)
  · exact wp_sub (HJ7 _ _ h k) rfl ⟨rfl, rfl, rfl, trivial⟩
  · refine wp_ld (v := .int x2) dX8_sheet_15 rfl rfl rfl rfl ?_
    refine wp_pu dX8_sheet_16 rfl rfl ?_
    refine wp_cst (v := .long (3 : Int64)) dX8_sheet_17 rfl rfl ?_
    refine wp_cst (v := .long (12 : Int64)) dX8_sheet_20 rfl rfl ?_
    refine c_i dX8_sheet_23 rfl rfl rfl (am_inv_s rfl rfl rfl rfl) (s_X8_within h) k (fun v12 s11 h k => ?_)
    refine wp_if_eq dX8_sheet_26 rfl (fun c13 => have k := ok_pos c13 k; ?_) (fun c13 => have k := ok_neg c13 k; ?_)
    · exact wp_sub (HJ7 _ _ h k) rfl ⟨rfl, rfl, rfl, trivial⟩
    · refine wp_cst (v := .int (0 : Int32)) dX8_sheet_29 rfl rfl ?_
      refine wp_goto dX8_sheet_30 rfl ?_
      exact wp_sub (HJ3 _ _ h k) rfl ⟨rfl, rfl, rfl, trivial⟩
noncomputable def f_X8_thrown  (s : am_S) : am_F :=
  some (.inl (some (.int (am_I s 55 3))), s)
theorem s_X8_thrown {N n : Nat} {d : Nat}  {s : am_S} (h : am_sh N n s)  : am_S1 (am_sh N n) (d) mX8_thrown [.ref 55] s (f_X8_thrown s) := by
  intro P Q k hP
  show am_WP (d) mX8_thrown 0 [(0, .ref 55)] [] s Q
  unfold f_X8_thrown at k
  refine wp_ld (v := .ref 55) dX8_thrown_0 rfl rfl rfl rfl ?_
  refine wq_gI dX8_thrown_1 rfl rfl (kk_55 h) (v := (am_I s 55 3)) rfl ?_
  exact wp_end dX8_thrown_4 rfl (am_end_i rfl) (hP _ _ (ok_s k) h)
