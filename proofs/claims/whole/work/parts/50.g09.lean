noncomputable def L_X7_why_22 : Nat → Int32 → Int32 → Int32 → Int32 → am_S → am_FE ((Int32 × Int32))
  | 0, _, _, _, _, _ => none
  | m + 1, x2, x3, x4, x5, s =>
    if (8 : Int32) < x5 then
      some (.inr ((x3, x4), s))
    else
      am_bi (f_X7_isRest x2 x5 s) (fun v13 s12 =>
        if v13 = 0 then
          am_bi (f_X7_torque x2 x5 s12) (fun v16 s15 =>
            if 0 ≤ v16 then
              L_X7_why_22 m x2 x3 (x4 + (1 : Int32)) (x5 + (1 : Int32)) s15
            else
              L_X7_why_22 m x2 (x3 + (1 : Int32)) x4 (x5 + (1 : Int32)) s15
          )
        else
          some (.inl (.inl (some (.int (0 : Int32))), s12))
      )
theorem q_X7_why_22 : ∀ (m : Nat) {N n : Nat} {d : Nat} {x2 : Int32} {x3 : Int32} {x4 : Int32} {x5 : Int32} {s : am_S} {P : (am_O × am_S) ⊕ ((Int32 × Int32) × am_S) → Prop} {Q : am_O → am_S → Prop} (h : am_sh N n s)  (k : am_ok (L_X7_why_22 m x2 x3 x4 x5 s) P) (hP : ∀ o s, P (.inl (o, s)) → am_sh N n s → Q o s) (hX : ∀ (e : (Int32 × Int32)) s, P (.inr (e, s)) → am_sh N n s → am_WP (d + 6) mX7_why 66 [(3, .int e.1), (4, .int e.2)] [] s Q), am_WP (d + 6) mX7_why 22 [(0, .ref 0), (2, .int x2), (3, .int x3), (4, .int x4), (5, .int x5)] [] s Q := by
  intro m
  induction m with
  | zero =>
    intro N n d x2 x3 x4 x5 s P Q h  k hP hX
    exact (ok_no k).elim
  | succ m ih =>
    intro N n d x2 x3 x4 x5 s P Q h  k hP hX
    unfold L_X7_why_22 at k
    refine wp_ld (v := .int x5) dX7_why_22 rfl rfl rfl rfl ?_
    refine wp_cst (v := .int (8 : Int32)) dX7_why_24 rfl rfl ?_
    refine wp_ic_gt dX7_why_26 rfl (fun c11 => have k := ok_pos c11 k; ?_) (fun c11 => have k := ok_neg c11 k; ?_)
    · exact wp_sub (hX _ _ (ok_s k) h) rfl ⟨rfl, rfl, trivial⟩
    · refine wp_ld (v := .ref 0) dX7_why_29 rfl rfl rfl rfl ?_
      refine wp_ld (v := .int x2) dX7_why_30 rfl rfl rfl rfl ?_
      refine wp_ld (v := .int x5) dX7_why_31 rfl rfl rfl rfl ?_
      refine c_i dX7_why_33 rfl rfl rfl (am_inv_v rfl (kk_0 h) rfl rfl rfl) (s_X7_isRest h) k (fun v13 s12 h k => ?_)
      refine wp_if_eq dX7_why_36 rfl (fun c14 => have k := ok_pos c14 k; ?_) (fun c14 => have k := ok_neg c14 k; ?_)
      · refine wp_ld (v := .ref 0) dX7_why_41 rfl rfl rfl rfl ?_
        refine wp_ld (v := .int x2) dX7_why_42 rfl rfl rfl rfl ?_
        refine wp_ld (v := .int x5) dX7_why_43 rfl rfl rfl rfl ?_
        refine c_i dX7_why_45 rfl rfl rfl (am_inv_v rfl (kk_0 h) rfl rfl rfl) (s_X7_torque h) k (fun v16 s15 h k => ?_)
        refine wp_if_ge dX7_why_48 rfl (fun c17 => have k := ok_pos c17 k; ?_) (fun c17 => have k := ok_neg c17 k; ?_)
        · refine wp_inc (v := (x4 + (1 : Int32))) (ls' := [(0, .ref 0), (2, .int x2), (3, .int x3), (4, .int (x4 + (1 : Int32))), (5, .int x5)]) dX7_why_57 rfl (Nat.le_of_ble_eq_true rfl) rfl rfl ?_
          refine wp_inc (v := (x5 + (1 : Int32))) (ls' := [(0, .ref 0), (2, .int x2), (3, .int x3), (4, .int (x4 + (1 : Int32))), (5, .int (x5 + (1 : Int32)))]) dX7_why_60 rfl (Nat.le_of_ble_eq_true rfl) rfl rfl ?_
          refine wp_goto dX7_why_63 rfl ?_
          exact wp_sub (ih h k hP hX) rfl ⟨rfl, rfl, rfl, rfl, rfl, trivial⟩
        · refine wp_inc (v := (x3 + (1 : Int32))) (ls' := [(0, .ref 0), (2, .int x2), (3, .int (x3 + (1 : Int32))), (4, .int x4), (5, .int x5)]) dX7_why_51 rfl (Nat.le_of_ble_eq_true rfl) rfl rfl ?_
          refine wp_goto dX7_why_54 rfl ?_
          refine wp_inc (v := (x5 + (1 : Int32))) (ls' := [(0, .ref 0), (2, .int x2), (3, .int (x3 + (1 : Int32))), (4, .int x4), (5, .int (x5 + (1 : Int32)))]) dX7_why_60 rfl (Nat.le_of_ble_eq_true rfl) rfl rfl ?_
          refine wp_goto dX7_why_63 rfl ?_
          exact wp_sub (ih h k hP hX) rfl ⟨rfl, rfl, rfl, rfl, rfl, trivial⟩
      · refine wp_cst (v := .int (0 : Int32)) dX7_why_39 rfl rfl ?_
        exact wp_end dX7_why_40 rfl (am_end_i rfl) (hP _ _ (ok_s k) h)
noncomputable def f_X7_why (x1 : Int32) (x2 : Int32) (s : am_S) : am_F :=
  am_tv (f_X7_needWay x1 s) (fun v2 s1 =>
    am_mv v2 none (fun t3 => if am_k0 t3 = (4, 0) ∧ t3 < 72 then
      am_tu (f_X7_needMake t3 s1) (fun s7 =>
        am_tu (f_X7_needEars x2 s7) (fun s9 =>
          am_lm (L_X7_why_22 ax_fuel x2 (0 : Int32) (0 : Int32) (-8 : Int32) s9) (fun e18 s19 =>
            if e18.2 = 0 then
              some (.inl (some (.int (1 : Int32))), s19)
            else
              if e18.1 = 0 then
                some (.inl (some (.int (2 : Int32))), s19)
              else
                some (.inl (some (.int (3 : Int32))), s19)
          )
        )
      )
    else none)
  )
theorem s_X7_why {N n : Nat} {d : Nat} {x1 : Int32} {x2 : Int32} {s : am_S} (h : am_sh N n s)  : am_S1 (am_sh N n) (d + 6) mX7_why [.ref 0, .int x1, .int x2] s (f_X7_why x1 x2 s) := by
  intro P Q k hP
  show am_WP (d + 6) mX7_why 0 [(0, .ref 0), (1, .int x1), (2, .int x2)] [] s Q
  unfold f_X7_why at k
  refine wp_ld (v := .ref 0) dX7_why_0 rfl rfl rfl rfl ?_
  refine wp_ld (v := .ref 0) dX7_why_1 rfl rfl rfl rfl ?_
  refine wp_ld (v := .int x1) dX7_why_2 rfl rfl rfl rfl ?_
  refine t_v dX7_why_3 rfl rfl rfl (am_inv_v rfl (kk_0 h) rfl rfl rfl) (s_X7_needWay h) k rfl rfl hP (fun v2 s1 h k => ?_)
  obtain ⟨t3, c4, k⟩ := ok_mn k
  subst c4
  obtain ⟨g5, k⟩ := ok_g k
  have f6 := kk_up h g5
  refine t_u dX7_why_6 rfl rfl rfl (am_inv_v rfl (kk_0 h) rfl rfl rfl) (s_X7_needMake h f6) k rfl rfl hP (fun s7 h k => ?_)
  refine wp_ld (v := .int x2) dX7_why_9 rfl rfl rfl rfl ?_
  refine t_u dX7_why_10 rfl rfl rfl (am_inv_s rfl rfl rfl rfl) (s_X7_needEars h) k rfl rfl hP (fun s9 h k => ?_)
  refine wp_cst (v := .int (0 : Int32)) dX7_why_13 rfl rfl ?_
  refine wp_st (ls' := [(0, .ref 0), (1, .int x1), (2, .int x2), (3, .int (0 : Int32))]) dX7_why_14 rfl rfl rfl (Nat.le_of_ble_eq_true rfl) rfl ?_
  refine wp_cst (v := .int (0 : Int32)) dX7_why_15 rfl rfl ?_
  refine wp_st (ls' := [(0, .ref 0), (1, .int x1), (2, .int x2), (3, .int (0 : Int32)), (4, .int (0 : Int32))]) dX7_why_16 rfl rfl rfl (Nat.le_of_ble_eq_true rfl) rfl ?_
  refine wp_cst (v := .int (-8 : Int32)) dX7_why_18 rfl rfl ?_
  refine wp_st (ls' := [(0, .ref 0), (1, .int x1), (2, .int x2), (3, .int (0 : Int32)), (4, .int (0 : Int32)), (5, .int (-8 : Int32))]) dX7_why_20 rfl rfl rfl (Nat.le_of_ble_eq_true rfl) rfl ?_
  refine lp_m k (fun P1 k hA hB => ?_)
  refine wp_sub (q_X7_why_22 ax_fuel h k (fun o s p h => hP o s (hA o s p) h) (fun e18 s19 p h => have k := hB e18 s19 p; ?_)) rfl ⟨rfl, rfl, rfl, rfl, rfl, trivial⟩
  refine wp_ld (v := .int e18.2) dX7_why_66 rfl rfl rfl rfl ?_
  refine wp_if_ne dX7_why_68 rfl (fun c20 => have k := ok_neg c20 k; ?_) (fun c20 => have k := ok_pos c20 k; ?_)
  · refine wp_ld (v := .int e18.1) dX7_why_73 rfl rfl rfl rfl ?_
    refine wp_if_ne dX7_why_74 rfl (fun c21 => have k := ok_neg c21 k; ?_) (fun c21 => have k := ok_pos c21 k; ?_)
    · refine wp_cst (v := .int (3 : Int32)) dX7_why_81 rfl rfl ?_
      exact wp_end dX7_why_82 rfl (am_end_i rfl) (hP _ _ (ok_s k) h)
    · refine wp_cst (v := .int (2 : Int32)) dX7_why_77 rfl rfl ?_
      refine wp_goto dX7_why_78 rfl ?_
      exact wp_end dX7_why_82 rfl (am_end_i rfl) (hP _ _ (ok_s k) h)
  · refine wp_cst (v := .int (1 : Int32)) dX7_why_71 rfl rfl ?_
    exact wp_end dX7_why_72 rfl (am_end_i rfl) (hP _ _ (ok_s k) h)
noncomputable def f_L_why (x2 : Int32) (x3 : Int32) (s : am_S) : am_F :=
  am_xi (f_X7_why x2 x3 s) (fun v2 s1 =>
    some (.inl (some (.int (0 : Int32))), (am_sL s1 71 0 v2.toInt64))
  ) (fun e s1 =>
    if e = 3 then
      some (.inl (some (.int (1 : Int32))), s1)
    else
      if e = 1 then
        some (.inl (some (.int (2 : Int32))), s1)
      else
        if e = 0 then
          some (.inl (some (.int (3 : Int32))), s1)
        else
          none
  )
theorem s_L_why {N : Nat} {d : Nat} {x2 : Int32} {x3 : Int32} {s : am_S} (h : am_shE N s)  : am_S1 (am_shE N) (d + 7) mL_why [.ref 0, .int x2, .int x3, .ref 71] s (f_L_why x2 x3 s) := by
  intro P Q k hP
  show am_WP (d + 7) mL_why 0 [(0, .ref 0), (1, .int x2), (2, .int x3), (3, .ref 71)] [] s Q
  unfold f_L_why at k
  refine wp_ld (v := .ref 71) dL_why_0 rfl rfl rfl rfl ?_
  refine wp_cst (v := .int (0 : Int32)) dL_why_1 rfl rfl ?_
  refine wp_ld (v := .ref 0) dL_why_2 rfl rfl rfl rfl ?_
  refine wp_ld (v := .int x2) dL_why_3 rfl rfl rfl rfl ?_
  refine wp_ld (v := .int x3) dL_why_4 rfl rfl rfl rfl ?_
  refine x_i dL_why_5 rfl rfl rfl (am_inv_v rfl (kE_0 h) rfl rfl rfl) (sE h (fun _ h => s_X7_why h)) k rfl (List.cons_ne_nil _ _) (fun v2 s1 h k => ?_) (fun e s1 h k => ?_)
  · refine wp_pu dL_why_8 rfl rfl ?_
    refine wq_last dL_why_9 (kE_71 h) (by decide) (j := 0) rfl ?_
    refine wp_goto dL_why_10 rfl ?_
    refine wp_cst (v := .int (0 : Int32)) dL_why_25 rfl rfl ?_
    exact wp_end dL_why_26 rfl (am_end_i rfl) (hP _ _ (ok_s k) (shE_sL h))
  · by_cases c3 : e = 3
    · have k := ok_pos c3 k
      subst c3
      refine ⟨_, _, rfl, ?_⟩
      refine wp_cst (v := .int (1 : Int32)) dL_why_15 rfl rfl ?_
      exact wp_end dL_why_16 rfl (am_end_i rfl) (hP _ _ (ok_s k) h)
    replace k := ok_neg c3 k
    by_cases c4 : e = 1
    · have k := ok_pos c4 k
      subst c4
      refine ⟨_, _, rfl, ?_⟩
      refine wp_cst (v := .int (2 : Int32)) dL_why_19 rfl rfl ?_
      exact wp_end dL_why_20 rfl (am_end_i rfl) (hP _ _ (ok_s k) h)
    replace k := ok_neg c4 k
    by_cases c5 : e = 0
    · have k := ok_pos c5 k
      subst c5
      refine ⟨_, _, rfl, ?_⟩
      refine wp_cst (v := .int (3 : Int32)) dL_why_23 rfl rfl ?_
      exact wp_end dL_why_24 rfl (am_end_i rfl) (hP _ _ (ok_s k) h)
    replace k := ok_neg c5 k
    exact (ok_no k).elim
noncomputable def L_X8_why_43 : Nat → Int32 → Int32 → Int32 → Int32 → Int32 → am_S → am_FE ((Int32 × Int32 × Int32))
  | 0, _, _, _, _, _, _ => none
  | m + 1, x2, x3, x4, x5, x6, s =>
    if (8 : Int32) < x6 then
      some (.inr ((x3, x4, x5), s))
    else
      am_jn (fun (e9 : Int32) s10 =>
        am_jn (fun (e12 : Int32) s13 =>
          if x5 = 0 then
            L_X8_why_43 m x2 e9 e12 (0 : Int32) (x6 + (1 : Int32)) s13
          else
            am_bl (f_X8_turns x2 x6 s13) (fun v16 s15 =>
              if v16 ≤ (0 : Int64) then
                L_X8_why_43 m x2 e9 e12 (0 : Int32) (x6 + (1 : Int32)) s15
              else
                L_X8_why_43 m x2 e9 e12 (1 : Int32) (x6 + (1 : Int32)) s15
            )
        ) (fun J11 =>
          am_jn (fun (e19 : Unit) s20 =>
            J11 (0 : Int32) s20
          ) (fun J18 =>
            if x4 = 0 then
              J18 () s10
            else
              am_bl (f_X8_turns x2 x6 s10) (fun v23 s22 =>
                if (0 : Int64) ≤ v23 then
                  J18 () s22
                else
                  J11 (1 : Int32) s22
              )
          )
        )
      ) (fun J8 =>
        am_jn (fun (e26 : Unit) s27 =>
          J8 (1 : Int32) s27
        ) (fun J25 =>
          if x3 = 0 then
            am_bi (f_X8_isRest x2 x6 s) (fun v30 s29 =>
              if v30 = 0 then
                J8 (0 : Int32) s29
              else
                J25 () s29
            )
          else
            J25 () s
        )
      )
theorem q_X8_why_43 : ∀ (m : Nat) {N n : Nat} {d : Nat} {x2 : Int32} {x3 : Int32} {x4 : Int32} {x5 : Int32} {x6 : Int32} {s : am_S} {P : (am_O × am_S) ⊕ ((Int32 × Int32 × Int32) × am_S) → Prop} {Q : am_O → am_S → Prop} (h : am_sh N n s)  (k : am_ok (L_X8_why_43 m x2 x3 x4 x5 x6 s) P) (hP : ∀ o s, P (.inl (o, s)) → am_sh N n s → Q o s) (hX : ∀ (e : (Int32 × Int32 × Int32)) s, P (.inr (e, s)) → am_sh N n s → am_WP (d + 4) mX8_why 124 [(3, .int e.1), (4, .int e.2.1), (5, .int e.2.2)] [] s Q), am_WP (d + 4) mX8_why 43 [(0, .ref 55), (2, .int x2), (3, .int x3), (4, .int x4), (5, .int x5), (6, .int x6)] [] s Q := by
  intro m
  induction m with
  | zero =>
    intro N n d x2 x3 x4 x5 x6 s P Q h  k hP hX
    exact (ok_no k).elim
  | succ m ih =>
    intro N n d x2 x3 x4 x5 x6 s P Q h  k hP hX
    unfold L_X8_why_43 at k
    refine wp_ld (v := .int x6) dX8_why_43 rfl rfl rfl rfl ?_
    refine wp_cst (v := .int (8 : Int32)) dX8_why_45 rfl rfl ?_
    refine wp_ic_gt dX8_why_47 rfl (fun c7 => have k := ok_pos c7 k; ?_) (fun c7 => have k := ok_neg c7 k; ?_)
    · exact wp_sub (hX _ _ (ok_s k) h) rfl ⟨rfl, rfl, rfl, trivial⟩
    · refine wp_ld (v := .int x3) dX8_why_50 rfl rfl rfl rfl ?_
      refine jn_rule k (fun J8 hJ8 k => ?_)
      have HJ8 : ∀ (e9 : Int32) (s10 : am_S), am_sh N n s10 → am_ok (J8 e9 s10) P → am_WP (d + 4) mX8_why 69 [(0, .ref 55), (2, .int x2), (4, .int x4), (5, .int x5), (6, .int x6)] [.int e9] s10 Q := by
        intro e9 s10 h k
        replace k := hJ8 _ _ k
        refine wp_st (ls' := [(0, .ref 55), (2, .int x2), (3, .int e9), (4, .int x4), (5, .int x5), (6, .int x6)]) dX8_why_69 rfl rfl rfl (Nat.le_of_ble_eq_true rfl) rfl ?_
        refine wp_ld (v := .int x4) dX8_why_70 rfl rfl rfl rfl ?_
        refine jn_rule k (fun J11 hJ11 k => ?_)
        have HJ11 : ∀ (e12 : Int32) (s13 : am_S), am_sh N n s13 → am_ok (J11 e12 s13) P → am_WP (d + 4) mX8_why 92 [(0, .ref 55), (2, .int x2), (3, .int e9), (5, .int x5), (6, .int x6)] [.int e12] s13 Q := by
          intro e12 s13 h k
          replace k := hJ11 _ _ k
          refine wp_st (ls' := [(0, .ref 55), (2, .int x2), (3, .int e9), (4, .int e12), (5, .int x5), (6, .int x6)]) dX8_why_92 rfl rfl rfl (Nat.le_of_ble_eq_true rfl) rfl ?_
          refine wp_ld (v := .int x5) dX8_why_94 rfl rfl rfl rfl ?_
          refine wp_if_eq dX8_why_96 rfl (fun c14 => have k := ok_pos c14 k; ?_) (fun c14 => have k := ok_neg c14 k; ?_)
          · refine wp_cst (v := .int (0 : Int32)) dX8_why_115 rfl rfl ?_
            refine wp_st (ls' := [(0, .ref 55), (2, .int x2), (3, .int e9), (4, .int e12), (5, .int (0 : Int32)), (6, .int x6)]) dX8_why_116 rfl rfl rfl (Nat.le_of_ble_eq_true rfl) rfl ?_
            refine wp_inc (v := (x6 + (1 : Int32))) (ls' := [(0, .ref 55), (2, .int x2), (3, .int e9), (4, .int e12), (5, .int (0 : Int32)), (6, .int (x6 + (1 : Int32)))]) dX8_why_118 rfl (Nat.le_of_ble_eq_true rfl) rfl rfl ?_
            refine wp_goto dX8_why_121 rfl ?_
            exact wp_sub (ih h k hP hX) rfl ⟨rfl, rfl, rfl, rfl, rfl, rfl, trivial⟩
          · refine wp_ld (v := .ref 55) dX8_why_99 rfl rfl rfl rfl ?_
            refine wp_ld (v := .int x2) dX8_why_100 rfl rfl rfl rfl ?_
            refine wp_ld (v := .int x6) dX8_why_101 rfl rfl rfl rfl ?_
            refine c_l dX8_why_103 rfl rfl rfl (am_inv_v rfl (kk_55 h) rfl rfl rfl) (s_X8_turns h) k (fun v16 s15 h k => ?_)
            refine wp_cst (v := .long (0 : Int64)) dX8_why_106 rfl rfl ?_
            refine wl_le dX8_why_107 dX8_why_108 rfl (fun c17 => have k := ok_pos c17 k; ?_) (fun c17 => have k := ok_neg c17 k; ?_)
            · refine wp_cst (v := .int (0 : Int32)) dX8_why_115 rfl rfl ?_
              refine wp_st (ls' := [(0, .ref 55), (2, .int x2), (3, .int e9), (4, .int e12), (5, .int (0 : Int32)), (6, .int x6)]) dX8_why_116 rfl rfl rfl (Nat.le_of_ble_eq_true rfl) rfl ?_
              refine wp_inc (v := (x6 + (1 : Int32))) (ls' := [(0, .ref 55), (2, .int x2), (3, .int e9), (4, .int e12), (5, .int (0 : Int32)), (6, .int (x6 + (1 : Int32)))]) dX8_why_118 rfl (Nat.le_of_ble_eq_true rfl) rfl rfl ?_
              refine wp_goto dX8_why_121 rfl ?_
              exact wp_sub (ih h k hP hX) rfl ⟨rfl, rfl, rfl, rfl, rfl, rfl, trivial⟩
            · refine wp_cst (v := .int (1 : Int32)) dX8_why_111 rfl rfl ?_
              refine wp_goto dX8_why_112 rfl ?_
              refine wp_st (ls' := [(0, .ref 55), (2, .int x2), (3, .int e9), (4, .int e12), (5, .int (1 : Int32)), (6, .int x6)]) dX8_why_116 rfl rfl rfl (Nat.le_of_ble_eq_true rfl) rfl ?_
              refine wp_inc (v := (x6 + (1 : Int32))) (ls' := [(0, .ref 55), (2, .int x2), (3, .int e9), (4, .int e12), (5, .int (1 : Int32)), (6, .int (x6 + (1 : Int32)))]) dX8_why_118 rfl (Nat.le_of_ble_eq_true rfl) rfl rfl ?_
              refine wp_goto dX8_why_121 rfl ?_
              exact wp_sub (ih h k hP hX) rfl ⟨rfl, rfl, rfl, rfl, rfl, rfl, trivial⟩
        refine jn_rule k (fun J18 hJ18 k => ?_)
        have HJ18 : ∀ (e19 : Unit) (s20 : am_S), am_sh N n s20 → am_ok (J18 e19 s20) P → am_WP (d + 4) mX8_why 91 [(0, .ref 55), (2, .int x2), (3, .int e9), (5, .int x5), (6, .int x6)] [] s20 Q := by
          intro e19 s20 h k
          replace k := hJ18 _ _ k
          refine wp_cst (v := .int (0 : Int32)) dX8_why_91 rfl rfl ?_
          exact wp_sub (HJ11 _ _ h k) rfl ⟨rfl, rfl, rfl, rfl, rfl, trivial⟩
        refine wp_if_eq dX8_why_72 rfl (fun c21 => have k := ok_pos c21 k; ?_) (fun c21 => have k := ok_neg c21 k; ?_)
        · exact wp_sub (HJ18 _ _ h k) rfl ⟨rfl, rfl, rfl, rfl, rfl, trivial⟩
        · refine wp_ld (v := .ref 55) dX8_why_75 rfl rfl rfl rfl ?_
          refine wp_ld (v := .int x2) dX8_why_76 rfl rfl rfl rfl ?_
          refine wp_ld (v := .int x6) dX8_why_77 rfl rfl rfl rfl ?_
          refine c_l dX8_why_79 rfl rfl rfl (am_inv_v rfl (kk_55 h) rfl rfl rfl) (s_X8_turns h) k (fun v23 s22 h k => ?_)
          refine wp_cst (v := .long (0 : Int64)) dX8_why_82 rfl rfl ?_
          refine wl_ge dX8_why_83 dX8_why_84 rfl (fun c24 => have k := ok_pos c24 k; ?_) (fun c24 => have k := ok_neg c24 k; ?_)
          · exact wp_sub (HJ18 _ _ h k) rfl ⟨rfl, rfl, rfl, rfl, rfl, trivial⟩
          · refine wp_cst (v := .int (1 : Int32)) dX8_why_87 rfl rfl ?_
            refine wp_goto dX8_why_88 rfl ?_
            exact wp_sub (HJ11 _ _ h k) rfl ⟨rfl, rfl, rfl, rfl, rfl, trivial⟩
      refine jn_rule k (fun J25 hJ25 k => ?_)
      have HJ25 : ∀ (e26 : Unit) (s27 : am_S), am_sh N n s27 → am_ok (J25 e26 s27) P → am_WP (d + 4) mX8_why 64 [(0, .ref 55), (2, .int x2), (4, .int x4), (5, .int x5), (6, .int x6)] [] s27 Q := by
        intro e26 s27 h k
        replace k := hJ25 _ _ k
        refine wp_cst (v := .int (1 : Int32)) dX8_why_64 rfl rfl ?_
        refine wp_goto dX8_why_65 rfl ?_
        exact wp_sub (HJ8 _ _ h k) rfl ⟨rfl, rfl, rfl, rfl, rfl, trivial⟩
      refine wp_if_ne dX8_why_51 rfl (fun c28 => have k := ok_neg c28 k; ?_) (fun c28 => have k := ok_pos c28 k; ?_)
      · exact wp_sub (HJ25 _ _ h k) rfl ⟨rfl, rfl, rfl, rfl, rfl, trivial⟩
      · refine wp_ld (v := .ref 55) dX8_why_54 rfl rfl rfl rfl ?_
        refine wp_ld (v := .int x2) dX8_why_55 rfl rfl rfl rfl ?_
        refine wp_ld (v := .int x6) dX8_why_56 rfl rfl rfl rfl ?_
        refine c_i dX8_why_58 rfl rfl rfl (am_inv_v rfl (kk_55 h) rfl rfl rfl) (s_X8_isRest h) k (fun v30 s29 h k => ?_)
        refine wp_if_eq dX8_why_61 rfl (fun c31 => have k := ok_pos c31 k; ?_) (fun c31 => have k := ok_neg c31 k; ?_)
        · refine wp_cst (v := .int (0 : Int32)) dX8_why_68 rfl rfl ?_
          exact wp_sub (HJ8 _ _ h k) rfl ⟨rfl, rfl, rfl, rfl, rfl, trivial⟩
        · exact wp_sub (HJ25 _ _ h k) rfl ⟨rfl, rfl, rfl, rfl, rfl, trivial⟩
noncomputable def f_X8_why (x1 : Int32) (x2 : Int32) (s : am_S) : am_F :=
  am_bi (f_X8_wayFault x1 s) (fun v2 s1 =>
    if v2 ≤ 0 then
      am_bi (f_X8_isEars x2 (am_sI s1 55 3 v2)) (fun v5 s4 =>
        if v5 = 0 then
          am_bi (f_X8_fails (3 : Int32) s4) (fun v38 s37 =>
            some (.inl (some (.int v38)), s37)
          )
        else
          am_lm (L_X8_why_43 ax_fuel x2 (0 : Int32) (1 : Int32) (1 : Int32) (-8 : Int32) s4) (fun e32 s33 =>
            if e32.1 = 0 then
              if e32.2.1 = 0 then
                if e32.2.2 = 0 then
                  some (.inl (some (.int (3 : Int32))), s33)
                else
                  some (.inl (some (.int (2 : Int32))), s33)
              else
                some (.inl (some (.int (1 : Int32))), s33)
            else
              some (.inl (some (.int (0 : Int32))), s33)
          )
      )
    else
      some (.inl (some (.int (0 : Int32))), (am_sI s1 55 3 v2))
  )
theorem s_X8_why {N n : Nat} {d : Nat} {x1 : Int32} {x2 : Int32} {s : am_S} (h : am_sh N n s)  : am_S1 (am_sh N n) (d + 4) mX8_why [.ref 55, .int x1, .int x2] s (f_X8_why x1 x2 s) := by
  intro P Q k hP
  show am_WP (d + 4) mX8_why 0 [(0, .ref 55), (1, .int x1), (2, .int x2)] [] s Q
  unfold f_X8_why at k
  refine wp_ld (v := .ref 55) dX8_why_0 rfl rfl rfl rfl ?_
  refine wp_ld (v := .ref 55) dX8_why_1 rfl rfl rfl rfl ?_
  refine wp_ld (v := .int x1) dX8_why_2 rfl rfl rfl rfl ?_
  refine c_i dX8_why_3 rfl rfl rfl (am_inv_v rfl (kk_55 h) rfl rfl rfl) (s_X8_wayFault h) k (fun v2 s1 h k => ?_)
  refine wp_pI dX8_why_6 rfl rfl rfl (fun h => absurd h (by decide)) (kk_55 h) ?_
  refine wp_ld (v := .ref 55) dX8_why_9 rfl rfl rfl rfl ?_
  refine wq_gI dX8_why_10 rfl rfl (kk_55 (sh_sI h)) (v := v2) rfl ?_
  refine wp_if_le dX8_why_13 rfl (fun c3 => have k := ok_pos c3 k; ?_) (fun c3 => have k := ok_neg c3 k; ?_)
  · refine wp_ld (v := .int x2) dX8_why_18 rfl rfl rfl rfl ?_
    refine c_i dX8_why_19 rfl rfl rfl (am_inv_s rfl rfl rfl rfl) (s_X8_isEars (sh_sI h)) k (fun v5 s4 h k => ?_)
    refine wp_if_ne dX8_why_22 rfl (fun c6 => have k := ok_neg c6 k; ?_) (fun c6 => have k := ok_pos c6 k; ?_)
    · refine wp_cst (v := .int (0 : Int32)) dX8_why_31 rfl rfl ?_
      refine wp_st (ls' := [(0, .ref 55), (1, .int x1), (2, .int x2), (3, .int (0 : Int32))]) dX8_why_32 rfl rfl rfl (Nat.le_of_ble_eq_true rfl) rfl ?_
      refine wp_cst (v := .int (1 : Int32)) dX8_why_33 rfl rfl ?_
      refine wp_st (ls' := [(0, .ref 55), (1, .int x1), (2, .int x2), (3, .int (0 : Int32)), (4, .int (1 : Int32))]) dX8_why_34 rfl rfl rfl (Nat.le_of_ble_eq_true rfl) rfl ?_
      refine wp_cst (v := .int (1 : Int32)) dX8_why_36 rfl rfl ?_
      refine wp_st (ls' := [(0, .ref 55), (1, .int x1), (2, .int x2), (3, .int (0 : Int32)), (4, .int (1 : Int32)), (5, .int (1 : Int32))]) dX8_why_37 rfl rfl rfl (Nat.le_of_ble_eq_true rfl) rfl ?_
      refine wp_cst (v := .int (-8 : Int32)) dX8_why_39 rfl rfl ?_
      refine wp_st (ls' := [(0, .ref 55), (1, .int x1), (2, .int x2), (3, .int (0 : Int32)), (4, .int (1 : Int32)), (5, .int (1 : Int32)), (6, .int (-8 : Int32))]) dX8_why_41 rfl rfl rfl (Nat.le_of_ble_eq_true rfl) rfl ?_
      refine lp_m k (fun P1 k hA hB => ?_)
      refine wp_sub (q_X8_why_43 ax_fuel h k (fun o s p h => hP o s (hA o s p) h) (fun e32 s33 p h => have k := hB e32 s33 p; ?_)) rfl ⟨rfl, rfl, rfl, rfl, rfl, rfl, trivial⟩
      refine wp_ld (v := .int e32.1) dX8_why_124 rfl rfl rfl rfl ?_
      refine wp_if_eq dX8_why_125 rfl (fun c34 => have k := ok_pos c34 k; ?_) (fun c34 => have k := ok_neg c34 k; ?_)
      · refine wp_ld (v := .int e32.2.1) dX8_why_132 rfl rfl rfl rfl ?_
        refine wp_if_eq dX8_why_134 rfl (fun c35 => have k := ok_pos c35 k; ?_) (fun c35 => have k := ok_neg c35 k; ?_)
        · refine wp_ld (v := .int e32.2.2) dX8_why_141 rfl rfl rfl rfl ?_
          refine wp_if_eq dX8_why_143 rfl (fun c36 => have k := ok_pos c36 k; ?_) (fun c36 => have k := ok_neg c36 k; ?_)
          · refine wp_cst (v := .int (3 : Int32)) dX8_why_150 rfl rfl ?_
            exact wp_end dX8_why_151 rfl (am_end_i rfl) (hP _ _ (ok_s k) h)
          · refine wp_cst (v := .int (2 : Int32)) dX8_why_146 rfl rfl ?_
            refine wp_goto dX8_why_147 rfl ?_
            exact wp_end dX8_why_151 rfl (am_end_i rfl) (hP _ _ (ok_s k) h)
        · refine wp_cst (v := .int (1 : Int32)) dX8_why_137 rfl rfl ?_
          refine wp_goto dX8_why_138 rfl ?_
          exact wp_end dX8_why_151 rfl (am_end_i rfl) (hP _ _ (ok_s k) h)
      · refine wp_cst (v := .int (0 : Int32)) dX8_why_128 rfl rfl ?_
        refine wp_goto dX8_why_129 rfl ?_
        exact wp_end dX8_why_151 rfl (am_end_i rfl) (hP _ _ (ok_s k) h)
    · refine wp_ld (v := .ref 55) dX8_why_25 rfl rfl rfl rfl ?_
      refine wp_cst (v := .int (3 : Int32)) dX8_why_26 rfl rfl ?_
      refine c_i dX8_why_27 rfl rfl rfl (am_inv_v rfl (kk_55 h) rfl rfl rfl) (s_X8_fails h) k (fun v38 s37 h k => ?_)
      exact wp_end dX8_why_30 rfl (am_end_i rfl) (hP _ _ (ok_s k) h)
  · refine wp_cst (v := .int (0 : Int32)) dX8_why_16 rfl rfl ?_
    exact wp_end dX8_why_17 rfl (am_end_i rfl) (hP _ _ (ok_s k) (sh_sI h))
noncomputable def f_X5_addHand  (s : am_S) : am_F :=
  if (am_I s 1 7) < 0 then
    some (.inl (some (.int (-1 : Int32))), s)
  else
    if (am_I s 1 7) < (5 : Int32) then
      if am_in (am_I s 1 7) 5 = true then
        some (.inl (some (.int (am_I s 1 7))), (am_sI (am_sI s (23 + 2 * (am_I s 1 7).toNatClampNeg) 2 (0 : Int32)) 1 7 ((am_I s 1 7) + (1 : Int32))))
      else none
    else
      some (.inl (some (.int (-1 : Int32))), s)
theorem s_X5_addHand {N n : Nat} {d : Nat}  {s : am_S} (h : am_sh N n s)  : am_S1 (am_sh N n) (d) mX5_addHand [.ref 1] s (f_X5_addHand s) := by
  intro P Q k hP
  show am_WP (d) mX5_addHand 0 [(0, .ref 1)] [] s Q
  unfold f_X5_addHand at k
  refine wp_ld (v := .ref 1) dX5_addHand_0 rfl rfl rfl rfl ?_
  refine wq_gI dX5_addHand_1 rfl rfl (kk_1 h) (v := (am_I s 1 7)) rfl ?_
  refine wp_st (ls' := [(0, .ref 1), (1, .int (am_I s 1 7))]) dX5_addHand_4 rfl rfl rfl (Nat.le_of_ble_eq_true rfl) rfl ?_
  refine wp_ld (v := .int (am_I s 1 7)) dX5_addHand_5 rfl rfl rfl rfl ?_
  refine wp_if_lt dX5_addHand_6 rfl (fun c1 => have k := ok_pos c1 k; ?_) (fun c1 => have k := ok_neg c1 k; ?_)
  · refine wp_cst (v := .int (-1 : Int32)) dX5_addHand_14 rfl rfl ?_
    exact wp_end dX5_addHand_15 rfl (am_end_i rfl) (hP _ _ (ok_s k) h)
  · refine wp_ld (v := .int (am_I s 1 7)) dX5_addHand_9 rfl rfl rfl rfl ?_
    refine wp_cst (v := .int (5 : Int32)) dX5_addHand_10 rfl rfl ?_
    refine wp_ic_lt dX5_addHand_11 rfl (fun c2 => have k := ok_pos c2 k; ?_) (fun c2 => have k := ok_neg c2 k; ?_)
    · refine wp_ld (v := .ref 1) dX5_addHand_16 rfl rfl rfl rfl ?_
      refine wp_gr dX5_addHand_17 rfl rfl (kk_1 h) (rr_1_6 h) ?_
      refine wp_ld (v := .int (am_I s 1 7)) dX5_addHand_20 rfl rfl rfl rfl ?_
      obtain ⟨g3, k⟩ := ok_g k
      have f4 := kf_hands h g3
      refine wq_aald dX5_addHand_21 (kk_4 h) (by decide) g3 (rr_hands h g3) ?_
      refine wp_cst (v := .int (0 : Int32)) dX5_addHand_22 rfl rfl ?_
      refine wp_pI dX5_addHand_23 rfl rfl rfl (fun h => absurd h (by decide)) (kk_f h f4) ?_
      refine wp_ld (v := .ref 1) dX5_addHand_26 rfl rfl rfl rfl ?_
      refine wp_ld (v := .int (am_I s 1 7)) dX5_addHand_27 rfl rfl rfl rfl ?_
      refine wp_cst (v := .int (1 : Int32)) dX5_addHand_28 rfl rfl ?_
      refine wp_pu dX5_addHand_29 rfl rfl ?_
      refine wp_pI dX5_addHand_30 rfl rfl rfl (fun h => absurd h (by decide)) (kk_1 (sh_sI h)) ?_
      show am_WP (d) mX5_addHand 33 _ _ _ Q
      refine wp_ld (v := .int (am_I s 1 7)) dX5_addHand_33 rfl rfl rfl rfl ?_
      exact wp_end dX5_addHand_34 rfl (am_end_i rfl) (hP _ _ (ok_s k) (sh_sI (sh_sI h)))
    · refine wp_cst (v := .int (-1 : Int32)) dX5_addHand_14 rfl rfl ?_
      exact wp_end dX5_addHand_15 rfl (am_end_i rfl) (hP _ _ (ok_s k) h)
noncomputable def f_X7_hand  (s : am_S) : am_F :=
  am_bi (f_X5_addHand s) (fun v2 s1 =>
    some (.inl (some (.int v2)), s1)
  )
theorem s_X7_hand {N n : Nat} {d : Nat}  {s : am_S} (h : am_sh N n s)  : am_S1 (am_sh N n) (d + 1) mX7_hand [.ref 0] s (f_X7_hand s) := by
  intro P Q k hP
  show am_WP (d + 1) mX7_hand 0 [(0, .ref 0)] [] s Q
  unfold f_X7_hand at k
  refine wp_ld (v := .ref 0) dX7_hand_0 rfl rfl rfl rfl ?_
  refine wp_gr dX7_hand_1 rfl rfl (kk_0 h) (rr_0_0 h) ?_
  refine c_i dX7_hand_4 rfl rfl rfl (am_inv_v rfl (kk_1 h) rfl rfl rfl) (s_X5_addHand h) k (fun v2 s1 h k => ?_)
  exact wp_end dX7_hand_7 rfl (am_end_i rfl) (hP _ _ (ok_s k) h)
noncomputable def f_X8_hand  (s : am_S) : am_F :=
  if (am_I s 56 3) = (5 : Int32) then
    some (.inl (some (.int (-1 : Int32))), (am_sI s 55 3 (0 : Int32)))
  else
    if am_in ((169 : Int32) + ((13 : Int32) * (am_I s 56 3))) 264 = true then
      ax_le ((am_I (am_sI (am_sI s 55 3 (0 : Int32)) 56 (((169 : Int32) + ((13 : Int32) * (am_I s 56 3))).toNatClampNeg) (0 : Int32)) 56 3) + (1 : Int32)) (fun y3 =>
        some (.inl (some (.int (y3 - (1 : Int32)))), (am_sI (am_sI (am_sI s 55 3 (0 : Int32)) 56 (((169 : Int32) + ((13 : Int32) * (am_I s 56 3))).toNatClampNeg) (0 : Int32)) 56 3 y3))
      )
    else none
theorem s_X8_hand {N n : Nat} {d : Nat}  {s : am_S} (h : am_sh N n s)  : am_S1 (am_sh N n) (d) mX8_hand [.ref 55] s (f_X8_hand s) := by
  intro P Q k hP
  show am_WP (d) mX8_hand 0 [(0, .ref 55)] [] s Q
  unfold f_X8_hand at k
  refine wp_ld (v := .ref 55) dX8_hand_0 rfl rfl rfl rfl ?_
  refine wp_cst (v := .int (0 : Int32)) dX8_hand_1 rfl rfl ?_
  refine wp_pI dX8_hand_2 rfl rfl rfl (fun h => absurd h (by decide)) (kk_55 h) ?_
  refine wp_ld (v := .ref 55) dX8_hand_5 rfl rfl rfl rfl ?_
  refine wp_gr dX8_hand_6 rfl rfl (kk_55 (sh_sI h)) (rr_55_0 (sh_sI h)) ?_
  refine wp_cst (v := .int (3 : Int32)) dX8_hand_9 rfl rfl ?_
  refine wq_iald dX8_hand_10 (kk_56 (sh_sI h)) (by decide) (v := (am_I s 56 3)) rfl ?_
  refine wp_cst (v := .int (5 : Int32)) dX8_hand_11 rfl rfl ?_
  refine wp_ic_ne dX8_hand_12 rfl (fun c1 => have k := ok_neg c1 k; ?_) (fun c1 => have k := ok_pos c1 k; ?_)
  · refine wp_ld (v := .ref 55) dX8_hand_17 rfl rfl rfl rfl ?_
    refine wp_gr dX8_hand_18 rfl rfl (kk_55 (sh_sI h)) (rr_55_0 (sh_sI h)) ?_
    refine wp_cst (v := .int (169 : Int32)) dX8_hand_21 rfl rfl ?_
    refine wp_cst (v := .int (13 : Int32)) dX8_hand_24 rfl rfl ?_
    refine wp_ld (v := .ref 55) dX8_hand_26 rfl rfl rfl rfl ?_
    refine wp_gr dX8_hand_27 rfl rfl (kk_55 (sh_sI h)) (rr_55_0 (sh_sI h)) ?_
    refine wp_cst (v := .int (3 : Int32)) dX8_hand_30 rfl rfl ?_
    refine wq_iald dX8_hand_31 (kk_56 (sh_sI h)) (by decide) (v := (am_I s 56 3)) rfl ?_
    refine wp_pu dX8_hand_32 rfl rfl ?_
    refine wp_pu dX8_hand_33 rfl rfl ?_
    refine wp_cst (v := .int (0 : Int32)) dX8_hand_34 rfl rfl ?_
    show am_WP (d) mX8_hand 35 _ _ _ Q
    obtain ⟨g2, k⟩ := ok_g k
    refine wq_iast dX8_hand_35 (kk_56 (sh_sI h)) g2 (j := (((169 : Int32) + ((13 : Int32) * (am_I s 56 3))).toNatClampNeg)) rfl ?_
    refine wp_ld (v := .ref 55) dX8_hand_36 rfl rfl rfl rfl ?_
    refine wp_gr dX8_hand_37 rfl rfl (kk_55 (sh_sI (sh_sI h))) (rr_55_0 (sh_sI (sh_sI h))) ?_
    refine wp_cst (v := .int (3 : Int32)) dX8_hand_40 rfl rfl ?_
    refine wp_pu dX8_hand_41 rfl rfl ?_
    refine wq_iald dX8_hand_42 (kk_56 (sh_sI (sh_sI h))) (by decide) (v := (am_I (am_sI (am_sI s 55 3 (0 : Int32)) 56 (((169 : Int32) + ((13 : Int32) * (am_I s 56 3))).toNatClampNeg) (0 : Int32)) 56 3)) rfl ?_
    refine wp_cst (v := .int (1 : Int32)) dX8_hand_43 rfl rfl ?_
    refine wp_pu dX8_hand_44 rfl rfl ?_
    refine ls_i k (fun y3 _ k => ?_)
    refine wq_iast dX8_hand_45 (kk_56 (sh_sI (sh_sI h))) (by decide) (j := 3) rfl ?_
    refine wp_ld (v := .ref 55) dX8_hand_46 rfl rfl rfl rfl ?_
    refine wp_gr dX8_hand_47 rfl rfl (kk_55 (sh_sI (sh_sI (sh_sI h)))) (rr_55_0 (sh_sI (sh_sI (sh_sI h)))) ?_
    refine wp_cst (v := .int (3 : Int32)) dX8_hand_50 rfl rfl ?_
    show am_WP (d) mX8_hand 51 _ _ _ Q
    refine wq_iald dX8_hand_51 (kk_56 (sh_sI (sh_sI (sh_sI h)))) (by decide) (v := y3) rfl ?_
    refine wp_cst (v := .int (1 : Int32)) dX8_hand_52 rfl rfl ?_
    refine wp_pu dX8_hand_53 rfl rfl ?_
    exact wp_end dX8_hand_54 rfl (am_end_i rfl) (hP _ _ (ok_s k) (sh_sI (sh_sI (sh_sI h))))
  · refine wp_cst (v := .int (-1 : Int32)) dX8_hand_15 rfl rfl ?_
    exact wp_end dX8_hand_16 rfl (am_end_i rfl) (hP _ _ (ok_s k) (sh_sI h))
noncomputable def f_X7_isThrow (x1 : Int64) (x2 : Int64) (x3 : Int64) (s : am_S) : am_F :=
  if x1 < (10 : Int64) then
    some (.inl (some (.int (0 : Int32))), s)
  else
    if (999 : Int64) < x1 then
      some (.inl (some (.int (0 : Int32))), s)
    else
      if x2 < (-16 : Int64) then
        some (.inl (some (.int (0 : Int32))), s)
      else
        if (16 : Int64) < x2 then
          some (.inl (some (.int (0 : Int32))), s)
        else
          if x3 < (1 : Int64) then
            some (.inl (some (.int (0 : Int32))), s)
          else
            if (9 : Int64) < x3 then
              some (.inl (some (.int (0 : Int32))), s)
            else
              some (.inl (some (.int (1 : Int32))), s)
theorem s_X7_isThrow {N n : Nat} {d : Nat} {x1 : Int64} {x2 : Int64} {x3 : Int64} {s : am_S} (h : am_sh N n s)  : am_S1 (am_sh N n) (d) mX7_isThrow [.long x1, .long x2, .long x3] s (f_X7_isThrow x1 x2 x3 s) := by
  intro P Q k hP
  show am_WP (d) mX7_isThrow 0 [(0, .long x1), (2, .long x2), (4, .long x3)] [] s Q
  unfold f_X7_isThrow at k
  refine wp_ld (v := .long x1) dX7_isThrow_0 rfl rfl rfl rfl ?_
  refine wp_cst (v := .long (10 : Int64)) dX7_isThrow_1 rfl rfl ?_
  refine wl_lt dX7_isThrow_4 dX7_isThrow_5 rfl (fun c1 => have k := ok_pos c1 k; ?_) (fun c1 => have k := ok_neg c1 k; ?_)
  · refine wp_cst (v := .int (0 : Int32)) dX7_isThrow_52 rfl rfl ?_
    exact wp_end dX7_isThrow_53 rfl rfl (hP _ _ (ok_s k) h)
  · refine wp_ld (v := .long x1) dX7_isThrow_8 rfl rfl rfl rfl ?_
    refine wp_cst (v := .long (999 : Int64)) dX7_isThrow_9 rfl rfl ?_
    refine wl_gt dX7_isThrow_12 dX7_isThrow_13 rfl (fun c2 => have k := ok_pos c2 k; ?_) (fun c2 => have k := ok_neg c2 k; ?_)
    · refine wp_cst (v := .int (0 : Int32)) dX7_isThrow_52 rfl rfl ?_
      exact wp_end dX7_isThrow_53 rfl rfl (hP _ _ (ok_s k) h)
    · refine wp_ld (v := .long x2) dX7_isThrow_16 rfl rfl rfl rfl ?_
      refine wp_cst (v := .long (-16 : Int64)) dX7_isThrow_17 rfl rfl ?_
      refine wl_lt dX7_isThrow_20 dX7_isThrow_21 rfl (fun c3 => have k := ok_pos c3 k; ?_) (fun c3 => have k := ok_neg c3 k; ?_)
      · refine wp_cst (v := .int (0 : Int32)) dX7_isThrow_52 rfl rfl ?_
        exact wp_end dX7_isThrow_53 rfl rfl (hP _ _ (ok_s k) h)
      · refine wp_ld (v := .long x2) dX7_isThrow_24 rfl rfl rfl rfl ?_
        refine wp_cst (v := .long (16 : Int64)) dX7_isThrow_25 rfl rfl ?_
        refine wl_gt dX7_isThrow_28 dX7_isThrow_29 rfl (fun c4 => have k := ok_pos c4 k; ?_) (fun c4 => have k := ok_neg c4 k; ?_)
        · refine wp_cst (v := .int (0 : Int32)) dX7_isThrow_52 rfl rfl ?_
          exact wp_end dX7_isThrow_53 rfl rfl (hP _ _ (ok_s k) h)
        · refine wp_ld (v := .long x3) dX7_isThrow_32 rfl rfl rfl rfl ?_
          refine wp_cst (v := .long (1 : Int64)) dX7_isThrow_34 rfl rfl ?_
          refine wl_lt dX7_isThrow_35 dX7_isThrow_36 rfl (fun c5 => have k := ok_pos c5 k; ?_) (fun c5 => have k := ok_neg c5 k; ?_)
          · refine wp_cst (v := .int (0 : Int32)) dX7_isThrow_52 rfl rfl ?_
            exact wp_end dX7_isThrow_53 rfl rfl (hP _ _ (ok_s k) h)
          · refine wp_ld (v := .long x3) dX7_isThrow_39 rfl rfl rfl rfl ?_
            refine wp_cst (v := .long (9 : Int64)) dX7_isThrow_41 rfl rfl ?_
            refine wl_gt dX7_isThrow_44 dX7_isThrow_45 rfl (fun c6 => have k := ok_pos c6 k; ?_) (fun c6 => have k := ok_neg c6 k; ?_)
            · refine wp_cst (v := .int (0 : Int32)) dX7_isThrow_52 rfl rfl ?_
              exact wp_end dX7_isThrow_53 rfl rfl (hP _ _ (ok_s k) h)
            · refine wp_cst (v := .int (1 : Int32)) dX7_isThrow_48 rfl rfl ?_
              refine wp_goto dX7_isThrow_49 rfl ?_
              exact wp_end dX7_isThrow_53 rfl rfl (hP _ _ (ok_s k) h)
noncomputable def f_X7_toss (x1 : Int32) (x2 : Int32) (x3 : Int32) (x4 : Int32) (s : am_S) : am_F :=
  am_tv (f_X7_needHand x1 s) (fun v2 s1 =>
    am_mv v2 none (fun t3 => if am_k0 t3 = (4, 0) ∧ t3 < 72 then
      am_bi (f_X7_isThrow x2.toInt64 x3.toInt64 x4.toInt64 s1) (fun v8 s7 =>
        if v8 = 0 then
          some (.inr 0, am_tick s7)
        else
          am_bi (f_X4_add t3 x2 x3 x4 s7) (fun v11 s10 =>
            if v11 = (-1 : Int32) then
              some (.inl (some (.int (-1 : Int32))), s10)
            else
              some (.inl (some (.int (am_I s10 t3 2))), s10)
          )
      )
    else none)
  )
theorem s_X7_toss {N n : Nat} {d : Nat} {x1 : Int32} {x2 : Int32} {x3 : Int32} {x4 : Int32} {s : am_S} (h : am_sh N n s)  : am_S1 (am_sh N n) (d + 2) mX7_toss [.ref 0, .int x1, .int x2, .int x3, .int x4] s (f_X7_toss x1 x2 x3 x4 s) := by
  intro P Q k hP
  show am_WP (d + 2) mX7_toss 0 [(0, .ref 0), (1, .int x1), (2, .int x2), (3, .int x3), (4, .int x4)] [] s Q
  unfold f_X7_toss at k
  refine wp_ld (v := .ref 0) dX7_toss_0 rfl rfl rfl rfl ?_
  refine wp_ld (v := .int x1) dX7_toss_1 rfl rfl rfl rfl ?_
  refine t_v dX7_toss_2 rfl rfl rfl (am_inv_v rfl (kk_0 h) rfl rfl rfl) (s_X7_needHand h) k rfl rfl hP (fun v2 s1 h k => ?_)
  obtain ⟨t3, c4, k⟩ := ok_mn k
  subst c4
  obtain ⟨g5, k⟩ := ok_g k
  have f6 := kk_up h g5
  refine wp_st (ls' := [(0, .ref 0), (1, .int x1), (2, .int x2), (3, .int x3), (4, .int x4), (5, .ref t3)]) dX7_toss_5 rfl rfl rfl (Nat.le_of_ble_eq_true rfl) rfl ?_
  refine wp_ld (v := .int x2) dX7_toss_7 rfl rfl rfl rfl ?_
  refine wp_pu dX7_toss_8 rfl rfl ?_
  refine wp_ld (v := .int x3) dX7_toss_9 rfl rfl rfl rfl ?_
  refine wp_pu dX7_toss_10 rfl rfl ?_
  refine wp_ld (v := .int x4) dX7_toss_11 rfl rfl rfl rfl ?_
  refine wp_pu dX7_toss_13 rfl rfl ?_
  refine c_i dX7_toss_14 rfl rfl rfl (am_inv_s rfl rfl rfl rfl) (s_X7_isThrow h) k (fun v8 s7 h k => ?_)
  refine wp_if_ne dX7_toss_17 rfl (fun c9 => have k := ok_neg c9 k; ?_) (fun c9 => have k := ok_pos c9 k; ?_)
  · refine wp_ld (v := .ref t3) dX7_toss_30 rfl rfl rfl rfl ?_
    refine wp_ld (v := .int x2) dX7_toss_32 rfl rfl rfl rfl ?_
    refine wp_ld (v := .int x3) dX7_toss_33 rfl rfl rfl rfl ?_
    refine wp_ld (v := .int x4) dX7_toss_34 rfl rfl rfl rfl ?_
    refine c_i dX7_toss_36 rfl rfl rfl (am_inv_v rfl (kk_f h f6) rfl rfl rfl) (s_X4_add h f6) k (fun v11 s10 h k => ?_)
    refine wp_cst (v := .int (-1 : Int32)) dX7_toss_39 rfl rfl ?_
    refine wp_ic_ne dX7_toss_40 rfl (fun c12 => have k := ok_neg c12 k; ?_) (fun c12 => have k := ok_pos c12 k; ?_)
    · refine wp_ld (v := .ref t3) dX7_toss_47 rfl rfl rfl rfl ?_
      refine wq_gI dX7_toss_49 rfl rfl (kk_f h f6) (v := (am_I s10 t3 2)) rfl ?_
      exact wp_end dX7_toss_52 rfl (am_end_i rfl) (hP _ _ (ok_s k) h)
    · refine wp_cst (v := .int (-1 : Int32)) dX7_toss_43 rfl rfl ?_
      refine wp_goto dX7_toss_44 rfl ?_
      exact wp_end dX7_toss_52 rfl (am_end_i rfl) (hP _ _ (ok_s k) h)
  · exact wp_thr dX7_toss_20 rfl rfl (am_thr_1 rfl rfl dX7_toss_23 dX7_toss_24 dX7_toss_26 dX7_toss_29 rfl) (hP _ _ (ok_s k) (sh_tk h))
noncomputable def f_L_toss (x2 : Int32) (x3 : Int32) (x4 : Int32) (x5 : Int32) (s : am_S) : am_F :=
  am_xi (f_X7_toss x2 x3 x4 x5 s) (fun v2 s1 =>
    some (.inl (some (.int (0 : Int32))), (am_sL s1 71 0 v2.toInt64))
  ) (fun e s1 =>
    if e = 3 then
      some (.inl (some (.int (1 : Int32))), s1)
    else
      if e = 0 then
        some (.inl (some (.int (2 : Int32))), s1)
      else
        none
  )
theorem s_L_toss {N : Nat} {d : Nat} {x2 : Int32} {x3 : Int32} {x4 : Int32} {x5 : Int32} {s : am_S} (h : am_shE N s)  : am_S1 (am_shE N) (d + 3) mL_toss [.ref 0, .int x2, .int x3, .int x4, .int x5, .ref 71] s (f_L_toss x2 x3 x4 x5 s) := by
  intro P Q k hP
  show am_WP (d + 3) mL_toss 0 [(0, .ref 0), (1, .int x2), (2, .int x3), (3, .int x4), (4, .int x5), (5, .ref 71)] [] s Q
  unfold f_L_toss at k
  refine wp_ld (v := .ref 71) dL_toss_0 rfl rfl rfl rfl ?_
  refine wp_cst (v := .int (0 : Int32)) dL_toss_2 rfl rfl ?_
  refine wp_ld (v := .ref 0) dL_toss_3 rfl rfl rfl rfl ?_
  refine wp_ld (v := .int x2) dL_toss_4 rfl rfl rfl rfl ?_
  refine wp_ld (v := .int x3) dL_toss_5 rfl rfl rfl rfl ?_
  refine wp_ld (v := .int x4) dL_toss_6 rfl rfl rfl rfl ?_
  refine wp_ld (v := .int x5) dL_toss_7 rfl rfl rfl rfl ?_
  refine x_i dL_toss_9 rfl rfl rfl (am_inv_v rfl (kE_0 h) rfl rfl rfl) (sE h (fun _ h => s_X7_toss h)) k rfl (List.cons_ne_nil _ _) (fun v2 s1 h k => ?_) (fun e s1 h k => ?_)
  · refine wp_pu dL_toss_12 rfl rfl ?_
    refine wq_last dL_toss_13 (kE_71 h) (by decide) (j := 0) rfl ?_
    refine wp_goto dL_toss_14 rfl ?_
    refine wp_cst (v := .int (0 : Int32)) dL_toss_25 rfl rfl ?_
    exact wp_end dL_toss_26 rfl (am_end_i rfl) (hP _ _ (ok_s k) (shE_sL h))
  · by_cases c3 : e = 3
    · have k := ok_pos c3 k
      subst c3
      refine ⟨_, _, rfl, ?_⟩
      refine wp_cst (v := .int (1 : Int32)) dL_toss_19 rfl rfl ?_
      exact wp_end dL_toss_20 rfl (am_end_i rfl) (hP _ _ (ok_s k) h)
    replace k := ok_neg c3 k
    by_cases c4 : e = 0
    · have k := ok_pos c4 k
      subst c4
      refine ⟨_, _, rfl, ?_⟩
      refine wp_cst (v := .int (2 : Int32)) dL_toss_23 rfl rfl ?_
      exact wp_end dL_toss_24 rfl (am_end_i rfl) (hP _ _ (ok_s k) h)
    replace k := ok_neg c4 k
    exact (ok_no k).elim
noncomputable def f_X8_isHand (x1 : Int32) (s : am_S) : am_F :=
  am_bi (f_X8_within x1.toInt64 (0 : Int64) (((am_I s 56 3) - (1 : Int32)).toInt64) s) (fun v2 s1 =>
    if v2 = 0 ∨ v2 = 1 then
      some (.inl (some (.int v2)), s1)
    else none
  )
theorem s_X8_isHand {N n : Nat} {d : Nat} {x1 : Int32} {s : am_S} (h : am_sh N n s)  : am_S1 (am_sh N n) (d + 1) mX8_isHand [.ref 55, .int x1] s (f_X8_isHand x1 s) := by
  intro P Q k hP
  show am_WP (d + 1) mX8_isHand 0 [(0, .ref 55), (1, .int x1)] [] s Q
  unfold f_X8_isHand at k
  refine wp_ld (v := .int x1) dX8_isHand_0 rfl rfl rfl rfl ?_
  refine wp_pu dX8_isHand_1 rfl rfl ?_
  refine wp_cst (v := .long (0 : Int64)) dX8_isHand_2 rfl rfl ?_
  refine wp_ld (v := .ref 55) dX8_isHand_3 rfl rfl rfl rfl ?_
  refine wp_gr dX8_isHand_4 rfl rfl (kk_55 h) (rr_55_0 h) ?_
  refine wp_cst (v := .int (3 : Int32)) dX8_isHand_7 rfl rfl ?_
  refine wq_iald dX8_isHand_8 (kk_56 h) (by decide) (v := (am_I s 56 3)) rfl ?_
  refine wp_cst (v := .int (1 : Int32)) dX8_isHand_9 rfl rfl ?_
  refine wp_pu dX8_isHand_10 rfl rfl ?_
  refine wp_pu dX8_isHand_11 rfl rfl ?_
  refine c_i dX8_isHand_12 rfl rfl rfl (am_inv_s rfl rfl rfl rfl) (s_X8_within h) k (fun v2 s1 h k => ?_)
  obtain ⟨g3, k⟩ := ok_g k
  exact wp_end dX8_isHand_15 rfl (am_end_b rfl g3) (hP _ _ (ok_s k) h)
noncomputable def f_X8_isThrow (x1 : Int64) (x2 : Int64) (x3 : Int64) (s : am_S) : am_F :=
  am_bi (f_X8_within x1 (10 : Int64) (999 : Int64) s) (fun v2 s1 =>
    if v2 = 0 then
      some (.inl (some (.int (0 : Int32))), s1)
    else
      am_bi (f_X8_within x2 (-16 : Int64) (16 : Int64) s1) (fun v5 s4 =>
        if v5 = 0 then
          some (.inl (some (.int (0 : Int32))), s4)
        else
          am_bi (f_X8_within x3 (1 : Int64) (9 : Int64) s4) (fun v8 s7 =>
            if v8 = 0 then
              some (.inl (some (.int (0 : Int32))), s7)
            else
              some (.inl (some (.int (1 : Int32))), s7)
          )
      )
  )
theorem s_X8_isThrow {N n : Nat} {d : Nat} {x1 : Int64} {x2 : Int64} {x3 : Int64} {s : am_S} (h : am_sh N n s)  : am_S1 (am_sh N n) (d + 1) mX8_isThrow [.long x1, .long x2, .long x3] s (f_X8_isThrow x1 x2 x3 s) := by
  intro P Q k hP
  show am_WP (d + 1) mX8_isThrow 0 [(0, .long x1), (2, .long x2), (4, .long x3)] [] s Q
  unfold f_X8_isThrow at k
  refine wp_ld (v := .long x1) dX8_isThrow_0 rfl rfl rfl rfl ?_
  refine wp_cst (v := .long (10 : Int64)) dX8_isThrow_1 rfl rfl ?_
  refine wp_cst (v := .long (999 : Int64)) dX8_isThrow_4 rfl rfl ?_
  refine c_i dX8_isThrow_7 rfl rfl rfl (am_inv_s rfl rfl rfl rfl) (s_X8_within h) k (fun v2 s1 h k => ?_)
  refine wp_if_eq dX8_isThrow_10 rfl (fun c3 => have k := ok_pos c3 k; ?_) (fun c3 => have k := ok_neg c3 k; ?_)
  · refine wp_cst (v := .int (0 : Int32)) dX8_isThrow_42 rfl rfl ?_
    exact wp_end dX8_isThrow_43 rfl rfl (hP _ _ (ok_s k) h)
  · refine wp_ld (v := .long x2) dX8_isThrow_13 rfl rfl rfl rfl ?_
    refine wp_cst (v := .long (-16 : Int64)) dX8_isThrow_14 rfl rfl ?_
    refine wp_cst (v := .long (16 : Int64)) dX8_isThrow_17 rfl rfl ?_
    refine c_i dX8_isThrow_20 rfl rfl rfl (am_inv_s rfl rfl rfl rfl) (s_X8_within h) k (fun v5 s4 h k => ?_)
    refine wp_if_eq dX8_isThrow_23 rfl (fun c6 => have k := ok_pos c6 k; ?_) (fun c6 => have k := ok_neg c6 k; ?_)
    · refine wp_cst (v := .int (0 : Int32)) dX8_isThrow_42 rfl rfl ?_
      exact wp_end dX8_isThrow_43 rfl rfl (hP _ _ (ok_s k) h)
    · refine wp_ld (v := .long x3) dX8_isThrow_26 rfl rfl rfl rfl ?_
      refine wp_cst (v := .long (1 : Int64)) dX8_isThrow_28 rfl rfl ?_
      refine wp_cst (v := .long (9 : Int64)) dX8_isThrow_29 rfl rfl ?_
      refine c_i dX8_isThrow_32 rfl rfl rfl (am_inv_s rfl rfl rfl rfl) (s_X8_within h) k (fun v8 s7 h k => ?_)
      refine wp_if_eq dX8_isThrow_35 rfl (fun c9 => have k := ok_pos c9 k; ?_) (fun c9 => have k := ok_neg c9 k; ?_)
      · refine wp_cst (v := .int (0 : Int32)) dX8_isThrow_42 rfl rfl ?_
        exact wp_end dX8_isThrow_43 rfl rfl (hP _ _ (ok_s k) h)
      · refine wp_cst (v := .int (1 : Int32)) dX8_isThrow_38 rfl rfl ?_
        refine wp_goto dX8_isThrow_39 rfl ?_
        exact wp_end dX8_isThrow_43 rfl rfl (hP _ _ (ok_s k) h)
noncomputable def f_X8_throwsOf (x1 : Int32) (s : am_S) : am_F :=
  if am_in ((169 : Int32) + ((13 : Int32) * x1)) 264 = true then
    some (.inl (some (.int (am_I s 56 (((169 : Int32) + ((13 : Int32) * x1)).toNatClampNeg)))), s)
  else none
theorem s_X8_throwsOf {N n : Nat} {d : Nat} {x1 : Int32} {s : am_S} (h : am_sh N n s)  : am_S1 (am_sh N n) (d) mX8_throwsOf [.ref 55, .int x1] s (f_X8_throwsOf x1 s) := by
  intro P Q k hP
  show am_WP (d) mX8_throwsOf 0 [(0, .ref 55), (1, .int x1)] [] s Q
  unfold f_X8_throwsOf at k
  refine wp_ld (v := .ref 55) dX8_throwsOf_0 rfl rfl rfl rfl ?_
  refine wp_gr dX8_throwsOf_1 rfl rfl (kk_55 h) (rr_55_0 h) ?_
  refine wp_cst (v := .int (169 : Int32)) dX8_throwsOf_4 rfl rfl ?_
  refine wp_cst (v := .int (13 : Int32)) dX8_throwsOf_7 rfl rfl ?_
  refine wp_ld (v := .int x1) dX8_throwsOf_9 rfl rfl rfl rfl ?_
  refine wp_pu dX8_throwsOf_10 rfl rfl ?_
  refine wp_pu dX8_throwsOf_11 rfl rfl ?_
  obtain ⟨g1, k⟩ := ok_g k
  refine wq_iald dX8_throwsOf_12 (kk_56 h) g1 (v := (am_I s 56 (((169 : Int32) + ((13 : Int32) * x1)).toNatClampNeg))) rfl ?_
  exact wp_end dX8_throwsOf_13 rfl (am_end_i rfl) (hP _ _ (ok_s k) h)
noncomputable def f_X8_throwAt (x1 : Int32) (x2 : Int32) (s : am_S) : am_F :=
  some (.inl (some (.int ((((169 : Int32) + ((13 : Int32) * x1)) + (1 : Int32)) + ((3 : Int32) * x2)))), s)
theorem s_X8_throwAt {N n : Nat} {d : Nat} {x1 : Int32} {x2 : Int32} {s : am_S} (h : am_sh N n s)  : am_S1 (am_sh N n) (d) mX8_throwAt [.ref 55, .int x1, .int x2] s (f_X8_throwAt x1 x2 s) := by
  intro P Q k hP
  show am_WP (d) mX8_throwAt 0 [(0, .ref 55), (1, .int x1), (2, .int x2)] [] s Q
  unfold f_X8_throwAt at k
  refine wp_cst (v := .int (169 : Int32)) dX8_throwAt_0 rfl rfl ?_
  refine wp_cst (v := .int (13 : Int32)) dX8_throwAt_3 rfl rfl ?_
  refine wp_ld (v := .int x1) dX8_throwAt_5 rfl rfl rfl rfl ?_
  refine wp_pu dX8_throwAt_6 rfl rfl ?_
  refine wp_pu dX8_throwAt_7 rfl rfl ?_
  refine wp_cst (v := .int (1 : Int32)) dX8_throwAt_8 rfl rfl ?_
  refine wp_pu dX8_throwAt_9 rfl rfl ?_
  refine wp_cst (v := .int (3 : Int32)) dX8_throwAt_10 rfl rfl ?_
  refine wp_ld (v := .int x2) dX8_throwAt_11 rfl rfl rfl rfl ?_
  refine wp_pu dX8_throwAt_12 rfl rfl ?_
  refine wp_pu dX8_throwAt_13 rfl rfl ?_
  show am_WP (d) mX8_throwAt 14 _ _ _ Q
  exact wp_end dX8_throwAt_14 rfl (am_end_i rfl) (hP _ _ (ok_s k) h)
noncomputable def f_X8_puts (x1 : Int32) (x2 : Int32) (x3 : Int32) (x4 : Int32) (x5 : Int32) (s : am_S) : am_F :=
  am_bi (f_X8_throwAt x1 x2 s) (fun v2 s1 =>
    if am_in v2 264 = true then
      am_bi (f_X8_throwAt x1 x2 (am_sI s1 56 (v2.toNatClampNeg) x3)) (fun v5 s4 =>
        if am_in (v5 + (1 : Int32)) 264 = true then
          am_bi (f_X8_throwAt x1 x2 (am_sI s4 56 ((v5 + (1 : Int32)).toNatClampNeg) x4)) (fun v8 s7 =>
            if am_in (v8 + (2 : Int32)) 264 = true then
              some (.inl none, (am_sI s7 56 ((v8 + (2 : Int32)).toNatClampNeg) x5))
            else none
          )
        else none
      )
    else none
  )
theorem s_X8_puts {N n : Nat} {d : Nat} {x1 : Int32} {x2 : Int32} {x3 : Int32} {x4 : Int32} {x5 : Int32} {s : am_S} (h : am_sh N n s)  : am_S1 (am_sh N n) (d + 1) mX8_puts [.ref 55, .int x1, .int x2, .int x3, .int x4, .int x5] s (f_X8_puts x1 x2 x3 x4 x5 s) := by
  intro P Q k hP
  show am_WP (d + 1) mX8_puts 0 [(0, .ref 55), (1, .int x1), (2, .int x2), (3, .int x3), (4, .int x4), (5, .int x5)] [] s Q
  unfold f_X8_puts at k
  refine wp_ld (v := .ref 55) dX8_puts_0 rfl rfl rfl rfl ?_
  refine wp_gr dX8_puts_1 rfl rfl (kk_55 h) (rr_55_0 h) ?_
  refine wp_ld (v := .ref 55) dX8_puts_4 rfl rfl rfl rfl ?_
  refine wp_ld (v := .int x1) dX8_puts_5 rfl rfl rfl rfl ?_
  refine wp_ld (v := .int x2) dX8_puts_6 rfl rfl rfl rfl ?_
  refine c_i dX8_puts_7 rfl rfl rfl (am_inv_v rfl (kk_55 h) rfl rfl rfl) (s_X8_throwAt h) k (fun v2 s1 h k => ?_)
  refine wp_ld (v := .int x3) dX8_puts_10 rfl rfl rfl rfl ?_
  obtain ⟨g3, k⟩ := ok_g k
  refine wq_iast dX8_puts_11 (kk_56 h) g3 (j := (v2.toNatClampNeg)) rfl ?_
  refine wp_ld (v := .ref 55) dX8_puts_12 rfl rfl rfl rfl ?_
  refine wp_gr dX8_puts_13 rfl rfl (kk_55 (sh_sI h)) (rr_55_0 (sh_sI h)) ?_
  refine wp_ld (v := .ref 55) dX8_puts_16 rfl rfl rfl rfl ?_
  refine wp_ld (v := .int x1) dX8_puts_17 rfl rfl rfl rfl ?_
  refine wp_ld (v := .int x2) dX8_puts_18 rfl rfl rfl rfl ?_
  refine c_i dX8_puts_19 rfl rfl rfl (am_inv_v rfl (kk_55 (sh_sI h)) rfl rfl rfl) (s_X8_throwAt (sh_sI h)) k (fun v5 s4 h k => ?_)
  refine wp_cst (v := .int (1 : Int32)) dX8_puts_22 rfl rfl ?_
  refine wp_pu dX8_puts_23 rfl rfl ?_
  refine wp_ld (v := .int x4) dX8_puts_24 rfl rfl rfl rfl ?_
  obtain ⟨g6, k⟩ := ok_g k
  refine wq_iast dX8_puts_26 (kk_56 h) g6 (j := ((v5 + (1 : Int32)).toNatClampNeg)) rfl ?_
  refine wp_ld (v := .ref 55) dX8_puts_27 rfl rfl rfl rfl ?_
  refine wp_gr dX8_puts_28 rfl rfl (kk_55 (sh_sI h)) (rr_55_0 (sh_sI h)) ?_
  refine wp_ld (v := .ref 55) dX8_puts_31 rfl rfl rfl rfl ?_
  refine wp_ld (v := .int x1) dX8_puts_32 rfl rfl rfl rfl ?_
  refine wp_ld (v := .int x2) dX8_puts_33 rfl rfl rfl rfl ?_
  refine c_i dX8_puts_34 rfl rfl rfl (am_inv_v rfl (kk_55 (sh_sI h)) rfl rfl rfl) (s_X8_throwAt (sh_sI h)) k (fun v8 s7 h k => ?_)
  refine wp_cst (v := .int (2 : Int32)) dX8_puts_37 rfl rfl ?_
  refine wp_pu dX8_puts_38 rfl rfl ?_
  refine wp_ld (v := .int x5) dX8_puts_39 rfl rfl rfl rfl ?_
  obtain ⟨g9, k⟩ := ok_g k
  refine wq_iast dX8_puts_41 (kk_56 h) g9 (j := ((v8 + (2 : Int32)).toNatClampNeg)) rfl ?_
  exact wp_end dX8_puts_42 rfl rfl (hP _ _ (ok_s k) (sh_sI h))
noncomputable def f_X8_toss (x1 : Int32) (x2 : Int32) (x3 : Int32) (x4 : Int32) (s : am_S) : am_F :=
  am_bi (f_X8_isHand x1 (am_sI s 55 3 (0 : Int32))) (fun v2 s1 =>
    if v2 = 0 then
      am_bi (f_X8_fails (1 : Int32) s1) (fun v22 s21 =>
        some (.inl (some (.int v22)), s21)
      )
    else
      am_bi (f_X8_isThrow x2.toInt64 x3.toInt64 x4.toInt64 s1) (fun v5 s4 =>
        if v5 = 0 then
          am_bi (f_X8_fails (2 : Int32) s4) (fun v20 s19 =>
            some (.inl (some (.int v20)), s19)
          )
        else
          am_bi (f_X8_throwsOf x1 s4) (fun v8 s7 =>
            if v8 = (4 : Int32) then
              some (.inl (some (.int (-1 : Int32))), s7)
            else
              am_bi (f_X8_throwsOf x1 s7) (fun v11 s10 =>
                am_bu (f_X8_puts x1 v11 x2 x3 x4 s10) (fun s12 =>
                  if am_in ((169 : Int32) + ((13 : Int32) * x1)) 264 = true then
                    ax_le ((am_I s12 56 (((169 : Int32) + ((13 : Int32) * x1)).toNatClampNeg)) + (1 : Int32)) (fun y15 =>
                      if am_in ((169 : Int32) + ((13 : Int32) * x1)) 264 = true then
                        am_bi (f_X8_throwsOf x1 (am_sI s12 56 (((169 : Int32) + ((13 : Int32) * x1)).toNatClampNeg) y15)) (fun v18 s17 =>
                          some (.inl (some (.int v18)), s17)
                        )
                      else none
                    )
                  else none
                )
              )
          )
      )
  )
theorem s_X8_toss {N n : Nat} {d : Nat} {x1 : Int32} {x2 : Int32} {x3 : Int32} {x4 : Int32} {s : am_S} (h : am_sh N n s)  : am_S1 (am_sh N n) (d + 2) mX8_toss [.ref 55, .int x1, .int x2, .int x3, .int x4] s (f_X8_toss x1 x2 x3 x4 s) := by
  intro P Q k hP
  show am_WP (d + 2) mX8_toss 0 [(0, .ref 55), (1, .int x1), (2, .int x2), (3, .int x3), (4, .int x4)] [] s Q
  unfold f_X8_toss at k
  refine wp_ld (v := .ref 55) dX8_toss_0 rfl rfl rfl rfl ?_
  refine wp_cst (v := .int (0 : Int32)) dX8_toss_1 rfl rfl ?_
  refine wp_pI dX8_toss_2 rfl rfl rfl (fun h => absurd h (by decide)) (kk_55 h) ?_
  refine wp_ld (v := .ref 55) dX8_toss_5 rfl rfl rfl rfl ?_
  refine wp_ld (v := .int x1) dX8_toss_6 rfl rfl rfl rfl ?_
  refine c_i dX8_toss_7 rfl rfl rfl (am_inv_v rfl (kk_55 (sh_sI h)) rfl rfl rfl) (s_X8_isHand (sh_sI h)) k (fun v2 s1 h k => ?_)
  refine wp_if_ne dX8_toss_10 rfl (fun c3 => have k := ok_neg c3 k; ?_) (fun c3 => have k := ok_pos c3 k; ?_)
  · refine wp_ld (v := .int x2) dX8_toss_19 rfl rfl rfl rfl ?_
    refine wp_pu dX8_toss_20 rfl rfl ?_
    refine wp_ld (v := .int x3) dX8_toss_21 rfl rfl rfl rfl ?_
    refine wp_pu dX8_toss_22 rfl rfl ?_
    refine wp_ld (v := .int x4) dX8_toss_23 rfl rfl rfl rfl ?_
    refine wp_pu dX8_toss_25 rfl rfl ?_
    refine c_i dX8_toss_26 rfl rfl rfl (am_inv_s rfl rfl rfl rfl) (s_X8_isThrow h) k (fun v5 s4 h k => ?_)
    refine wp_if_ne dX8_toss_29 rfl (fun c6 => have k := ok_neg c6 k; ?_) (fun c6 => have k := ok_pos c6 k; ?_)
    · refine wp_ld (v := .ref 55) dX8_toss_38 rfl rfl rfl rfl ?_
      refine wp_ld (v := .int x1) dX8_toss_39 rfl rfl rfl rfl ?_
      refine c_i dX8_toss_40 rfl rfl rfl (am_inv_v rfl (kk_55 h) rfl rfl rfl) (s_X8_throwsOf h) k (fun v8 s7 h k => ?_)
      refine wp_cst (v := .int (4 : Int32)) dX8_toss_43 rfl rfl ?_
      refine wp_ic_ne dX8_toss_44 rfl (fun c9 => have k := ok_neg c9 k; ?_) (fun c9 => have k := ok_pos c9 k; ?_)
      · refine wp_ld (v := .ref 55) dX8_toss_49 rfl rfl rfl rfl ?_
        refine wp_ld (v := .int x1) dX8_toss_50 rfl rfl rfl rfl ?_
        refine wp_ld (v := .ref 55) dX8_toss_51 rfl rfl rfl rfl ?_
        refine wp_ld (v := .int x1) dX8_toss_52 rfl rfl rfl rfl ?_
        refine c_i dX8_toss_53 rfl rfl rfl (am_inv_v rfl (kk_55 h) rfl rfl rfl) (s_X8_throwsOf h) k (fun v11 s10 h k => ?_)
        refine wp_ld (v := .int x2) dX8_toss_56 rfl rfl rfl rfl ?_
        refine wp_ld (v := .int x3) dX8_toss_57 rfl rfl rfl rfl ?_
        refine wp_ld (v := .int x4) dX8_toss_58 rfl rfl rfl rfl ?_
        refine c_u dX8_toss_60 rfl rfl rfl (am_inv_v rfl (kk_55 h) rfl rfl rfl) (s_X8_puts h) k (fun s12 h k => ?_)
        refine wp_ld (v := .ref 55) dX8_toss_63 rfl rfl rfl rfl ?_
        refine wp_gr dX8_toss_64 rfl rfl (kk_55 h) (rr_55_0 h) ?_
        refine wp_cst (v := .int (169 : Int32)) dX8_toss_67 rfl rfl ?_
        refine wp_cst (v := .int (13 : Int32)) dX8_toss_70 rfl rfl ?_
        refine wp_ld (v := .int x1) dX8_toss_72 rfl rfl rfl rfl ?_
        refine wp_pu dX8_toss_73 rfl rfl ?_
        refine wp_pu dX8_toss_74 rfl rfl ?_
        refine wp_pu dX8_toss_75 rfl rfl ?_
        obtain ⟨g14, k⟩ := ok_g k
        refine wq_iald dX8_toss_76 (kk_56 h) g14 (v := (am_I s12 56 (((169 : Int32) + ((13 : Int32) * x1)).toNatClampNeg))) rfl ?_
        refine wp_cst (v := .int (1 : Int32)) dX8_toss_77 rfl rfl ?_
        refine wp_pu dX8_toss_78 rfl rfl ?_
        show am_WP (d + 2) mX8_toss 79 _ _ _ Q
        refine ls_i k (fun y15 _ k => ?_)
        obtain ⟨g16, k⟩ := ok_g k
        refine wq_iast dX8_toss_79 (kk_56 h) g16 (j := (((169 : Int32) + ((13 : Int32) * x1)).toNatClampNeg)) rfl ?_
        refine wp_ld (v := .ref 55) dX8_toss_80 rfl rfl rfl rfl ?_
        refine wp_ld (v := .int x1) dX8_toss_81 rfl rfl rfl rfl ?_
        refine c_i dX8_toss_82 rfl rfl rfl (am_inv_v rfl (kk_55 (sh_sI h)) rfl rfl rfl) (s_X8_throwsOf (sh_sI h)) k (fun v18 s17 h k => ?_)
        exact wp_end dX8_toss_85 rfl (am_end_i rfl) (hP _ _ (ok_s k) h)
      · refine wp_cst (v := .int (-1 : Int32)) dX8_toss_47 rfl rfl ?_
        exact wp_end dX8_toss_48 rfl (am_end_i rfl) (hP _ _ (ok_s k) h)
    · refine wp_ld (v := .ref 55) dX8_toss_32 rfl rfl rfl rfl ?_
      refine wp_cst (v := .int (2 : Int32)) dX8_toss_33 rfl rfl ?_
      refine c_i dX8_toss_34 rfl rfl rfl (am_inv_v rfl (kk_55 h) rfl rfl rfl) (s_X8_fails h) k (fun v20 s19 h k => ?_)
      exact wp_end dX8_toss_37 rfl (am_end_i rfl) (hP _ _ (ok_s k) h)
  · refine wp_ld (v := .ref 55) dX8_toss_13 rfl rfl rfl rfl ?_
    refine wp_cst (v := .int (1 : Int32)) dX8_toss_14 rfl rfl ?_
    refine c_i dX8_toss_15 rfl rfl rfl (am_inv_v rfl (kk_55 h) rfl rfl rfl) (s_X8_fails h) k (fun v22 s21 h k => ?_)
    exact wp_end dX8_toss_18 rfl (am_end_i rfl) (hP _ _ (ok_s k) h)
noncomputable def f_X7_reach (x1 : Int32) (x2 : Int32) (x3 : Int32) (x4 : Int32) (s : am_S) : am_F :=
  am_tv (f_X7_needWay x1 s) (fun v2 s1 =>
    am_mv v2 none (fun t3 => if am_k0 t3 = (4, 0) ∧ t3 < 72 then
      am_tv (f_X7_needHand x3 s1) (fun v8 s7 =>
        am_mv v8 none (fun t9 => if am_k0 t9 = (4, 0) ∧ t9 < 72 then
          am_tu (f_X7_needMake t3 s7) (fun s13 =>
            am_tu (f_X7_needEars x2 s13) (fun s15 =>
              am_bl (f_X7_reachOf t9 x2 x4 s15) (fun v18 s17 =>
                some (.inl (some (.long v18)), s17)
              )
            )
          )
        else none)
      )
    else none)
  )
theorem s_X7_reach {N n : Nat} {d : Nat} {x1 : Int32} {x2 : Int32} {x3 : Int32} {x4 : Int32} {s : am_S} (h : am_sh N n s)  : am_S1 (am_sh N n) (d + 6) mX7_reach [.ref 0, .int x1, .int x2, .int x3, .int x4] s (f_X7_reach x1 x2 x3 x4 s) := by
  intro P Q k hP
  show am_WP (d + 6) mX7_reach 0 [(0, .ref 0), (1, .int x1), (2, .int x2), (3, .int x3), (4, .int x4)] [] s Q
  unfold f_X7_reach at k
  refine wp_ld (v := .ref 0) dX7_reach_0 rfl rfl rfl rfl ?_
  refine wp_ld (v := .int x1) dX7_reach_1 rfl rfl rfl rfl ?_
  refine t_v dX7_reach_2 rfl rfl rfl (am_inv_v rfl (kk_0 h) rfl rfl rfl) (s_X7_needWay h) k rfl rfl hP (fun v2 s1 h k => ?_)
  obtain ⟨t3, c4, k⟩ := ok_mn k
  subst c4
  obtain ⟨g5, k⟩ := ok_g k
  have f6 := kk_up h g5
  refine wp_st (ls' := [(0, .ref 0), (1, .int x1), (2, .int x2), (3, .int x3), (4, .int x4), (5, .ref t3)]) dX7_reach_5 rfl rfl rfl (Nat.le_of_ble_eq_true rfl) rfl ?_
  refine wp_ld (v := .ref 0) dX7_reach_7 rfl rfl rfl rfl ?_
  refine wp_ld (v := .int x3) dX7_reach_8 rfl rfl rfl rfl ?_
  refine t_v dX7_reach_9 rfl rfl rfl (am_inv_v rfl (kk_0 h) rfl rfl rfl) (s_X7_needHand h) k rfl rfl hP (fun v8 s7 h k => ?_)
  obtain ⟨t9, c10, k⟩ := ok_mn k
  subst c10
  obtain ⟨g11, k⟩ := ok_g k
  have f12 := kk_up h g11
  refine wp_st (ls' := [(0, .ref 0), (1, .int x1), (2, .int x2), (3, .int x3), (4, .int x4), (5, .ref t3), (6, .ref t9)]) dX7_reach_12 rfl rfl rfl (Nat.le_of_ble_eq_true rfl) rfl ?_
  refine wp_ld (v := .ref 0) dX7_reach_14 rfl rfl rfl rfl ?_
  refine wp_ld (v := .ref t3) dX7_reach_15 rfl rfl rfl rfl ?_
  refine t_u dX7_reach_17 rfl rfl rfl (am_inv_v rfl (kk_0 h) rfl rfl rfl) (s_X7_needMake h f6) k rfl rfl hP (fun s13 h k => ?_)
  refine wp_ld (v := .int x2) dX7_reach_20 rfl rfl rfl rfl ?_
  refine t_u dX7_reach_21 rfl rfl rfl (am_inv_s rfl rfl rfl rfl) (s_X7_needEars h) k rfl rfl hP (fun s15 h k => ?_)
  refine wp_ld (v := .ref 0) dX7_reach_24 rfl rfl rfl rfl ?_
  refine wp_ld (v := .ref t9) dX7_reach_25 rfl rfl rfl rfl ?_
  refine wp_ld (v := .int x2) dX7_reach_27 rfl rfl rfl rfl ?_
  refine wp_ld (v := .int x4) dX7_reach_28 rfl rfl rfl rfl ?_
  refine c_l dX7_reach_30 rfl rfl rfl (am_inv_v rfl (kk_0 h) rfl rfl rfl) (s_X7_reachOf h f12) k (fun v18 s17 h k => ?_)
  exact wp_end dX7_reach_33 rfl (am_end_l rfl) (hP _ _ (ok_s k) h)
noncomputable def f_L_reach (x2 : Int32) (x3 : Int32) (x4 : Int32) (x5 : Int32) (s : am_S) : am_F :=
  am_xl (f_X7_reach x2 x3 x4 x5 s) (fun v2 s1 =>
    some (.inl (some (.int (0 : Int32))), (am_sL s1 71 0 v2))
  ) (fun e s1 =>
    if e = 3 then
      some (.inl (some (.int (1 : Int32))), s1)
    else
      if e = 1 then
        some (.inl (some (.int (2 : Int32))), s1)
      else
        if e = 0 then
          some (.inl (some (.int (3 : Int32))), s1)
        else
          none
  )
theorem s_L_reach {N : Nat} {d : Nat} {x2 : Int32} {x3 : Int32} {x4 : Int32} {x5 : Int32} {s : am_S} (h : am_shE N s)  : am_S1 (am_shE N) (d + 7) mL_reach [.ref 0, .int x2, .int x3, .int x4, .int x5, .ref 71] s (f_L_reach x2 x3 x4 x5 s) := by
  intro P Q k hP
  show am_WP (d + 7) mL_reach 0 [(0, .ref 0), (1, .int x2), (2, .int x3), (3, .int x4), (4, .int x5), (5, .ref 71)] [] s Q
  unfold f_L_reach at k
  refine wp_ld (v := .ref 71) dL_reach_0 rfl rfl rfl rfl ?_
  refine wp_cst (v := .int (0 : Int32)) dL_reach_2 rfl rfl ?_
  refine wp_ld (v := .ref 0) dL_reach_3 rfl rfl rfl rfl ?_
  refine wp_ld (v := .int x2) dL_reach_4 rfl rfl rfl rfl ?_
  refine wp_ld (v := .int x3) dL_reach_5 rfl rfl rfl rfl ?_
  refine wp_ld (v := .int x4) dL_reach_6 rfl rfl rfl rfl ?_
  refine wp_ld (v := .int x5) dL_reach_7 rfl rfl rfl rfl ?_
  refine x_l dL_reach_9 rfl rfl rfl (am_inv_v rfl (kE_0 h) rfl rfl rfl) (sE h (fun _ h => s_X7_reach h)) k rfl (List.cons_ne_nil _ _) (fun v2 s1 h k => ?_) (fun e s1 h k => ?_)
  · refine wq_last dL_reach_12 (kE_71 h) (by decide) (j := 0) rfl ?_
    refine wp_goto dL_reach_13 rfl ?_
    refine wp_cst (v := .int (0 : Int32)) dL_reach_28 rfl rfl ?_
    exact wp_end dL_reach_29 rfl (am_end_i rfl) (hP _ _ (ok_s k) (shE_sL h))
  · by_cases c3 : e = 3
    · have k := ok_pos c3 k
      subst c3
      refine ⟨_, _, rfl, ?_⟩
      refine wp_cst (v := .int (1 : Int32)) dL_reach_18 rfl rfl ?_
      exact wp_end dL_reach_19 rfl (am_end_i rfl) (hP _ _ (ok_s k) h)
    replace k := ok_neg c3 k
    by_cases c4 : e = 1
    · have k := ok_pos c4 k
      subst c4
      refine ⟨_, _, rfl, ?_⟩
      refine wp_cst (v := .int (2 : Int32)) dL_reach_22 rfl rfl ?_
      exact wp_end dL_reach_23 rfl (am_end_i rfl) (hP _ _ (ok_s k) h)
    replace k := ok_neg c4 k
    by_cases c5 : e = 0
    · have k := ok_pos c5 k
      subst c5
      refine ⟨_, _, rfl, ?_⟩
      refine wp_cst (v := .int (3 : Int32)) dL_reach_26 rfl rfl ?_
      exact wp_end dL_reach_27 rfl (am_end_i rfl) (hP _ _ (ok_s k) h)
    replace k := ok_neg c5 k
    exact (ok_no k).elim
noncomputable def f_X8_handFault (x1 : Int32) (x2 : Int32) (s : am_S) : am_F :=
  am_bi (f_X8_isWay x1 s) (fun v2 s1 =>
    if v2 = 0 then
      some (.inl (some (.int (1 : Int32))), s1)
    else
      am_bi (f_X8_isHand x2 s1) (fun v5 s4 =>
        if v5 = 0 then
          some (.inl (some (.int (1 : Int32))), s4)
        else
          am_bi (f_X8_wayFault x1 s4) (fun v8 s7 =>
            some (.inl (some (.int v8)), s7)
          )
      )
  )
theorem s_X8_handFault {N n : Nat} {d : Nat} {x1 : Int32} {x2 : Int32} {s : am_S} (h : am_sh N n s)  : am_S1 (am_sh N n) (d + 4) mX8_handFault [.ref 55, .int x1, .int x2] s (f_X8_handFault x1 x2 s) := by
  intro P Q k hP
  show am_WP (d + 4) mX8_handFault 0 [(0, .ref 55), (1, .int x1), (2, .int x2)] [] s Q
  unfold f_X8_handFault at k
  refine wp_ld (v := .ref 55) dX8_handFault_0 rfl rfl rfl rfl ?_
  refine wp_ld (v := .int x1) dX8_handFault_1 rfl rfl rfl rfl ?_
  refine c_i dX8_handFault_2 rfl rfl rfl (am_inv_v rfl (kk_55 h) rfl rfl rfl) (s_X8_isWay h) k (fun v2 s1 h k => ?_)
  refine wp_if_eq dX8_handFault_5 rfl (fun c3 => have k := ok_pos c3 k; ?_) (fun c3 => have k := ok_neg c3 k; ?_)
  · refine wp_cst (v := .int (1 : Int32)) dX8_handFault_16 rfl rfl ?_
    refine wp_goto dX8_handFault_17 rfl ?_
    exact wp_end dX8_handFault_25 rfl (am_end_i rfl) (hP _ _ (ok_s k) h)
  · refine wp_ld (v := .ref 55) dX8_handFault_8 rfl rfl rfl rfl ?_
    refine wp_ld (v := .int x2) dX8_handFault_9 rfl rfl rfl rfl ?_
    refine c_i dX8_handFault_10 rfl rfl rfl (am_inv_v rfl (kk_55 h) rfl rfl rfl) (s_X8_isHand h) k (fun v5 s4 h k => ?_)
    refine wp_if_ne dX8_handFault_13 rfl (fun c6 => have k := ok_neg c6 k; ?_) (fun c6 => have k := ok_pos c6 k; ?_)
    · refine wp_ld (v := .ref 55) dX8_handFault_20 rfl rfl rfl rfl ?_
      refine wp_ld (v := .int x1) dX8_handFault_21 rfl rfl rfl rfl ?_
      refine c_i dX8_handFault_22 rfl rfl rfl (am_inv_v rfl (kk_55 h) rfl rfl rfl) (s_X8_wayFault h) k (fun v8 s7 h k => ?_)
      exact wp_end dX8_handFault_25 rfl (am_end_i rfl) (hP _ _ (ok_s k) h)
    · refine wp_cst (v := .int (1 : Int32)) dX8_handFault_16 rfl rfl ?_
      refine wp_goto dX8_handFault_17 rfl ?_
      exact wp_end dX8_handFault_25 rfl (am_end_i rfl) (hP _ _ (ok_s k) h)
noncomputable def L_X8_reachOf_6 : Nat → Int32 → Int32 → Int32 → Int64 → Int32 → am_S → am_FE (Int64)
  | 0, _, _, _, _, _, _ => none
  | m + 1, x1, x2, x3, x4, x6, s =>
    am_bi (f_X8_throwsOf x2 s) (fun v2 s1 =>
      if v2 ≤ x6 then
        some (.inr (x4, s1))
      else
        am_bi (f_X8_throwAt x2 x6 s1) (fun v5 s4 =>
          if am_in (v5 + (2 : Int32)) 264 = true then
            am_bi (f_X8_throwAt x2 x6 s4) (fun v8 s7 =>
              if am_in v8 264 = true then
                am_bi (f_X8_throwAt x2 x6 s7) (fun v11 s10 =>
                  if am_in (v11 + (1 : Int32)) 264 = true then
                    am_bi (f_X8_far x1 (am_I s7 56 v8.toNatClampNeg) (am_I s10 56 ((v11 + (1 : Int32)).toNatClampNeg)) x3 s10) (fun v14 s13 =>
                      ax_le (x4 + ((am_I s4 56 ((v5 + (2 : Int32)).toNatClampNeg)).toInt64 * v14.toInt64)) (fun y15 =>
                        L_X8_reachOf_6 m x1 x2 x3 y15 (x6 + (1 : Int32)) s13
                      )
                    )
                  else none
                )
              else none
            )
          else none
        )
    )
theorem q_X8_reachOf_6 : ∀ (m : Nat) {N n : Nat} {d : Nat} {x1 : Int32} {x2 : Int32} {x3 : Int32} {x4 : Int64} {x6 : Int32} {s : am_S} {P : (am_O × am_S) ⊕ (Int64 × am_S) → Prop} {Q : am_O → am_S → Prop} (h : am_sh N n s)  (k : am_ok (L_X8_reachOf_6 m x1 x2 x3 x4 x6 s) P) (hP : ∀ o s, P (.inl (o, s)) → am_sh N n s → Q o s) (hX : ∀ (e : Int64) s, P (.inr (e, s)) → am_sh N n s → am_WP (d + 8) mX8_reachOf 76 [(4, .long e)] [] s Q), am_WP (d + 8) mX8_reachOf 6 [(0, .ref 55), (1, .int x1), (2, .int x2), (3, .int x3), (4, .long x4), (6, .int x6)] [] s Q := by
  intro m
  induction m with
  | zero =>
    intro N n d x1 x2 x3 x4 x6 s P Q h  k hP hX
    exact (ok_no k).elim
  | succ m ih =>
    intro N n d x1 x2 x3 x4 x6 s P Q h  k hP hX
    unfold L_X8_reachOf_6 at k
    refine wp_ld (v := .int x6) dX8_reachOf_6 rfl rfl rfl rfl ?_
    refine wp_ld (v := .ref 55) dX8_reachOf_8 rfl rfl rfl rfl ?_
    refine wp_ld (v := .int x2) dX8_reachOf_9 rfl rfl rfl rfl ?_
    refine c_i dX8_reachOf_10 rfl rfl rfl (am_inv_v rfl (kk_55 h) rfl rfl rfl) (s_X8_throwsOf h) k (fun v2 s1 h k => ?_)
    refine wp_ic_ge dX8_reachOf_13 rfl (fun c3 => have k := ok_pos c3 k; ?_) (fun c3 => have k := ok_neg c3 k; ?_)
    · exact wp_sub (hX _ _ (ok_s k) h) rfl ⟨rfl, trivial⟩
    · refine wp_ld (v := .long x4) dX8_reachOf_16 rfl rfl rfl rfl ?_
      refine wp_ld (v := .ref 55) dX8_reachOf_18 rfl rfl rfl rfl ?_
      refine wp_gr dX8_reachOf_19 rfl rfl (kk_55 h) (rr_55_0 h) ?_
      refine wp_ld (v := .ref 55) dX8_reachOf_22 rfl rfl rfl rfl ?_
      refine wp_ld (v := .int x2) dX8_reachOf_23 rfl rfl rfl rfl ?_
      refine wp_ld (v := .int x6) dX8_reachOf_24 rfl rfl rfl rfl ?_
      refine c_i dX8_reachOf_26 rfl rfl rfl (am_inv_v rfl (kk_55 h) rfl rfl rfl) (s_X8_throwAt h) k (fun v5 s4 h k => ?_)
      refine wp_cst (v := .int (2 : Int32)) dX8_reachOf_29 rfl rfl ?_
      refine wp_pu dX8_reachOf_30 rfl rfl ?_
      obtain ⟨g6, k⟩ := ok_g k
      refine wq_iald dX8_reachOf_31 (kk_56 h) g6 (v := (am_I s4 56 ((v5 + (2 : Int32)).toNatClampNeg))) rfl ?_
      refine wp_pu dX8_reachOf_32 rfl rfl ?_
      refine wp_ld (v := .ref 55) dX8_reachOf_33 rfl rfl rfl rfl ?_
      refine wp_ld (v := .int x1) dX8_reachOf_34 rfl rfl rfl rfl ?_
      refine wp_ld (v := .ref 55) dX8_reachOf_35 rfl rfl rfl rfl ?_
      refine wp_gr dX8_reachOf_36 rfl rfl (kk_55 h) (rr_55_0 h) ?_
      refine wp_ld (v := .ref 55) dX8_reachOf_39 rfl rfl rfl rfl ?_
      refine wp_ld (v := .int x2) dX8_reachOf_40 rfl rfl rfl rfl ?_
      refine wp_ld (v := .int x6) dX8_reachOf_41 rfl rfl rfl rfl ?_
      show am_WP (d + 8) mX8_reachOf 43 _ _ _ Q
      refine c_i dX8_reachOf_43 rfl rfl rfl (am_inv_v rfl (kk_55 h) rfl rfl rfl) (s_X8_throwAt h) k (fun v8 s7 h k => ?_)
      obtain ⟨g9, k⟩ := ok_g k
      refine wq_iald dX8_reachOf_46 (kk_56 h) g9 (v := (am_I s7 56 v8.toNatClampNeg)) rfl ?_
      refine wp_ld (v := .ref 55) dX8_reachOf_47 rfl rfl rfl rfl ?_
      refine wp_gr dX8_reachOf_48 rfl rfl (kk_55 h) (rr_55_0 h) ?_
      refine wp_ld (v := .ref 55) dX8_reachOf_51 rfl rfl rfl rfl ?_
      refine wp_ld (v := .int x2) dX8_reachOf_52 rfl rfl rfl rfl ?_
      refine wp_ld (v := .int x6) dX8_reachOf_53 rfl rfl rfl rfl ?_
      refine c_i dX8_reachOf_55 rfl rfl rfl (am_inv_v rfl (kk_55 h) rfl rfl rfl) (s_X8_throwAt h) k (fun v11 s10 h k => ?_)
      refine wp_cst (v := .int (1 : Int32)) dX8_reachOf_58 rfl rfl ?_
      refine wp_pu dX8_reachOf_59 rfl rfl ?_
      obtain ⟨g12, k⟩ := ok_g k
      refine wq_iald dX8_reachOf_60 (kk_56 h) g12 (v := (am_I s10 56 ((v11 + (1 : Int32)).toNatClampNeg))) rfl ?_
      refine wp_ld (v := .int x3) dX8_reachOf_61 rfl rfl rfl rfl ?_
      refine c_i dX8_reachOf_62 rfl rfl rfl (am_inv_v rfl (kk_55 h) rfl rfl rfl) (s_X8_far h) k (fun v14 s13 h k => ?_)
      refine wp_pu dX8_reachOf_65 rfl rfl ?_
      refine wp_pu dX8_reachOf_66 rfl rfl ?_
      refine wp_pu dX8_reachOf_67 rfl rfl ?_
      refine ls_l k (fun y15 _ k => ?_)
      refine wp_st (ls' := [(0, .ref 55), (1, .int x1), (2, .int x2), (3, .int x3), (4, .long y15), (6, .int x6)]) dX8_reachOf_68 rfl rfl rfl (Nat.le_of_ble_eq_true rfl) rfl ?_
      refine wp_inc (v := (x6 + (1 : Int32))) (ls' := [(0, .ref 55), (1, .int x1), (2, .int x2), (3, .int x3), (4, .long y15), (6, .int (x6 + (1 : Int32)))]) dX8_reachOf_70 rfl (Nat.le_of_ble_eq_true rfl) rfl rfl ?_
      refine wp_goto dX8_reachOf_73 rfl ?_
      exact wp_sub (ih h k hP hX) rfl ⟨rfl, rfl, rfl, rfl, rfl, rfl, trivial⟩
noncomputable def f_X8_reachOf (x1 : Int32) (x2 : Int32) (x3 : Int32) (s : am_S) : am_F :=
  am_lm (L_X8_reachOf_6 ax_fuel x1 x2 x3 (0 : Int64) (0 : Int32) s) (fun e16 s17 =>
    some (.inl (some (.long e16)), s17)
  )
theorem s_X8_reachOf {N n : Nat} {d : Nat} {x1 : Int32} {x2 : Int32} {x3 : Int32} {s : am_S} (h : am_sh N n s)  : am_S1 (am_sh N n) (d + 8) mX8_reachOf [.ref 55, .int x1, .int x2, .int x3] s (f_X8_reachOf x1 x2 x3 s) := by
  intro P Q k hP
  show am_WP (d + 8) mX8_reachOf 0 [(0, .ref 55), (1, .int x1), (2, .int x2), (3, .int x3)] [] s Q
  unfold f_X8_reachOf at k
  refine wp_cst (v := .long (0 : Int64)) dX8_reachOf_0 rfl rfl ?_
  refine wp_st (ls' := [(0, .ref 55), (1, .int x1), (2, .int x2), (3, .int x3), (4, .long (0 : Int64))]) dX8_reachOf_1 rfl rfl rfl (Nat.le_of_ble_eq_true rfl) rfl ?_
  refine wp_cst (v := .int (0 : Int32)) dX8_reachOf_3 rfl rfl ?_
  refine wp_st (ls' := [(0, .ref 55), (1, .int x1), (2, .int x2), (3, .int x3), (4, .long (0 : Int64)), (6, .int (0 : Int32))]) dX8_reachOf_4 rfl rfl rfl (Nat.le_of_ble_eq_true rfl) rfl ?_
  refine lp_m k (fun P1 k hA hB => ?_)
  refine wp_sub (q_X8_reachOf_6 ax_fuel h k (fun o s p h => hP o s (hA o s p) h) (fun e16 s17 p h => have k := hB e16 s17 p; ?_)) rfl ⟨rfl, rfl, rfl, rfl, rfl, rfl, trivial⟩
  refine wp_ld (v := .long e16) dX8_reachOf_76 rfl rfl rfl rfl ?_
  exact wp_end dX8_reachOf_78 rfl (am_end_l rfl) (hP _ _ (ok_s k) h)
noncomputable def f_X8_reach (x1 : Int32) (x2 : Int32) (x3 : Int32) (x4 : Int32) (s : am_S) : am_F :=
  am_bi (f_X8_handFault x1 x3 s) (fun v2 s1 =>
    if v2 ≤ 0 then
      am_bi (f_X8_isEars x2 (am_sI s1 55 3 v2)) (fun v5 s4 =>
        if v5 = 0 then
          am_bi (f_X8_fails (3 : Int32) s4) (fun v8 s7 =>
            some (.inl (some (.long v8.toInt64)), s7)
          )
        else
          am_bl (f_X8_reachOf x2 x3 x4 s4) (fun v10 s9 =>
            some (.inl (some (.long v10)), s9)
          )
      )
    else
      some (.inl (some (.long (0 : Int64))), (am_sI s1 55 3 v2))
  )
theorem s_X8_reach {N n : Nat} {d : Nat} {x1 : Int32} {x2 : Int32} {x3 : Int32} {x4 : Int32} {s : am_S} (h : am_sh N n s)  : am_S1 (am_sh N n) (d + 9) mX8_reach [.ref 55, .int x1, .int x2, .int x3, .int x4] s (f_X8_reach x1 x2 x3 x4 s) := by
  intro P Q k hP
  show am_WP (d + 9) mX8_reach 0 [(0, .ref 55), (1, .int x1), (2, .int x2), (3, .int x3), (4, .int x4)] [] s Q
  unfold f_X8_reach at k
  refine wp_ld (v := .ref 55) dX8_reach_0 rfl rfl rfl rfl ?_
  refine wp_ld (v := .ref 55) dX8_reach_1 rfl rfl rfl rfl ?_
  refine wp_ld (v := .int x1) dX8_reach_2 rfl rfl rfl rfl ?_
  refine wp_ld (v := .int x3) dX8_reach_3 rfl rfl rfl rfl ?_
  refine c_i dX8_reach_4 rfl rfl rfl (am_inv_v rfl (kk_55 h) rfl rfl rfl) (s_X8_handFault h) k (fun v2 s1 h k => ?_)
  refine wp_pI dX8_reach_7 rfl rfl rfl (fun h => absurd h (by decide)) (kk_55 h) ?_
  refine wp_ld (v := .ref 55) dX8_reach_10 rfl rfl rfl rfl ?_
  refine wq_gI dX8_reach_11 rfl rfl (kk_55 (sh_sI h)) (v := v2) rfl ?_
  refine wp_if_le dX8_reach_14 rfl (fun c3 => have k := ok_pos c3 k; ?_) (fun c3 => have k := ok_neg c3 k; ?_)
  · refine wp_ld (v := .int x2) dX8_reach_19 rfl rfl rfl rfl ?_
    refine c_i dX8_reach_20 rfl rfl rfl (am_inv_s rfl rfl rfl rfl) (s_X8_isEars (sh_sI h)) k (fun v5 s4 h k => ?_)
    refine wp_if_eq dX8_reach_23 rfl (fun c6 => have k := ok_pos c6 k; ?_) (fun c6 => have k := ok_neg c6 k; ?_)
    · refine wp_ld (v := .ref 55) dX8_reach_37 rfl rfl rfl rfl ?_
      refine wp_cst (v := .int (3 : Int32)) dX8_reach_38 rfl rfl ?_
      refine c_i dX8_reach_39 rfl rfl rfl (am_inv_v rfl (kk_55 h) rfl rfl rfl) (s_X8_fails h) k (fun v8 s7 h k => ?_)
      refine wp_pu dX8_reach_42 rfl rfl ?_
      exact wp_end dX8_reach_43 rfl (am_end_l rfl) (hP _ _ (ok_s k) h)
    · refine wp_ld (v := .ref 55) dX8_reach_26 rfl rfl rfl rfl ?_
      refine wp_ld (v := .int x2) dX8_reach_27 rfl rfl rfl rfl ?_
      refine wp_ld (v := .int x3) dX8_reach_28 rfl rfl rfl rfl ?_
      refine wp_ld (v := .int x4) dX8_reach_29 rfl rfl rfl rfl ?_
      refine c_l dX8_reach_31 rfl rfl rfl (am_inv_v rfl (kk_55 h) rfl rfl rfl) (s_X8_reachOf h) k (fun v10 s9 h k => ?_)
      refine wp_goto dX8_reach_34 rfl ?_
      exact wp_end dX8_reach_43 rfl (am_end_l rfl) (hP _ _ (ok_s k) h)
  · refine wp_cst (v := .long (0 : Int64)) dX8_reach_17 rfl rfl ?_
    exact wp_end dX8_reach_18 rfl (am_end_l rfl) (hP _ _ (ok_s k) (sh_sI h))
noncomputable def L_X8_bestEars_16 : Nat → Int32 → Int32 → Int32 → Int32 → am_S → am_FE (Int32)
  | 0, _, _, _, _, _ => none
  | m + 1, x1, x2, x3, x4, s =>
    if (18 : Int32) < x4 then
      some (.inr (x3, s))
    else
      am_jn (fun (e5 : Int32) s6 =>
        am_bl (f_X8_reachOf e5 x1 x2 s6) (fun v8 s7 =>
          if (am_L s7 55 46) < v8 then
            L_X8_bestEars_16 m x1 x2 e5 (x4 + (1 : Int32)) (am_sL s7 55 46 v8)
          else
            L_X8_bestEars_16 m x1 x2 x3 (x4 + (1 : Int32)) s7
        )
      ) (fun J4 =>
        if (x4 - x4 / (2 : Int32) * (2 : Int32)) = (1 : Int32) then
          J4 ((-(x4 + (1 : Int32))) / (2 : Int32)) s
        else
          J4 (x4 / (2 : Int32)) s
      )
theorem q_X8_bestEars_16 : ∀ (m : Nat) {N n : Nat} {d : Nat} {x1 : Int32} {x2 : Int32} {x3 : Int32} {x4 : Int32} {s : am_S} {P : (am_O × am_S) ⊕ (Int32 × am_S) → Prop} {Q : am_O → am_S → Prop} (h : am_sh N n s)  (k : am_ok (L_X8_bestEars_16 m x1 x2 x3 x4 s) P) (hP : ∀ o s, P (.inl (o, s)) → am_sh N n s → Q o s) (hX : ∀ (e : Int32) s, P (.inr (e, s)) → am_sh N n s → am_WP (d + 9) mX8_bestEars 85 [(3, .int e)] [] s Q), am_WP (d + 9) mX8_bestEars 16 [(0, .ref 55), (1, .int x1), (2, .int x2), (3, .int x3), (4, .int x4)] [] s Q := by
  intro m
  induction m with
  | zero =>
    intro N n d x1 x2 x3 x4 s P Q h  k hP hX
    exact (ok_no k).elim
  | succ m ih =>
    intro N n d x1 x2 x3 x4 s P Q h  k hP hX
    unfold L_X8_bestEars_16 at k
    refine wp_ld (v := .int x4) dX8_bestEars_16 rfl rfl rfl rfl ?_
    refine wp_cst (v := .int (18 : Int32)) dX8_bestEars_18 rfl rfl ?_
    refine wp_ic_gt dX8_bestEars_20 rfl (fun c3 => have k := ok_pos c3 k; ?_) (fun c3 => have k := ok_neg c3 k; ?_)
    · exact wp_sub (hX _ _ (ok_s k) h) rfl ⟨rfl, trivial⟩
    · refine wp_ld (v := .int x4) dX8_bestEars_23 rfl rfl rfl rfl ?_
      refine wp_cst (v := .int (2 : Int32)) dX8_bestEars_25 rfl rfl ?_
      refine wp_rem dX8_bestEars_26 (by decide) ?_
      refine wp_cst (v := .int (1 : Int32)) dX8_bestEars_27 rfl rfl ?_
      refine jn_rule k (fun J4 hJ4 k => ?_)
      have HJ4 : ∀ (e5 : Int32) (s6 : am_S), am_sh N n s6 → am_ok (J4 e5 s6) P → am_WP (d + 9) mX8_bestEars 45 [(0, .ref 55), (1, .int x1), (2, .int x2), (3, .int x3), (4, .int x4)] [.int e5] s6 Q := by
        intro e5 s6 h k
        replace k := hJ4 _ _ k
        refine wp_st (ls' := [(0, .ref 55), (1, .int x1), (2, .int x2), (3, .int x3), (4, .int x4), (5, .int e5)]) dX8_bestEars_45 rfl rfl rfl (Nat.le_of_ble_eq_true rfl) rfl ?_
        refine wp_ld (v := .ref 55) dX8_bestEars_47 rfl rfl rfl rfl ?_
        refine wp_ld (v := .int e5) dX8_bestEars_48 rfl rfl rfl rfl ?_
        refine wp_ld (v := .int x1) dX8_bestEars_50 rfl rfl rfl rfl ?_
        refine wp_ld (v := .int x2) dX8_bestEars_51 rfl rfl rfl rfl ?_
        refine c_l dX8_bestEars_52 rfl rfl rfl (am_inv_v rfl (kk_55 h) rfl rfl rfl) (s_X8_reachOf h) k (fun v8 s7 h k => ?_)
        refine wp_st (ls' := [(0, .ref 55), (1, .int x1), (2, .int x2), (3, .int x3), (4, .int x4), (5, .int e5), (6, .long v8)]) dX8_bestEars_55 rfl rfl rfl (Nat.le_of_ble_eq_true rfl) rfl ?_
        refine wp_ld (v := .long v8) dX8_bestEars_57 rfl rfl rfl rfl ?_
        refine wp_ld (v := .ref 55) dX8_bestEars_59 rfl rfl rfl rfl ?_
        refine wq_gL dX8_bestEars_60 rfl rfl (kk_55 h) (l := (am_L s7 55 46)) rfl ?_
        refine wl_gt dX8_bestEars_63 dX8_bestEars_64 rfl (fun c9 => have k := ok_pos c9 k; ?_) (fun c9 => have k := ok_neg c9 k; ?_)
        · refine wp_ld (v := .ref 55) dX8_bestEars_70 rfl rfl rfl rfl ?_
          refine wp_ld (v := .long v8) dX8_bestEars_71 rfl rfl rfl rfl ?_
          refine wp_pL dX8_bestEars_73 rfl rfl rfl (kk_55 h) ?_
          refine wp_ld (v := .int e5) dX8_bestEars_76 rfl rfl rfl rfl ?_
          refine wp_st (ls' := [(0, .ref 55), (1, .int x1), (2, .int x2), (3, .int e5), (4, .int x4), (5, .int e5), (6, .long v8)]) dX8_bestEars_78 rfl rfl rfl (Nat.le_of_ble_eq_true rfl) rfl ?_
          refine wp_inc (v := (x4 + (1 : Int32))) (ls' := [(0, .ref 55), (1, .int x1), (2, .int x2), (3, .int e5), (4, .int (x4 + (1 : Int32))), (5, .int e5), (6, .long v8)]) dX8_bestEars_79 rfl (Nat.le_of_ble_eq_true rfl) rfl rfl ?_
          refine wp_goto dX8_bestEars_82 rfl ?_
          exact wp_sub (ih (sh_sL h) k hP hX) rfl ⟨rfl, rfl, rfl, rfl, rfl, trivial⟩
        · refine wp_goto dX8_bestEars_67 rfl ?_
          refine wp_inc (v := (x4 + (1 : Int32))) (ls' := [(0, .ref 55), (1, .int x1), (2, .int x2), (3, .int x3), (4, .int (x4 + (1 : Int32))), (5, .int e5), (6, .long v8)]) dX8_bestEars_79 rfl (Nat.le_of_ble_eq_true rfl) rfl rfl ?_
          refine wp_goto dX8_bestEars_82 rfl ?_
          exact wp_sub (ih h k hP hX) rfl ⟨rfl, rfl, rfl, rfl, rfl, trivial⟩
      refine wp_ic_ne dX8_bestEars_28 rfl (fun c10 => have k := ok_neg c10 k; ?_) (fun c10 => have k := ok_pos c10 k; ?_)
      · refine wp_ld (v := .int x4) dX8_bestEars_41 rfl rfl rfl rfl ?_
        refine wp_cst (v := .int (2 : Int32)) dX8_bestEars_43 rfl rfl ?_
        refine wp_div dX8_bestEars_44 (by decide) ?_
        exact wp_sub (HJ4 _ _ h k) rfl ⟨rfl, rfl, rfl, rfl, rfl, trivial⟩
      · refine wp_ld (v := .int x4) dX8_bestEars_31 rfl rfl rfl rfl ?_
        refine wp_cst (v := .int (1 : Int32)) dX8_bestEars_33 rfl rfl ?_
        refine wp_pu dX8_bestEars_34 rfl rfl ?_
        refine wp_pu dX8_bestEars_35 rfl rfl ?_
        refine wp_cst (v := .int (2 : Int32)) dX8_bestEars_36 rfl rfl ?_
        refine wp_div dX8_bestEars_37 (by decide) ?_
        refine wp_goto dX8_bestEars_38 rfl ?_
        exact wp_sub (HJ4 _ _ h k) rfl ⟨rfl, rfl, rfl, rfl, rfl, trivial⟩
noncomputable def f_X8_bestEars (x1 : Int32) (x2 : Int32) (s : am_S) : am_F :=
  am_bl (f_X8_reachOf (0 : Int32) x1 x2 s) (fun v2 s1 =>
    am_lm (L_X8_bestEars_16 ax_fuel x1 x2 (0 : Int32) (1 : Int32) (am_sL s1 55 46 v2)) (fun e11 s12 =>
      some (.inl (some (.int e11)), s12)
    )
  )
theorem s_X8_bestEars {N n : Nat} {d : Nat} {x1 : Int32} {x2 : Int32} {s : am_S} (h : am_sh N n s)  : am_S1 (am_sh N n) (d + 9) mX8_bestEars [.ref 55, .int x1, .int x2] s (f_X8_bestEars x1 x2 s) := by
  intro P Q k hP
  show am_WP (d + 9) mX8_bestEars 0 [(0, .ref 55), (1, .int x1), (2, .int x2)] [] s Q
  unfold f_X8_bestEars at k
  refine wp_cst (v := .int (0 : Int32)) dX8_bestEars_0 rfl rfl ?_
  refine wp_st (ls' := [(0, .ref 55), (1, .int x1), (2, .int x2), (3, .int (0 : Int32))]) dX8_bestEars_1 rfl rfl rfl (Nat.le_of_ble_eq_true rfl) rfl ?_
  refine wp_ld (v := .ref 55) dX8_bestEars_2 rfl rfl rfl rfl ?_
  refine wp_ld (v := .ref 55) dX8_bestEars_3 rfl rfl rfl rfl ?_
  refine wp_cst (v := .int (0 : Int32)) dX8_bestEars_4 rfl rfl ?_
  refine wp_ld (v := .int x1) dX8_bestEars_5 rfl rfl rfl rfl ?_
  refine wp_ld (v := .int x2) dX8_bestEars_6 rfl rfl rfl rfl ?_
  refine c_l dX8_bestEars_7 rfl rfl rfl (am_inv_v rfl (kk_55 h) rfl rfl rfl) (s_X8_reachOf h) k (fun v2 s1 h k => ?_)
  refine wp_pL dX8_bestEars_10 rfl rfl rfl (kk_55 h) ?_
  refine wp_cst (v := .int (1 : Int32)) dX8_bestEars_13 rfl rfl ?_
  refine wp_st (ls' := [(0, .ref 55), (1, .int x1), (2, .int x2), (3, .int (0 : Int32)), (4, .int (1 : Int32))]) dX8_bestEars_14 rfl rfl rfl (Nat.le_of_ble_eq_true rfl) rfl ?_
  refine lp_m k (fun P1 k hA hB => ?_)
  refine wp_sub (q_X8_bestEars_16 ax_fuel (sh_sL h) k (fun o s p h => hP o s (hA o s p) h) (fun e11 s12 p h => have k := hB e11 s12 p; ?_)) rfl ⟨rfl, rfl, rfl, rfl, rfl, trivial⟩
  refine wp_ld (v := .int e11) dX8_bestEars_85 rfl rfl rfl rfl ?_
  exact wp_end dX8_bestEars_86 rfl (am_end_i rfl) (hP _ _ (ok_s k) h)
noncomputable def f_X8_ears (x1 : Int32) (x2 : Int32) (x3 : Int32) (s : am_S) : am_F :=
  am_bi (f_X8_handFault x1 x2 s) (fun v2 s1 =>
    if v2 ≤ 0 then
      am_bi (f_X8_bestEars x2 x3 (am_sI s1 55 3 v2)) (fun v5 s4 =>
        some (.inl (some (.int v5)), s4)
      )
    else
      some (.inl (some (.int (0 : Int32))), (am_sI s1 55 3 v2))
  )
theorem s_X8_ears {N n : Nat} {d : Nat} {x1 : Int32} {x2 : Int32} {x3 : Int32} {s : am_S} (h : am_sh N n s)  : am_S1 (am_sh N n) (d + 10) mX8_ears [.ref 55, .int x1, .int x2, .int x3] s (f_X8_ears x1 x2 x3 s) := by
  intro P Q k hP
  show am_WP (d + 10) mX8_ears 0 [(0, .ref 55), (1, .int x1), (2, .int x2), (3, .int x3)] [] s Q
  unfold f_X8_ears at k
  refine wp_ld (v := .ref 55) dX8_ears_0 rfl rfl rfl rfl ?_
  refine wp_ld (v := .ref 55) dX8_ears_1 rfl rfl rfl rfl ?_
  refine wp_ld (v := .int x1) dX8_ears_2 rfl rfl rfl rfl ?_
  refine wp_ld (v := .int x2) dX8_ears_3 rfl rfl rfl rfl ?_
  refine c_i dX8_ears_4 rfl rfl rfl (am_inv_v rfl (kk_55 h) rfl rfl rfl) (s_X8_handFault h) k (fun v2 s1 h k => ?_)
  refine wp_pI dX8_ears_7 rfl rfl rfl (fun h => absurd h (by decide)) (kk_55 h) ?_
  refine wp_ld (v := .ref 55) dX8_ears_10 rfl rfl rfl rfl ?_
  refine wq_gI dX8_ears_11 rfl rfl (kk_55 (sh_sI h)) (v := v2) rfl ?_
  refine wp_if_le dX8_ears_14 rfl (fun c3 => have k := ok_pos c3 k; ?_) (fun c3 => have k := ok_neg c3 k; ?_)
  · refine wp_ld (v := .ref 55) dX8_ears_21 rfl rfl rfl rfl ?_
    refine wp_ld (v := .int x2) dX8_ears_22 rfl rfl rfl rfl ?_
    refine wp_ld (v := .int x3) dX8_ears_23 rfl rfl rfl rfl ?_
    refine c_i dX8_ears_24 rfl rfl rfl (am_inv_v rfl (kk_55 (sh_sI h)) rfl rfl rfl) (s_X8_bestEars (sh_sI h)) k (fun v5 s4 h k => ?_)
    exact wp_end dX8_ears_27 rfl (am_end_i rfl) (hP _ _ (ok_s k) h)
  · refine wp_cst (v := .int (0 : Int32)) dX8_ears_17 rfl rfl ?_
    refine wp_goto dX8_ears_18 rfl ?_
    exact wp_end dX8_ears_27 rfl (am_end_i rfl) (hP _ _ (ok_s k) (sh_sI h))
noncomputable def L_X8_best_27 : Nat → Int32 → Int32 → Int32 → Int64 → Int32 → am_S → am_FE (Int32)
  | 0, _, _, _, _, _, _ => none
  | m + 1, x1, x2, x3, x4, x6, s =>
    if (am_I s 56 2) ≤ x6 then
      some (.inr (x3, s))
    else
      am_bi (f_X8_makes x6 s) (fun v6 s5 =>
        if v6 = (-1 : Int32) then
          am_bi (f_X8_bestEars x1 x2 s5) (fun v9 s8 =>
            am_jn (fun (e11 : Unit) s12 =>
              L_X8_best_27 m x1 x2 x6 (am_L s12 55 46) (x6 + (1 : Int32)) s12
            ) (fun J10 =>
              if x3 = (-1 : Int32) then
                J10 () s8
              else
                if x4 < (am_L s8 55 46) then
                  J10 () s8
                else
                  L_X8_best_27 m x1 x2 x3 x4 (x6 + (1 : Int32)) s8
            )
          )
        else
          L_X8_best_27 m x1 x2 x3 x4 (x6 + (1 : Int32)) s5
      )
theorem q_X8_best_27 : ∀ (m : Nat) {N n : Nat} {d : Nat} {x1 : Int32} {x2 : Int32} {x3 : Int32} {x4 : Int64} {x6 : Int32} {s : am_S} {P : (am_O × am_S) ⊕ (Int32 × am_S) → Prop} {Q : am_O → am_S → Prop} (h : am_sh N n s)  (k : am_ok (L_X8_best_27 m x1 x2 x3 x4 x6 s) P) (hP : ∀ o s, P (.inl (o, s)) → am_sh N n s → Q o s) (hX : ∀ (e : Int32) s, P (.inr (e, s)) → am_sh N n s → am_WP (d + 10) mX8_best 92 [(3, .int e)] [] s Q), am_WP (d + 10) mX8_best 27 [(0, .ref 55), (1, .int x1), (2, .int x2), (3, .int x3), (4, .long x4), (6, .int x6)] [] s Q := by
  intro m
  induction m with
  | zero =>
    intro N n d x1 x2 x3 x4 x6 s P Q h  k hP hX
    exact (ok_no k).elim
  | succ m ih =>
    intro N n d x1 x2 x3 x4 x6 s P Q h  k hP hX
    unfold L_X8_best_27 at k
    refine wp_ld (v := .int x6) dX8_best_27 rfl rfl rfl rfl ?_
    refine wp_ld (v := .ref 55) dX8_best_29 rfl rfl rfl rfl ?_
    refine wp_gr dX8_best_30 rfl rfl (kk_55 h) (rr_55_0 h) ?_
    refine wp_cst (v := .int (2 : Int32)) dX8_best_33 rfl rfl ?_
    refine wq_iald dX8_best_34 (kk_56 h) (by decide) (v := (am_I s 56 2)) rfl ?_
    refine wp_ic_ge dX8_best_35 rfl (fun c4 => have k := ok_pos c4 k; ?_) (fun c4 => have k := ok_neg c4 k; ?_)
    · exact wp_sub (hX _ _ (ok_s k) h) rfl ⟨rfl, trivial⟩
    · refine wp_ld (v := .ref 55) dX8_best_38 rfl rfl rfl rfl ?_
      refine wp_ld (v := .int x6) dX8_best_39 rfl rfl rfl rfl ?_
      refine c_i dX8_best_41 rfl rfl rfl (am_inv_v rfl (kk_55 h) rfl rfl rfl) (s_X8_makes h) k (fun v6 s5 h k => ?_)
      refine wp_cst (v := .int (-1 : Int32)) dX8_best_44 rfl rfl ?_
      refine wp_ic_eq dX8_best_45 rfl (fun c7 => have k := ok_pos c7 k; ?_) (fun c7 => have k := ok_neg c7 k; ?_)
      · refine wp_ld (v := .ref 55) dX8_best_51 rfl rfl rfl rfl ?_
        refine wp_ld (v := .int x1) dX8_best_52 rfl rfl rfl rfl ?_
        refine wp_ld (v := .int x2) dX8_best_53 rfl rfl rfl rfl ?_
        refine c_i dX8_best_54 rfl rfl rfl (am_inv_v rfl (kk_55 h) rfl rfl rfl) (s_X8_bestEars h) k (fun v9 s8 h k => ?_)
        refine wp_st (ls' := [(0, .ref 55), (1, .int x1), (2, .int x2), (3, .int x3), (4, .long x4), (6, .int x6), (7, .int v9)]) dX8_best_57 rfl rfl rfl (Nat.le_of_ble_eq_true rfl) rfl ?_
        refine wp_ld (v := .int x3) dX8_best_59 rfl rfl rfl rfl ?_
        refine wp_cst (v := .int (-1 : Int32)) dX8_best_60 rfl rfl ?_
        refine jn_rule k (fun J10 hJ10 k => ?_)
        have HJ10 : ∀ (e11 : Unit) (s12 : am_S), am_sh N n s12 → am_ok (J10 e11 s12) P → am_WP (d + 10) mX8_best 77 [(0, .ref 55), (1, .int x1), (2, .int x2), (6, .int x6)] [] s12 Q := by
          intro e11 s12 h k
          replace k := hJ10 _ _ k
          refine wp_ld (v := .int x6) dX8_best_77 rfl rfl rfl rfl ?_
          refine wp_st (ls' := [(0, .ref 55), (1, .int x1), (2, .int x2), (3, .int x6), (6, .int x6)]) dX8_best_79 rfl rfl rfl (Nat.le_of_ble_eq_true rfl) rfl ?_
          refine wp_ld (v := .ref 55) dX8_best_80 rfl rfl rfl rfl ?_
          refine wq_gL dX8_best_81 rfl rfl (kk_55 h) (l := (am_L s12 55 46)) rfl ?_
          refine wp_st (ls' := [(0, .ref 55), (1, .int x1), (2, .int x2), (3, .int x6), (4, .long (am_L s12 55 46)), (6, .int x6)]) dX8_best_84 rfl rfl rfl (Nat.le_of_ble_eq_true rfl) rfl ?_
          refine wp_inc (v := (x6 + (1 : Int32))) (ls' := [(0, .ref 55), (1, .int x1), (2, .int x2), (3, .int x6), (4, .long (am_L s12 55 46)), (6, .int (x6 + (1 : Int32)))]) dX8_best_86 rfl (Nat.le_of_ble_eq_true rfl) rfl rfl ?_
          refine wp_goto dX8_best_89 rfl ?_
          exact wp_sub (ih h k hP hX) rfl ⟨rfl, rfl, rfl, rfl, rfl, rfl, trivial⟩
        refine wp_ic_eq dX8_best_61 rfl (fun c13 => have k := ok_pos c13 k; ?_) (fun c13 => have k := ok_neg c13 k; ?_)
        · exact wp_sub (HJ10 _ _ h k) rfl ⟨rfl, rfl, rfl, rfl, trivial⟩
        · refine wp_ld (v := .ref 55) dX8_best_64 rfl rfl rfl rfl ?_
          refine wq_gL dX8_best_65 rfl rfl (kk_55 h) (l := (am_L s8 55 46)) rfl ?_
          refine wp_ld (v := .long x4) dX8_best_68 rfl rfl rfl rfl ?_
          refine wl_gt dX8_best_70 dX8_best_71 rfl (fun c14 => have k := ok_pos c14 k; ?_) (fun c14 => have k := ok_neg c14 k; ?_)
          · exact wp_sub (HJ10 _ _ h k) rfl ⟨rfl, rfl, rfl, rfl, trivial⟩
          · refine wp_goto dX8_best_74 rfl ?_
            refine wp_inc (v := (x6 + (1 : Int32))) (ls' := [(0, .ref 55), (1, .int x1), (2, .int x2), (3, .int x3), (4, .long x4), (6, .int (x6 + (1 : Int32))), (7, .int v9)]) dX8_best_86 rfl (Nat.le_of_ble_eq_true rfl) rfl rfl ?_
            refine wp_goto dX8_best_89 rfl ?_
            exact wp_sub (ih h k hP hX) rfl ⟨rfl, rfl, rfl, rfl, rfl, rfl, trivial⟩
      · refine wp_goto dX8_best_48 rfl ?_
        refine wp_inc (v := (x6 + (1 : Int32))) (ls' := [(0, .ref 55), (1, .int x1), (2, .int x2), (3, .int x3), (4, .long x4), (6, .int (x6 + (1 : Int32)))]) dX8_best_86 rfl (Nat.le_of_ble_eq_true rfl) rfl rfl ?_
        refine wp_goto dX8_best_89 rfl ?_
        exact wp_sub (ih h k hP hX) rfl ⟨rfl, rfl, rfl, rfl, rfl, rfl, trivial⟩
noncomputable def f_X8_best (x1 : Int32) (x2 : Int32) (s : am_S) : am_F :=
  am_bi (f_X8_isHand x1 (am_sI s 55 3 (0 : Int32))) (fun v2 s1 =>
    if v2 = 0 then
      am_bi (f_X8_fails (1 : Int32) s1) (fun v18 s17 =>
        some (.inl (some (.int v18)), s17)
      )
    else
      am_lm (L_X8_best_27 ax_fuel x1 x2 (-1 : Int32) (0 : Int64) (0 : Int32) s1) (fun e15 s16 =>
        some (.inl (some (.int e15)), s16)
      )
  )
theorem s_X8_best {N n : Nat} {d : Nat} {x1 : Int32} {x2 : Int32} {s : am_S} (h : am_sh N n s)  : am_S1 (am_sh N n) (d + 10) mX8_best [.ref 55, .int x1, .int x2] s (f_X8_best x1 x2 s) := by
  intro P Q k hP
  show am_WP (d + 10) mX8_best 0 [(0, .ref 55), (1, .int x1), (2, .int x2)] [] s Q
  unfold f_X8_best at k
  refine wp_ld (v := .ref 55) dX8_best_0 rfl rfl rfl rfl ?_
  refine wp_cst (v := .int (0 : Int32)) dX8_best_1 rfl rfl ?_
  refine wp_pI dX8_best_2 rfl rfl rfl (fun h => absurd h (by decide)) (kk_55 h) ?_
  refine wp_ld (v := .ref 55) dX8_best_5 rfl rfl rfl rfl ?_
  refine wp_ld (v := .int x1) dX8_best_6 rfl rfl rfl rfl ?_
  refine c_i dX8_best_7 rfl rfl rfl (am_inv_v rfl (kk_55 (sh_sI h)) rfl rfl rfl) (s_X8_isHand (sh_sI h)) k (fun v2 s1 h k => ?_)
  refine wp_if_ne dX8_best_10 rfl (fun c3 => have k := ok_neg c3 k; ?_) (fun c3 => have k := ok_pos c3 k; ?_)
  · refine wp_cst (v := .int (-1 : Int32)) dX8_best_19 rfl rfl ?_
    refine wp_st (ls' := [(0, .ref 55), (1, .int x1), (2, .int x2), (3, .int (-1 : Int32))]) dX8_best_20 rfl rfl rfl (Nat.le_of_ble_eq_true rfl) rfl ?_
    refine wp_cst (v := .long (0 : Int64)) dX8_best_21 rfl rfl ?_
    refine wp_st (ls' := [(0, .ref 55), (1, .int x1), (2, .int x2), (3, .int (-1 : Int32)), (4, .long (0 : Int64))]) dX8_best_22 rfl rfl rfl (Nat.le_of_ble_eq_true rfl) rfl ?_
    refine wp_cst (v := .int (0 : Int32)) dX8_best_24 rfl rfl ?_
    refine wp_st (ls' := [(0, .ref 55), (1, .int x1), (2, .int x2), (3, .int (-1 : Int32)), (4, .long (0 : Int64)), (6, .int (0 : Int32))]) dX8_best_25 rfl rfl rfl (Nat.le_of_ble_eq_true rfl) rfl ?_
    refine lp_m k (fun P1 k hA hB => ?_)
    refine wp_sub (q_X8_best_27 ax_fuel h k (fun o s p h => hP o s (hA o s p) h) (fun e15 s16 p h => have k := hB e15 s16 p; ?_)) rfl ⟨rfl, rfl, rfl, rfl, rfl, rfl, trivial⟩
    refine wp_ld (v := .int e15) dX8_best_92 rfl rfl rfl rfl ?_
    exact wp_end dX8_best_93 rfl (am_end_i rfl) (hP _ _ (ok_s k) h)
  · refine wp_ld (v := .ref 55) dX8_best_13 rfl rfl rfl rfl ?_
    refine wp_cst (v := .int (1 : Int32)) dX8_best_14 rfl rfl ?_
    refine c_i dX8_best_15 rfl rfl rfl (am_inv_v rfl (kk_55 h) rfl rfl rfl) (s_X8_fails h) k (fun v18 s17 h k => ?_)
    exact wp_end dX8_best_18 rfl (am_end_i rfl) (hP _ _ (ok_s k) h)
