noncomputable def f_X8_fly (x1 : Int32) (x2 : Int32) (x3 : Int32) (x4 : Int32) (x5 : Int32) (s : am_S) : am_F :=
  am_bi (f_X8_wayFault x1 s) (fun v2 s1 =>
    if v2 ≤ 0 then
      am_bi (f_X8_isEars x2 (am_sI s1 55 3 v2)) (fun v5 s4 =>
        am_jn (fun (e7 : Unit) s8 =>
          am_bi (f_X8_fails (3 : Int32) s8) (fun v10 s9 =>
            some (.inl (some (.int v10)), s9)
          )
        ) (fun J6 =>
          if v5 = 0 then
            J6 () s4
          else
            am_bi (f_X8_isSpeed x3 s4) (fun v13 s12 =>
              if v13 = 0 then
                J6 () s12
              else
                am_bi (f_X8_isSlant x4 s12) (fun v16 s15 =>
                  if v16 = 0 then
                    J6 () s15
                  else
                    am_bi (f_X8_within x5.toInt64 (0 : Int64) (5 : Int64) s15) (fun v19 s18 =>
                      if v19 = 0 then
                        J6 () s18
                      else
                        am_bu (f_X8_flies x2 x3 x4 (200 : Int32) s18) (fun s21 =>
                          if x5 = (0 : Int32) then
                            some (.inl (some (.int (am_I s21 55 31))), s21)
                          else if x5 = (1 : Int32) then
                            some (.inl (some (.int (am_I s21 55 37))), s21)
                          else if x5 = (2 : Int32) then
                            some (.inl (some (.int (am_I s21 55 38))), s21)
                          else if x5 = (3 : Int32) then
                            some (.inl (some (.int (am_I s21 55 39))), s21)
                          else if x5 = (4 : Int32) then
                            some (.inl (some (.int ((am_abs (am_I s21 55 40)) / (1024 : Int32)))), s21)
                          else
                            if (am_I s21 55 41) < (20 : Int32) then
                              some (.inl (some (.int (-1 : Int32))), s21)
                            else
                              some (.inl (some (.int (((am_I s21 55 37) - (am_I s21 55 41)) + (1 : Int32)))), s21)
                        )
                    )
                )
            )
        )
      )
    else
      some (.inl (some (.int (0 : Int32))), (am_sI s1 55 3 v2))
  )
theorem s_X8_fly {N n : Nat} {d : Nat} {x1 : Int32} {x2 : Int32} {x3 : Int32} {x4 : Int32} {x5 : Int32} {s : am_S} (h : am_sh N n s)  : am_S1 (am_sh N n) (d + 7) mX8_fly [.ref 55, .int x1, .int x2, .int x3, .int x4, .int x5] s (f_X8_fly x1 x2 x3 x4 x5 s) := by
  intro P Q k hP
  show am_WP (d + 7) mX8_fly 0 [(0, .ref 55), (1, .int x1), (2, .int x2), (3, .int x3), (4, .int x4), (5, .int x5)] [] s Q
  unfold f_X8_fly at k
  refine wp_ld (v := .ref 55) dX8_fly_0 rfl rfl rfl rfl ?_
  refine wp_ld (v := .ref 55) dX8_fly_1 rfl rfl rfl rfl ?_
  refine wp_ld (v := .int x1) dX8_fly_2 rfl rfl rfl rfl ?_
  refine c_i dX8_fly_3 rfl rfl rfl (am_inv_v rfl (kk_55 h) rfl rfl rfl) (s_X8_wayFault h) k (fun v2 s1 h k => ?_)
  refine wp_pI dX8_fly_6 rfl rfl rfl (fun h => absurd h (by decide)) (kk_55 h) ?_
  refine wp_ld (v := .ref 55) dX8_fly_9 rfl rfl rfl rfl ?_
  refine wq_gI dX8_fly_10 rfl rfl (kk_55 (sh_sI h)) (v := v2) rfl ?_
  refine wp_if_le dX8_fly_13 rfl (fun c3 => have k := ok_pos c3 k; ?_) (fun c3 => have k := ok_neg c3 k; ?_)
  · refine wp_ld (v := .int x2) dX8_fly_18 rfl rfl rfl rfl ?_
    refine c_i dX8_fly_19 rfl rfl rfl (am_inv_s rfl rfl rfl rfl) (s_X8_isEars (sh_sI h)) k (fun v5 s4 h k => ?_)
    refine jn_rule k (fun J6 hJ6 k => ?_)
    have HJ6 : ∀ (e7 : Unit) (s8 : am_S), am_sh N n s8 → am_ok (J6 e7 s8) P → am_WP (d + 7) mX8_fly 53 [(0, .ref 55)] [] s8 Q := by
      intro e7 s8 h k
      replace k := hJ6 _ _ k
      refine wp_ld (v := .ref 55) dX8_fly_53 rfl rfl rfl rfl ?_
      refine wp_cst (v := .int (3 : Int32)) dX8_fly_54 rfl rfl ?_
      refine c_i dX8_fly_55 rfl rfl rfl (am_inv_v rfl (kk_55 h) rfl rfl rfl) (s_X8_fails h) k (fun v10 s9 h k => ?_)
      exact wp_end dX8_fly_58 rfl (am_end_i rfl) (hP _ _ (ok_s k) h)
    refine wp_if_eq dX8_fly_22 rfl (fun c11 => have k := ok_pos c11 k; ?_) (fun c11 => have k := ok_neg c11 k; ?_)
    · exact wp_sub (HJ6 _ _ h k) rfl ⟨rfl, trivial⟩
    · refine wp_ld (v := .int x3) dX8_fly_25 rfl rfl rfl rfl ?_
      refine c_i dX8_fly_26 rfl rfl rfl (am_inv_s rfl rfl rfl rfl) (s_X8_isSpeed h) k (fun v13 s12 h k => ?_)
      refine wp_if_eq dX8_fly_29 rfl (fun c14 => have k := ok_pos c14 k; ?_) (fun c14 => have k := ok_neg c14 k; ?_)
      · exact wp_sub (HJ6 _ _ h k) rfl ⟨rfl, trivial⟩
      · refine wp_ld (v := .int x4) dX8_fly_32 rfl rfl rfl rfl ?_
        refine c_i dX8_fly_34 rfl rfl rfl (am_inv_s rfl rfl rfl rfl) (s_X8_isSlant h) k (fun v16 s15 h k => ?_)
        refine wp_if_eq dX8_fly_37 rfl (fun c17 => have k := ok_pos c17 k; ?_) (fun c17 => have k := ok_neg c17 k; ?_)
        · exact wp_sub (HJ6 _ _ h k) rfl ⟨rfl, trivial⟩
        · refine wp_ld (v := .int x5) dX8_fly_40 rfl rfl rfl rfl ?_
          refine wp_pu dX8_fly_42 rfl rfl ?_
          refine wp_cst (v := .long (0 : Int64)) dX8_fly_43 rfl rfl ?_
          refine wp_cst (v := .long (5 : Int64)) dX8_fly_44 rfl rfl ?_
          refine c_i dX8_fly_47 rfl rfl rfl (am_inv_s rfl rfl rfl rfl) (s_X8_within h) k (fun v19 s18 h k => ?_)
          refine wp_if_ne dX8_fly_50 rfl (fun c20 => have k := ok_neg c20 k; ?_) (fun c20 => have k := ok_pos c20 k; ?_)
          · refine wp_ld (v := .ref 55) dX8_fly_59 rfl rfl rfl rfl ?_
            refine wp_ld (v := .int x2) dX8_fly_60 rfl rfl rfl rfl ?_
            refine wp_ld (v := .int x3) dX8_fly_61 rfl rfl rfl rfl ?_
            refine wp_ld (v := .int x4) dX8_fly_62 rfl rfl rfl rfl ?_
            refine wp_cst (v := .int (200 : Int32)) dX8_fly_64 rfl rfl ?_
            refine c_u dX8_fly_67 rfl rfl rfl (am_inv_v rfl (kk_55 h) rfl rfl rfl) (s_X8_flies h) k (fun s21 h k => ?_)
            refine wp_ld (v := .int x5) dX8_fly_70 rfl rfl rfl rfl ?_
            by_cases c23 : x5 = (0 : Int32)
            · have k := ok_pos c23 k
              refine sw_hit dX8_fly_72 rfl c23 rfl ?_
              refine wp_ld (v := .ref 55) dX8_fly_108 rfl rfl rfl rfl ?_
              refine wq_gI dX8_fly_109 rfl rfl (kk_55 h) (v := (am_I s21 55 31)) rfl ?_
              exact wp_end dX8_fly_112 rfl (am_end_i rfl) (hP _ _ (ok_s k) h)
            replace k := ok_neg c23 k
            by_cases c24 : x5 = (1 : Int32)
            · have k := ok_pos c24 k
              refine sw_hit dX8_fly_72 rfl c24 rfl ?_
              refine wp_ld (v := .ref 55) dX8_fly_113 rfl rfl rfl rfl ?_
              refine wq_gI dX8_fly_114 rfl rfl (kk_55 h) (v := (am_I s21 55 37)) rfl ?_
              exact wp_end dX8_fly_117 rfl (am_end_i rfl) (hP _ _ (ok_s k) h)
            replace k := ok_neg c24 k
            by_cases c25 : x5 = (2 : Int32)
            · have k := ok_pos c25 k
              refine sw_hit dX8_fly_72 rfl c25 rfl ?_
              refine wp_ld (v := .ref 55) dX8_fly_118 rfl rfl rfl rfl ?_
              refine wq_gI dX8_fly_119 rfl rfl (kk_55 h) (v := (am_I s21 55 38)) rfl ?_
              exact wp_end dX8_fly_122 rfl (am_end_i rfl) (hP _ _ (ok_s k) h)
            replace k := ok_neg c25 k
            by_cases c26 : x5 = (3 : Int32)
            · have k := ok_pos c26 k
              refine sw_hit dX8_fly_72 rfl c26 rfl ?_
              refine wp_ld (v := .ref 55) dX8_fly_123 rfl rfl rfl rfl ?_
              refine wq_gI dX8_fly_124 rfl rfl (kk_55 h) (v := (am_I s21 55 39)) rfl ?_
              exact wp_end dX8_fly_127 rfl (am_end_i rfl) (hP _ _ (ok_s k) h)
            replace k := ok_neg c26 k
            by_cases c27 : x5 = (4 : Int32)
            · have k := ok_pos c27 k
              refine sw_hit dX8_fly_72 rfl c27 rfl ?_
              refine wp_ld (v := .ref 55) dX8_fly_128 rfl rfl rfl rfl ?_
              refine wq_gI dX8_fly_129 rfl rfl (kk_55 h) (v := (am_I s21 55 40)) rfl ?_
              refine wp_mem (st' := .int (am_abs (am_I s21 55 40)) :: []) dX8_fly_132 rfl rfl rfl rfl ?_
              refine wp_cst (v := .int (1024 : Int32)) dX8_fly_135 rfl rfl ?_
              refine wp_div dX8_fly_138 (by decide) ?_
              exact wp_end dX8_fly_139 rfl (am_end_i rfl) (hP _ _ (ok_s k) h)
            replace k := ok_neg c27 k
            refine ts_out dX8_fly_72 rfl (by
                intro j h1 h2
                have hj : j = 0 ∨ j = 1 ∨ j = 2 ∨ j = 3 ∨ j = 4 := by omega
                rcases hj with e | e | e | e | e
                · subst e; exact c23
                · subst e; exact c24
                · subst e; exact c25
                · subst e; exact c26
                · subst e; exact c27
                ) ?_
            refine wp_ld (v := .ref 55) dX8_fly_140 rfl rfl rfl rfl ?_
            refine wq_gI dX8_fly_141 rfl rfl (kk_55 h) (v := (am_I s21 55 41)) rfl ?_
            refine wp_cst (v := .int (20 : Int32)) dX8_fly_144 rfl rfl ?_
            refine wp_ic_lt dX8_fly_146 rfl (fun c28 => have k := ok_pos c28 k; ?_) (fun c28 => have k := ok_neg c28 k; ?_)
            · refine wp_cst (v := .int (-1 : Int32)) dX8_fly_163 rfl rfl ?_
              exact wp_end dX8_fly_164 rfl (am_end_i rfl) (hP _ _ (ok_s k) h)
            · refine wp_ld (v := .ref 55) dX8_fly_149 rfl rfl rfl rfl ?_
              refine wq_gI dX8_fly_150 rfl rfl (kk_55 h) (v := (am_I s21 55 37)) rfl ?_
              refine wp_ld (v := .ref 55) dX8_fly_153 rfl rfl rfl rfl ?_
              refine wq_gI dX8_fly_154 rfl rfl (kk_55 h) (v := (am_I s21 55 41)) rfl ?_
              refine wp_pu dX8_fly_157 rfl rfl ?_
              refine wp_cst (v := .int (1 : Int32)) dX8_fly_158 rfl rfl ?_
              refine wp_pu dX8_fly_159 rfl rfl ?_
              refine wp_goto dX8_fly_160 rfl ?_
              exact wp_end dX8_fly_164 rfl (am_end_i rfl) (hP _ _ (ok_s k) h)
          · exact wp_sub (HJ6 _ _ h k) rfl ⟨rfl, trivial⟩
  · refine wp_cst (v := .int (0 : Int32)) dX8_fly_16 rfl rfl ?_
    exact wp_end dX8_fly_17 rfl (am_end_i rfl) (hP _ _ (ok_s k) (sh_sI h))
noncomputable def f_X8_at (x1 : Int32) (x2 : Int32) (x3 : Int32) (x4 : Int32) (x5 : Int32) (x6 : Int32) (s : am_S) : am_F :=
  am_bi (f_X8_wayFault x1 s) (fun v2 s1 =>
    if v2 ≤ 0 then
      am_bi (f_X8_isEars x2 (am_sI s1 55 3 v2)) (fun v5 s4 =>
        am_jn (fun (e7 : Unit) s8 =>
          am_bi (f_X8_fails (3 : Int32) s8) (fun v10 s9 =>
            some (.inl (some (.int v10)), s9)
          )
        ) (fun J6 =>
          if v5 = 0 then
            J6 () s4
          else
            am_bi (f_X8_isSpeed x3 s4) (fun v13 s12 =>
              if v13 = 0 then
                J6 () s12
              else
                am_bi (f_X8_isSlant x4 s12) (fun v16 s15 =>
                  if v16 = 0 then
                    J6 () s15
                  else
                    am_bi (f_X8_within x5.toInt64 (0 : Int64) (200 : Int64) s15) (fun v19 s18 =>
                      if v19 = 0 then
                        J6 () s18
                      else
                        am_bi (f_X8_within x6.toInt64 (0 : Int64) (5 : Int64) s18) (fun v22 s21 =>
                          if v22 = 0 then
                            J6 () s21
                          else
                            am_bu (f_X8_flies x2 x3 x4 x5 s21) (fun s24 =>
                              if x6 = 0 then
                                some (.inl (some (.int (am_I s24 55 31))), s24)
                              else
                                if x6 = (1 : Int32) then
                                  some (.inl (some (.int (am_I s24 55 32))), s24)
                                else
                                  if x6 = (2 : Int32) then
                                    some (.inl (some (.int (am_I s24 55 33))), s24)
                                  else
                                    if x6 = (3 : Int32) then
                                      some (.inl (some (.int (am_I s24 55 34))), s24)
                                    else
                                      if x6 = (4 : Int32) then
                                        some (.inl (some (.int (am_I s24 55 35))), s24)
                                      else
                                        some (.inl (some (.int (am_I s24 55 36))), s24)
                            )
                        )
                    )
                )
            )
        )
      )
    else
      some (.inl (some (.int (0 : Int32))), (am_sI s1 55 3 v2))
  )
theorem s_X8_at {N n : Nat} {d : Nat} {x1 : Int32} {x2 : Int32} {x3 : Int32} {x4 : Int32} {x5 : Int32} {x6 : Int32} {s : am_S} (h : am_sh N n s)  : am_S1 (am_sh N n) (d + 7) mX8_at [.ref 55, .int x1, .int x2, .int x3, .int x4, .int x5, .int x6] s (f_X8_at x1 x2 x3 x4 x5 x6 s) := by
  intro P Q k hP
  show am_WP (d + 7) mX8_at 0 [(0, .ref 55), (1, .int x1), (2, .int x2), (3, .int x3), (4, .int x4), (5, .int x5), (6, .int x6)] [] s Q
  unfold f_X8_at at k
  refine wp_ld (v := .ref 55) dX8_at_0 rfl rfl rfl rfl ?_
  refine wp_ld (v := .ref 55) dX8_at_1 rfl rfl rfl rfl ?_
  refine wp_ld (v := .int x1) dX8_at_2 rfl rfl rfl rfl ?_
  refine c_i dX8_at_3 rfl rfl rfl (am_inv_v rfl (kk_55 h) rfl rfl rfl) (s_X8_wayFault h) k (fun v2 s1 h k => ?_)
  refine wp_pI dX8_at_6 rfl rfl rfl (fun h => absurd h (by decide)) (kk_55 h) ?_
  refine wp_ld (v := .ref 55) dX8_at_9 rfl rfl rfl rfl ?_
  refine wq_gI dX8_at_10 rfl rfl (kk_55 (sh_sI h)) (v := v2) rfl ?_
  refine wp_if_le dX8_at_13 rfl (fun c3 => have k := ok_pos c3 k; ?_) (fun c3 => have k := ok_neg c3 k; ?_)
  · refine wp_ld (v := .int x2) dX8_at_18 rfl rfl rfl rfl ?_
    refine c_i dX8_at_19 rfl rfl rfl (am_inv_s rfl rfl rfl rfl) (s_X8_isEars (sh_sI h)) k (fun v5 s4 h k => ?_)
    refine jn_rule k (fun J6 hJ6 k => ?_)
    have HJ6 : ∀ (e7 : Unit) (s8 : am_S), am_sh N n s8 → am_ok (J6 e7 s8) P → am_WP (d + 7) mX8_at 66 [(0, .ref 55)] [] s8 Q := by
      intro e7 s8 h k
      replace k := hJ6 _ _ k
      refine wp_ld (v := .ref 55) dX8_at_66 rfl rfl rfl rfl ?_
      refine wp_cst (v := .int (3 : Int32)) dX8_at_67 rfl rfl ?_
      refine c_i dX8_at_68 rfl rfl rfl (am_inv_v rfl (kk_55 h) rfl rfl rfl) (s_X8_fails h) k (fun v10 s9 h k => ?_)
      exact wp_end dX8_at_71 rfl (am_end_i rfl) (hP _ _ (ok_s k) h)
    refine wp_if_eq dX8_at_22 rfl (fun c11 => have k := ok_pos c11 k; ?_) (fun c11 => have k := ok_neg c11 k; ?_)
    · exact wp_sub (HJ6 _ _ h k) rfl ⟨rfl, trivial⟩
    · refine wp_ld (v := .int x3) dX8_at_25 rfl rfl rfl rfl ?_
      refine c_i dX8_at_26 rfl rfl rfl (am_inv_s rfl rfl rfl rfl) (s_X8_isSpeed h) k (fun v13 s12 h k => ?_)
      refine wp_if_eq dX8_at_29 rfl (fun c14 => have k := ok_pos c14 k; ?_) (fun c14 => have k := ok_neg c14 k; ?_)
      · exact wp_sub (HJ6 _ _ h k) rfl ⟨rfl, trivial⟩
      · refine wp_ld (v := .int x4) dX8_at_32 rfl rfl rfl rfl ?_
        refine c_i dX8_at_34 rfl rfl rfl (am_inv_s rfl rfl rfl rfl) (s_X8_isSlant h) k (fun v16 s15 h k => ?_)
        refine wp_if_eq dX8_at_37 rfl (fun c17 => have k := ok_pos c17 k; ?_) (fun c17 => have k := ok_neg c17 k; ?_)
        · exact wp_sub (HJ6 _ _ h k) rfl ⟨rfl, trivial⟩
        · refine wp_ld (v := .int x5) dX8_at_40 rfl rfl rfl rfl ?_
          refine wp_pu dX8_at_42 rfl rfl ?_
          refine wp_cst (v := .long (0 : Int64)) dX8_at_43 rfl rfl ?_
          refine wp_cst (v := .long (200 : Int64)) dX8_at_44 rfl rfl ?_
          refine c_i dX8_at_47 rfl rfl rfl (am_inv_s rfl rfl rfl rfl) (s_X8_within h) k (fun v19 s18 h k => ?_)
          refine wp_if_eq dX8_at_50 rfl (fun c20 => have k := ok_pos c20 k; ?_) (fun c20 => have k := ok_neg c20 k; ?_)
          · exact wp_sub (HJ6 _ _ h k) rfl ⟨rfl, trivial⟩
          · refine wp_ld (v := .int x6) dX8_at_53 rfl rfl rfl rfl ?_
            refine wp_pu dX8_at_55 rfl rfl ?_
            refine wp_cst (v := .long (0 : Int64)) dX8_at_56 rfl rfl ?_
            refine wp_cst (v := .long (5 : Int64)) dX8_at_57 rfl rfl ?_
            refine c_i dX8_at_60 rfl rfl rfl (am_inv_s rfl rfl rfl rfl) (s_X8_within h) k (fun v22 s21 h k => ?_)
            refine wp_if_ne dX8_at_63 rfl (fun c23 => have k := ok_neg c23 k; ?_) (fun c23 => have k := ok_pos c23 k; ?_)
            · refine wp_ld (v := .ref 55) dX8_at_72 rfl rfl rfl rfl ?_
              refine wp_ld (v := .int x2) dX8_at_73 rfl rfl rfl rfl ?_
              refine wp_ld (v := .int x3) dX8_at_74 rfl rfl rfl rfl ?_
              refine wp_ld (v := .int x4) dX8_at_75 rfl rfl rfl rfl ?_
              refine wp_ld (v := .int x5) dX8_at_77 rfl rfl rfl rfl ?_
              refine c_u dX8_at_79 rfl rfl rfl (am_inv_v rfl (kk_55 h) rfl rfl rfl) (s_X8_flies h) k (fun s24 h k => ?_)
              refine wp_ld (v := .int x6) dX8_at_82 rfl rfl rfl rfl ?_
              refine wp_if_ne dX8_at_84 rfl (fun c26 => have k := ok_neg c26 k; ?_) (fun c26 => have k := ok_pos c26 k; ?_)
              · refine wp_ld (v := .int x6) dX8_at_94 rfl rfl rfl rfl ?_
                refine wp_cst (v := .int (1 : Int32)) dX8_at_96 rfl rfl ?_
                refine wp_ic_ne dX8_at_97 rfl (fun c27 => have k := ok_neg c27 k; ?_) (fun c27 => have k := ok_pos c27 k; ?_)
                · refine wp_ld (v := .int x6) dX8_at_107 rfl rfl rfl rfl ?_
                  refine wp_cst (v := .int (2 : Int32)) dX8_at_109 rfl rfl ?_
                  refine wp_ic_ne dX8_at_110 rfl (fun c28 => have k := ok_neg c28 k; ?_) (fun c28 => have k := ok_pos c28 k; ?_)
                  · refine wp_ld (v := .int x6) dX8_at_120 rfl rfl rfl rfl ?_
                    refine wp_cst (v := .int (3 : Int32)) dX8_at_122 rfl rfl ?_
                    refine wp_ic_ne dX8_at_123 rfl (fun c29 => have k := ok_neg c29 k; ?_) (fun c29 => have k := ok_pos c29 k; ?_)
                    · refine wp_ld (v := .int x6) dX8_at_133 rfl rfl rfl rfl ?_
                      refine wp_cst (v := .int (4 : Int32)) dX8_at_135 rfl rfl ?_
                      refine wp_ic_ne dX8_at_136 rfl (fun c30 => have k := ok_neg c30 k; ?_) (fun c30 => have k := ok_pos c30 k; ?_)
                      · refine wp_ld (v := .ref 55) dX8_at_146 rfl rfl rfl rfl ?_
                        refine wq_gI dX8_at_147 rfl rfl (kk_55 h) (v := (am_I s24 55 36)) rfl ?_
                        exact wp_end dX8_at_150 rfl (am_end_i rfl) (hP _ _ (ok_s k) h)
                      · refine wp_ld (v := .ref 55) dX8_at_139 rfl rfl rfl rfl ?_
                        refine wq_gI dX8_at_140 rfl rfl (kk_55 h) (v := (am_I s24 55 35)) rfl ?_
                        refine wp_goto dX8_at_143 rfl ?_
                        exact wp_end dX8_at_150 rfl (am_end_i rfl) (hP _ _ (ok_s k) h)
                    · refine wp_ld (v := .ref 55) dX8_at_126 rfl rfl rfl rfl ?_
                      refine wq_gI dX8_at_127 rfl rfl (kk_55 h) (v := (am_I s24 55 34)) rfl ?_
                      refine wp_goto dX8_at_130 rfl ?_
                      exact wp_end dX8_at_150 rfl (am_end_i rfl) (hP _ _ (ok_s k) h)
                  · refine wp_ld (v := .ref 55) dX8_at_113 rfl rfl rfl rfl ?_
                    refine wq_gI dX8_at_114 rfl rfl (kk_55 h) (v := (am_I s24 55 33)) rfl ?_
                    refine wp_goto dX8_at_117 rfl ?_
                    exact wp_end dX8_at_150 rfl (am_end_i rfl) (hP _ _ (ok_s k) h)
                · refine wp_ld (v := .ref 55) dX8_at_100 rfl rfl rfl rfl ?_
                  refine wq_gI dX8_at_101 rfl rfl (kk_55 h) (v := (am_I s24 55 32)) rfl ?_
                  refine wp_goto dX8_at_104 rfl ?_
                  exact wp_end dX8_at_150 rfl (am_end_i rfl) (hP _ _ (ok_s k) h)
              · refine wp_ld (v := .ref 55) dX8_at_87 rfl rfl rfl rfl ?_
                refine wq_gI dX8_at_88 rfl rfl (kk_55 h) (v := (am_I s24 55 31)) rfl ?_
                refine wp_goto dX8_at_91 rfl ?_
                exact wp_end dX8_at_150 rfl (am_end_i rfl) (hP _ _ (ok_s k) h)
            · exact wp_sub (HJ6 _ _ h k) rfl ⟨rfl, trivial⟩
  · refine wp_cst (v := .int (0 : Int32)) dX8_at_16 rfl rfl ?_
    exact wp_end dX8_at_17 rfl (am_end_i rfl) (hP _ _ (ok_s k) (sh_sI h))
noncomputable def f_X8_draught (x1 : Int32) (x2 : Int32) (x3 : Int32) (s : am_S) : am_F :=
  am_bi (f_X8_within x1.toInt64 (1 : Int64) (200 : Int64) (am_sI s 55 3 (0 : Int32))) (fun v2 s1 =>
    am_jn (fun (e4 : Unit) s5 =>
      am_bi (f_X8_fails (1 : Int32) s5) (fun v7 s6 =>
        some (.inl (some (.int v7)), s6)
      )
    ) (fun J3 =>
      if v2 = 0 then
        J3 () s1
      else
        am_bi (f_X8_within x2.toInt64 x1.toInt64 (200 : Int64) s1) (fun v10 s9 =>
          if v10 = 0 then
            J3 () s9
          else
            am_bi (f_X8_within x3.toInt64 (-20 : Int64) (20 : Int64) s9) (fun v13 s12 =>
              if v13 = 0 then
                J3 () s12
              else
                if (am_I s12 56 4) = (4 : Int32) then
                  some (.inl (some (.int (-1 : Int32))), s12)
                else
                  if am_in ((234 : Int32) + ((3 : Int32) * (am_I s12 56 4))) 264 = true then
                    if am_in (((234 : Int32) + ((3 : Int32) * (am_I s12 56 4))) + (1 : Int32)) 264 = true then
                      if am_in (((234 : Int32) + ((3 : Int32) * (am_I s12 56 4))) + (2 : Int32)) 264 = true then
                        ax_le ((am_I (am_sI (am_sI (am_sI s12 56 (((234 : Int32) + ((3 : Int32) * (am_I s12 56 4))).toNatClampNeg) x1) 56 ((((234 : Int32) + ((3 : Int32) * (am_I s12 56 4))) + (1 : Int32)).toNatClampNeg) x2) 56 ((((234 : Int32) + ((3 : Int32) * (am_I s12 56 4))) + (2 : Int32)).toNatClampNeg) x3) 56 4) + (1 : Int32)) (fun y19 =>
                          some (.inl (some (.int (y19 - (1 : Int32)))), (am_sI (am_sI (am_sI (am_sI s12 56 (((234 : Int32) + ((3 : Int32) * (am_I s12 56 4))).toNatClampNeg) x1) 56 ((((234 : Int32) + ((3 : Int32) * (am_I s12 56 4))) + (1 : Int32)).toNatClampNeg) x2) 56 ((((234 : Int32) + ((3 : Int32) * (am_I s12 56 4))) + (2 : Int32)).toNatClampNeg) x3) 56 4 y19))
                        )
                      else none
                    else none
                  else none
            )
        )
    )
  )
theorem s_X8_draught {N n : Nat} {d : Nat} {x1 : Int32} {x2 : Int32} {x3 : Int32} {s : am_S} (h : am_sh N n s)  : am_S1 (am_sh N n) (d + 1) mX8_draught [.ref 55, .int x1, .int x2, .int x3] s (f_X8_draught x1 x2 x3 s) := by
  intro P Q k hP
  show am_WP (d + 1) mX8_draught 0 [(0, .ref 55), (1, .int x1), (2, .int x2), (3, .int x3)] [] s Q
  unfold f_X8_draught at k
  refine wp_ld (v := .ref 55) dX8_draught_0 rfl rfl rfl rfl ?_
  refine wp_cst (v := .int (0 : Int32)) dX8_draught_1 rfl rfl ?_
  refine wp_pI dX8_draught_2 rfl rfl rfl (fun h => absurd h (by decide)) (kk_55 h) ?_
  refine wp_ld (v := .int x1) dX8_draught_5 rfl rfl rfl rfl ?_
  refine wp_pu dX8_draught_6 rfl rfl ?_
  refine wp_cst (v := .long (1 : Int64)) dX8_draught_7 rfl rfl ?_
  refine wp_cst (v := .long (200 : Int64)) dX8_draught_8 rfl rfl ?_
  refine c_i dX8_draught_11 rfl rfl rfl (am_inv_s rfl rfl rfl rfl) (s_X8_within (sh_sI h)) k (fun v2 s1 h k => ?_)
  refine jn_rule k (fun J3 hJ3 k => ?_)
  have HJ3 : ∀ (e4 : Unit) (s5 : am_S), am_sh N n s5 → am_ok (J3 e4 s5) P → am_WP (d + 1) mX8_draught 44 [(0, .ref 55)] [] s5 Q := by
    intro e4 s5 h k
    replace k := hJ3 _ _ k
    refine wp_ld (v := .ref 55) dX8_draught_44 rfl rfl rfl rfl ?_
    refine wp_cst (v := .int (1 : Int32)) dX8_draught_45 rfl rfl ?_
    refine c_i dX8_draught_46 rfl rfl rfl (am_inv_v rfl (kk_55 h) rfl rfl rfl) (s_X8_fails h) k (fun v7 s6 h k => ?_)
    exact wp_end dX8_draught_49 rfl (am_end_i rfl) (hP _ _ (ok_s k) h)
  refine wp_if_eq dX8_draught_14 rfl (fun c8 => have k := ok_pos c8 k; ?_) (fun c8 => have k := ok_neg c8 k; ?_)
  · exact wp_sub (HJ3 _ _ h k) rfl ⟨rfl, trivial⟩
  · refine wp_ld (v := .int x2) dX8_draught_17 rfl rfl rfl rfl ?_
    refine wp_pu dX8_draught_18 rfl rfl ?_
    refine wp_ld (v := .int x1) dX8_draught_19 rfl rfl rfl rfl ?_
    refine wp_pu dX8_draught_20 rfl rfl ?_
    refine wp_cst (v := .long (200 : Int64)) dX8_draught_21 rfl rfl ?_
    refine c_i dX8_draught_24 rfl rfl rfl (am_inv_s rfl rfl rfl rfl) (s_X8_within h) k (fun v10 s9 h k => ?_)
    refine wp_if_eq dX8_draught_27 rfl (fun c11 => have k := ok_pos c11 k; ?_) (fun c11 => have k := ok_neg c11 k; ?_)
    · exact wp_sub (HJ3 _ _ h k) rfl ⟨rfl, trivial⟩
    · refine wp_ld (v := .int x3) dX8_draught_30 rfl rfl rfl rfl ?_
      refine wp_pu dX8_draught_31 rfl rfl ?_
      refine wp_cst (v := .long (-20 : Int64)) dX8_draught_32 rfl rfl ?_
      refine wp_cst (v := .long (20 : Int64)) dX8_draught_35 rfl rfl ?_
      refine c_i dX8_draught_38 rfl rfl rfl (am_inv_s rfl rfl rfl rfl) (s_X8_within h) k (fun v13 s12 h k => ?_)
      refine wp_if_ne dX8_draught_41 rfl (fun c14 => have k := ok_neg c14 k; ?_) (fun c14 => have k := ok_pos c14 k; ?_)
      · refine wp_ld (v := .ref 55) dX8_draught_50 rfl rfl rfl rfl ?_
        refine wp_gr dX8_draught_51 rfl rfl (kk_55 h) (rr_55_0 h) ?_
        refine wp_cst (v := .int (4 : Int32)) dX8_draught_54 rfl rfl ?_
        refine wq_iald dX8_draught_55 (kk_56 h) (by decide) (v := (am_I s12 56 4)) rfl ?_
        refine wp_cst (v := .int (4 : Int32)) dX8_draught_56 rfl rfl ?_
        refine wp_ic_ne dX8_draught_57 rfl (fun c15 => have k := ok_neg c15 k; ?_) (fun c15 => have k := ok_pos c15 k; ?_)
        · refine wp_cst (v := .int (234 : Int32)) dX8_draught_62 rfl rfl ?_
          refine wp_cst (v := .int (3 : Int32)) dX8_draught_65 rfl rfl ?_
          refine wp_ld (v := .ref 55) dX8_draught_66 rfl rfl rfl rfl ?_
          refine wp_gr dX8_draught_67 rfl rfl (kk_55 h) (rr_55_0 h) ?_
          refine wp_cst (v := .int (4 : Int32)) dX8_draught_70 rfl rfl ?_
          refine wq_iald dX8_draught_71 (kk_56 h) (by decide) (v := (am_I s12 56 4)) rfl ?_
          refine wp_pu dX8_draught_72 rfl rfl ?_
          refine wp_pu dX8_draught_73 rfl rfl ?_
          refine wp_st (ls' := [(0, .ref 55), (1, .int x1), (2, .int x2), (3, .int x3), (4, .int ((234 : Int32) + ((3 : Int32) * (am_I s12 56 4))))]) dX8_draught_74 rfl rfl rfl (Nat.le_of_ble_eq_true rfl) rfl ?_
          refine wp_ld (v := .ref 55) dX8_draught_76 rfl rfl rfl rfl ?_
          refine wp_gr dX8_draught_77 rfl rfl (kk_55 h) (rr_55_0 h) ?_
          show am_WP (d + 1) mX8_draught 80 _ _ _ Q
          refine wp_ld (v := .int ((234 : Int32) + ((3 : Int32) * (am_I s12 56 4)))) dX8_draught_80 rfl rfl rfl rfl ?_
          refine wp_ld (v := .int x1) dX8_draught_82 rfl rfl rfl rfl ?_
          obtain ⟨g16, k⟩ := ok_g k
          refine wq_iast dX8_draught_83 (kk_56 h) g16 (j := (((234 : Int32) + ((3 : Int32) * (am_I s12 56 4))).toNatClampNeg)) rfl ?_
          refine wp_ld (v := .ref 55) dX8_draught_84 rfl rfl rfl rfl ?_
          refine wp_gr dX8_draught_85 rfl rfl (kk_55 (sh_sI h)) (rr_55_0 (sh_sI h)) ?_
          refine wp_ld (v := .int ((234 : Int32) + ((3 : Int32) * (am_I s12 56 4)))) dX8_draught_88 rfl rfl rfl rfl ?_
          refine wp_cst (v := .int (1 : Int32)) dX8_draught_90 rfl rfl ?_
          refine wp_pu dX8_draught_91 rfl rfl ?_
          refine wp_ld (v := .int x2) dX8_draught_92 rfl rfl rfl rfl ?_
          obtain ⟨g17, k⟩ := ok_g k
          refine wq_iast dX8_draught_93 (kk_56 (sh_sI h)) g17 (j := ((((234 : Int32) + ((3 : Int32) * (am_I s12 56 4))) + (1 : Int32)).toNatClampNeg)) rfl ?_
          refine wp_ld (v := .ref 55) dX8_draught_94 rfl rfl rfl rfl ?_
          refine wp_gr dX8_draught_95 rfl rfl (kk_55 (sh_sI (sh_sI h))) (rr_55_0 (sh_sI (sh_sI h))) ?_
          show am_WP (d + 1) mX8_draught 98 _ _ _ Q
          refine wp_ld (v := .int ((234 : Int32) + ((3 : Int32) * (am_I s12 56 4)))) dX8_draught_98 rfl rfl rfl rfl ?_
          refine wp_cst (v := .int (2 : Int32)) dX8_draught_100 rfl rfl ?_
          refine wp_pu dX8_draught_101 rfl rfl ?_
          refine wp_ld (v := .int x3) dX8_draught_102 rfl rfl rfl rfl ?_
          obtain ⟨g18, k⟩ := ok_g k
          refine wq_iast dX8_draught_103 (kk_56 (sh_sI (sh_sI h))) g18 (j := ((((234 : Int32) + ((3 : Int32) * (am_I s12 56 4))) + (2 : Int32)).toNatClampNeg)) rfl ?_
          refine wp_ld (v := .ref 55) dX8_draught_104 rfl rfl rfl rfl ?_
          refine wp_gr dX8_draught_105 rfl rfl (kk_55 (sh_sI (sh_sI (sh_sI h)))) (rr_55_0 (sh_sI (sh_sI (sh_sI h)))) ?_
          refine wp_cst (v := .int (4 : Int32)) dX8_draught_108 rfl rfl ?_
          refine wp_pu dX8_draught_109 rfl rfl ?_
          refine wq_iald dX8_draught_110 (kk_56 (sh_sI (sh_sI (sh_sI h)))) (by decide) (v := (am_I (am_sI (am_sI (am_sI s12 56 (((234 : Int32) + ((3 : Int32) * (am_I s12 56 4))).toNatClampNeg) x1) 56 ((((234 : Int32) + ((3 : Int32) * (am_I s12 56 4))) + (1 : Int32)).toNatClampNeg) x2) 56 ((((234 : Int32) + ((3 : Int32) * (am_I s12 56 4))) + (2 : Int32)).toNatClampNeg) x3) 56 4)) rfl ?_
          refine wp_cst (v := .int (1 : Int32)) dX8_draught_111 rfl rfl ?_
          refine wp_pu dX8_draught_112 rfl rfl ?_
          show am_WP (d + 1) mX8_draught 113 _ _ _ Q
          refine ls_i k (fun y19 _ k => ?_)
          refine wq_iast dX8_draught_113 (kk_56 (sh_sI (sh_sI (sh_sI h)))) (by decide) (j := 4) rfl ?_
          refine wp_ld (v := .ref 55) dX8_draught_114 rfl rfl rfl rfl ?_
          refine wp_gr dX8_draught_115 rfl rfl (kk_55 (sh_sI (sh_sI (sh_sI (sh_sI h))))) (rr_55_0 (sh_sI (sh_sI (sh_sI (sh_sI h))))) ?_
          refine wp_cst (v := .int (4 : Int32)) dX8_draught_118 rfl rfl ?_
          refine wq_iald dX8_draught_119 (kk_56 (sh_sI (sh_sI (sh_sI (sh_sI h))))) (by decide) (v := y19) rfl ?_
          refine wp_cst (v := .int (1 : Int32)) dX8_draught_120 rfl rfl ?_
          refine wp_pu dX8_draught_121 rfl rfl ?_
          exact wp_end dX8_draught_122 rfl (am_end_i rfl) (hP _ _ (ok_s k) (sh_sI (sh_sI (sh_sI (sh_sI h)))))
        · refine wp_cst (v := .int (-1 : Int32)) dX8_draught_60 rfl rfl ?_
          exact wp_end dX8_draught_61 rfl (am_end_i rfl) (hP _ _ (ok_s k) h)
      · exact wp_sub (HJ3 _ _ h k) rfl ⟨rfl, trivial⟩
noncomputable def f_X8_crate (x1 : Int32) (x2 : Int32) (s : am_S) : am_F :=
  am_bi (f_X8_within x1.toInt64 (1 : Int64) (99999 : Int64) (am_sI s 55 3 (0 : Int32))) (fun v2 s1 =>
    am_jn (fun (e4 : Unit) s5 =>
      am_bi (f_X8_fails (1 : Int32) s5) (fun v7 s6 =>
        some (.inl (some (.int v7)), s6)
      )
    ) (fun J3 =>
      if v2 = 0 then
        J3 () s1
      else
        am_bi (f_X8_within x2.toInt64 (1 : Int64) (9999 : Int64) s1) (fun v10 s9 =>
          if v10 = 0 then
            J3 () s9
          else
            if (am_I s9 56 5) = (3 : Int32) then
              some (.inl (some (.int (-1 : Int32))), s9)
            else
              if am_in ((246 : Int32) + ((2 : Int32) * (am_I s9 56 5))) 264 = true then
                if am_in (((246 : Int32) + ((2 : Int32) * (am_I (am_sI s9 56 (((246 : Int32) + ((2 : Int32) * (am_I s9 56 5))).toNatClampNeg) x1) 56 5))) + (1 : Int32)) 264 = true then
                  ax_le ((am_I (am_sI (am_sI s9 56 (((246 : Int32) + ((2 : Int32) * (am_I s9 56 5))).toNatClampNeg) x1) 56 ((((246 : Int32) + ((2 : Int32) * (am_I (am_sI s9 56 (((246 : Int32) + ((2 : Int32) * (am_I s9 56 5))).toNatClampNeg) x1) 56 5))) + (1 : Int32)).toNatClampNeg) x2) 56 5) + (1 : Int32)) (fun y15 =>
                    some (.inl (some (.int (y15 - (1 : Int32)))), (am_sI (am_sI (am_sI s9 56 (((246 : Int32) + ((2 : Int32) * (am_I s9 56 5))).toNatClampNeg) x1) 56 ((((246 : Int32) + ((2 : Int32) * (am_I (am_sI s9 56 (((246 : Int32) + ((2 : Int32) * (am_I s9 56 5))).toNatClampNeg) x1) 56 5))) + (1 : Int32)).toNatClampNeg) x2) 56 5 y15))
                  )
                else none
              else none
        )
    )
  )
theorem s_X8_crate {N n : Nat} {d : Nat} {x1 : Int32} {x2 : Int32} {s : am_S} (h : am_sh N n s)  : am_S1 (am_sh N n) (d + 1) mX8_crate [.ref 55, .int x1, .int x2] s (f_X8_crate x1 x2 s) := by
  intro P Q k hP
  show am_WP (d + 1) mX8_crate 0 [(0, .ref 55), (1, .int x1), (2, .int x2)] [] s Q
  unfold f_X8_crate at k
  refine wp_ld (v := .ref 55) dX8_crate_0 rfl rfl rfl rfl ?_
  refine wp_cst (v := .int (0 : Int32)) dX8_crate_1 rfl rfl ?_
  refine wp_pI dX8_crate_2 rfl rfl rfl (fun h => absurd h (by decide)) (kk_55 h) ?_
  refine wp_ld (v := .int x1) dX8_crate_5 rfl rfl rfl rfl ?_
  refine wp_pu dX8_crate_6 rfl rfl ?_
  refine wp_cst (v := .long (1 : Int64)) dX8_crate_7 rfl rfl ?_
  refine wp_cst (v := .long (99999 : Int64)) dX8_crate_8 rfl rfl ?_
  refine c_i dX8_crate_11 rfl rfl rfl (am_inv_s rfl rfl rfl rfl) (s_X8_within (sh_sI h)) k (fun v2 s1 h k => ?_)
  refine jn_rule k (fun J3 hJ3 k => ?_)
  have HJ3 : ∀ (e4 : Unit) (s5 : am_S), am_sh N n s5 → am_ok (J3 e4 s5) P → am_WP (d + 1) mX8_crate 29 [(0, .ref 55)] [] s5 Q := by
    intro e4 s5 h k
    replace k := hJ3 _ _ k
    refine wp_ld (v := .ref 55) dX8_crate_29 rfl rfl rfl rfl ?_
    refine wp_cst (v := .int (1 : Int32)) dX8_crate_30 rfl rfl ?_
    refine c_i dX8_crate_31 rfl rfl rfl (am_inv_v rfl (kk_55 h) rfl rfl rfl) (s_X8_fails h) k (fun v7 s6 h k => ?_)
    exact wp_end dX8_crate_34 rfl (am_end_i rfl) (hP _ _ (ok_s k) h)
  refine wp_if_eq dX8_crate_14 rfl (fun c8 => have k := ok_pos c8 k; ?_) (fun c8 => have k := ok_neg c8 k; ?_)
  · exact wp_sub (HJ3 _ _ h k) rfl ⟨rfl, trivial⟩
  · refine wp_ld (v := .int x2) dX8_crate_17 rfl rfl rfl rfl ?_
    refine wp_pu dX8_crate_18 rfl rfl ?_
    refine wp_cst (v := .long (1 : Int64)) dX8_crate_19 rfl rfl ?_
    refine wp_cst (v := .long (9999 : Int64)) dX8_crate_20 rfl rfl ?_
    refine c_i dX8_crate_23 rfl rfl rfl (am_inv_s rfl rfl rfl rfl) (s_X8_within h) k (fun v10 s9 h k => ?_)
    refine wp_if_ne dX8_crate_26 rfl (fun c11 => have k := ok_neg c11 k; ?_) (fun c11 => have k := ok_pos c11 k; ?_)
    · refine wp_ld (v := .ref 55) dX8_crate_35 rfl rfl rfl rfl ?_
      refine wp_gr dX8_crate_36 rfl rfl (kk_55 h) (rr_55_0 h) ?_
      refine wp_cst (v := .int (5 : Int32)) dX8_crate_39 rfl rfl ?_
      refine wq_iald dX8_crate_40 (kk_56 h) (by decide) (v := (am_I s9 56 5)) rfl ?_
      refine wp_cst (v := .int (3 : Int32)) dX8_crate_41 rfl rfl ?_
      refine wp_ic_ne dX8_crate_42 rfl (fun c12 => have k := ok_neg c12 k; ?_) (fun c12 => have k := ok_pos c12 k; ?_)
      · refine wp_ld (v := .ref 55) dX8_crate_47 rfl rfl rfl rfl ?_
        refine wp_gr dX8_crate_48 rfl rfl (kk_55 h) (rr_55_0 h) ?_
        refine wp_cst (v := .int (246 : Int32)) dX8_crate_51 rfl rfl ?_
        refine wp_cst (v := .int (2 : Int32)) dX8_crate_54 rfl rfl ?_
        refine wp_ld (v := .ref 55) dX8_crate_55 rfl rfl rfl rfl ?_
        refine wp_gr dX8_crate_56 rfl rfl (kk_55 h) (rr_55_0 h) ?_
        refine wp_cst (v := .int (5 : Int32)) dX8_crate_59 rfl rfl ?_
        refine wq_iald dX8_crate_60 (kk_56 h) (by decide) (v := (am_I s9 56 5)) rfl ?_
        refine wp_pu dX8_crate_61 rfl rfl ?_
        refine wp_pu dX8_crate_62 rfl rfl ?_
        refine wp_ld (v := .int x1) dX8_crate_63 rfl rfl rfl rfl ?_
        show am_WP (d + 1) mX8_crate 64 _ _ _ Q
        obtain ⟨g13, k⟩ := ok_g k
        refine wq_iast dX8_crate_64 (kk_56 h) g13 (j := (((246 : Int32) + ((2 : Int32) * (am_I s9 56 5))).toNatClampNeg)) rfl ?_
        refine wp_ld (v := .ref 55) dX8_crate_65 rfl rfl rfl rfl ?_
        refine wp_gr dX8_crate_66 rfl rfl (kk_55 (sh_sI h)) (rr_55_0 (sh_sI h)) ?_
        refine wp_cst (v := .int (246 : Int32)) dX8_crate_69 rfl rfl ?_
        refine wp_cst (v := .int (2 : Int32)) dX8_crate_72 rfl rfl ?_
        refine wp_ld (v := .ref 55) dX8_crate_73 rfl rfl rfl rfl ?_
        refine wp_gr dX8_crate_74 rfl rfl (kk_55 (sh_sI h)) (rr_55_0 (sh_sI h)) ?_
        refine wp_cst (v := .int (5 : Int32)) dX8_crate_77 rfl rfl ?_
        refine wq_iald dX8_crate_78 (kk_56 (sh_sI h)) (by decide) (v := (am_I (am_sI s9 56 (((246 : Int32) + ((2 : Int32) * (am_I s9 56 5))).toNatClampNeg) x1) 56 5)) rfl ?_
        refine wp_pu dX8_crate_79 rfl rfl ?_
        refine wp_pu dX8_crate_80 rfl rfl ?_
        refine wp_cst (v := .int (1 : Int32)) dX8_crate_81 rfl rfl ?_
        show am_WP (d + 1) mX8_crate 82 _ _ _ Q
        refine wp_pu dX8_crate_82 rfl rfl ?_
        refine wp_ld (v := .int x2) dX8_crate_83 rfl rfl rfl rfl ?_
        obtain ⟨g14, k⟩ := ok_g k
        refine wq_iast dX8_crate_84 (kk_56 (sh_sI h)) g14 (j := ((((246 : Int32) + ((2 : Int32) * (am_I (am_sI s9 56 (((246 : Int32) + ((2 : Int32) * (am_I s9 56 5))).toNatClampNeg) x1) 56 5))) + (1 : Int32)).toNatClampNeg)) rfl ?_
        refine wp_ld (v := .ref 55) dX8_crate_85 rfl rfl rfl rfl ?_
        refine wp_gr dX8_crate_86 rfl rfl (kk_55 (sh_sI (sh_sI h))) (rr_55_0 (sh_sI (sh_sI h))) ?_
        refine wp_cst (v := .int (5 : Int32)) dX8_crate_89 rfl rfl ?_
        refine wp_pu dX8_crate_90 rfl rfl ?_
        refine wq_iald dX8_crate_91 (kk_56 (sh_sI (sh_sI h))) (by decide) (v := (am_I (am_sI (am_sI s9 56 (((246 : Int32) + ((2 : Int32) * (am_I s9 56 5))).toNatClampNeg) x1) 56 ((((246 : Int32) + ((2 : Int32) * (am_I (am_sI s9 56 (((246 : Int32) + ((2 : Int32) * (am_I s9 56 5))).toNatClampNeg) x1) 56 5))) + (1 : Int32)).toNatClampNeg) x2) 56 5)) rfl ?_
        refine wp_cst (v := .int (1 : Int32)) dX8_crate_92 rfl rfl ?_
        refine wp_pu dX8_crate_93 rfl rfl ?_
        refine ls_i k (fun y15 _ k => ?_)
        refine wq_iast dX8_crate_94 (kk_56 (sh_sI (sh_sI h))) (by decide) (j := 5) rfl ?_
        refine wp_ld (v := .ref 55) dX8_crate_95 rfl rfl rfl rfl ?_
        show am_WP (d + 1) mX8_crate 96 _ _ _ Q
        refine wp_gr dX8_crate_96 rfl rfl (kk_55 (sh_sI (sh_sI (sh_sI h)))) (rr_55_0 (sh_sI (sh_sI (sh_sI h)))) ?_
        refine wp_cst (v := .int (5 : Int32)) dX8_crate_99 rfl rfl ?_
        refine wq_iald dX8_crate_100 (kk_56 (sh_sI (sh_sI (sh_sI h)))) (by decide) (v := y15) rfl ?_
        refine wp_cst (v := .int (1 : Int32)) dX8_crate_101 rfl rfl ?_
        refine wp_pu dX8_crate_102 rfl rfl ?_
        exact wp_end dX8_crate_103 rfl (am_end_i rfl) (hP _ _ (ok_s k) (sh_sI (sh_sI (sh_sI h))))
      · refine wp_cst (v := .int (-1 : Int32)) dX8_crate_45 rfl rfl ?_
        exact wp_end dX8_crate_46 rfl (am_end_i rfl) (hP _ _ (ok_s k) h)
    · exact wp_sub (HJ3 _ _ h k) rfl ⟨rfl, trivial⟩
noncomputable def f_X7_still  (s : am_S) : am_F :=
  some (.inl (some (.int ((am_I s 5 2) + (am_I s 7 2)))), (am_sI (am_sI s 5 2 (0 : Int32)) 7 2 (0 : Int32)))
theorem s_X7_still {N n : Nat} {d : Nat}  {s : am_S} (h : am_sh N n s)  : am_S1 (am_sh N n) (d) mX7_still [.ref 0] s (f_X7_still s) := by
  intro P Q k hP
  show am_WP (d) mX7_still 0 [(0, .ref 0)] [] s Q
  unfold f_X7_still at k
  refine wp_ld (v := .ref 0) dX7_still_0 rfl rfl rfl rfl ?_
  refine wp_gr dX7_still_1 rfl rfl (kk_0 h) (rr_0_0 h) ?_
  refine wp_gr dX7_still_4 rfl rfl (kk_1 h) (rr_1_8 h) ?_
  refine wq_gI dX7_still_7 rfl rfl (kk_5 h) (v := (am_I s 5 2)) rfl ?_
  refine wp_ld (v := .ref 0) dX7_still_10 rfl rfl rfl rfl ?_
  refine wp_gr dX7_still_11 rfl rfl (kk_0 h) (rr_0_0 h) ?_
  refine wp_gr dX7_still_14 rfl rfl (kk_1 h) (rr_1_9 h) ?_
  refine wq_gI dX7_still_17 rfl rfl (kk_7 h) (v := (am_I s 7 2)) rfl ?_
  refine wp_pu dX7_still_20 rfl rfl ?_
  refine wp_st (ls' := [(0, .ref 0), (1, .int ((am_I s 5 2) + (am_I s 7 2)))]) dX7_still_21 rfl rfl rfl (Nat.le_of_ble_eq_true rfl) rfl ?_
  refine wp_ld (v := .ref 0) dX7_still_22 rfl rfl rfl rfl ?_
  show am_WP (d) mX7_still 23 _ _ _ Q
  refine wp_gr dX7_still_23 rfl rfl (kk_0 h) (rr_0_0 h) ?_
  refine wp_gr dX7_still_26 rfl rfl (kk_1 h) (rr_1_8 h) ?_
  refine wp_cst (v := .int (0 : Int32)) dX7_still_29 rfl rfl ?_
  refine wp_pI dX7_still_30 rfl rfl rfl (fun h => absurd h (by decide)) (kk_5 h) ?_
  refine wp_ld (v := .ref 0) dX7_still_33 rfl rfl rfl rfl ?_
  refine wp_gr dX7_still_34 rfl rfl (kk_0 (sh_sI h)) (rr_0_0 (sh_sI h)) ?_
  refine wp_gr dX7_still_37 rfl rfl (kk_1 (sh_sI h)) (rr_1_9 (sh_sI h)) ?_
  refine wp_cst (v := .int (0 : Int32)) dX7_still_40 rfl rfl ?_
  refine wp_pI dX7_still_41 rfl rfl rfl (fun h => absurd h (by decide)) (kk_7 (sh_sI h)) ?_
  refine wp_ld (v := .int ((am_I s 5 2) + (am_I s 7 2))) dX7_still_44 rfl rfl rfl rfl ?_
  exact wp_end dX7_still_45 rfl (am_end_i rfl) (hP _ _ (ok_s k) (sh_sI (sh_sI h)))
noncomputable def f_X8_still  (s : am_S) : am_F :=
  some (.inl (some (.int ((am_I s 56 4) + (am_I s 56 5)))), (am_sI (am_sI (am_sI s 55 3 (0 : Int32)) 56 4 (0 : Int32)) 56 5 (0 : Int32)))
theorem s_X8_still {N n : Nat} {d : Nat}  {s : am_S} (h : am_sh N n s)  : am_S1 (am_sh N n) (d) mX8_still [.ref 55] s (f_X8_still s) := by
  intro P Q k hP
  show am_WP (d) mX8_still 0 [(0, .ref 55)] [] s Q
  unfold f_X8_still at k
  refine wp_ld (v := .ref 55) dX8_still_0 rfl rfl rfl rfl ?_
  refine wp_cst (v := .int (0 : Int32)) dX8_still_1 rfl rfl ?_
  refine wp_pI dX8_still_2 rfl rfl rfl (fun h => absurd h (by decide)) (kk_55 h) ?_
  refine wp_ld (v := .ref 55) dX8_still_5 rfl rfl rfl rfl ?_
  refine wp_gr dX8_still_6 rfl rfl (kk_55 (sh_sI h)) (rr_55_0 (sh_sI h)) ?_
  refine wp_cst (v := .int (4 : Int32)) dX8_still_9 rfl rfl ?_
  refine wq_iald dX8_still_10 (kk_56 (sh_sI h)) (by decide) (v := (am_I s 56 4)) rfl ?_
  refine wp_ld (v := .ref 55) dX8_still_11 rfl rfl rfl rfl ?_
  refine wp_gr dX8_still_12 rfl rfl (kk_55 (sh_sI h)) (rr_55_0 (sh_sI h)) ?_
  refine wp_cst (v := .int (5 : Int32)) dX8_still_15 rfl rfl ?_
  refine wq_iald dX8_still_16 (kk_56 (sh_sI h)) (by decide) (v := (am_I s 56 5)) rfl ?_
  show am_WP (d) mX8_still 17 _ _ _ Q
  refine wp_pu dX8_still_17 rfl rfl ?_
  refine wp_st (ls' := [(0, .ref 55), (1, .int ((am_I s 56 4) + (am_I s 56 5)))]) dX8_still_18 rfl rfl rfl (Nat.le_of_ble_eq_true rfl) rfl ?_
  refine wp_ld (v := .ref 55) dX8_still_19 rfl rfl rfl rfl ?_
  refine wp_gr dX8_still_20 rfl rfl (kk_55 (sh_sI h)) (rr_55_0 (sh_sI h)) ?_
  refine wp_cst (v := .int (4 : Int32)) dX8_still_23 rfl rfl ?_
  refine wp_cst (v := .int (0 : Int32)) dX8_still_24 rfl rfl ?_
  refine wq_iast dX8_still_25 (kk_56 (sh_sI h)) (by decide) (j := 4) rfl ?_
  refine wp_ld (v := .ref 55) dX8_still_26 rfl rfl rfl rfl ?_
  refine wp_gr dX8_still_27 rfl rfl (kk_55 (sh_sI (sh_sI h))) (rr_55_0 (sh_sI (sh_sI h))) ?_
  refine wp_cst (v := .int (5 : Int32)) dX8_still_30 rfl rfl ?_
  refine wp_cst (v := .int (0 : Int32)) dX8_still_31 rfl rfl ?_
  refine wq_iast dX8_still_32 (kk_56 (sh_sI (sh_sI h))) (by decide) (j := 5) rfl ?_
  show am_WP (d) mX8_still 33 _ _ _ Q
  refine wp_ld (v := .int ((am_I s 56 4) + (am_I s 56 5))) dX8_still_33 rfl rfl rfl rfl ?_
  exact wp_end dX8_still_34 rfl (am_end_i rfl) (hP _ _ (ok_s k) (sh_sI (sh_sI (sh_sI h))))
noncomputable def f_X8_damp (x1 : Int32) (s : am_S) : am_F :=
  am_bi (f_X8_within x1.toInt64 (0 : Int64) (50 : Int64) (am_sI s 55 3 (0 : Int32))) (fun v2 s1 =>
    if v2 = 0 then
      am_bi (f_X8_fails (1 : Int32) s1) (fun v5 s4 =>
        some (.inl (some (.int v5)), s4)
      )
    else
      some (.inl (some (.int (am_I s1 56 7))), (am_sI s1 56 7 x1))
  )
theorem s_X8_damp {N n : Nat} {d : Nat} {x1 : Int32} {s : am_S} (h : am_sh N n s)  : am_S1 (am_sh N n) (d + 1) mX8_damp [.ref 55, .int x1] s (f_X8_damp x1 s) := by
  intro P Q k hP
  show am_WP (d + 1) mX8_damp 0 [(0, .ref 55), (1, .int x1)] [] s Q
  unfold f_X8_damp at k
  refine wp_ld (v := .ref 55) dX8_damp_0 rfl rfl rfl rfl ?_
  refine wp_cst (v := .int (0 : Int32)) dX8_damp_1 rfl rfl ?_
  refine wp_pI dX8_damp_2 rfl rfl rfl (fun h => absurd h (by decide)) (kk_55 h) ?_
  refine wp_ld (v := .int x1) dX8_damp_5 rfl rfl rfl rfl ?_
  refine wp_pu dX8_damp_6 rfl rfl ?_
  refine wp_cst (v := .long (0 : Int64)) dX8_damp_7 rfl rfl ?_
  refine wp_cst (v := .long (50 : Int64)) dX8_damp_8 rfl rfl ?_
  refine c_i dX8_damp_11 rfl rfl rfl (am_inv_s rfl rfl rfl rfl) (s_X8_within (sh_sI h)) k (fun v2 s1 h k => ?_)
  refine wp_if_ne dX8_damp_14 rfl (fun c3 => have k := ok_neg c3 k; ?_) (fun c3 => have k := ok_pos c3 k; ?_)
  · refine wp_ld (v := .ref 55) dX8_damp_23 rfl rfl rfl rfl ?_
    refine wp_gr dX8_damp_24 rfl rfl (kk_55 h) (rr_55_0 h) ?_
    refine wp_cst (v := .int (7 : Int32)) dX8_damp_27 rfl rfl ?_
    refine wq_iald dX8_damp_29 (kk_56 h) (by decide) (v := (am_I s1 56 7)) rfl ?_
    refine wp_st (ls' := [(0, .ref 55), (1, .int x1), (2, .int (am_I s1 56 7))]) dX8_damp_30 rfl rfl rfl (Nat.le_of_ble_eq_true rfl) rfl ?_
    refine wp_ld (v := .ref 55) dX8_damp_31 rfl rfl rfl rfl ?_
    refine wp_gr dX8_damp_32 rfl rfl (kk_55 h) (rr_55_0 h) ?_
    refine wp_cst (v := .int (7 : Int32)) dX8_damp_35 rfl rfl ?_
    refine wp_ld (v := .int x1) dX8_damp_37 rfl rfl rfl rfl ?_
    refine wq_iast dX8_damp_38 (kk_56 h) (by decide) (j := 7) rfl ?_
    refine wp_ld (v := .int (am_I s1 56 7)) dX8_damp_39 rfl rfl rfl rfl ?_
    show am_WP (d + 1) mX8_damp 40 _ _ _ Q
    exact wp_end dX8_damp_40 rfl (am_end_i rfl) (hP _ _ (ok_s k) (sh_sI h))
  · refine wp_ld (v := .ref 55) dX8_damp_17 rfl rfl rfl rfl ?_
    refine wp_cst (v := .int (1 : Int32)) dX8_damp_18 rfl rfl ?_
    refine c_i dX8_damp_19 rfl rfl rfl (am_inv_v rfl (kk_55 h) rfl rfl rfl) (s_X8_fails h) k (fun v5 s4 h k => ?_)
    exact wp_end dX8_damp_22 rfl (am_end_i rfl) (hP _ _ (ok_s k) h)
noncomputable def L_X7_slant_33 : Nat → Int32 → Int32 → Int32 → Int32 → Int32 → Int32 → am_S → am_FE (Int32)
  | 0, _, _, _, _, _, _, _ => none
  | m + 1, x2, x3, x4, x5, x6, x7, s =>
    if (16 : Int32) < x7 then
      some (.inr (x5, s))
    else
      am_bu (f_X1_flyOut x2 x3 x7 s) (fun s14 =>
        am_bi (f_X1_score x4 s14) (fun v17 s16 =>
          am_jn (fun (e19 : Unit) s20 =>
            L_X7_slant_33 m x2 x3 x4 x7 v17 (x7 + (1 : Int32)) s20
          ) (fun J18 =>
            if x7 = (-16 : Int32) then
              J18 () s16
            else
              if v17 ≤ x6 then
                L_X7_slant_33 m x2 x3 x4 x5 x6 (x7 + (1 : Int32)) s16
              else
                J18 () s16
          )
        )
      )
theorem q_X7_slant_33 : ∀ (m : Nat) {N n : Nat} {d : Nat} {x2 : Int32} {x3 : Int32} {x4 : Int32} {x5 : Int32} {x6 : Int32} {x7 : Int32} {s : am_S} {P : (am_O × am_S) ⊕ (Int32 × am_S) → Prop} {Q : am_O → am_S → Prop} (h : am_sh N n s)  (k : am_ok (L_X7_slant_33 m x2 x3 x4 x5 x6 x7 s) P) (hP : ∀ o s, P (.inl (o, s)) → am_sh N n s → Q o s) (hX : ∀ (e : Int32) s, P (.inr (e, s)) → am_sh N n s → am_WP (d + 6) mX7_slant 90 [(5, .int e)] [] s Q), am_WP (d + 6) mX7_slant 33 [(0, .ref 0), (2, .int x2), (3, .int x3), (4, .int x4), (5, .int x5), (6, .int x6), (7, .int x7)] [] s Q := by
  intro m
  induction m with
  | zero =>
    intro N n d x2 x3 x4 x5 x6 x7 s P Q h  k hP hX
    exact (ok_no k).elim
  | succ m ih =>
    intro N n d x2 x3 x4 x5 x6 x7 s P Q h  k hP hX
    unfold L_X7_slant_33 at k
    refine wp_ld (v := .int x7) dX7_slant_33 rfl rfl rfl rfl ?_
    refine wp_cst (v := .int (16 : Int32)) dX7_slant_35 rfl rfl ?_
    refine wp_ic_gt dX7_slant_37 rfl (fun c13 => have k := ok_pos c13 k; ?_) (fun c13 => have k := ok_neg c13 k; ?_)
    · exact wp_sub (hX _ _ (ok_s k) h) rfl ⟨rfl, trivial⟩
    · refine wp_ld (v := .ref 0) dX7_slant_40 rfl rfl rfl rfl ?_
      refine wp_gr dX7_slant_41 rfl rfl (kk_0 h) (rr_0_6 h) ?_
      refine wp_ld (v := .int x2) dX7_slant_44 rfl rfl rfl rfl ?_
      refine wp_ld (v := .int x3) dX7_slant_45 rfl rfl rfl rfl ?_
      refine wp_ld (v := .int x7) dX7_slant_46 rfl rfl rfl rfl ?_
      refine c_u dX7_slant_48 rfl rfl rfl (am_inv_v rfl (kk_41 h) rfl rfl rfl) (s_X1_flyOut h) k (fun s14 h k => ?_)
      refine wp_ld (v := .ref 0) dX7_slant_51 rfl rfl rfl rfl ?_
      refine wp_gr dX7_slant_52 rfl rfl (kk_0 h) (rr_0_6 h) ?_
      refine wp_ld (v := .int x4) dX7_slant_55 rfl rfl rfl rfl ?_
      refine c_i dX7_slant_57 rfl rfl rfl (am_inv_v rfl (kk_41 h) rfl rfl rfl) (s_X1_score h) k (fun v17 s16 h k => ?_)
      refine wp_st (ls' := [(0, .ref 0), (2, .int x2), (3, .int x3), (4, .int x4), (5, .int x5), (6, .int x6), (7, .int x7), (8, .int v17)]) dX7_slant_60 rfl rfl rfl (Nat.le_of_ble_eq_true rfl) rfl ?_
      refine wp_ld (v := .int x7) dX7_slant_62 rfl rfl rfl rfl ?_
      refine wp_cst (v := .int (-16 : Int32)) dX7_slant_64 rfl rfl ?_
      refine jn_rule k (fun J18 hJ18 k => ?_)
      have HJ18 : ∀ (e19 : Unit) (s20 : am_S), am_sh N n s20 → am_ok (J18 e19 s20) P → am_WP (d + 6) mX7_slant 76 [(0, .ref 0), (2, .int x2), (3, .int x3), (4, .int x4), (7, .int x7), (8, .int v17)] [] s20 Q := by
        intro e19 s20 h k
        replace k := hJ18 _ _ k
        refine wp_ld (v := .int v17) dX7_slant_76 rfl rfl rfl rfl ?_
        refine wp_st (ls' := [(0, .ref 0), (2, .int x2), (3, .int x3), (4, .int x4), (6, .int v17), (7, .int x7), (8, .int v17)]) dX7_slant_78 rfl rfl rfl (Nat.le_of_ble_eq_true rfl) rfl ?_
        refine wp_ld (v := .int x7) dX7_slant_80 rfl rfl rfl rfl ?_
        refine wp_st (ls' := [(0, .ref 0), (2, .int x2), (3, .int x3), (4, .int x4), (5, .int x7), (6, .int v17), (7, .int x7), (8, .int v17)]) dX7_slant_82 rfl rfl rfl (Nat.le_of_ble_eq_true rfl) rfl ?_
        refine wp_inc (v := (x7 + (1 : Int32))) (ls' := [(0, .ref 0), (2, .int x2), (3, .int x3), (4, .int x4), (5, .int x7), (6, .int v17), (7, .int (x7 + (1 : Int32))), (8, .int v17)]) dX7_slant_84 rfl (Nat.le_of_ble_eq_true rfl) rfl rfl ?_
        refine wp_goto dX7_slant_87 rfl ?_
        exact wp_sub (ih h k hP hX) rfl ⟨rfl, rfl, rfl, rfl, rfl, rfl, rfl, trivial⟩
      refine wp_ic_eq dX7_slant_66 rfl (fun c21 => have k := ok_pos c21 k; ?_) (fun c21 => have k := ok_neg c21 k; ?_)
      · exact wp_sub (HJ18 _ _ h k) rfl ⟨rfl, rfl, rfl, rfl, rfl, rfl, trivial⟩
      · refine wp_ld (v := .int v17) dX7_slant_69 rfl rfl rfl rfl ?_
        refine wp_ld (v := .int x6) dX7_slant_71 rfl rfl rfl rfl ?_
        refine wp_ic_le dX7_slant_73 rfl (fun c22 => have k := ok_pos c22 k; ?_) (fun c22 => have k := ok_neg c22 k; ?_)
        · refine wp_inc (v := (x7 + (1 : Int32))) (ls' := [(0, .ref 0), (2, .int x2), (3, .int x3), (4, .int x4), (5, .int x5), (6, .int x6), (7, .int (x7 + (1 : Int32))), (8, .int v17)]) dX7_slant_84 rfl (Nat.le_of_ble_eq_true rfl) rfl rfl ?_
          refine wp_goto dX7_slant_87 rfl ?_
          exact wp_sub (ih h k hP hX) rfl ⟨rfl, rfl, rfl, rfl, rfl, rfl, rfl, trivial⟩
        · exact wp_sub (HJ18 _ _ h k) rfl ⟨rfl, rfl, rfl, rfl, rfl, rfl, trivial⟩
noncomputable def f_X7_slant (x1 : Int32) (x2 : Int32) (x3 : Int32) (x4 : Int32) (s : am_S) : am_F :=
  am_tv (f_X7_needWay x1 s) (fun v2 s1 =>
    am_mv v2 none (fun t3 => if am_k0 t3 = (4, 0) ∧ t3 < 72 then
      am_tu (f_X7_needMake t3 s1) (fun s7 =>
        am_tu (f_X7_needEars x2 s7) (fun s9 =>
          am_tu (f_X7_needWithin x3 (10 : Int32) (999 : Int32) s9) (fun s11 =>
            am_lm (L_X7_slant_33 ax_fuel x2 x3 x4 (-16 : Int32) (0 : Int32) (-16 : Int32) s11) (fun e23 s24 =>
              some (.inl (some (.int e23)), s24)
            )
          )
        )
      )
    else none)
  )
theorem s_X7_slant {N n : Nat} {d : Nat} {x1 : Int32} {x2 : Int32} {x3 : Int32} {x4 : Int32} {s : am_S} (h : am_sh N n s)  : am_S1 (am_sh N n) (d + 6) mX7_slant [.ref 0, .int x1, .int x2, .int x3, .int x4] s (f_X7_slant x1 x2 x3 x4 s) := by
  intro P Q k hP
  show am_WP (d + 6) mX7_slant 0 [(0, .ref 0), (1, .int x1), (2, .int x2), (3, .int x3), (4, .int x4)] [] s Q
  unfold f_X7_slant at k
  refine wp_ld (v := .ref 0) dX7_slant_0 rfl rfl rfl rfl ?_
  refine wp_ld (v := .ref 0) dX7_slant_1 rfl rfl rfl rfl ?_
  refine wp_ld (v := .int x1) dX7_slant_2 rfl rfl rfl rfl ?_
  refine t_v dX7_slant_3 rfl rfl rfl (am_inv_v rfl (kk_0 h) rfl rfl rfl) (s_X7_needWay h) k rfl rfl hP (fun v2 s1 h k => ?_)
  obtain ⟨t3, c4, k⟩ := ok_mn k
  subst c4
  obtain ⟨g5, k⟩ := ok_g k
  have f6 := kk_up h g5
  refine t_u dX7_slant_6 rfl rfl rfl (am_inv_v rfl (kk_0 h) rfl rfl rfl) (s_X7_needMake h f6) k rfl rfl hP (fun s7 h k => ?_)
  refine wp_ld (v := .int x2) dX7_slant_9 rfl rfl rfl rfl ?_
  refine t_u dX7_slant_10 rfl rfl rfl (am_inv_s rfl rfl rfl rfl) (s_X7_needEars h) k rfl rfl hP (fun s9 h k => ?_)
  refine wp_ld (v := .int x3) dX7_slant_13 rfl rfl rfl rfl ?_
  refine wp_cst (v := .int (10 : Int32)) dX7_slant_14 rfl rfl ?_
  refine wp_cst (v := .int (999 : Int32)) dX7_slant_16 rfl rfl ?_
  refine t_u dX7_slant_19 rfl rfl rfl (am_inv_s rfl rfl rfl rfl) (s_X7_needWithin h) k rfl rfl hP (fun s11 h k => ?_)
  refine wp_cst (v := .int (-16 : Int32)) dX7_slant_22 rfl rfl ?_
  refine wp_st (ls' := [(0, .ref 0), (1, .int x1), (2, .int x2), (3, .int x3), (4, .int x4), (5, .int (-16 : Int32))]) dX7_slant_24 rfl rfl rfl (Nat.le_of_ble_eq_true rfl) rfl ?_
  refine wp_cst (v := .int (0 : Int32)) dX7_slant_26 rfl rfl ?_
  refine wp_st (ls' := [(0, .ref 0), (1, .int x1), (2, .int x2), (3, .int x3), (4, .int x4), (5, .int (-16 : Int32)), (6, .int (0 : Int32))]) dX7_slant_27 rfl rfl rfl (Nat.le_of_ble_eq_true rfl) rfl ?_
  refine wp_cst (v := .int (-16 : Int32)) dX7_slant_29 rfl rfl ?_
  refine wp_st (ls' := [(0, .ref 0), (1, .int x1), (2, .int x2), (3, .int x3), (4, .int x4), (5, .int (-16 : Int32)), (6, .int (0 : Int32)), (7, .int (-16 : Int32))]) dX7_slant_31 rfl rfl rfl (Nat.le_of_ble_eq_true rfl) rfl ?_
  refine lp_m k (fun P1 k hA hB => ?_)
  refine wp_sub (q_X7_slant_33 ax_fuel h k (fun o s p h => hP o s (hA o s p) h) (fun e23 s24 p h => have k := hB e23 s24 p; ?_)) rfl ⟨rfl, rfl, rfl, rfl, rfl, rfl, rfl, trivial⟩
  refine wp_ld (v := .int e23) dX7_slant_90 rfl rfl rfl rfl ?_
  exact wp_end dX7_slant_92 rfl (am_end_i rfl) (hP _ _ (ok_s k) h)
noncomputable def f_L_slant (x2 : Int32) (x3 : Int32) (x4 : Int32) (x5 : Int32) (s : am_S) : am_F :=
  am_xi (f_X7_slant x2 x3 x4 x5 s) (fun v2 s1 =>
    some (.inl (some (.int (0 : Int32))), (am_sL s1 71 0 v2.toInt64))
  ) (fun e s1 =>
    if e = 3 then
      some (.inl (some (.int (1 : Int32))), s1)
    else
      if e = 1 then
        some (.inl (some (.int (2 : Int32))), s1)
      else
        if e = 0 then
          some (.inl (some (.int (3 : Int32))), s1)
        else
          none
  )
theorem s_L_slant {N : Nat} {d : Nat} {x2 : Int32} {x3 : Int32} {x4 : Int32} {x5 : Int32} {s : am_S} (h : am_shE N s)  : am_S1 (am_shE N) (d + 7) mL_slant [.ref 0, .int x2, .int x3, .int x4, .int x5, .ref 71] s (f_L_slant x2 x3 x4 x5 s) := by
  intro P Q k hP
  show am_WP (d + 7) mL_slant 0 [(0, .ref 0), (1, .int x2), (2, .int x3), (3, .int x4), (4, .int x5), (5, .ref 71)] [] s Q
  unfold f_L_slant at k
  refine wp_ld (v := .ref 71) dL_slant_0 rfl rfl rfl rfl ?_
  refine wp_cst (v := .int (0 : Int32)) dL_slant_2 rfl rfl ?_
  refine wp_ld (v := .ref 0) dL_slant_3 rfl rfl rfl rfl ?_
  refine wp_ld (v := .int x2) dL_slant_4 rfl rfl rfl rfl ?_
  refine wp_ld (v := .int x3) dL_slant_5 rfl rfl rfl rfl ?_
  refine wp_ld (v := .int x4) dL_slant_6 rfl rfl rfl rfl ?_
  refine wp_ld (v := .int x5) dL_slant_7 rfl rfl rfl rfl ?_
  refine x_i dL_slant_9 rfl rfl rfl (am_inv_v rfl (kE_0 h) rfl rfl rfl) (sE h (fun _ h => s_X7_slant h)) k rfl (List.cons_ne_nil _ _) (fun v2 s1 h k => ?_) (fun e s1 h k => ?_)
  · refine wp_pu dL_slant_12 rfl rfl ?_
    refine wq_last dL_slant_13 (kE_71 h) (by decide) (j := 0) rfl ?_
    refine wp_goto dL_slant_14 rfl ?_
    refine wp_cst (v := .int (0 : Int32)) dL_slant_29 rfl rfl ?_
    exact wp_end dL_slant_30 rfl (am_end_i rfl) (hP _ _ (ok_s k) (shE_sL h))
  · by_cases c3 : e = 3
    · have k := ok_pos c3 k
      subst c3
      refine ⟨_, _, rfl, ?_⟩
      refine wp_cst (v := .int (1 : Int32)) dL_slant_19 rfl rfl ?_
      exact wp_end dL_slant_20 rfl (am_end_i rfl) (hP _ _ (ok_s k) h)
    replace k := ok_neg c3 k
    by_cases c4 : e = 1
    · have k := ok_pos c4 k
      subst c4
      refine ⟨_, _, rfl, ?_⟩
      refine wp_cst (v := .int (2 : Int32)) dL_slant_23 rfl rfl ?_
      exact wp_end dL_slant_24 rfl (am_end_i rfl) (hP _ _ (ok_s k) h)
    replace k := ok_neg c4 k
    by_cases c5 : e = 0
    · have k := ok_pos c5 k
      subst c5
      refine ⟨_, _, rfl, ?_⟩
      refine wp_cst (v := .int (3 : Int32)) dL_slant_27 rfl rfl ?_
      exact wp_end dL_slant_28 rfl (am_end_i rfl) (hP _ _ (ok_s k) h)
    replace k := ok_neg c5 k
    exact (ok_no k).elim
noncomputable def f_X8_far (x1 : Int32) (x2 : Int32) (x3 : Int32) (x4 : Int32) (s : am_S) : am_F :=
  am_bu (f_X8_flies x1 x2 x3 (200 : Int32) s) (fun s1 =>
    if x4 = 0 then
      some (.inl (some (.int (am_I s1 55 31))), s1)
    else
      some (.inl (some (.int (am_I s1 55 37))), s1)
  )
theorem s_X8_far {N n : Nat} {d : Nat} {x1 : Int32} {x2 : Int32} {x3 : Int32} {x4 : Int32} {s : am_S} (h : am_sh N n s)  : am_S1 (am_sh N n) (d + 7) mX8_far [.ref 55, .int x1, .int x2, .int x3, .int x4] s (f_X8_far x1 x2 x3 x4 s) := by
  intro P Q k hP
  show am_WP (d + 7) mX8_far 0 [(0, .ref 55), (1, .int x1), (2, .int x2), (3, .int x3), (4, .int x4)] [] s Q
  unfold f_X8_far at k
  refine wp_ld (v := .ref 55) dX8_far_0 rfl rfl rfl rfl ?_
  refine wp_ld (v := .int x1) dX8_far_1 rfl rfl rfl rfl ?_
  refine wp_ld (v := .int x2) dX8_far_2 rfl rfl rfl rfl ?_
  refine wp_ld (v := .int x3) dX8_far_3 rfl rfl rfl rfl ?_
  refine wp_cst (v := .int (200 : Int32)) dX8_far_4 rfl rfl ?_
  refine c_u dX8_far_7 rfl rfl rfl (am_inv_v rfl (kk_55 h) rfl rfl rfl) (s_X8_flies h) k (fun s1 h k => ?_)
  refine wp_ld (v := .int x4) dX8_far_10 rfl rfl rfl rfl ?_
  refine wp_if_eq dX8_far_12 rfl (fun c3 => have k := ok_pos c3 k; ?_) (fun c3 => have k := ok_neg c3 k; ?_)
  · refine wp_ld (v := .ref 55) dX8_far_22 rfl rfl rfl rfl ?_
    refine wq_gI dX8_far_23 rfl rfl (kk_55 h) (v := (am_I s1 55 31)) rfl ?_
    exact wp_end dX8_far_26 rfl (am_end_i rfl) (hP _ _ (ok_s k) h)
  · refine wp_ld (v := .ref 55) dX8_far_15 rfl rfl rfl rfl ?_
    refine wq_gI dX8_far_16 rfl rfl (kk_55 h) (v := (am_I s1 55 37)) rfl ?_
    refine wp_goto dX8_far_19 rfl ?_
    exact wp_end dX8_far_26 rfl (am_end_i rfl) (hP _ _ (ok_s k) h)
noncomputable def L_X8_slant_58 : Nat → Int32 → Int32 → Int32 → Int32 → Int32 → Int32 → am_S → am_FE (Int32)
  | 0, _, _, _, _, _, _, _ => none
  | m + 1, x2, x3, x4, x5, x6, x7, s =>
    if (16 : Int32) < x7 then
      some (.inr (x5, s))
    else
      am_bi (f_X8_far x2 x3 x7 x4 s) (fun v19 s18 =>
        if x6 < v19 then
          L_X8_slant_58 m x2 x3 x4 x7 v19 (x7 + (1 : Int32)) s18
        else
          L_X8_slant_58 m x2 x3 x4 x5 x6 (x7 + (1 : Int32)) s18
      )
theorem q_X8_slant_58 : ∀ (m : Nat) {N n : Nat} {d : Nat} {x2 : Int32} {x3 : Int32} {x4 : Int32} {x5 : Int32} {x6 : Int32} {x7 : Int32} {s : am_S} {P : (am_O × am_S) ⊕ (Int32 × am_S) → Prop} {Q : am_O → am_S → Prop} (h : am_sh N n s)  (k : am_ok (L_X8_slant_58 m x2 x3 x4 x5 x6 x7 s) P) (hP : ∀ o s, P (.inl (o, s)) → am_sh N n s → Q o s) (hX : ∀ (e : Int32) s, P (.inr (e, s)) → am_sh N n s → am_WP (d + 8) mX8_slant 101 [(5, .int e)] [] s Q), am_WP (d + 8) mX8_slant 58 [(0, .ref 55), (2, .int x2), (3, .int x3), (4, .int x4), (5, .int x5), (6, .int x6), (7, .int x7)] [] s Q := by
  intro m
  induction m with
  | zero =>
    intro N n d x2 x3 x4 x5 x6 x7 s P Q h  k hP hX
    exact (ok_no k).elim
  | succ m ih =>
    intro N n d x2 x3 x4 x5 x6 x7 s P Q h  k hP hX
    unfold L_X8_slant_58 at k
    refine wp_ld (v := .int x7) dX8_slant_58 rfl rfl rfl rfl ?_
    refine wp_cst (v := .int (16 : Int32)) dX8_slant_60 rfl rfl ?_
    refine wp_ic_gt dX8_slant_62 rfl (fun c17 => have k := ok_pos c17 k; ?_) (fun c17 => have k := ok_neg c17 k; ?_)
    · exact wp_sub (hX _ _ (ok_s k) h) rfl ⟨rfl, trivial⟩
    · refine wp_ld (v := .ref 55) dX8_slant_65 rfl rfl rfl rfl ?_
      refine wp_ld (v := .int x2) dX8_slant_66 rfl rfl rfl rfl ?_
      refine wp_ld (v := .int x3) dX8_slant_67 rfl rfl rfl rfl ?_
      refine wp_ld (v := .int x7) dX8_slant_68 rfl rfl rfl rfl ?_
      refine wp_ld (v := .int x4) dX8_slant_70 rfl rfl rfl rfl ?_
      refine c_i dX8_slant_72 rfl rfl rfl (am_inv_v rfl (kk_55 h) rfl rfl rfl) (s_X8_far h) k (fun v19 s18 h k => ?_)
      refine wp_st (ls' := [(0, .ref 55), (2, .int x2), (3, .int x3), (4, .int x4), (5, .int x5), (6, .int x6), (7, .int x7), (8, .int v19)]) dX8_slant_75 rfl rfl rfl (Nat.le_of_ble_eq_true rfl) rfl ?_
      refine wp_ld (v := .int v19) dX8_slant_77 rfl rfl rfl rfl ?_
      refine wp_ld (v := .int x6) dX8_slant_79 rfl rfl rfl rfl ?_
      refine wp_ic_gt dX8_slant_81 rfl (fun c20 => have k := ok_pos c20 k; ?_) (fun c20 => have k := ok_neg c20 k; ?_)
      · refine wp_ld (v := .int v19) dX8_slant_87 rfl rfl rfl rfl ?_
        refine wp_st (ls' := [(0, .ref 55), (2, .int x2), (3, .int x3), (4, .int x4), (5, .int x5), (6, .int v19), (7, .int x7), (8, .int v19)]) dX8_slant_89 rfl rfl rfl (Nat.le_of_ble_eq_true rfl) rfl ?_
        refine wp_ld (v := .int x7) dX8_slant_91 rfl rfl rfl rfl ?_
        refine wp_st (ls' := [(0, .ref 55), (2, .int x2), (3, .int x3), (4, .int x4), (5, .int x7), (6, .int v19), (7, .int x7), (8, .int v19)]) dX8_slant_93 rfl rfl rfl (Nat.le_of_ble_eq_true rfl) rfl ?_
        refine wp_inc (v := (x7 + (1 : Int32))) (ls' := [(0, .ref 55), (2, .int x2), (3, .int x3), (4, .int x4), (5, .int x7), (6, .int v19), (7, .int (x7 + (1 : Int32))), (8, .int v19)]) dX8_slant_95 rfl (Nat.le_of_ble_eq_true rfl) rfl rfl ?_
        refine wp_goto dX8_slant_98 rfl ?_
        exact wp_sub (ih h k hP hX) rfl ⟨rfl, rfl, rfl, rfl, rfl, rfl, rfl, trivial⟩
      · refine wp_goto dX8_slant_84 rfl ?_
        refine wp_inc (v := (x7 + (1 : Int32))) (ls' := [(0, .ref 55), (2, .int x2), (3, .int x3), (4, .int x4), (5, .int x5), (6, .int x6), (7, .int (x7 + (1 : Int32))), (8, .int v19)]) dX8_slant_95 rfl (Nat.le_of_ble_eq_true rfl) rfl rfl ?_
        refine wp_goto dX8_slant_98 rfl ?_
        exact wp_sub (ih h k hP hX) rfl ⟨rfl, rfl, rfl, rfl, rfl, rfl, rfl, trivial⟩
noncomputable def f_X8_slant (x1 : Int32) (x2 : Int32) (x3 : Int32) (x4 : Int32) (s : am_S) : am_F :=
  am_bi (f_X8_wayFault x1 s) (fun v2 s1 =>
    if v2 ≤ 0 then
      am_bi (f_X8_isEars x2 (am_sI s1 55 3 v2)) (fun v5 s4 =>
        am_jn (fun (e7 : Unit) s8 =>
          am_bi (f_X8_fails (3 : Int32) s8) (fun v10 s9 =>
            some (.inl (some (.int v10)), s9)
          )
        ) (fun J6 =>
          if v5 = 0 then
            J6 () s4
          else
            am_bi (f_X8_isSpeed x3 s4) (fun v13 s12 =>
              if v13 = 0 then
                J6 () s12
              else
                am_bi (f_X8_far x2 x3 (-16 : Int32) x4 s12) (fun v16 s15 =>
                  am_lm (L_X8_slant_58 ax_fuel x2 x3 x4 (-16 : Int32) v16 (-15 : Int32) s15) (fun e21 s22 =>
                    some (.inl (some (.int e21)), s22)
                  )
                )
            )
        )
      )
    else
      some (.inl (some (.int (0 : Int32))), (am_sI s1 55 3 v2))
  )
theorem s_X8_slant {N n : Nat} {d : Nat} {x1 : Int32} {x2 : Int32} {x3 : Int32} {x4 : Int32} {s : am_S} (h : am_sh N n s)  : am_S1 (am_sh N n) (d + 8) mX8_slant [.ref 55, .int x1, .int x2, .int x3, .int x4] s (f_X8_slant x1 x2 x3 x4 s) := by
  intro P Q k hP
  show am_WP (d + 8) mX8_slant 0 [(0, .ref 55), (1, .int x1), (2, .int x2), (3, .int x3), (4, .int x4)] [] s Q
  unfold f_X8_slant at k
  refine wp_ld (v := .ref 55) dX8_slant_0 rfl rfl rfl rfl ?_
  refine wp_ld (v := .ref 55) dX8_slant_1 rfl rfl rfl rfl ?_
  refine wp_ld (v := .int x1) dX8_slant_2 rfl rfl rfl rfl ?_
  refine c_i dX8_slant_3 rfl rfl rfl (am_inv_v rfl (kk_55 h) rfl rfl rfl) (s_X8_wayFault h) k (fun v2 s1 h k => ?_)
  refine wp_pI dX8_slant_6 rfl rfl rfl (fun h => absurd h (by decide)) (kk_55 h) ?_
  refine wp_ld (v := .ref 55) dX8_slant_9 rfl rfl rfl rfl ?_
  refine wq_gI dX8_slant_10 rfl rfl (kk_55 (sh_sI h)) (v := v2) rfl ?_
  refine wp_if_le dX8_slant_13 rfl (fun c3 => have k := ok_pos c3 k; ?_) (fun c3 => have k := ok_neg c3 k; ?_)
  · refine wp_ld (v := .int x2) dX8_slant_18 rfl rfl rfl rfl ?_
    refine c_i dX8_slant_19 rfl rfl rfl (am_inv_s rfl rfl rfl rfl) (s_X8_isEars (sh_sI h)) k (fun v5 s4 h k => ?_)
    refine jn_rule k (fun J6 hJ6 k => ?_)
    have HJ6 : ∀ (e7 : Unit) (s8 : am_S), am_sh N n s8 → am_ok (J6 e7 s8) P → am_WP (d + 8) mX8_slant 32 [(0, .ref 55)] [] s8 Q := by
      intro e7 s8 h k
      replace k := hJ6 _ _ k
      refine wp_ld (v := .ref 55) dX8_slant_32 rfl rfl rfl rfl ?_
      refine wp_cst (v := .int (3 : Int32)) dX8_slant_33 rfl rfl ?_
      refine c_i dX8_slant_34 rfl rfl rfl (am_inv_v rfl (kk_55 h) rfl rfl rfl) (s_X8_fails h) k (fun v10 s9 h k => ?_)
      exact wp_end dX8_slant_37 rfl (am_end_i rfl) (hP _ _ (ok_s k) h)
    refine wp_if_eq dX8_slant_22 rfl (fun c11 => have k := ok_pos c11 k; ?_) (fun c11 => have k := ok_neg c11 k; ?_)
    · exact wp_sub (HJ6 _ _ h k) rfl ⟨rfl, trivial⟩
    · refine wp_ld (v := .int x3) dX8_slant_25 rfl rfl rfl rfl ?_
      refine c_i dX8_slant_26 rfl rfl rfl (am_inv_s rfl rfl rfl rfl) (s_X8_isSpeed h) k (fun v13 s12 h k => ?_)
      refine wp_if_ne dX8_slant_29 rfl (fun c14 => have k := ok_neg c14 k; ?_) (fun c14 => have k := ok_pos c14 k; ?_)
      · refine wp_cst (v := .int (-16 : Int32)) dX8_slant_38 rfl rfl ?_
        refine wp_st (ls' := [(0, .ref 55), (1, .int x1), (2, .int x2), (3, .int x3), (4, .int x4), (5, .int (-16 : Int32))]) dX8_slant_40 rfl rfl rfl (Nat.le_of_ble_eq_true rfl) rfl ?_
        refine wp_ld (v := .ref 55) dX8_slant_42 rfl rfl rfl rfl ?_
        refine wp_ld (v := .int x2) dX8_slant_43 rfl rfl rfl rfl ?_
        refine wp_ld (v := .int x3) dX8_slant_44 rfl rfl rfl rfl ?_
        refine wp_cst (v := .int (-16 : Int32)) dX8_slant_45 rfl rfl ?_
        refine wp_ld (v := .int x4) dX8_slant_47 rfl rfl rfl rfl ?_
        refine c_i dX8_slant_49 rfl rfl rfl (am_inv_v rfl (kk_55 h) rfl rfl rfl) (s_X8_far h) k (fun v16 s15 h k => ?_)
        refine wp_st (ls' := [(0, .ref 55), (1, .int x1), (2, .int x2), (3, .int x3), (4, .int x4), (5, .int (-16 : Int32)), (6, .int v16)]) dX8_slant_52 rfl rfl rfl (Nat.le_of_ble_eq_true rfl) rfl ?_
        refine wp_cst (v := .int (-15 : Int32)) dX8_slant_54 rfl rfl ?_
        refine wp_st (ls' := [(0, .ref 55), (1, .int x1), (2, .int x2), (3, .int x3), (4, .int x4), (5, .int (-16 : Int32)), (6, .int v16), (7, .int (-15 : Int32))]) dX8_slant_56 rfl rfl rfl (Nat.le_of_ble_eq_true rfl) rfl ?_
        refine lp_m k (fun P1 k hA hB => ?_)
        refine wp_sub (q_X8_slant_58 ax_fuel h k (fun o s p h => hP o s (hA o s p) h) (fun e21 s22 p h => have k := hB e21 s22 p; ?_)) rfl ⟨rfl, rfl, rfl, rfl, rfl, rfl, rfl, trivial⟩
        refine wp_ld (v := .int e21) dX8_slant_101 rfl rfl rfl rfl ?_
        exact wp_end dX8_slant_103 rfl (am_end_i rfl) (hP _ _ (ok_s k) h)
      · exact wp_sub (HJ6 _ _ h k) rfl ⟨rfl, trivial⟩
  · refine wp_cst (v := .int (0 : Int32)) dX8_slant_16 rfl rfl ?_
    exact wp_end dX8_slant_17 rfl (am_end_i rfl) (hP _ _ (ok_s k) (sh_sI h))
noncomputable def f_X7_torque (x1 : Int32) (x2 : Int32) (s : am_S) : am_F :=
  if am_in ((0 : Int32) + (am_min (am_abs x2) (8 : Int32))) 23 = true then
    ax_le (am_I s 2 (((0 : Int32) + (am_min (am_abs x2) (8 : Int32))).toNatClampNeg)) (fun y2 =>
      am_jn (fun (e4 : Int32) s5 =>
        am_bi (f_X2_dampWeight (am_I s5 1 2) s5) (fun v7 s6 =>
          some (.inl (some (.int (((x1 * v7) * (am_I s6 2 19)) - (((am_I s6 37 8) * (am_I s6 37 4)) * e4)))), s6)
        )
      ) (fun J3 =>
        if 0 ≤ x2 then
          J3 y2 s
        else
          J3 (-y2) s
      )
    )
  else none
theorem s_X7_torque {N n : Nat} {d : Nat} {x1 : Int32} {x2 : Int32} {s : am_S} (h : am_sh N n s)  : am_S1 (am_sh N n) (d + 1) mX7_torque [.ref 0, .int x1, .int x2] s (f_X7_torque x1 x2 s) := by
  intro P Q k hP
  show am_WP (d + 1) mX7_torque 0 [(0, .ref 0), (1, .int x1), (2, .int x2)] [] s Q
  unfold f_X7_torque at k
  refine wp_ld (v := .ref 0) dX7_torque_0 rfl rfl rfl rfl ?_
  refine wp_gr dX7_torque_1 rfl rfl (kk_0 h) (rr_0_0 h) ?_
  refine wp_gr dX7_torque_4 rfl rfl (kk_1 h) (rr_1_3 h) ?_
  refine wp_cst (v := .int (0 : Int32)) dX7_torque_7 rfl rfl ?_
  refine wp_ld (v := .int x2) dX7_torque_8 rfl rfl rfl rfl ?_
  refine wp_mem (st' := .int (am_abs x2) :: [.int (0 : Int32), .ref 2]) dX7_torque_9 rfl rfl rfl rfl ?_
  refine wp_cst (v := .int (8 : Int32)) dX7_torque_12 rfl rfl ?_
  refine wp_mem (st' := .int (am_min (am_abs x2) (8 : Int32)) :: [.int (0 : Int32), .ref 2]) dX7_torque_14 rfl rfl rfl rfl ?_
  refine wp_pu dX7_torque_17 rfl rfl ?_
  obtain ⟨g1, k⟩ := ok_g k
  refine wq_iald dX7_torque_18 (kk_2 h) g1 (v := (am_I s 2 (((0 : Int32) + (am_min (am_abs x2) (8 : Int32))).toNatClampNeg))) rfl ?_
  refine ls_i k (fun y2 _ k => ?_)
  refine wp_st (ls' := [(0, .ref 0), (1, .int x1), (2, .int x2), (3, .int y2)]) dX7_torque_19 rfl rfl rfl (Nat.le_of_ble_eq_true rfl) rfl ?_
  show am_WP (d + 1) mX7_torque 20 _ _ _ Q
  refine wp_ld (v := .int x2) dX7_torque_20 rfl rfl rfl rfl ?_
  refine jn_rule k (fun J3 hJ3 k => ?_)
  have HJ3 : ∀ (e4 : Int32) (s5 : am_S), am_sh N n s5 → am_ok (J3 e4 s5) P → am_WP (d + 1) mX7_torque 30 [(0, .ref 0), (1, .int x1)] [.int e4] s5 Q := by
    intro e4 s5 h k
    replace k := hJ3 _ _ k
    refine wp_st (ls' := [(0, .ref 0), (1, .int x1), (4, .int e4)]) dX7_torque_30 rfl rfl rfl (Nat.le_of_ble_eq_true rfl) rfl ?_
    refine wp_ld (v := .int x1) dX7_torque_32 rfl rfl rfl rfl ?_
    refine wp_ld (v := .ref 0) dX7_torque_33 rfl rfl rfl rfl ?_
    refine wp_gr dX7_torque_34 rfl rfl (kk_0 h) (rr_0_4 h) ?_
    refine wp_ld (v := .ref 0) dX7_torque_37 rfl rfl rfl rfl ?_
    refine wp_gr dX7_torque_38 rfl rfl (kk_0 h) (rr_0_0 h) ?_
    refine wq_gI dX7_torque_41 rfl rfl (kk_1 h) (v := (am_I s5 1 2)) rfl ?_
    refine c_i dX7_torque_44 rfl rfl rfl (am_inv_v rfl (kk_37 h) rfl rfl rfl) (s_X2_dampWeight h) k (fun v7 s6 h k => ?_)
    refine wp_pu dX7_torque_47 rfl rfl ?_
    refine wp_ld (v := .ref 0) dX7_torque_48 rfl rfl rfl rfl ?_
    refine wp_gr dX7_torque_49 rfl rfl (kk_0 h) (rr_0_0 h) ?_
    refine wp_gr dX7_torque_52 rfl rfl (kk_1 h) (rr_1_3 h) ?_
    refine wp_cst (v := .int (19 : Int32)) dX7_torque_55 rfl rfl ?_
    refine wq_iald dX7_torque_57 (kk_2 h) (by decide) (v := (am_I s6 2 19)) rfl ?_
    refine wp_pu dX7_torque_58 rfl rfl ?_
    refine wp_ld (v := .ref 0) dX7_torque_59 rfl rfl rfl rfl ?_
    refine wp_gr dX7_torque_60 rfl rfl (kk_0 h) (rr_0_4 h) ?_
    refine wq_gI dX7_torque_63 rfl rfl (kk_37 h) (v := (am_I s6 37 8)) rfl ?_
    refine wp_ld (v := .ref 0) dX7_torque_66 rfl rfl rfl rfl ?_
    show am_WP (d + 1) mX7_torque 67 _ _ _ Q
    refine wp_gr dX7_torque_67 rfl rfl (kk_0 h) (rr_0_4 h) ?_
    refine wq_gI dX7_torque_70 rfl rfl (kk_37 h) (v := (am_I s6 37 4)) rfl ?_
    refine wp_pu dX7_torque_73 rfl rfl ?_
    refine wp_ld (v := .int e4) dX7_torque_74 rfl rfl rfl rfl ?_
    refine wp_pu dX7_torque_76 rfl rfl ?_
    refine wp_pu dX7_torque_77 rfl rfl ?_
    exact wp_end dX7_torque_78 rfl (am_end_i rfl) (hP _ _ (ok_s k) h)
  refine wp_if_ge dX7_torque_21 rfl (fun c8 => have k := ok_pos c8 k; ?_) (fun c8 => have k := ok_neg c8 k; ?_)
  · refine wp_ld (v := .int y2) dX7_torque_29 rfl rfl rfl rfl ?_
    exact wp_sub (HJ3 _ _ h k) rfl ⟨rfl, rfl, trivial⟩
  · refine wp_ld (v := .int y2) dX7_torque_24 rfl rfl rfl rfl ?_
    refine wp_pu dX7_torque_25 rfl rfl ?_
    refine wp_goto dX7_torque_26 rfl ?_
    exact wp_sub (HJ3 _ _ h k) rfl ⟨rfl, rfl, trivial⟩
noncomputable def f_X7_isRest (x1 : Int32) (x2 : Int32) (s : am_S) : am_F :=
  am_bi (f_X7_torque x1 x2 s) (fun v2 s1 =>
    if v2 = 0 then
      some (.inl (some (.int (1 : Int32))), s1)
    else
      if v2 ≤ 0 then
        some (.inl (some (.int (0 : Int32))), s1)
      else
        if (8 : Int32) ≤ x2 then
          some (.inl (some (.int (0 : Int32))), s1)
        else
          am_bi (f_X7_torque x1 (x2 + (1 : Int32)) s1) (fun v7 s6 =>
            if 0 ≤ v7 then
              some (.inl (some (.int (0 : Int32))), s6)
            else
              some (.inl (some (.int (1 : Int32))), s6)
          )
  )
theorem s_X7_isRest {N n : Nat} {d : Nat} {x1 : Int32} {x2 : Int32} {s : am_S} (h : am_sh N n s)  : am_S1 (am_sh N n) (d + 2) mX7_isRest [.ref 0, .int x1, .int x2] s (f_X7_isRest x1 x2 s) := by
  intro P Q k hP
  show am_WP (d + 2) mX7_isRest 0 [(0, .ref 0), (1, .int x1), (2, .int x2)] [] s Q
  unfold f_X7_isRest at k
  refine wp_ld (v := .ref 0) dX7_isRest_0 rfl rfl rfl rfl ?_
  refine wp_ld (v := .int x1) dX7_isRest_1 rfl rfl rfl rfl ?_
  refine wp_ld (v := .int x2) dX7_isRest_2 rfl rfl rfl rfl ?_
  refine c_i dX7_isRest_3 rfl rfl rfl (am_inv_v rfl (kk_0 h) rfl rfl rfl) (s_X7_torque h) k (fun v2 s1 h k => ?_)
  refine wp_st (ls' := [(0, .ref 0), (1, .int x1), (2, .int x2), (3, .int v2)]) dX7_isRest_6 rfl rfl rfl (Nat.le_of_ble_eq_true rfl) rfl ?_
  refine wp_ld (v := .int v2) dX7_isRest_7 rfl rfl rfl rfl ?_
  refine wp_if_eq dX7_isRest_8 rfl (fun c3 => have k := ok_pos c3 k; ?_) (fun c3 => have k := ok_neg c3 k; ?_)
  · refine wp_cst (v := .int (1 : Int32)) dX7_isRest_32 rfl rfl ?_
    refine wp_goto dX7_isRest_33 rfl ?_
    exact wp_end dX7_isRest_37 rfl rfl (hP _ _ (ok_s k) h)
  · refine wp_ld (v := .int v2) dX7_isRest_11 rfl rfl rfl rfl ?_
    refine wp_if_le dX7_isRest_12 rfl (fun c4 => have k := ok_pos c4 k; ?_) (fun c4 => have k := ok_neg c4 k; ?_)
    · refine wp_cst (v := .int (0 : Int32)) dX7_isRest_36 rfl rfl ?_
      exact wp_end dX7_isRest_37 rfl rfl (hP _ _ (ok_s k) h)
    · refine wp_ld (v := .int x2) dX7_isRest_15 rfl rfl rfl rfl ?_
      refine wp_cst (v := .int (8 : Int32)) dX7_isRest_16 rfl rfl ?_
      refine wp_ic_ge dX7_isRest_18 rfl (fun c5 => have k := ok_pos c5 k; ?_) (fun c5 => have k := ok_neg c5 k; ?_)
      · refine wp_cst (v := .int (0 : Int32)) dX7_isRest_36 rfl rfl ?_
        exact wp_end dX7_isRest_37 rfl rfl (hP _ _ (ok_s k) h)
      · refine wp_ld (v := .ref 0) dX7_isRest_21 rfl rfl rfl rfl ?_
        refine wp_ld (v := .int x1) dX7_isRest_22 rfl rfl rfl rfl ?_
        refine wp_ld (v := .int x2) dX7_isRest_23 rfl rfl rfl rfl ?_
        refine wp_cst (v := .int (1 : Int32)) dX7_isRest_24 rfl rfl ?_
        refine wp_pu dX7_isRest_25 rfl rfl ?_
        refine c_i dX7_isRest_26 rfl rfl rfl (am_inv_v rfl (kk_0 h) rfl rfl rfl) (s_X7_torque h) k (fun v7 s6 h k => ?_)
        refine wp_if_ge dX7_isRest_29 rfl (fun c8 => have k := ok_pos c8 k; ?_) (fun c8 => have k := ok_neg c8 k; ?_)
        · refine wp_cst (v := .int (0 : Int32)) dX7_isRest_36 rfl rfl ?_
          exact wp_end dX7_isRest_37 rfl rfl (hP _ _ (ok_s k) h)
        · refine wp_cst (v := .int (1 : Int32)) dX7_isRest_32 rfl rfl ?_
          refine wp_goto dX7_isRest_33 rfl ?_
          exact wp_end dX7_isRest_37 rfl rfl (hP _ _ (ok_s k) h)
noncomputable def L_X7_rest_20 : Nat → Int32 → Int32 → Int32 → Int32 → am_S → am_FE (Int32)
  | 0, _, _, _, _, _ => none
  | m + 1, x2, x3, x4, x5, s =>
    if (8 : Int32) < x5 then
      some (.inr (x4, s))
    else
      am_bi (f_X7_isRest x2 x5 s) (fun v13 s12 =>
        if v13 = 0 then
          L_X7_rest_20 m x2 x3 x4 (x5 + (1 : Int32)) s12
        else
          if x4 = x3 then
            some (.inl (.inl (some (.int (x5 + (100 : Int32)))), s12))
          else
            L_X7_rest_20 m x2 x3 (x4 + (1 : Int32)) (x5 + (1 : Int32)) s12
      )
theorem q_X7_rest_20 : ∀ (m : Nat) {N n : Nat} {d : Nat} {x2 : Int32} {x3 : Int32} {x4 : Int32} {x5 : Int32} {s : am_S} {P : (am_O × am_S) ⊕ (Int32 × am_S) → Prop} {Q : am_O → am_S → Prop} (h : am_sh N n s)  (k : am_ok (L_X7_rest_20 m x2 x3 x4 x5 s) P) (hP : ∀ o s, P (.inl (o, s)) → am_sh N n s → Q o s) (hX : ∀ (e : Int32) s, P (.inr (e, s)) → am_sh N n s → am_WP (d + 6) mX7_rest 58 [(3, .int x3), (4, .int e)] [] s Q), am_WP (d + 6) mX7_rest 20 [(0, .ref 0), (2, .int x2), (3, .int x3), (4, .int x4), (5, .int x5)] [] s Q := by
  intro m
  induction m with
  | zero =>
    intro N n d x2 x3 x4 x5 s P Q h  k hP hX
    exact (ok_no k).elim
  | succ m ih =>
    intro N n d x2 x3 x4 x5 s P Q h  k hP hX
    unfold L_X7_rest_20 at k
    refine wp_ld (v := .int x5) dX7_rest_20 rfl rfl rfl rfl ?_
    refine wp_cst (v := .int (8 : Int32)) dX7_rest_22 rfl rfl ?_
    refine wp_ic_gt dX7_rest_24 rfl (fun c11 => have k := ok_pos c11 k; ?_) (fun c11 => have k := ok_neg c11 k; ?_)
    · exact wp_sub (hX _ _ (ok_s k) h) rfl ⟨rfl, rfl, trivial⟩
    · refine wp_ld (v := .ref 0) dX7_rest_27 rfl rfl rfl rfl ?_
      refine wp_ld (v := .int x2) dX7_rest_28 rfl rfl rfl rfl ?_
      refine wp_ld (v := .int x5) dX7_rest_29 rfl rfl rfl rfl ?_
      refine c_i dX7_rest_31 rfl rfl rfl (am_inv_v rfl (kk_0 h) rfl rfl rfl) (s_X7_isRest h) k (fun v13 s12 h k => ?_)
      refine wp_if_eq dX7_rest_34 rfl (fun c14 => have k := ok_pos c14 k; ?_) (fun c14 => have k := ok_neg c14 k; ?_)
      · refine wp_inc (v := (x5 + (1 : Int32))) (ls' := [(0, .ref 0), (2, .int x2), (3, .int x3), (4, .int x4), (5, .int (x5 + (1 : Int32)))]) dX7_rest_52 rfl (Nat.le_of_ble_eq_true rfl) rfl rfl ?_
        refine wp_goto dX7_rest_55 rfl ?_
        exact wp_sub (ih h k hP hX) rfl ⟨rfl, rfl, rfl, rfl, rfl, trivial⟩
      · refine wp_ld (v := .int x4) dX7_rest_37 rfl rfl rfl rfl ?_
        refine wp_ld (v := .int x3) dX7_rest_39 rfl rfl rfl rfl ?_
        refine wp_ic_ne dX7_rest_40 rfl (fun c15 => have k := ok_neg c15 k; ?_) (fun c15 => have k := ok_pos c15 k; ?_)
        · refine wp_inc (v := (x4 + (1 : Int32))) (ls' := [(0, .ref 0), (2, .int x2), (3, .int x3), (4, .int (x4 + (1 : Int32))), (5, .int x5)]) dX7_rest_49 rfl (Nat.le_of_ble_eq_true rfl) rfl rfl ?_
          refine wp_inc (v := (x5 + (1 : Int32))) (ls' := [(0, .ref 0), (2, .int x2), (3, .int x3), (4, .int (x4 + (1 : Int32))), (5, .int (x5 + (1 : Int32)))]) dX7_rest_52 rfl (Nat.le_of_ble_eq_true rfl) rfl rfl ?_
          refine wp_goto dX7_rest_55 rfl ?_
          exact wp_sub (ih h k hP hX) rfl ⟨rfl, rfl, rfl, rfl, rfl, trivial⟩
        · refine wp_ld (v := .int x5) dX7_rest_43 rfl rfl rfl rfl ?_
          refine wp_cst (v := .int (100 : Int32)) dX7_rest_45 rfl rfl ?_
          refine wp_pu dX7_rest_47 rfl rfl ?_
          exact wp_end dX7_rest_48 rfl (am_end_i rfl) (hP _ _ (ok_s k) h)
noncomputable def f_X7_rest (x1 : Int32) (x2 : Int32) (x3 : Int32) (s : am_S) : am_F :=
  am_tv (f_X7_needWay x1 s) (fun v2 s1 =>
    am_mv v2 none (fun t3 => if am_k0 t3 = (4, 0) ∧ t3 < 72 then
      am_tu (f_X7_needMake t3 s1) (fun s7 =>
        am_tu (f_X7_needEars x2 s7) (fun s9 =>
          am_lm (L_X7_rest_20 ax_fuel x2 x3 (0 : Int32) (-8 : Int32) s9) (fun e16 s17 =>
            if x3 = (-1 : Int32) then
              some (.inl (some (.int e16)), s17)
            else
              some (.inl (some (.int (-1 : Int32))), s17)
          )
        )
      )
    else none)
  )
theorem s_X7_rest {N n : Nat} {d : Nat} {x1 : Int32} {x2 : Int32} {x3 : Int32} {s : am_S} (h : am_sh N n s)  : am_S1 (am_sh N n) (d + 6) mX7_rest [.ref 0, .int x1, .int x2, .int x3] s (f_X7_rest x1 x2 x3 s) := by
  intro P Q k hP
  show am_WP (d + 6) mX7_rest 0 [(0, .ref 0), (1, .int x1), (2, .int x2), (3, .int x3)] [] s Q
  unfold f_X7_rest at k
  refine wp_ld (v := .ref 0) dX7_rest_0 rfl rfl rfl rfl ?_
  refine wp_ld (v := .ref 0) dX7_rest_1 rfl rfl rfl rfl ?_
  refine wp_ld (v := .int x1) dX7_rest_2 rfl rfl rfl rfl ?_
  refine t_v dX7_rest_3 rfl rfl rfl (am_inv_v rfl (kk_0 h) rfl rfl rfl) (s_X7_needWay h) k rfl rfl hP (fun v2 s1 h k => ?_)
  obtain ⟨t3, c4, k⟩ := ok_mn k
  subst c4
  obtain ⟨g5, k⟩ := ok_g k
  have f6 := kk_up h g5
  refine t_u dX7_rest_6 rfl rfl rfl (am_inv_v rfl (kk_0 h) rfl rfl rfl) (s_X7_needMake h f6) k rfl rfl hP (fun s7 h k => ?_)
  refine wp_ld (v := .int x2) dX7_rest_9 rfl rfl rfl rfl ?_
  refine t_u dX7_rest_10 rfl rfl rfl (am_inv_s rfl rfl rfl rfl) (s_X7_needEars h) k rfl rfl hP (fun s9 h k => ?_)
  refine wp_cst (v := .int (0 : Int32)) dX7_rest_13 rfl rfl ?_
  refine wp_st (ls' := [(0, .ref 0), (1, .int x1), (2, .int x2), (3, .int x3), (4, .int (0 : Int32))]) dX7_rest_14 rfl rfl rfl (Nat.le_of_ble_eq_true rfl) rfl ?_
  refine wp_cst (v := .int (-8 : Int32)) dX7_rest_16 rfl rfl ?_
  refine wp_st (ls' := [(0, .ref 0), (1, .int x1), (2, .int x2), (3, .int x3), (4, .int (0 : Int32)), (5, .int (-8 : Int32))]) dX7_rest_18 rfl rfl rfl (Nat.le_of_ble_eq_true rfl) rfl ?_
  refine lp_m k (fun P1 k hA hB => ?_)
  refine wp_sub (q_X7_rest_20 ax_fuel h k (fun o s p h => hP o s (hA o s p) h) (fun e16 s17 p h => have k := hB e16 s17 p; ?_)) rfl ⟨rfl, rfl, rfl, rfl, rfl, trivial⟩
  refine wp_ld (v := .int x3) dX7_rest_58 rfl rfl rfl rfl ?_
  refine wp_cst (v := .int (-1 : Int32)) dX7_rest_59 rfl rfl ?_
  refine wp_ic_ne dX7_rest_60 rfl (fun c18 => have k := ok_neg c18 k; ?_) (fun c18 => have k := ok_pos c18 k; ?_)
  · refine wp_cst (v := .int (-1 : Int32)) dX7_rest_68 rfl rfl ?_
    exact wp_end dX7_rest_69 rfl (am_end_i rfl) (hP _ _ (ok_s k) h)
  · refine wp_ld (v := .int e16) dX7_rest_63 rfl rfl rfl rfl ?_
    refine wp_goto dX7_rest_65 rfl ?_
    exact wp_end dX7_rest_69 rfl (am_end_i rfl) (hP _ _ (ok_s k) h)
noncomputable def f_L_rest (x2 : Int32) (x3 : Int32) (x4 : Int32) (s : am_S) : am_F :=
  am_xi (f_X7_rest x2 x3 x4 s) (fun v2 s1 =>
    some (.inl (some (.int (0 : Int32))), (am_sL s1 71 0 v2.toInt64))
  ) (fun e s1 =>
    if e = 3 then
      some (.inl (some (.int (1 : Int32))), s1)
    else
      if e = 1 then
        some (.inl (some (.int (2 : Int32))), s1)
      else
        if e = 0 then
          some (.inl (some (.int (3 : Int32))), s1)
        else
          none
  )
theorem s_L_rest {N : Nat} {d : Nat} {x2 : Int32} {x3 : Int32} {x4 : Int32} {s : am_S} (h : am_shE N s)  : am_S1 (am_shE N) (d + 7) mL_rest [.ref 0, .int x2, .int x3, .int x4, .ref 71] s (f_L_rest x2 x3 x4 s) := by
  intro P Q k hP
  show am_WP (d + 7) mL_rest 0 [(0, .ref 0), (1, .int x2), (2, .int x3), (3, .int x4), (4, .ref 71)] [] s Q
  unfold f_L_rest at k
  refine wp_ld (v := .ref 71) dL_rest_0 rfl rfl rfl rfl ?_
  refine wp_cst (v := .int (0 : Int32)) dL_rest_2 rfl rfl ?_
  refine wp_ld (v := .ref 0) dL_rest_3 rfl rfl rfl rfl ?_
  refine wp_ld (v := .int x2) dL_rest_4 rfl rfl rfl rfl ?_
  refine wp_ld (v := .int x3) dL_rest_5 rfl rfl rfl rfl ?_
  refine wp_ld (v := .int x4) dL_rest_6 rfl rfl rfl rfl ?_
  refine x_i dL_rest_7 rfl rfl rfl (am_inv_v rfl (kE_0 h) rfl rfl rfl) (sE h (fun _ h => s_X7_rest h)) k rfl (List.cons_ne_nil _ _) (fun v2 s1 h k => ?_) (fun e s1 h k => ?_)
  · refine wp_pu dL_rest_10 rfl rfl ?_
    refine wq_last dL_rest_11 (kE_71 h) (by decide) (j := 0) rfl ?_
    refine wp_goto dL_rest_12 rfl ?_
    refine wp_cst (v := .int (0 : Int32)) dL_rest_27 rfl rfl ?_
    exact wp_end dL_rest_28 rfl (am_end_i rfl) (hP _ _ (ok_s k) (shE_sL h))
  · by_cases c3 : e = 3
    · have k := ok_pos c3 k
      subst c3
      refine ⟨_, _, rfl, ?_⟩
      refine wp_cst (v := .int (1 : Int32)) dL_rest_17 rfl rfl ?_
      exact wp_end dL_rest_18 rfl (am_end_i rfl) (hP _ _ (ok_s k) h)
    replace k := ok_neg c3 k
    by_cases c4 : e = 1
    · have k := ok_pos c4 k
      subst c4
      refine ⟨_, _, rfl, ?_⟩
      refine wp_cst (v := .int (2 : Int32)) dL_rest_21 rfl rfl ?_
      exact wp_end dL_rest_22 rfl (am_end_i rfl) (hP _ _ (ok_s k) h)
    replace k := ok_neg c4 k
    by_cases c5 : e = 0
    · have k := ok_pos c5 k
      subst c5
      refine ⟨_, _, rfl, ?_⟩
      refine wp_cst (v := .int (3 : Int32)) dL_rest_25 rfl rfl ?_
      exact wp_end dL_rest_26 rfl (am_end_i rfl) (hP _ _ (ok_s k) h)
    replace k := ok_neg c5 k
    exact (ok_no k).elim
noncomputable def f_X8_turns (x1 : Int32) (x2 : Int32) (s : am_S) : am_F :=
  if am_in ((13 : Int32) + (am_abs x2)) 264 = true then
    am_bl (f_X8_heavy s) (fun v3 s2 =>
      if 0 ≤ x2 then
        some (.inl (some (.long (((x1.toInt64 * v3) * (am_I s2 56 9).toInt64) - (((am_I s2 55 27).toInt64 * (am_I s2 55 23).toInt64) * (am_I s 56 (((13 : Int32) + (am_abs x2)).toNatClampNeg)).toInt64)))), s2)
      else
        some (.inl (some (.long (((x1.toInt64 * v3) * (am_I s2 56 9).toInt64) - (((am_I s2 55 27).toInt64 * (am_I s2 55 23).toInt64) * (-(am_I s 56 (((13 : Int32) + (am_abs x2)).toNatClampNeg)).toInt64))))), s2)
    )
  else none
theorem s_X8_turns {N n : Nat} {d : Nat} {x1 : Int32} {x2 : Int32} {s : am_S} (h : am_sh N n s)  : am_S1 (am_sh N n) (d + 1) mX8_turns [.ref 55, .int x1, .int x2] s (f_X8_turns x1 x2 s) := by
  intro P Q k hP
  show am_WP (d + 1) mX8_turns 0 [(0, .ref 55), (1, .int x1), (2, .int x2)] [] s Q
  unfold f_X8_turns at k
  refine wp_ld (v := .ref 55) dX8_turns_0 rfl rfl rfl rfl ?_
  refine wp_gr dX8_turns_1 rfl rfl (kk_55 h) (rr_55_0 h) ?_
  refine wp_cst (v := .int (13 : Int32)) dX8_turns_4 rfl rfl ?_
  refine wp_ld (v := .int x2) dX8_turns_6 rfl rfl rfl rfl ?_
  refine wp_mem (st' := .int (am_abs x2) :: [.int (13 : Int32), .ref 56]) dX8_turns_7 rfl rfl rfl rfl ?_
  refine wp_pu dX8_turns_10 rfl rfl ?_
  obtain ⟨g1, k⟩ := ok_g k
  refine wq_iald dX8_turns_11 (kk_56 h) g1 (v := (am_I s 56 (((13 : Int32) + (am_abs x2)).toNatClampNeg))) rfl ?_
  refine wp_pu dX8_turns_12 rfl rfl ?_
  refine wp_st (ls' := [(0, .ref 55), (1, .int x1), (2, .int x2), (3, .long (am_I s 56 (((13 : Int32) + (am_abs x2)).toNatClampNeg)).toInt64)]) dX8_turns_13 rfl rfl rfl (Nat.le_of_ble_eq_true rfl) rfl ?_
  refine wp_ld (v := .int x1) dX8_turns_14 rfl rfl rfl rfl ?_
  refine wp_pu dX8_turns_15 rfl rfl ?_
  show am_WP (d + 1) mX8_turns 16 _ _ _ Q
  refine wp_ld (v := .ref 55) dX8_turns_16 rfl rfl rfl rfl ?_
  refine c_l dX8_turns_17 rfl rfl rfl (am_inv_v rfl (kk_55 h) rfl rfl rfl) (s_X8_heavy h) k (fun v3 s2 h k => ?_)
  refine wp_pu dX8_turns_20 rfl rfl ?_
  refine wp_ld (v := .ref 55) dX8_turns_21 rfl rfl rfl rfl ?_
  refine wp_gr dX8_turns_22 rfl rfl (kk_55 h) (rr_55_0 h) ?_
  refine wp_cst (v := .int (9 : Int32)) dX8_turns_25 rfl rfl ?_
  refine wq_iald dX8_turns_27 (kk_56 h) (by decide) (v := (am_I s2 56 9)) rfl ?_
  refine wp_pu dX8_turns_28 rfl rfl ?_
  refine wp_pu dX8_turns_29 rfl rfl ?_
  refine wp_ld (v := .ref 55) dX8_turns_30 rfl rfl rfl rfl ?_
  refine wq_gI dX8_turns_31 rfl rfl (kk_55 h) (v := (am_I s2 55 27)) rfl ?_
  refine wp_pu dX8_turns_34 rfl rfl ?_
  refine wp_ld (v := .ref 55) dX8_turns_35 rfl rfl rfl rfl ?_
  show am_WP (d + 1) mX8_turns 36 _ _ _ Q
  refine wq_gI dX8_turns_36 rfl rfl (kk_55 h) (v := (am_I s2 55 23)) rfl ?_
  refine wp_pu dX8_turns_39 rfl rfl ?_
  refine wp_pu dX8_turns_40 rfl rfl ?_
  refine wp_ld (v := .int x2) dX8_turns_41 rfl rfl rfl rfl ?_
  refine wp_if_ge dX8_turns_42 rfl (fun c4 => have k := ok_pos c4 k; ?_) (fun c4 => have k := ok_neg c4 k; ?_)
  · refine wp_ld (v := .long (am_I s 56 (((13 : Int32) + (am_abs x2)).toNatClampNeg)).toInt64) dX8_turns_50 rfl rfl rfl rfl ?_
    refine wp_pu dX8_turns_51 rfl rfl ?_
    refine wp_pu dX8_turns_52 rfl rfl ?_
    exact wp_end dX8_turns_53 rfl (am_end_l rfl) (hP _ _ (ok_s k) h)
  · refine wp_ld (v := .long (am_I s 56 (((13 : Int32) + (am_abs x2)).toNatClampNeg)).toInt64) dX8_turns_45 rfl rfl rfl rfl ?_
    refine wp_pu dX8_turns_46 rfl rfl ?_
    refine wp_goto dX8_turns_47 rfl ?_
    refine wp_pu dX8_turns_51 rfl rfl ?_
    refine wp_pu dX8_turns_52 rfl rfl ?_
    exact wp_end dX8_turns_53 rfl (am_end_l rfl) (hP _ _ (ok_s k) h)
noncomputable def f_X8_isRest (x1 : Int32) (x2 : Int32) (s : am_S) : am_F :=
  am_bl (f_X8_turns x1 x2 s) (fun v2 s1 =>
    if v2 = (0 : Int64) then
      some (.inl (some (.int (1 : Int32))), s1)
    else
      if (8 : Int32) ≤ x2 then
        some (.inl (some (.int (0 : Int32))), s1)
      else
        if v2 ≤ (0 : Int64) then
          some (.inl (some (.int (0 : Int32))), s1)
        else
          am_bl (f_X8_turns x1 (x2 + (1 : Int32)) s1) (fun v7 s6 =>
            if (0 : Int64) ≤ v7 then
              some (.inl (some (.int (0 : Int32))), s6)
            else
              some (.inl (some (.int (1 : Int32))), s6)
          )
  )
theorem s_X8_isRest {N n : Nat} {d : Nat} {x1 : Int32} {x2 : Int32} {s : am_S} (h : am_sh N n s)  : am_S1 (am_sh N n) (d + 2) mX8_isRest [.ref 55, .int x1, .int x2] s (f_X8_isRest x1 x2 s) := by
  intro P Q k hP
  show am_WP (d + 2) mX8_isRest 0 [(0, .ref 55), (1, .int x1), (2, .int x2)] [] s Q
  unfold f_X8_isRest at k
  refine wp_ld (v := .ref 55) dX8_isRest_0 rfl rfl rfl rfl ?_
  refine wp_ld (v := .int x1) dX8_isRest_1 rfl rfl rfl rfl ?_
  refine wp_ld (v := .int x2) dX8_isRest_2 rfl rfl rfl rfl ?_
  refine c_l dX8_isRest_3 rfl rfl rfl (am_inv_v rfl (kk_55 h) rfl rfl rfl) (s_X8_turns h) k (fun v2 s1 h k => ?_)
  refine wp_st (ls' := [(0, .ref 55), (1, .int x1), (2, .int x2), (3, .long v2)]) dX8_isRest_6 rfl rfl rfl (Nat.le_of_ble_eq_true rfl) rfl ?_
  refine wp_ld (v := .long v2) dX8_isRest_7 rfl rfl rfl rfl ?_
  refine wp_cst (v := .long (0 : Int64)) dX8_isRest_8 rfl rfl ?_
  refine wl_eq dX8_isRest_9 dX8_isRest_10 rfl (fun c3 => have k := ok_pos c3 k; ?_) (fun c3 => have k := ok_neg c3 k; ?_)
  · refine wp_cst (v := .int (1 : Int32)) dX8_isRest_38 rfl rfl ?_
    refine wp_goto dX8_isRest_39 rfl ?_
    exact wp_end dX8_isRest_43 rfl rfl (hP _ _ (ok_s k) h)
  · refine wp_ld (v := .int x2) dX8_isRest_13 rfl rfl rfl rfl ?_
    refine wp_cst (v := .int (8 : Int32)) dX8_isRest_14 rfl rfl ?_
    refine wp_ic_ge dX8_isRest_16 rfl (fun c4 => have k := ok_pos c4 k; ?_) (fun c4 => have k := ok_neg c4 k; ?_)
    · refine wp_cst (v := .int (0 : Int32)) dX8_isRest_42 rfl rfl ?_
      exact wp_end dX8_isRest_43 rfl rfl (hP _ _ (ok_s k) h)
    · refine wp_ld (v := .long v2) dX8_isRest_19 rfl rfl rfl rfl ?_
      refine wp_cst (v := .long (0 : Int64)) dX8_isRest_20 rfl rfl ?_
      refine wl_le dX8_isRest_21 dX8_isRest_22 rfl (fun c5 => have k := ok_pos c5 k; ?_) (fun c5 => have k := ok_neg c5 k; ?_)
      · refine wp_cst (v := .int (0 : Int32)) dX8_isRest_42 rfl rfl ?_
        exact wp_end dX8_isRest_43 rfl rfl (hP _ _ (ok_s k) h)
      · refine wp_ld (v := .ref 55) dX8_isRest_25 rfl rfl rfl rfl ?_
        refine wp_ld (v := .int x1) dX8_isRest_26 rfl rfl rfl rfl ?_
        refine wp_ld (v := .int x2) dX8_isRest_27 rfl rfl rfl rfl ?_
        refine wp_cst (v := .int (1 : Int32)) dX8_isRest_28 rfl rfl ?_
        refine wp_pu dX8_isRest_29 rfl rfl ?_
        refine c_l dX8_isRest_30 rfl rfl rfl (am_inv_v rfl (kk_55 h) rfl rfl rfl) (s_X8_turns h) k (fun v7 s6 h k => ?_)
        refine wp_cst (v := .long (0 : Int64)) dX8_isRest_33 rfl rfl ?_
        refine wl_ge dX8_isRest_34 dX8_isRest_35 rfl (fun c8 => have k := ok_pos c8 k; ?_) (fun c8 => have k := ok_neg c8 k; ?_)
        · refine wp_cst (v := .int (0 : Int32)) dX8_isRest_42 rfl rfl ?_
          exact wp_end dX8_isRest_43 rfl rfl (hP _ _ (ok_s k) h)
        · refine wp_cst (v := .int (1 : Int32)) dX8_isRest_38 rfl rfl ?_
          refine wp_goto dX8_isRest_39 rfl ?_
          exact wp_end dX8_isRest_43 rfl rfl (hP _ _ (ok_s k) h)
noncomputable def L_X8_rest_38 : Nat → Int32 → Int32 → Int32 → Int32 → am_S → am_FE (Int32)
  | 0, _, _, _, _, _ => none
  | m + 1, x2, x3, x4, x5, s =>
    if (8 : Int32) < x5 then
      some (.inr (x4, s))
    else
      am_bi (f_X8_isRest x2 x5 s) (fun v9 s8 =>
        if v9 = 0 then
          L_X8_rest_38 m x2 x3 x4 (x5 + (1 : Int32)) s8
        else
          if x4 = x3 then
            some (.inl (.inl (some (.int (x5 + (100 : Int32)))), s8))
          else
            L_X8_rest_38 m x2 x3 (x4 + (1 : Int32)) (x5 + (1 : Int32)) s8
      )
theorem q_X8_rest_38 : ∀ (m : Nat) {N n : Nat} {d : Nat} {x2 : Int32} {x3 : Int32} {x4 : Int32} {x5 : Int32} {s : am_S} {P : (am_O × am_S) ⊕ (Int32 × am_S) → Prop} {Q : am_O → am_S → Prop} (h : am_sh N n s)  (k : am_ok (L_X8_rest_38 m x2 x3 x4 x5 s) P) (hP : ∀ o s, P (.inl (o, s)) → am_sh N n s → Q o s) (hX : ∀ (e : Int32) s, P (.inr (e, s)) → am_sh N n s → am_WP (d + 4) mX8_rest 79 [(3, .int x3), (4, .int e)] [] s Q), am_WP (d + 4) mX8_rest 38 [(0, .ref 55), (2, .int x2), (3, .int x3), (4, .int x4), (5, .int x5)] [] s Q := by
  intro m
  induction m with
  | zero =>
    intro N n d x2 x3 x4 x5 s P Q h  k hP hX
    exact (ok_no k).elim
  | succ m ih =>
    intro N n d x2 x3 x4 x5 s P Q h  k hP hX
    unfold L_X8_rest_38 at k
    refine wp_ld (v := .int x5) dX8_rest_38 rfl rfl rfl rfl ?_
    refine wp_cst (v := .int (8 : Int32)) dX8_rest_40 rfl rfl ?_
    refine wp_ic_gt dX8_rest_42 rfl (fun c7 => have k := ok_pos c7 k; ?_) (fun c7 => have k := ok_neg c7 k; ?_)
    · exact wp_sub (hX _ _ (ok_s k) h) rfl ⟨rfl, rfl, trivial⟩
    · refine wp_ld (v := .ref 55) dX8_rest_45 rfl rfl rfl rfl ?_
      refine wp_ld (v := .int x2) dX8_rest_46 rfl rfl rfl rfl ?_
      refine wp_ld (v := .int x5) dX8_rest_47 rfl rfl rfl rfl ?_
      refine c_i dX8_rest_49 rfl rfl rfl (am_inv_v rfl (kk_55 h) rfl rfl rfl) (s_X8_isRest h) k (fun v9 s8 h k => ?_)
      refine wp_if_ne dX8_rest_52 rfl (fun c10 => have k := ok_neg c10 k; ?_) (fun c10 => have k := ok_pos c10 k; ?_)
      · refine wp_ld (v := .int x4) dX8_rest_58 rfl rfl rfl rfl ?_
        refine wp_ld (v := .int x3) dX8_rest_60 rfl rfl rfl rfl ?_
        refine wp_ic_ne dX8_rest_61 rfl (fun c11 => have k := ok_neg c11 k; ?_) (fun c11 => have k := ok_pos c11 k; ?_)
        · refine wp_inc (v := (x4 + (1 : Int32))) (ls' := [(0, .ref 55), (2, .int x2), (3, .int x3), (4, .int (x4 + (1 : Int32))), (5, .int x5)]) dX8_rest_70 rfl (Nat.le_of_ble_eq_true rfl) rfl rfl ?_
          refine wp_inc (v := (x5 + (1 : Int32))) (ls' := [(0, .ref 55), (2, .int x2), (3, .int x3), (4, .int (x4 + (1 : Int32))), (5, .int (x5 + (1 : Int32)))]) dX8_rest_73 rfl (Nat.le_of_ble_eq_true rfl) rfl rfl ?_
          refine wp_goto dX8_rest_76 rfl ?_
          exact wp_sub (ih h k hP hX) rfl ⟨rfl, rfl, rfl, rfl, rfl, trivial⟩
        · refine wp_ld (v := .int x5) dX8_rest_64 rfl rfl rfl rfl ?_
          refine wp_cst (v := .int (100 : Int32)) dX8_rest_66 rfl rfl ?_
          refine wp_pu dX8_rest_68 rfl rfl ?_
          exact wp_end dX8_rest_69 rfl (am_end_i rfl) (hP _ _ (ok_s k) h)
      · refine wp_goto dX8_rest_55 rfl ?_
        refine wp_inc (v := (x5 + (1 : Int32))) (ls' := [(0, .ref 55), (2, .int x2), (3, .int x3), (4, .int x4), (5, .int (x5 + (1 : Int32)))]) dX8_rest_73 rfl (Nat.le_of_ble_eq_true rfl) rfl rfl ?_
        refine wp_goto dX8_rest_76 rfl ?_
        exact wp_sub (ih h k hP hX) rfl ⟨rfl, rfl, rfl, rfl, rfl, trivial⟩
noncomputable def f_X8_rest (x1 : Int32) (x2 : Int32) (x3 : Int32) (s : am_S) : am_F :=
  am_bi (f_X8_wayFault x1 s) (fun v2 s1 =>
    if v2 ≤ 0 then
      am_bi (f_X8_isEars x2 (am_sI s1 55 3 v2)) (fun v5 s4 =>
        if v5 = 0 then
          am_bi (f_X8_fails (3 : Int32) s4) (fun v16 s15 =>
            some (.inl (some (.int v16)), s15)
          )
        else
          am_lm (L_X8_rest_38 ax_fuel x2 x3 (0 : Int32) (-8 : Int32) s4) (fun e12 s13 =>
            if x3 = (-1 : Int32) then
              some (.inl (some (.int e12)), s13)
            else
              some (.inl (some (.int (-1 : Int32))), s13)
          )
      )
    else
      some (.inl (some (.int (0 : Int32))), (am_sI s1 55 3 v2))
  )
theorem s_X8_rest {N n : Nat} {d : Nat} {x1 : Int32} {x2 : Int32} {x3 : Int32} {s : am_S} (h : am_sh N n s)  : am_S1 (am_sh N n) (d + 4) mX8_rest [.ref 55, .int x1, .int x2, .int x3] s (f_X8_rest x1 x2 x3 s) := by
  intro P Q k hP
  show am_WP (d + 4) mX8_rest 0 [(0, .ref 55), (1, .int x1), (2, .int x2), (3, .int x3)] [] s Q
  unfold f_X8_rest at k
  refine wp_ld (v := .ref 55) dX8_rest_0 rfl rfl rfl rfl ?_
  refine wp_ld (v := .ref 55) dX8_rest_1 rfl rfl rfl rfl ?_
  refine wp_ld (v := .int x1) dX8_rest_2 rfl rfl rfl rfl ?_
  refine c_i dX8_rest_3 rfl rfl rfl (am_inv_v rfl (kk_55 h) rfl rfl rfl) (s_X8_wayFault h) k (fun v2 s1 h k => ?_)
  refine wp_pI dX8_rest_6 rfl rfl rfl (fun h => absurd h (by decide)) (kk_55 h) ?_
  refine wp_ld (v := .ref 55) dX8_rest_9 rfl rfl rfl rfl ?_
  refine wq_gI dX8_rest_10 rfl rfl (kk_55 (sh_sI h)) (v := v2) rfl ?_
  refine wp_if_le dX8_rest_13 rfl (fun c3 => have k := ok_pos c3 k; ?_) (fun c3 => have k := ok_neg c3 k; ?_)
  · refine wp_ld (v := .int x2) dX8_rest_18 rfl rfl rfl rfl ?_
    refine c_i dX8_rest_19 rfl rfl rfl (am_inv_s rfl rfl rfl rfl) (s_X8_isEars (sh_sI h)) k (fun v5 s4 h k => ?_)
    refine wp_if_ne dX8_rest_22 rfl (fun c6 => have k := ok_neg c6 k; ?_) (fun c6 => have k := ok_pos c6 k; ?_)
    · refine wp_cst (v := .int (0 : Int32)) dX8_rest_31 rfl rfl ?_
      refine wp_st (ls' := [(0, .ref 55), (1, .int x1), (2, .int x2), (3, .int x3), (4, .int (0 : Int32))]) dX8_rest_32 rfl rfl rfl (Nat.le_of_ble_eq_true rfl) rfl ?_
      refine wp_cst (v := .int (-8 : Int32)) dX8_rest_34 rfl rfl ?_
      refine wp_st (ls' := [(0, .ref 55), (1, .int x1), (2, .int x2), (3, .int x3), (4, .int (0 : Int32)), (5, .int (-8 : Int32))]) dX8_rest_36 rfl rfl rfl (Nat.le_of_ble_eq_true rfl) rfl ?_
      refine lp_m k (fun P1 k hA hB => ?_)
      refine wp_sub (q_X8_rest_38 ax_fuel h k (fun o s p h => hP o s (hA o s p) h) (fun e12 s13 p h => have k := hB e12 s13 p; ?_)) rfl ⟨rfl, rfl, rfl, rfl, rfl, trivial⟩
      refine wp_ld (v := .int x3) dX8_rest_79 rfl rfl rfl rfl ?_
      refine wp_cst (v := .int (-1 : Int32)) dX8_rest_80 rfl rfl ?_
      refine wp_ic_ne dX8_rest_81 rfl (fun c14 => have k := ok_neg c14 k; ?_) (fun c14 => have k := ok_pos c14 k; ?_)
      · refine wp_cst (v := .int (-1 : Int32)) dX8_rest_89 rfl rfl ?_
        exact wp_end dX8_rest_90 rfl (am_end_i rfl) (hP _ _ (ok_s k) h)
      · refine wp_ld (v := .int e12) dX8_rest_84 rfl rfl rfl rfl ?_
        refine wp_goto dX8_rest_86 rfl ?_
        exact wp_end dX8_rest_90 rfl (am_end_i rfl) (hP _ _ (ok_s k) h)
    · refine wp_ld (v := .ref 55) dX8_rest_25 rfl rfl rfl rfl ?_
      refine wp_cst (v := .int (3 : Int32)) dX8_rest_26 rfl rfl ?_
      refine c_i dX8_rest_27 rfl rfl rfl (am_inv_v rfl (kk_55 h) rfl rfl rfl) (s_X8_fails h) k (fun v16 s15 h k => ?_)
      exact wp_end dX8_rest_30 rfl (am_end_i rfl) (hP _ _ (ok_s k) h)
  · refine wp_cst (v := .int (0 : Int32)) dX8_rest_16 rfl rfl ?_
    exact wp_end dX8_rest_17 rfl (am_end_i rfl) (hP _ _ (ok_s k) (sh_sI h))
