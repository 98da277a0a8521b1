noncomputable def f_X8_quarter (x1 : Int32) (s : am_S) : am_F :=
  if x1 = (0 : Int32) then
    some (.inl (some (.int (0 : Int32))), s)
  else if x1 = (1 : Int32) then
    some (.inl (some (.int (98 : Int32))), s)
  else if x1 = (2 : Int32) then
    some (.inl (some (.int (195 : Int32))), s)
  else if x1 = (3 : Int32) then
    some (.inl (some (.int (290 : Int32))), s)
  else if x1 = (4 : Int32) then
    some (.inl (some (.int (383 : Int32))), s)
  else if x1 = (5 : Int32) then
    some (.inl (some (.int (471 : Int32))), s)
  else if x1 = (6 : Int32) then
    some (.inl (some (.int (556 : Int32))), s)
  else if x1 = (7 : Int32) then
    some (.inl (some (.int (634 : Int32))), s)
  else if x1 = (8 : Int32) then
    some (.inl (some (.int (707 : Int32))), s)
  else if x1 = (9 : Int32) then
    some (.inl (some (.int (773 : Int32))), s)
  else if x1 = (10 : Int32) then
    some (.inl (some (.int (831 : Int32))), s)
  else if x1 = (11 : Int32) then
    some (.inl (some (.int (882 : Int32))), s)
  else if x1 = (12 : Int32) then
    some (.inl (some (.int (924 : Int32))), s)
  else if x1 = (13 : Int32) then
    some (.inl (some (.int (957 : Int32))), s)
  else if x1 = (14 : Int32) then
    some (.inl (some (.int (981 : Int32))), s)
  else if x1 = (15 : Int32) then
    some (.inl (some (.int (995 : Int32))), s)
  else
    some (.inl (some (.int (1000 : Int32))), s)
theorem s_X8_quarter {N n : Nat} {d : Nat} {x1 : Int32} {s : am_S} (h : am_sh N n s)  : am_S1 (am_sh N n) (d) mX8_quarter [.int x1] s (f_X8_quarter x1 s) := by
  intro P Q k hP
  show am_WP (d) mX8_quarter 0 [(0, .int x1)] [] s Q
  unfold f_X8_quarter at k
  refine wp_ld (v := .int x1) dX8_quarter_0 rfl rfl rfl rfl ?_
  by_cases c1 : x1 = (0 : Int32)
  · have k := ok_pos c1 k
    refine sw_hit dX8_quarter_1 rfl c1 rfl ?_
    refine wp_cst (v := .int (0 : Int32)) dX8_quarter_80 rfl rfl ?_
    exact wp_end dX8_quarter_81 rfl (am_end_i rfl) (hP _ _ (ok_s k) h)
  replace k := ok_neg c1 k
  by_cases c2 : x1 = (1 : Int32)
  · have k := ok_pos c2 k
    refine sw_hit dX8_quarter_1 rfl c2 rfl ?_
    refine wp_cst (v := .int (98 : Int32)) dX8_quarter_82 rfl rfl ?_
    exact wp_end dX8_quarter_84 rfl (am_end_i rfl) (hP _ _ (ok_s k) h)
  replace k := ok_neg c2 k
  by_cases c3 : x1 = (2 : Int32)
  · have k := ok_pos c3 k
    refine sw_hit dX8_quarter_1 rfl c3 rfl ?_
    refine wp_cst (v := .int (195 : Int32)) dX8_quarter_85 rfl rfl ?_
    exact wp_end dX8_quarter_88 rfl (am_end_i rfl) (hP _ _ (ok_s k) h)
  replace k := ok_neg c3 k
  by_cases c4 : x1 = (3 : Int32)
  · have k := ok_pos c4 k
    refine sw_hit dX8_quarter_1 rfl c4 rfl ?_
    refine wp_cst (v := .int (290 : Int32)) dX8_quarter_89 rfl rfl ?_
    exact wp_end dX8_quarter_92 rfl (am_end_i rfl) (hP _ _ (ok_s k) h)
  replace k := ok_neg c4 k
  by_cases c5 : x1 = (4 : Int32)
  · have k := ok_pos c5 k
    refine sw_hit dX8_quarter_1 rfl c5 rfl ?_
    refine wp_cst (v := .int (383 : Int32)) dX8_quarter_93 rfl rfl ?_
    exact wp_end dX8_quarter_96 rfl (am_end_i rfl) (hP _ _ (ok_s k) h)
  replace k := ok_neg c5 k
  by_cases c6 : x1 = (5 : Int32)
  · have k := ok_pos c6 k
    refine sw_hit dX8_quarter_1 rfl c6 rfl ?_
    refine wp_cst (v := .int (471 : Int32)) dX8_quarter_97 rfl rfl ?_
    exact wp_end dX8_quarter_100 rfl (am_end_i rfl) (hP _ _ (ok_s k) h)
  replace k := ok_neg c6 k
  by_cases c7 : x1 = (6 : Int32)
  · have k := ok_pos c7 k
    refine sw_hit dX8_quarter_1 rfl c7 rfl ?_
    refine wp_cst (v := .int (556 : Int32)) dX8_quarter_101 rfl rfl ?_
    exact wp_end dX8_quarter_104 rfl (am_end_i rfl) (hP _ _ (ok_s k) h)
  replace k := ok_neg c7 k
  by_cases c8 : x1 = (7 : Int32)
  · have k := ok_pos c8 k
    refine sw_hit dX8_quarter_1 rfl c8 rfl ?_
    refine wp_cst (v := .int (634 : Int32)) dX8_quarter_105 rfl rfl ?_
    exact wp_end dX8_quarter_108 rfl (am_end_i rfl) (hP _ _ (ok_s k) h)
  replace k := ok_neg c8 k
  by_cases c9 : x1 = (8 : Int32)
  · have k := ok_pos c9 k
    refine sw_hit dX8_quarter_1 rfl c9 rfl ?_
    refine wp_cst (v := .int (707 : Int32)) dX8_quarter_109 rfl rfl ?_
    exact wp_end dX8_quarter_112 rfl (am_end_i rfl) (hP _ _ (ok_s k) h)
  replace k := ok_neg c9 k
  by_cases c10 : x1 = (9 : Int32)
  · have k := ok_pos c10 k
    refine sw_hit dX8_quarter_1 rfl c10 rfl ?_
    refine wp_cst (v := .int (773 : Int32)) dX8_quarter_113 rfl rfl ?_
    exact wp_end dX8_quarter_116 rfl (am_end_i rfl) (hP _ _ (ok_s k) h)
  replace k := ok_neg c10 k
  by_cases c11 : x1 = (10 : Int32)
  · have k := ok_pos c11 k
    refine sw_hit dX8_quarter_1 rfl c11 rfl ?_
    refine wp_cst (v := .int (831 : Int32)) dX8_quarter_117 rfl rfl ?_
    exact wp_end dX8_quarter_120 rfl (am_end_i rfl) (hP _ _ (ok_s k) h)
  replace k := ok_neg c11 k
  by_cases c12 : x1 = (11 : Int32)
  · have k := ok_pos c12 k
    refine sw_hit dX8_quarter_1 rfl c12 rfl ?_
    refine wp_cst (v := .int (882 : Int32)) dX8_quarter_121 rfl rfl ?_
    exact wp_end dX8_quarter_124 rfl (am_end_i rfl) (hP _ _ (ok_s k) h)
  replace k := ok_neg c12 k
  by_cases c13 : x1 = (12 : Int32)
  · have k := ok_pos c13 k
    refine sw_hit dX8_quarter_1 rfl c13 rfl ?_
    refine wp_cst (v := .int (924 : Int32)) dX8_quarter_125 rfl rfl ?_
    exact wp_end dX8_quarter_128 rfl (am_end_i rfl) (hP _ _ (ok_s k) h)
  replace k := ok_neg c13 k
  by_cases c14 : x1 = (13 : Int32)
  · have k := ok_pos c14 k
    refine sw_hit dX8_quarter_1 rfl c14 rfl ?_
    refine wp_cst (v := .int (957 : Int32)) dX8_quarter_129 rfl rfl ?_
    exact wp_end dX8_quarter_132 rfl (am_end_i rfl) (hP _ _ (ok_s k) h)
  replace k := ok_neg c14 k
  by_cases c15 : x1 = (14 : Int32)
  · have k := ok_pos c15 k
    refine sw_hit dX8_quarter_1 rfl c15 rfl ?_
    refine wp_cst (v := .int (981 : Int32)) dX8_quarter_133 rfl rfl ?_
    exact wp_end dX8_quarter_136 rfl (am_end_i rfl) (hP _ _ (ok_s k) h)
  replace k := ok_neg c15 k
  by_cases c16 : x1 = (15 : Int32)
  · have k := ok_pos c16 k
    refine sw_hit dX8_quarter_1 rfl c16 rfl ?_
    refine wp_cst (v := .int (995 : Int32)) dX8_quarter_137 rfl rfl ?_
    exact wp_end dX8_quarter_140 rfl (am_end_i rfl) (hP _ _ (ok_s k) h)
  replace k := ok_neg c16 k
  refine ts_out dX8_quarter_1 rfl (by
      intro j h1 h2
      have hj : j = 0 ∨ j = 1 ∨ j = 2 ∨ j = 3 ∨ j = 4 ∨ j = 5 ∨ j = 6 ∨ j = 7 ∨ j = 8 ∨ j = 9 ∨ j = 10 ∨ j = 11 ∨ j = 12 ∨ j = 13 ∨ j = 14 ∨ j = 15 := by omega
      rcases hj with e | e | e | e | e | e | e | e | e | e | e | e | e | e | e | e
      · subst e; exact c1
      · subst e; exact c2
      · subst e; exact c3
      · subst e; exact c4
      · subst e; exact c5
      · subst e; exact c6
      · subst e; exact c7
      · subst e; exact c8
      · subst e; exact c9
      · subst e; exact c10
      · subst e; exact c11
      · subst e; exact c12
      · subst e; exact c13
      · subst e; exact c14
      · subst e; exact c15
      · subst e; exact c16
      ) ?_
  refine wp_cst (v := .int (1000 : Int32)) dX8_quarter_141 rfl rfl ?_
  exact wp_end dX8_quarter_144 rfl (am_end_i rfl) (hP _ _ (ok_s k) h)
noncomputable def f_X8_sine_0 (x1 : Int32) (s : am_S) : am_F :=
  if (16 : Int32) < x1 then
    if (32 : Int32) < x1 then
      none
    else
      am_bi (f_X8_quarter ((32 : Int32) - x1) s) (fun v4 s3 =>
        some (.inl (some (.int v4)), s3)
      )
  else
    am_bi (f_X8_quarter x1 s) (fun v6 s5 =>
      some (.inl (some (.int v6)), s5)
    )
theorem s_X8_sine_0 {N n : Nat} {d : Nat} {x1 : Int32} {s : am_S} (h : am_sh N n s)  : am_S1 (am_sh N n) (d + 1) mX8_sine [.int x1] s (f_X8_sine_0 x1 s) := by
  intro P Q k hP
  show am_WP (d + 1) mX8_sine 0 [(0, .int x1)] [] s Q
  unfold f_X8_sine_0 at k
  refine wp_ld (v := .int x1) dX8_sine_0 rfl rfl rfl rfl ?_
  refine wp_cst (v := .int (16 : Int32)) dX8_sine_1 rfl rfl ?_
  refine wp_ic_gt dX8_sine_3 rfl (fun c1 => have k := ok_pos c1 k; ?_) (fun c1 => have k := ok_neg c1 k; ?_)
  · refine wp_ld (v := .int x1) dX8_sine_13 rfl rfl rfl rfl ?_
    refine wp_cst (v := .int (32 : Int32)) dX8_sine_14 rfl rfl ?_
    refine wp_ic_gt dX8_sine_16 rfl (fun c2 => have k := ok_pos c2 k; ?_) (fun c2 => have k := ok_neg c2 k; ?_)
    · refine wp_ld (v := .int x1) dX8_sine_29 rfl rfl rfl rfl ?_
      refine wp_cst (v := .int (32 : Int32)) dX8_sine_30 rfl rfl ?_
      refine wp_pu dX8_sine_32 rfl rfl ?_
      exact (ok_no k).elim
    · refine wp_cst (v := .int (32 : Int32)) dX8_sine_19 rfl rfl ?_
      refine wp_ld (v := .int x1) dX8_sine_21 rfl rfl rfl rfl ?_
      refine wp_pu dX8_sine_22 rfl rfl ?_
      refine c_i dX8_sine_23 rfl rfl rfl (am_inv_s rfl rfl rfl rfl) (s_X8_quarter h) k (fun v4 s3 h k => ?_)
      refine wp_goto dX8_sine_26 rfl ?_
      exact wp_end dX8_sine_37 rfl (am_end_i rfl) (hP _ _ (ok_s k) h)
  · refine wp_ld (v := .int x1) dX8_sine_6 rfl rfl rfl rfl ?_
    refine c_i dX8_sine_7 rfl rfl rfl (am_inv_s rfl rfl rfl rfl) (s_X8_quarter h) k (fun v6 s5 h k => ?_)
    refine wp_goto dX8_sine_10 rfl ?_
    exact wp_end dX8_sine_37 rfl (am_end_i rfl) (hP _ _ (ok_s k) h)
noncomputable def f_X8_sine (x1 : Int32) (s : am_S) : am_F :=
  if (16 : Int32) < x1 then
    if (32 : Int32) < x1 then
      am_bi (f_X8_sine_0 (x1 - (32 : Int32)) s) (fun v4 s3 =>
        some (.inl (some (.int (-v4))), s3)
      )
    else
      am_bi (f_X8_quarter ((32 : Int32) - x1) s) (fun v6 s5 =>
        some (.inl (some (.int v6)), s5)
      )
  else
    am_bi (f_X8_quarter x1 s) (fun v8 s7 =>
      some (.inl (some (.int v8)), s7)
    )
theorem s_X8_sine {N n : Nat} {d : Nat} {x1 : Int32} {s : am_S} (h : am_sh N n s)  : am_S1 (am_sh N n) (d + 2) mX8_sine [.int x1] s (f_X8_sine x1 s) := by
  intro P Q k hP
  show am_WP (d + 2) mX8_sine 0 [(0, .int x1)] [] s Q
  unfold f_X8_sine at k
  refine wp_ld (v := .int x1) dX8_sine_0 rfl rfl rfl rfl ?_
  refine wp_cst (v := .int (16 : Int32)) dX8_sine_1 rfl rfl ?_
  refine wp_ic_gt dX8_sine_3 rfl (fun c1 => have k := ok_pos c1 k; ?_) (fun c1 => have k := ok_neg c1 k; ?_)
  · refine wp_ld (v := .int x1) dX8_sine_13 rfl rfl rfl rfl ?_
    refine wp_cst (v := .int (32 : Int32)) dX8_sine_14 rfl rfl ?_
    refine wp_ic_gt dX8_sine_16 rfl (fun c2 => have k := ok_pos c2 k; ?_) (fun c2 => have k := ok_neg c2 k; ?_)
    · refine wp_ld (v := .int x1) dX8_sine_29 rfl rfl rfl rfl ?_
      refine wp_cst (v := .int (32 : Int32)) dX8_sine_30 rfl rfl ?_
      refine wp_pu dX8_sine_32 rfl rfl ?_
      refine c_i dX8_sine_33 rfl rfl rfl (am_inv_s rfl rfl rfl rfl) (s_X8_sine_0 h) k (fun v4 s3 h k => ?_)
      refine wp_pu dX8_sine_36 rfl rfl ?_
      exact wp_end dX8_sine_37 rfl (am_end_i rfl) (hP _ _ (ok_s k) h)
    · refine wp_cst (v := .int (32 : Int32)) dX8_sine_19 rfl rfl ?_
      refine wp_ld (v := .int x1) dX8_sine_21 rfl rfl rfl rfl ?_
      refine wp_pu dX8_sine_22 rfl rfl ?_
      refine c_i dX8_sine_23 rfl rfl rfl (am_inv_s rfl rfl rfl rfl) (s_X8_quarter h) k (fun v6 s5 h k => ?_)
      refine wp_goto dX8_sine_26 rfl ?_
      exact wp_end dX8_sine_37 rfl (am_end_i rfl) (hP _ _ (ok_s k) h)
  · refine wp_ld (v := .int x1) dX8_sine_6 rfl rfl rfl rfl ?_
    refine c_i dX8_sine_7 rfl rfl rfl (am_inv_s rfl rfl rfl rfl) (s_X8_quarter h) k (fun v8 s7 h k => ?_)
    refine wp_goto dX8_sine_10 rfl ?_
    exact wp_end dX8_sine_37 rfl (am_end_i rfl) (hP _ _ (ok_s k) h)
noncomputable def f_X8_cosine (x1 : Int32) (s : am_S) : am_F :=
  am_bi (f_X8_sine ((x1 + (16 : Int32)) - (x1 + (16 : Int32)) / (64 : Int32) * (64 : Int32)) s) (fun v2 s1 =>
    some (.inl (some (.int v2)), s1)
  )
theorem s_X8_cosine {N n : Nat} {d : Nat} {x1 : Int32} {s : am_S} (h : am_sh N n s)  : am_S1 (am_sh N n) (d + 3) mX8_cosine [.int x1] s (f_X8_cosine x1 s) := by
  intro P Q k hP
  show am_WP (d + 3) mX8_cosine 0 [(0, .int x1)] [] s Q
  unfold f_X8_cosine at k
  refine wp_ld (v := .int x1) dX8_cosine_0 rfl rfl rfl rfl ?_
  refine wp_cst (v := .int (16 : Int32)) dX8_cosine_1 rfl rfl ?_
  refine wp_pu dX8_cosine_3 rfl rfl ?_
  refine wp_cst (v := .int (64 : Int32)) dX8_cosine_4 rfl rfl ?_
  refine wp_rem dX8_cosine_6 (by decide) ?_
  refine c_i dX8_cosine_7 rfl rfl rfl (am_inv_s rfl rfl rfl rfl) (s_X8_sine h) k (fun v2 s1 h k => ?_)
  exact wp_end dX8_cosine_10 rfl (am_end_i rfl) (hP _ _ (ok_s k) h)
noncomputable def L_X8_laySines_15 : Nat → Int32 → am_S → am_FE (Unit)
  | 0, _, _ => none
  | m + 1, x1, s =>
    if (64 : Int32) ≤ x1 then
      some (.inr ((), s))
    else
      am_bi (f_X8_sine x1 s) (fun v4 s3 =>
        if am_in x1 64 = true then
          am_bi (f_X8_cosine x1 (am_sI s3 65 (x1.toNatClampNeg) v4)) (fun v7 s6 =>
            if am_in x1 64 = true then
              L_X8_laySines_15 m (x1 + (1 : Int32)) (am_sI s6 66 (x1.toNatClampNeg) v7)
            else none
          )
        else none
      )
theorem q_X8_laySines_15 : ∀ (m : Nat) {N n : Nat} {d : Nat} {x1 : Int32} {s : am_S} {P : (am_O × am_S) ⊕ (Unit × am_S) → Prop} {Q : am_O → am_S → Prop} (h : am_sh N n s)  (k : am_ok (L_X8_laySines_15 m x1 s) P) (hP : ∀ o s, P (.inl (o, s)) → am_sh N n s → Q o s) (hX : ∀ (e : Unit) s, P (.inr (e, s)) → am_sh N n s → am_WP (d + 4) mX8_laySines 47 [] [] s Q), am_WP (d + 4) mX8_laySines 15 [(0, .ref 55), (1, .int x1)] [] s Q := by
  intro m
  induction m with
  | zero =>
    intro N n d x1 s P Q h  k hP hX
    exact (ok_no k).elim
  | succ m ih =>
    intro N n d x1 s P Q h  k hP hX
    unfold L_X8_laySines_15 at k
    refine wp_ld (v := .int x1) dX8_laySines_15 rfl rfl rfl rfl ?_
    refine wp_cst (v := .int (64 : Int32)) dX8_laySines_16 rfl rfl ?_
    refine wp_ic_ge dX8_laySines_18 rfl (fun c2 => have k := ok_pos c2 k; ?_) (fun c2 => have k := ok_neg c2 k; ?_)
    · exact wp_sub (hX _ _ (ok_s k) h) rfl trivial
    · refine wp_ld (v := .ref 55) dX8_laySines_21 rfl rfl rfl rfl ?_
      refine wp_gr dX8_laySines_22 rfl rfl (kk_55 h) (rr_55_28 h) ?_
      refine wp_ld (v := .int x1) dX8_laySines_25 rfl rfl rfl rfl ?_
      refine wp_ld (v := .int x1) dX8_laySines_26 rfl rfl rfl rfl ?_
      refine c_i dX8_laySines_27 rfl rfl rfl (am_inv_s rfl rfl rfl rfl) (s_X8_sine h) k (fun v4 s3 h k => ?_)
      obtain ⟨g5, k⟩ := ok_g k
      refine wq_iast dX8_laySines_30 (kk_65 h) g5 (j := (x1.toNatClampNeg)) rfl ?_
      refine wp_ld (v := .ref 55) dX8_laySines_31 rfl rfl rfl rfl ?_
      refine wp_gr dX8_laySines_32 rfl rfl (kk_55 (sh_sI h)) (rr_55_29 (sh_sI h)) ?_
      refine wp_ld (v := .int x1) dX8_laySines_35 rfl rfl rfl rfl ?_
      refine wp_ld (v := .int x1) dX8_laySines_36 rfl rfl rfl rfl ?_
      refine c_i dX8_laySines_37 rfl rfl rfl (am_inv_s rfl rfl rfl rfl) (s_X8_cosine (sh_sI h)) k (fun v7 s6 h k => ?_)
      obtain ⟨g8, k⟩ := ok_g k
      refine wq_iast dX8_laySines_40 (kk_66 h) g8 (j := (x1.toNatClampNeg)) rfl ?_
      refine wp_inc (v := (x1 + (1 : Int32))) (ls' := [(0, .ref 55), (1, .int (x1 + (1 : Int32)))]) dX8_laySines_41 rfl (Nat.le_of_ble_eq_true rfl) rfl rfl ?_
      refine wp_goto dX8_laySines_44 rfl ?_
      exact wp_sub (ih (sh_sI h) k hP hX) rfl ⟨rfl, rfl, trivial⟩
noncomputable def f_X8_laySines  (s : am_S) : am_F :=
  if (am_I s 55 30) = 0 then
    am_lm (L_X8_laySines_15 ax_fuel (0 : Int32) (am_sI s 55 30 (1 : Int32))) (fun e9 s10 =>
      some (.inl none, s10)
    )
  else
    some (.inl none, s)
theorem s_X8_laySines {N n : Nat} {d : Nat}  {s : am_S} (h : am_sh N n s)  : am_S1 (am_sh N n) (d + 4) mX8_laySines [.ref 55] s (f_X8_laySines s) := by
  intro P Q k hP
  show am_WP (d + 4) mX8_laySines 0 [(0, .ref 55)] [] s Q
  unfold f_X8_laySines at k
  refine wp_ld (v := .ref 55) dX8_laySines_0 rfl rfl rfl rfl ?_
  refine wq_gI dX8_laySines_1 rfl rfl (kk_55 h) (v := (am_I s 55 30)) rfl ?_
  refine wp_if_eq dX8_laySines_4 rfl (fun c1 => have k := ok_pos c1 k; ?_) (fun c1 => have k := ok_neg c1 k; ?_)
  · refine wp_ld (v := .ref 55) dX8_laySines_8 rfl rfl rfl rfl ?_
    refine wp_cst (v := .int (1 : Int32)) dX8_laySines_9 rfl rfl ?_
    refine wp_pI dX8_laySines_10 rfl rfl rfl (fun _ => rfl) (kk_55 h) ?_
    refine wp_cst (v := .int (0 : Int32)) dX8_laySines_13 rfl rfl ?_
    refine wp_st (ls' := [(0, .ref 55), (1, .int (0 : Int32))]) dX8_laySines_14 rfl rfl rfl (Nat.le_of_ble_eq_true rfl) rfl ?_
    refine lp_m k (fun P1 k hA hB => ?_)
    refine wp_sub (q_X8_laySines_15 ax_fuel (sh_sI h) k (fun o s p h => hP o s (hA o s p) h) (fun e9 s10 p h => have k := hB e9 s10 p; ?_)) rfl ⟨rfl, rfl, trivial⟩
    exact wp_end dX8_laySines_47 rfl rfl (hP _ _ (ok_s k) h)
  · exact wp_end dX8_laySines_7 rfl rfl (hP _ _ (ok_s k) h)
noncomputable def f_X8_starts (x1 : Int32) (x2 : Int32) (s : am_S) : am_F :=
  am_bu (f_X8_laySines s) (fun s1 =>
    am_jn (fun (e4 : Int32) s5 =>
      if am_in e4 64 = true then
        if am_in e4 64 = true then
          some (.inl none, (am_sI (am_sI (am_sI (am_sI (am_sI (am_sI (am_sI (am_sI (am_sI (am_sI (am_sI (am_sI s5 55 31 (0 : Int32)) 55 32 (2000 : Int32)) 55 33 ((x1 * (am_I s5 66 e4.toNatClampNeg)) / (1000 : Int32))) 55 34 ((x1 * (am_I s5 65 e4.toNatClampNeg)) / (1000 : Int32))) 55 35 ((16 : Int32) * e4)) 55 36 (0 : Int32)) 55 37 (0 : Int32)) 55 38 (2000 : Int32)) 55 39 (0 : Int32)) 55 40 (0 : Int32)) 55 41 (0 : Int32)) 55 45 (0 : Int32)))
        else none
      else none
    ) (fun J3 =>
      if 0 ≤ x2 then
        J3 x2 s1
      else
        J3 (x2 + (64 : Int32)) s1
    )
  )
theorem s_X8_starts {N n : Nat} {d : Nat} {x1 : Int32} {x2 : Int32} {s : am_S} (h : am_sh N n s)  : am_S1 (am_sh N n) (d + 5) mX8_starts [.ref 55, .int x1, .int x2] s (f_X8_starts x1 x2 s) := by
  intro P Q k hP
  show am_WP (d + 5) mX8_starts 0 [(0, .ref 55), (1, .int x1), (2, .int x2)] [] s Q
  unfold f_X8_starts at k
  refine wp_ld (v := .ref 55) dX8_starts_0 rfl rfl rfl rfl ?_
  refine c_u dX8_starts_1 rfl rfl rfl (am_inv_v rfl (kk_55 h) rfl rfl rfl) (s_X8_laySines h) k (fun s1 h k => ?_)
  refine wp_ld (v := .int x2) dX8_starts_4 rfl rfl rfl rfl ?_
  refine jn_rule k (fun J3 hJ3 k => ?_)
  have HJ3 : ∀ (e4 : Int32) (s5 : am_S), am_sh N n s5 → am_ok (J3 e4 s5) P → am_WP (d + 5) mX8_starts 16 [(0, .ref 55), (1, .int x1)] [.int e4] s5 Q := by
    intro e4 s5 h k
    replace k := hJ3 _ _ k
    refine wp_st (ls' := [(0, .ref 55), (1, .int x1), (3, .int e4)]) dX8_starts_16 rfl rfl rfl (Nat.le_of_ble_eq_true rfl) rfl ?_
    refine wp_ld (v := .ref 55) dX8_starts_17 rfl rfl rfl rfl ?_
    refine wp_cst (v := .int (0 : Int32)) dX8_starts_18 rfl rfl ?_
    refine wp_pI dX8_starts_19 rfl rfl rfl (fun h => absurd h (by decide)) (kk_55 h) ?_
    refine wp_ld (v := .ref 55) dX8_starts_22 rfl rfl rfl rfl ?_
    refine wp_cst (v := .int (2000 : Int32)) dX8_starts_23 rfl rfl ?_
    refine wp_pI dX8_starts_26 rfl rfl rfl (fun h => absurd h (by decide)) (kk_55 (sh_sI h)) ?_
    refine wp_ld (v := .ref 55) dX8_starts_29 rfl rfl rfl rfl ?_
    refine wp_ld (v := .int x1) dX8_starts_30 rfl rfl rfl rfl ?_
    refine wp_ld (v := .ref 55) dX8_starts_31 rfl rfl rfl rfl ?_
    refine wp_gr dX8_starts_32 rfl rfl (kk_55 (sh_sI (sh_sI h))) (rr_55_29 (sh_sI (sh_sI h))) ?_
    show am_WP (d + 5) mX8_starts 35 _ _ _ Q
    refine wp_ld (v := .int e4) dX8_starts_35 rfl rfl rfl rfl ?_
    obtain ⟨g6, k⟩ := ok_g k
    refine wq_iald dX8_starts_36 (kk_66 (sh_sI (sh_sI h))) g6 (v := (am_I s5 66 e4.toNatClampNeg)) rfl ?_
    refine wp_pu dX8_starts_37 rfl rfl ?_
    refine wp_cst (v := .int (1000 : Int32)) dX8_starts_38 rfl rfl ?_
    refine wp_div dX8_starts_41 (by decide) ?_
    refine wp_pI dX8_starts_42 rfl rfl rfl (fun h => absurd h (by decide)) (kk_55 (sh_sI (sh_sI h))) ?_
    refine wp_ld (v := .ref 55) dX8_starts_45 rfl rfl rfl rfl ?_
    refine wp_ld (v := .int x1) dX8_starts_46 rfl rfl rfl rfl ?_
    refine wp_ld (v := .ref 55) dX8_starts_47 rfl rfl rfl rfl ?_
    refine wp_gr dX8_starts_48 rfl rfl (kk_55 (sh_sI (sh_sI (sh_sI h)))) (rr_55_28 (sh_sI (sh_sI (sh_sI h)))) ?_
    refine wp_ld (v := .int e4) dX8_starts_51 rfl rfl rfl rfl ?_
    obtain ⟨g7, k⟩ := ok_g k
    refine wq_iald dX8_starts_52 (kk_65 (sh_sI (sh_sI (sh_sI h)))) g7 (v := (am_I s5 65 e4.toNatClampNeg)) rfl ?_
    show am_WP (d + 5) mX8_starts 53 _ _ _ Q
    refine wp_pu dX8_starts_53 rfl rfl ?_
    refine wp_cst (v := .int (1000 : Int32)) dX8_starts_54 rfl rfl ?_
    refine wp_div dX8_starts_57 (by decide) ?_
    refine wp_pI dX8_starts_58 rfl rfl rfl (fun h => absurd h (by decide)) (kk_55 (sh_sI (sh_sI (sh_sI h)))) ?_
    refine wp_ld (v := .ref 55) dX8_starts_61 rfl rfl rfl rfl ?_
    refine wp_cst (v := .int (16 : Int32)) dX8_starts_62 rfl rfl ?_
    refine wp_ld (v := .int e4) dX8_starts_64 rfl rfl rfl rfl ?_
    refine wp_pu dX8_starts_65 rfl rfl ?_
    refine wp_pI dX8_starts_66 rfl rfl rfl (fun h => absurd h (by decide)) (kk_55 (sh_sI (sh_sI (sh_sI (sh_sI h))))) ?_
    refine wp_ld (v := .ref 55) dX8_starts_69 rfl rfl rfl rfl ?_
    refine wp_cst (v := .int (0 : Int32)) dX8_starts_70 rfl rfl ?_
    refine wp_pI dX8_starts_71 rfl rfl rfl (fun h => absurd h (by decide)) (kk_55 (sh_sI (sh_sI (sh_sI (sh_sI (sh_sI h)))))) ?_
    show am_WP (d + 5) mX8_starts 74 _ _ _ Q
    refine wp_ld (v := .ref 55) dX8_starts_74 rfl rfl rfl rfl ?_
    refine wp_cst (v := .int (0 : Int32)) dX8_starts_75 rfl rfl ?_
    refine wp_pI dX8_starts_76 rfl rfl rfl (fun h => absurd h (by decide)) (kk_55 (sh_sI (sh_sI (sh_sI (sh_sI (sh_sI (sh_sI h))))))) ?_
    refine wp_ld (v := .ref 55) dX8_starts_79 rfl rfl rfl rfl ?_
    refine wp_cst (v := .int (2000 : Int32)) dX8_starts_80 rfl rfl ?_
    refine wp_pI dX8_starts_83 rfl rfl rfl (fun h => absurd h (by decide)) (kk_55 (sh_sI (sh_sI (sh_sI (sh_sI (sh_sI (sh_sI (sh_sI h)))))))) ?_
    refine wp_ld (v := .ref 55) dX8_starts_86 rfl rfl rfl rfl ?_
    refine wp_cst (v := .int (0 : Int32)) dX8_starts_87 rfl rfl ?_
    refine wp_pI dX8_starts_88 rfl rfl rfl (fun h => absurd h (by decide)) (kk_55 (sh_sI (sh_sI (sh_sI (sh_sI (sh_sI (sh_sI (sh_sI (sh_sI h))))))))) ?_
    refine wp_ld (v := .ref 55) dX8_starts_91 rfl rfl rfl rfl ?_
    refine wp_cst (v := .int (0 : Int32)) dX8_starts_92 rfl rfl ?_
    refine wp_pI dX8_starts_93 rfl rfl rfl (fun h => absurd h (by decide)) (kk_55 (sh_sI (sh_sI (sh_sI (sh_sI (sh_sI (sh_sI (sh_sI (sh_sI (sh_sI h)))))))))) ?_
    show am_WP (d + 5) mX8_starts 96 _ _ _ Q
    refine wp_ld (v := .ref 55) dX8_starts_96 rfl rfl rfl rfl ?_
    refine wp_cst (v := .int (0 : Int32)) dX8_starts_97 rfl rfl ?_
    refine wp_pI dX8_starts_98 rfl rfl rfl (fun h => absurd h (by decide)) (kk_55 (sh_sI (sh_sI (sh_sI (sh_sI (sh_sI (sh_sI (sh_sI (sh_sI (sh_sI (sh_sI h))))))))))) ?_
    refine wp_ld (v := .ref 55) dX8_starts_101 rfl rfl rfl rfl ?_
    refine wp_cst (v := .int (0 : Int32)) dX8_starts_102 rfl rfl ?_
    refine wp_pI dX8_starts_103 rfl rfl rfl (fun _ => rfl) (kk_55 (sh_sI (sh_sI (sh_sI (sh_sI (sh_sI (sh_sI (sh_sI (sh_sI (sh_sI (sh_sI (sh_sI h)))))))))))) ?_
    exact wp_end dX8_starts_106 rfl rfl (hP _ _ (ok_s k) (sh_sI (sh_sI (sh_sI (sh_sI (sh_sI (sh_sI (sh_sI (sh_sI (sh_sI (sh_sI (sh_sI (sh_sI h)))))))))))))
  refine wp_if_ge dX8_starts_5 rfl (fun c8 => have k := ok_pos c8 k; ?_) (fun c8 => have k := ok_neg c8 k; ?_)
  · refine wp_ld (v := .int x2) dX8_starts_15 rfl rfl rfl rfl ?_
    exact wp_sub (HJ3 _ _ h k) rfl ⟨rfl, rfl, trivial⟩
  · refine wp_ld (v := .int x2) dX8_starts_8 rfl rfl rfl rfl ?_
    refine wp_cst (v := .int (64 : Int32)) dX8_starts_9 rfl rfl ?_
    refine wp_pu dX8_starts_11 rfl rfl ?_
    refine wp_goto dX8_starts_12 rfl ?_
    exact wp_sub (HJ3 _ _ h k) rfl ⟨rfl, rfl, trivial⟩
noncomputable def L_X8_path_7 : Nat → Int32 → Int64 → Int32 → am_S → am_FE (Int32)
  | 0, _, _, _, _ => none
  | m + 1, x1, x2, x4, s =>
    if (64 : Int32) ≤ x4 then
      some (.inr (x1, s))
    else
      if am_in x4 64 = true then
        if am_in x4 64 = true then
          ax_le (((am_I s 55 33).toInt64 * (am_I s 66 x4.toNatClampNeg).toInt64) + ((am_I s 55 34).toInt64 * (am_I s 65 x4.toNatClampNeg).toInt64)) (fun y4 =>
            am_jn (fun (e6 : Unit) s7 =>
              L_X8_path_7 m x4 y4 (x4 + (1 : Int32)) s7
            ) (fun J5 =>
              if x4 ≤ 0 then
                J5 () s
              else
                if x2 < y4 then
                  J5 () s
                else
                  L_X8_path_7 m x1 x2 (x4 + (1 : Int32)) s
            )
          )
        else none
      else none
theorem q_X8_path_7 : ∀ (m : Nat) {N n : Nat} {d : Nat} {x1 : Int32} {x2 : Int64} {x4 : Int32} {s : am_S} {P : (am_O × am_S) ⊕ (Int32 × am_S) → Prop} {Q : am_O → am_S → Prop} (h : am_sh N n s)  (k : am_ok (L_X8_path_7 m x1 x2 x4 s) P) (hP : ∀ o s, P (.inl (o, s)) → am_sh N n s → Q o s) (hX : ∀ (e : Int32) s, P (.inr (e, s)) → am_sh N n s → am_WP (d) mX8_path 72 [(1, .int e)] [] s Q), am_WP (d) mX8_path 7 [(0, .ref 55), (1, .int x1), (2, .long x2), (4, .int x4)] [] s Q := by
  intro m
  induction m with
  | zero =>
    intro N n d x1 x2 x4 s P Q h  k hP hX
    exact (ok_no k).elim
  | succ m ih =>
    intro N n d x1 x2 x4 s P Q h  k hP hX
    unfold L_X8_path_7 at k
    refine wp_ld (v := .int x4) dX8_path_7 rfl rfl rfl rfl ?_
    refine wp_cst (v := .int (64 : Int32)) dX8_path_9 rfl rfl ?_
    refine wp_ic_ge dX8_path_11 rfl (fun c1 => have k := ok_pos c1 k; ?_) (fun c1 => have k := ok_neg c1 k; ?_)
    · exact wp_sub (hX _ _ (ok_s k) h) rfl ⟨rfl, trivial⟩
    · refine wp_ld (v := .ref 55) dX8_path_14 rfl rfl rfl rfl ?_
      refine wq_gI dX8_path_15 rfl rfl (kk_55 h) (v := (am_I s 55 33)) rfl ?_
      refine wp_pu dX8_path_18 rfl rfl ?_
      refine wp_ld (v := .ref 55) dX8_path_19 rfl rfl rfl rfl ?_
      refine wp_gr dX8_path_20 rfl rfl (kk_55 h) (rr_55_29 h) ?_
      refine wp_ld (v := .int x4) dX8_path_23 rfl rfl rfl rfl ?_
      obtain ⟨g2, k⟩ := ok_g k
      refine wq_iald dX8_path_25 (kk_66 h) g2 (v := (am_I s 66 x4.toNatClampNeg)) rfl ?_
      refine wp_pu dX8_path_26 rfl rfl ?_
      refine wp_pu dX8_path_27 rfl rfl ?_
      refine wp_ld (v := .ref 55) dX8_path_28 rfl rfl rfl rfl ?_
      refine wq_gI dX8_path_29 rfl rfl (kk_55 h) (v := (am_I s 55 34)) rfl ?_
      show am_WP (d) mX8_path 32 _ _ _ Q
      refine wp_pu dX8_path_32 rfl rfl ?_
      refine wp_ld (v := .ref 55) dX8_path_33 rfl rfl rfl rfl ?_
      refine wp_gr dX8_path_34 rfl rfl (kk_55 h) (rr_55_28 h) ?_
      refine wp_ld (v := .int x4) dX8_path_37 rfl rfl rfl rfl ?_
      obtain ⟨g3, k⟩ := ok_g k
      refine wq_iald dX8_path_39 (kk_65 h) g3 (v := (am_I s 65 x4.toNatClampNeg)) rfl ?_
      refine wp_pu dX8_path_40 rfl rfl ?_
      refine wp_pu dX8_path_41 rfl rfl ?_
      refine wp_pu dX8_path_42 rfl rfl ?_
      refine ls_l k (fun y4 _ k => ?_)
      refine wp_st (ls' := [(0, .ref 55), (1, .int x1), (2, .long x2), (4, .int x4), (5, .long y4)]) dX8_path_43 rfl rfl rfl (Nat.le_of_ble_eq_true rfl) rfl ?_
      refine wp_ld (v := .int x4) dX8_path_45 rfl rfl rfl rfl ?_
      refine jn_rule k (fun J5 hJ5 k => ?_)
      have HJ5 : ∀ (e6 : Unit) (s7 : am_S), am_sh N n s7 → am_ok (J5 e6 s7) P → am_WP (d) mX8_path 60 [(0, .ref 55), (4, .int x4), (5, .long y4)] [] s7 Q := by
        intro e6 s7 h k
        replace k := hJ5 _ _ k
        refine wp_ld (v := .long y4) dX8_path_60 rfl rfl rfl rfl ?_
        refine wp_st (ls' := [(0, .ref 55), (2, .long y4), (4, .int x4), (5, .long y4)]) dX8_path_62 rfl rfl rfl (Nat.le_of_ble_eq_true rfl) rfl ?_
        refine wp_ld (v := .int x4) dX8_path_63 rfl rfl rfl rfl ?_
        refine wp_st (ls' := [(0, .ref 55), (1, .int x4), (2, .long y4), (4, .int x4), (5, .long y4)]) dX8_path_65 rfl rfl rfl (Nat.le_of_ble_eq_true rfl) rfl ?_
        refine wp_inc (v := (x4 + (1 : Int32))) (ls' := [(0, .ref 55), (1, .int x4), (2, .long y4), (4, .int (x4 + (1 : Int32))), (5, .long y4)]) dX8_path_66 rfl (Nat.le_of_ble_eq_true rfl) rfl rfl ?_
        refine wp_goto dX8_path_69 rfl ?_
        exact wp_sub (ih h k hP hX) rfl ⟨rfl, rfl, rfl, rfl, trivial⟩
      refine wp_if_le dX8_path_47 rfl (fun c8 => have k := ok_pos c8 k; ?_) (fun c8 => have k := ok_neg c8 k; ?_)
      · exact wp_sub (HJ5 _ _ h k) rfl ⟨rfl, rfl, rfl, trivial⟩
      · refine wp_ld (v := .long y4) dX8_path_50 rfl rfl rfl rfl ?_
        refine wp_ld (v := .long x2) dX8_path_52 rfl rfl rfl rfl ?_
        refine wl_gt dX8_path_53 dX8_path_54 rfl (fun c9 => have k := ok_pos c9 k; ?_) (fun c9 => have k := ok_neg c9 k; ?_)
        · exact wp_sub (HJ5 _ _ h k) rfl ⟨rfl, rfl, rfl, trivial⟩
        · refine wp_goto dX8_path_57 rfl ?_
          refine wp_inc (v := (x4 + (1 : Int32))) (ls' := [(0, .ref 55), (1, .int x1), (2, .long x2), (4, .int (x4 + (1 : Int32))), (5, .long y4)]) dX8_path_66 rfl (Nat.le_of_ble_eq_true rfl) rfl rfl ?_
          refine wp_goto dX8_path_69 rfl ?_
          exact wp_sub (ih h k hP hX) rfl ⟨rfl, rfl, rfl, rfl, trivial⟩
noncomputable def f_X8_path  (s : am_S) : am_F :=
  am_lm (L_X8_path_7 ax_fuel (0 : Int32) (0 : Int64) (0 : Int32) s) (fun e10 s11 =>
    some (.inl (some (.int e10)), s11)
  )
theorem s_X8_path {N n : Nat} {d : Nat}  {s : am_S} (h : am_sh N n s)  : am_S1 (am_sh N n) (d) mX8_path [.ref 55] s (f_X8_path s) := by
  intro P Q k hP
  show am_WP (d) mX8_path 0 [(0, .ref 55)] [] s Q
  unfold f_X8_path at k
  refine wp_cst (v := .int (0 : Int32)) dX8_path_0 rfl rfl ?_
  refine wp_st (ls' := [(0, .ref 55), (1, .int (0 : Int32))]) dX8_path_1 rfl rfl rfl (Nat.le_of_ble_eq_true rfl) rfl ?_
  refine wp_cst (v := .long (0 : Int64)) dX8_path_2 rfl rfl ?_
  refine wp_st (ls' := [(0, .ref 55), (1, .int (0 : Int32)), (2, .long (0 : Int64))]) dX8_path_3 rfl rfl rfl (Nat.le_of_ble_eq_true rfl) rfl ?_
  refine wp_cst (v := .int (0 : Int32)) dX8_path_4 rfl rfl ?_
  refine wp_st (ls' := [(0, .ref 55), (1, .int (0 : Int32)), (2, .long (0 : Int64)), (4, .int (0 : Int32))]) dX8_path_5 rfl rfl rfl (Nat.le_of_ble_eq_true rfl) rfl ?_
  refine lp_m k (fun P1 k hA hB => ?_)
  refine wp_sub (q_X8_path_7 ax_fuel h k (fun o s p h => hP o s (hA o s p) h) (fun e10 s11 p h => have k := hB e10 s11 p; ?_)) rfl ⟨rfl, rfl, rfl, rfl, trivial⟩
  refine wp_ld (v := .int e10) dX8_path_72 rfl rfl rfl rfl ?_
  exact wp_end dX8_path_73 rfl (am_end_i rfl) (hP _ _ (ok_s k) h)
noncomputable def f_X8_kept (x1 : Int64) (x2 : Int32) (s : am_S) : am_F :=
  some (.inl (some (.int (am_lmax (-x2).toInt64 (am_lmin x2.toInt64 x1)).toInt32)), s)
theorem s_X8_kept {N n : Nat} {d : Nat} {x1 : Int64} {x2 : Int32} {s : am_S} (h : am_sh N n s)  : am_S1 (am_sh N n) (d) mX8_kept [.long x1, .int x2] s (f_X8_kept x1 x2 s) := by
  intro P Q k hP
  show am_WP (d) mX8_kept 0 [(0, .long x1), (2, .int x2)] [] s Q
  unfold f_X8_kept at k
  refine wp_ld (v := .int x2) dX8_kept_0 rfl rfl rfl rfl ?_
  refine wp_pu dX8_kept_1 rfl rfl ?_
  refine wp_pu dX8_kept_2 rfl rfl ?_
  refine wp_ld (v := .int x2) dX8_kept_3 rfl rfl rfl rfl ?_
  refine wp_pu dX8_kept_4 rfl rfl ?_
  refine wp_ld (v := .long x1) dX8_kept_5 rfl rfl rfl rfl ?_
  refine wp_mem (st' := .long (am_lmin x2.toInt64 x1) :: [.long (-x2).toInt64]) dX8_kept_6 rfl rfl rfl rfl ?_
  refine wp_mem (st' := .long (am_lmax (-x2).toInt64 (am_lmin x2.toInt64 x1)) :: []) dX8_kept_9 rfl rfl rfl rfl ?_
  refine wp_pu dX8_kept_12 rfl rfl ?_
  exact wp_end dX8_kept_13 rfl (am_end_i rfl) (hP _ _ (ok_s k) h)
noncomputable def f_X8_heavy  (s : am_S) : am_F :=
  some (.inl (some (.long ((am_I s 55 24) + (((am_I s 55 24) * (am_I s 56 7)) / (100 : Int32))).toInt64)), s)
theorem s_X8_heavy {N n : Nat} {d : Nat}  {s : am_S} (h : am_sh N n s)  : am_S1 (am_sh N n) (d) mX8_heavy [.ref 55] s (f_X8_heavy s) := by
  intro P Q k hP
  show am_WP (d) mX8_heavy 0 [(0, .ref 55)] [] s Q
  unfold f_X8_heavy at k
  refine wp_ld (v := .ref 55) dX8_heavy_0 rfl rfl rfl rfl ?_
  refine wq_gI dX8_heavy_1 rfl rfl (kk_55 h) (v := (am_I s 55 24)) rfl ?_
  refine wp_ld (v := .ref 55) dX8_heavy_4 rfl rfl rfl rfl ?_
  refine wq_gI dX8_heavy_5 rfl rfl (kk_55 h) (v := (am_I s 55 24)) rfl ?_
  refine wp_ld (v := .ref 55) dX8_heavy_8 rfl rfl rfl rfl ?_
  refine wp_gr dX8_heavy_9 rfl rfl (kk_55 h) (rr_55_0 h) ?_
  refine wp_cst (v := .int (7 : Int32)) dX8_heavy_12 rfl rfl ?_
  refine wq_iald dX8_heavy_14 (kk_56 h) (by decide) (v := (am_I s 56 7)) rfl ?_
  refine wp_pu dX8_heavy_15 rfl rfl ?_
  refine wp_cst (v := .int (100 : Int32)) dX8_heavy_16 rfl rfl ?_
  refine wp_div dX8_heavy_18 (by decide) ?_
  show am_WP (d) mX8_heavy 19 _ _ _ Q
  refine wp_pu dX8_heavy_19 rfl rfl ?_
  refine wp_pu dX8_heavy_20 rfl rfl ?_
  exact wp_end dX8_heavy_21 rfl (am_end_l rfl) (hP _ _ (ok_s k) h)
noncomputable def L_X8_pull_10 : Nat → Int32 → Int32 → am_S → am_FE (Int32)
  | 0, _, _, _ => none
  | m + 1, x1, x2, s =>
    if (am_I s 56 4) ≤ x2 then
      some (.inr (x1, s))
    else
      if am_in ((234 : Int32) + ((3 : Int32) * x2)) 264 = true then
        if am_in (((234 : Int32) + ((3 : Int32) * x2)) + (1 : Int32)) 264 = true then
          am_bi (f_X8_within ((am_I s 55 37).toInt64) ((am_I s 56 (((234 : Int32) + ((3 : Int32) * x2)).toNatClampNeg)).toInt64) ((am_I s 56 ((((234 : Int32) + ((3 : Int32) * x2)) + (1 : Int32)).toNatClampNeg)).toInt64) s) (fun v5 s4 =>
            if v5 = 0 then
              L_X8_pull_10 m x1 (x2 + (1 : Int32)) s4
            else
              if am_in (((234 : Int32) + ((3 : Int32) * x2)) + (2 : Int32)) 264 = true then
                ax_le (x1 - (am_I s4 56 ((((234 : Int32) + ((3 : Int32) * x2)) + (2 : Int32)).toNatClampNeg))) (fun y8 =>
                  L_X8_pull_10 m y8 (x2 + (1 : Int32)) s4
                )
              else none
          )
        else none
      else none
theorem q_X8_pull_10 : ∀ (m : Nat) {N n : Nat} {d : Nat} {x1 : Int32} {x2 : Int32} {s : am_S} {P : (am_O × am_S) ⊕ (Int32 × am_S) → Prop} {Q : am_O → am_S → Prop} (h : am_sh N n s)  (k : am_ok (L_X8_pull_10 m x1 x2 s) P) (hP : ∀ o s, P (.inl (o, s)) → am_sh N n s → Q o s) (hX : ∀ (e : Int32) s, P (.inr (e, s)) → am_sh N n s → am_WP (d + 1) mX8_pull 82 [(1, .int e)] [] s Q), am_WP (d + 1) mX8_pull 10 [(0, .ref 55), (1, .int x1), (2, .int x2)] [] s Q := by
  intro m
  induction m with
  | zero =>
    intro N n d x1 x2 s P Q h  k hP hX
    exact (ok_no k).elim
  | succ m ih =>
    intro N n d x1 x2 s P Q h  k hP hX
    unfold L_X8_pull_10 at k
    refine wp_ld (v := .int x2) dX8_pull_10 rfl rfl rfl rfl ?_
    refine wp_ld (v := .ref 55) dX8_pull_11 rfl rfl rfl rfl ?_
    refine wp_gr dX8_pull_12 rfl rfl (kk_55 h) (rr_55_0 h) ?_
    refine wp_cst (v := .int (4 : Int32)) dX8_pull_15 rfl rfl ?_
    refine wq_iald dX8_pull_16 (kk_56 h) (by decide) (v := (am_I s 56 4)) rfl ?_
    refine wp_ic_ge dX8_pull_17 rfl (fun c1 => have k := ok_pos c1 k; ?_) (fun c1 => have k := ok_neg c1 k; ?_)
    · exact wp_sub (hX _ _ (ok_s k) h) rfl ⟨rfl, trivial⟩
    · refine wp_ld (v := .ref 55) dX8_pull_20 rfl rfl rfl rfl ?_
      refine wq_gI dX8_pull_21 rfl rfl (kk_55 h) (v := (am_I s 55 37)) rfl ?_
      refine wp_pu dX8_pull_24 rfl rfl ?_
      refine wp_ld (v := .ref 55) dX8_pull_25 rfl rfl rfl rfl ?_
      refine wp_gr dX8_pull_26 rfl rfl (kk_55 h) (rr_55_0 h) ?_
      refine wp_cst (v := .int (234 : Int32)) dX8_pull_29 rfl rfl ?_
      refine wp_cst (v := .int (3 : Int32)) dX8_pull_32 rfl rfl ?_
      refine wp_ld (v := .int x2) dX8_pull_33 rfl rfl rfl rfl ?_
      refine wp_pu dX8_pull_34 rfl rfl ?_
      refine wp_pu dX8_pull_35 rfl rfl ?_
      obtain ⟨g2, k⟩ := ok_g k
      refine wq_iald dX8_pull_36 (kk_56 h) g2 (v := (am_I s 56 (((234 : Int32) + ((3 : Int32) * x2)).toNatClampNeg))) rfl ?_
      show am_WP (d + 1) mX8_pull 37 _ _ _ Q
      refine wp_pu dX8_pull_37 rfl rfl ?_
      refine wp_ld (v := .ref 55) dX8_pull_38 rfl rfl rfl rfl ?_
      refine wp_gr dX8_pull_39 rfl rfl (kk_55 h) (rr_55_0 h) ?_
      refine wp_cst (v := .int (234 : Int32)) dX8_pull_42 rfl rfl ?_
      refine wp_cst (v := .int (3 : Int32)) dX8_pull_45 rfl rfl ?_
      refine wp_ld (v := .int x2) dX8_pull_46 rfl rfl rfl rfl ?_
      refine wp_pu dX8_pull_47 rfl rfl ?_
      refine wp_pu dX8_pull_48 rfl rfl ?_
      refine wp_cst (v := .int (1 : Int32)) dX8_pull_49 rfl rfl ?_
      refine wp_pu dX8_pull_50 rfl rfl ?_
      obtain ⟨g3, k⟩ := ok_g k
      refine wq_iald dX8_pull_51 (kk_56 h) g3 (v := (am_I s 56 ((((234 : Int32) + ((3 : Int32) * x2)) + (1 : Int32)).toNatClampNeg))) rfl ?_
      refine wp_pu dX8_pull_52 rfl rfl ?_
      show am_WP (d + 1) mX8_pull 53 _ _ _ Q
      refine c_i dX8_pull_53 rfl rfl rfl (am_inv_s rfl rfl rfl rfl) (s_X8_within h) k (fun v5 s4 h k => ?_)
      refine wp_if_eq dX8_pull_56 rfl (fun c6 => have k := ok_pos c6 k; ?_) (fun c6 => have k := ok_neg c6 k; ?_)
      · refine wp_inc (v := (x2 + (1 : Int32))) (ls' := [(0, .ref 55), (1, .int x1), (2, .int (x2 + (1 : Int32)))]) dX8_pull_76 rfl (Nat.le_of_ble_eq_true rfl) rfl rfl ?_
        refine wp_goto dX8_pull_79 rfl ?_
        exact wp_sub (ih h k hP hX) rfl ⟨rfl, rfl, rfl, trivial⟩
      · refine wp_ld (v := .int x1) dX8_pull_59 rfl rfl rfl rfl ?_
        refine wp_ld (v := .ref 55) dX8_pull_60 rfl rfl rfl rfl ?_
        refine wp_gr dX8_pull_61 rfl rfl (kk_55 h) (rr_55_0 h) ?_
        refine wp_cst (v := .int (234 : Int32)) dX8_pull_64 rfl rfl ?_
        refine wp_cst (v := .int (3 : Int32)) dX8_pull_67 rfl rfl ?_
        refine wp_ld (v := .int x2) dX8_pull_68 rfl rfl rfl rfl ?_
        refine wp_pu dX8_pull_69 rfl rfl ?_
        refine wp_pu dX8_pull_70 rfl rfl ?_
        refine wp_cst (v := .int (2 : Int32)) dX8_pull_71 rfl rfl ?_
        refine wp_pu dX8_pull_72 rfl rfl ?_
        obtain ⟨g7, k⟩ := ok_g k
        refine wq_iald dX8_pull_73 (kk_56 h) g7 (v := (am_I s4 56 ((((234 : Int32) + ((3 : Int32) * x2)) + (2 : Int32)).toNatClampNeg))) rfl ?_
        show am_WP (d + 1) mX8_pull 74 _ _ _ Q
        refine wp_pu dX8_pull_74 rfl rfl ?_
        refine ls_i k (fun y8 _ k => ?_)
        refine wp_st (ls' := [(0, .ref 55), (1, .int y8), (2, .int x2)]) dX8_pull_75 rfl rfl rfl (Nat.le_of_ble_eq_true rfl) rfl ?_
        refine wp_inc (v := (x2 + (1 : Int32))) (ls' := [(0, .ref 55), (1, .int y8), (2, .int (x2 + (1 : Int32)))]) dX8_pull_76 rfl (Nat.le_of_ble_eq_true rfl) rfl rfl ?_
        refine wp_goto dX8_pull_79 rfl ?_
        exact wp_sub (ih h k hP hX) rfl ⟨rfl, rfl, rfl, trivial⟩
noncomputable def f_X8_pull  (s : am_S) : am_F :=
  am_lm (L_X8_pull_10 ax_fuel (am_I s 56 8) (0 : Int32) s) (fun e9 s10 =>
    some (.inl (some (.int e9)), s10)
  )
theorem s_X8_pull {N n : Nat} {d : Nat}  {s : am_S} (h : am_sh N n s)  : am_S1 (am_sh N n) (d + 1) mX8_pull [.ref 55] s (f_X8_pull s) := by
  intro P Q k hP
  show am_WP (d + 1) mX8_pull 0 [(0, .ref 55)] [] s Q
  unfold f_X8_pull at k
  refine wp_ld (v := .ref 55) dX8_pull_0 rfl rfl rfl rfl ?_
  refine wp_gr dX8_pull_1 rfl rfl (kk_55 h) (rr_55_0 h) ?_
  refine wp_cst (v := .int (8 : Int32)) dX8_pull_4 rfl rfl ?_
  refine wq_iald dX8_pull_6 (kk_56 h) (by decide) (v := (am_I s 56 8)) rfl ?_
  refine wp_st (ls' := [(0, .ref 55), (1, .int (am_I s 56 8))]) dX8_pull_7 rfl rfl rfl (Nat.le_of_ble_eq_true rfl) rfl ?_
  refine wp_cst (v := .int (0 : Int32)) dX8_pull_8 rfl rfl ?_
  refine wp_st (ls' := [(0, .ref 55), (1, .int (am_I s 56 8)), (2, .int (0 : Int32))]) dX8_pull_9 rfl rfl rfl (Nat.le_of_ble_eq_true rfl) rfl ?_
  refine lp_m k (fun P1 k hA hB => ?_)
  refine wp_sub (q_X8_pull_10 ax_fuel h k (fun o s p h => hP o s (hA o s p) h) (fun e9 s10 p h => have k := hB e9 s10 p; ?_)) rfl ⟨rfl, rfl, rfl, trivial⟩
  refine wp_ld (v := .int e9) dX8_pull_82 rfl rfl rfl rfl ?_
  exact wp_end dX8_pull_83 rfl (am_end_i rfl) (hP _ _ (ok_s k) h)
noncomputable def f_X8_air (x1 : Int32) (s : am_S) : am_F :=
  am_bi (f_X8_path s) (fun v2 s1 =>
    am_jn (fun (e4 : Int32) s5 =>
      am_bi (f_X8_kept e4.toInt64 (8 : Int32) s5) (fun v7 s6 =>
        ax_le ((((am_I s6 55 33).toInt64 * (am_I s6 55 33).toInt64) + ((am_I s6 55 34).toInt64 * (am_I s6 55 34).toInt64)) / (1000 : Int64)) (fun y8 =>
          am_bl (f_X8_heavy s6) (fun v10 s9 =>
            if am_in ((13 : Int32) + (am_abs v7)) 264 = true then
              if ¬ (v10 * (am_I s9 56 9).toInt64) = 0 then
                ax_le ((((am_I s9 56 (((13 : Int32) + (am_abs v7)).toNatClampNeg)).toInt64 * y8) * (am_I s9 55 23).toInt64) / (v10 * (am_I s9 56 9).toInt64)) (fun y13 =>
                  am_jn (fun (e15 : Int64) s16 =>
                    am_jn (fun (e18 : Int64) s19 =>
                      if am_in ((22 : Int32) + (am_abs v7)) 264 = true then
                        if ¬ (v10 * (am_I s9 56 9).toInt64) = 0 then
                          ax_le ((((am_I s19 56 (((22 : Int32) + (am_abs v7)).toNatClampNeg)).toInt64 * y8) * (am_I s19 55 23).toInt64) / (v10 * (am_I s9 56 9).toInt64)) (fun y22 =>
                            ax_le ((am_I s19 55 36).toInt64 + ((((x1.toInt64 * y8) - ((am_I s19 55 27).toInt64 * e18)) * (am_I s19 56 10).toInt64) / (1000 : Int64))) (fun y23 =>
                              am_bi (f_X8_kept (y23 - ((y23 * (am_I s19 56 11).toInt64) / (10 : Int64))) (200 : Int32) s19) (fun v25 s24 =>
                                ax_le ((((am_I s24 55 35) + v25) + (1024 : Int32)) - (((am_I s24 55 35) + v25) + (1024 : Int32)) / (1024 : Int32) * (1024 : Int32)) (fun y26 =>
                                  if am_in v2 64 = true then
                                    if am_in v2 64 = true then
                                      am_bi (f_X8_kept ((am_I s24 55 33).toInt64 + ((((-y22) * (am_I s24 66 v2.toNatClampNeg).toInt64) - (e18 * (am_I s24 65 v2.toNatClampNeg).toInt64)) / (1000 : Int64))) (2000 : Int32) (am_sI (am_sI s24 55 36 v25) 55 35 y26)) (fun v30 s29 =>
                                        if am_in v2 64 = true then
                                          if am_in v2 64 = true then
                                            am_bi (f_X8_pull s29) (fun v34 s33 =>
                                              am_bi (f_X8_kept (((am_I s29 55 34).toInt64 + ((((-y22) * (am_I s29 65 v2.toNatClampNeg).toInt64) + (e18 * (am_I s29 66 v2.toNatClampNeg).toInt64)) / (1000 : Int64))) - v34.toInt64) (2000 : Int32) s33) (fun v36 s35 =>
                                                some (.inl none, (am_sI (am_sI s35 55 34 v36) 55 33 v30))
                                              )
                                            )
                                          else none
                                        else none
                                      )
                                    else none
                                  else none
                                )
                              )
                            )
                          )
                        else none
                      else none
                    ) (fun J17 =>
                      if v7 = 0 then
                        if ¬ (v10 * (am_I s9 56 9).toInt64) = 0 then
                          J17 ((((am_I s16 56 13).toInt64 * y8) * (am_I s16 55 23).toInt64) / (v10 * (am_I s9 56 9).toInt64)) s16
                        else none
                      else
                        J17 e15 s16
                    )
                  ) (fun J14 =>
                    if 0 ≤ v7 then
                      if v7 = 0 then
                        J14 (0 : Int64) s9
                      else
                        J14 y13 s9
                    else
                      J14 (-y13) s9
                  )
                )
              else none
            else none
          )
        )
      )
    ) (fun J3 =>
      if (((am_I s1 55 35) / (16 : Int32)) - v2) ≤ (31 : Int32) then
        if (-32 : Int32) ≤ (((am_I s1 55 35) / (16 : Int32)) - v2) then
          J3 (((am_I s1 55 35) / (16 : Int32)) - v2) s1
        else
          J3 ((((am_I s1 55 35) / (16 : Int32)) - v2) + (64 : Int32)) s1
      else
        J3 ((((am_I s1 55 35) / (16 : Int32)) - v2) - (64 : Int32)) s1
    )
  )
theorem s_X8_air {N n : Nat} {d : Nat} {x1 : Int32} {s : am_S} (h : am_sh N n s)  : am_S1 (am_sh N n) (d + 2) mX8_air [.ref 55, .int x1] s (f_X8_air x1 s) := by
  intro P Q k hP
  show am_WP (d + 2) mX8_air 0 [(0, .ref 55), (1, .int x1)] [] s Q
  unfold f_X8_air at k
  refine wp_ld (v := .ref 55) dX8_air_0 rfl rfl rfl rfl ?_
  refine c_i dX8_air_1 rfl rfl rfl (am_inv_v rfl (kk_55 h) rfl rfl rfl) (s_X8_path h) k (fun v2 s1 h k => ?_)
  refine wp_st (ls' := [(0, .ref 55), (1, .int x1), (2, .int v2)]) dX8_air_4 rfl rfl rfl (Nat.le_of_ble_eq_true rfl) rfl ?_
  refine wp_ld (v := .ref 55) dX8_air_5 rfl rfl rfl rfl ?_
  refine wq_gI dX8_air_6 rfl rfl (kk_55 h) (v := (am_I s1 55 35)) rfl ?_
  refine wp_cst (v := .int (16 : Int32)) dX8_air_9 rfl rfl ?_
  refine wp_div dX8_air_11 (by decide) ?_
  refine wp_ld (v := .int v2) dX8_air_12 rfl rfl rfl rfl ?_
  refine wp_pu dX8_air_13 rfl rfl ?_
  refine wp_st (ls' := [(0, .ref 55), (1, .int x1), (2, .int v2), (3, .int (((am_I s1 55 35) / (16 : Int32)) - v2))]) dX8_air_14 rfl rfl rfl (Nat.le_of_ble_eq_true rfl) rfl ?_
  refine wp_ld (v := .int (((am_I s1 55 35) / (16 : Int32)) - v2)) dX8_air_15 rfl rfl rfl rfl ?_
  refine wp_cst (v := .int (31 : Int32)) dX8_air_16 rfl rfl ?_
  refine jn_rule k (fun J3 hJ3 k => ?_)
  have HJ3 : ∀ (e4 : Int32) (s5 : am_S), am_sh N n s5 → am_ok (J3 e4 s5) P → am_WP (d + 2) mX8_air 42 [(0, .ref 55), (1, .int x1), (2, .int v2)] [.int e4] s5 Q := by
    intro e4 s5 h k
    replace k := hJ3 _ _ k
    refine wp_st (ls' := [(0, .ref 55), (1, .int x1), (2, .int v2), (3, .int e4)]) dX8_air_42 rfl rfl rfl (Nat.le_of_ble_eq_true rfl) rfl ?_
    refine wp_ld (v := .int e4) dX8_air_43 rfl rfl rfl rfl ?_
    refine wp_pu dX8_air_44 rfl rfl ?_
    refine wp_cst (v := .int (8 : Int32)) dX8_air_45 rfl rfl ?_
    refine c_i dX8_air_47 rfl rfl rfl (am_inv_s rfl rfl rfl rfl) (s_X8_kept h) k (fun v7 s6 h k => ?_)
    refine wp_st (ls' := [(0, .ref 55), (1, .int x1), (2, .int v2), (3, .int v7)]) dX8_air_50 rfl rfl rfl (Nat.le_of_ble_eq_true rfl) rfl ?_
    refine wp_ld (v := .ref 55) dX8_air_51 rfl rfl rfl rfl ?_
    refine wq_gI dX8_air_52 rfl rfl (kk_55 h) (v := (am_I s6 55 33)) rfl ?_
    refine wp_pu dX8_air_55 rfl rfl ?_
    refine wp_ld (v := .ref 55) dX8_air_56 rfl rfl rfl rfl ?_
    refine wq_gI dX8_air_57 rfl rfl (kk_55 h) (v := (am_I s6 55 33)) rfl ?_
    refine wp_pu dX8_air_60 rfl rfl ?_
    refine wp_pu dX8_air_61 rfl rfl ?_
    refine wp_ld (v := .ref 55) dX8_air_62 rfl rfl rfl rfl ?_
    refine wq_gI dX8_air_63 rfl rfl (kk_55 h) (v := (am_I s6 55 34)) rfl ?_
    refine wp_pu dX8_air_66 rfl rfl ?_
    show am_WP (d + 2) mX8_air 67 _ _ _ Q
    refine wp_ld (v := .ref 55) dX8_air_67 rfl rfl rfl rfl ?_
    refine wq_gI dX8_air_68 rfl rfl (kk_55 h) (v := (am_I s6 55 34)) rfl ?_
    refine wp_pu dX8_air_71 rfl rfl ?_
    refine wp_pu dX8_air_72 rfl rfl ?_
    refine wp_pu dX8_air_73 rfl rfl ?_
    refine wp_cst (v := .long (1000 : Int64)) dX8_air_74 rfl rfl ?_
    refine wp_ldiv dX8_air_77 (by decide) ?_
    refine ls_l k (fun y8 _ k => ?_)
    refine wp_st (ls' := [(0, .ref 55), (1, .int x1), (2, .int v2), (3, .int v7), (4, .long y8)]) dX8_air_78 rfl rfl rfl (Nat.le_of_ble_eq_true rfl) rfl ?_
    refine wp_ld (v := .ref 55) dX8_air_80 rfl rfl rfl rfl ?_
    refine c_l dX8_air_81 rfl rfl rfl (am_inv_v rfl (kk_55 h) rfl rfl rfl) (s_X8_heavy h) k (fun v10 s9 h k => ?_)
    refine wp_ld (v := .ref 55) dX8_air_84 rfl rfl rfl rfl ?_
    refine wp_gr dX8_air_85 rfl rfl (kk_55 h) (rr_55_0 h) ?_
    refine wp_cst (v := .int (9 : Int32)) dX8_air_88 rfl rfl ?_
    refine wq_iald dX8_air_90 (kk_56 h) (by decide) (v := (am_I s9 56 9)) rfl ?_
    refine wp_pu dX8_air_91 rfl rfl ?_
    refine wp_pu dX8_air_92 rfl rfl ?_
    refine wp_st (ls' := [(0, .ref 55), (1, .int x1), (2, .int v2), (3, .int v7), (4, .long y8), (6, .long (v10 * (am_I s9 56 9).toInt64))]) dX8_air_93 rfl rfl rfl (Nat.le_of_ble_eq_true rfl) rfl ?_
    refine wp_ld (v := .ref 55) dX8_air_95 rfl rfl rfl rfl ?_
    refine wp_gr dX8_air_96 rfl rfl (kk_55 h) (rr_55_0 h) ?_
    refine wp_cst (v := .int (13 : Int32)) dX8_air_99 rfl rfl ?_
    refine wp_ld (v := .int v7) dX8_air_101 rfl rfl rfl rfl ?_
    show am_WP (d + 2) mX8_air 102 _ _ _ Q
    refine wp_mem (st' := .int (am_abs v7) :: [.int (13 : Int32), .ref 56]) dX8_air_102 rfl rfl rfl rfl ?_
    refine wp_pu dX8_air_105 rfl rfl ?_
    obtain ⟨g11, k⟩ := ok_g k
    refine wq_iald dX8_air_106 (kk_56 h) g11 (v := (am_I s9 56 (((13 : Int32) + (am_abs v7)).toNatClampNeg))) rfl ?_
    refine wp_pu dX8_air_107 rfl rfl ?_
    refine wp_ld (v := .long y8) dX8_air_108 rfl rfl rfl rfl ?_
    refine wp_pu dX8_air_110 rfl rfl ?_
    refine wp_ld (v := .ref 55) dX8_air_111 rfl rfl rfl rfl ?_
    refine wq_gI dX8_air_112 rfl rfl (kk_55 h) (v := (am_I s9 55 23)) rfl ?_
    refine wp_pu dX8_air_115 rfl rfl ?_
    refine wp_pu dX8_air_116 rfl rfl ?_
    refine wp_ld (v := .long (v10 * (am_I s9 56 9).toInt64)) dX8_air_117 rfl rfl rfl rfl ?_
    obtain ⟨g12, k⟩ := ok_g k
    refine wp_ldiv dX8_air_119 g12 ?_
    show am_WP (d + 2) mX8_air 120 _ _ _ Q
    refine ls_l k (fun y13 _ k => ?_)
    refine wp_st (ls' := [(0, .ref 55), (1, .int x1), (2, .int v2), (3, .int v7), (4, .long y8), (6, .long (v10 * (am_I s9 56 9).toInt64)), (8, .long y13)]) dX8_air_120 rfl rfl rfl (Nat.le_of_ble_eq_true rfl) rfl ?_
    refine wp_ld (v := .int v7) dX8_air_122 rfl rfl rfl rfl ?_
    refine jn_rule k (fun J14 hJ14 k => ?_)
    have HJ14 : ∀ (e15 : Int64) (s16 : am_S), am_sh N n s16 → am_ok (J14 e15 s16) P → am_WP (d + 2) mX8_air 142 [(0, .ref 55), (1, .int x1), (2, .int v2), (3, .int v7), (4, .long y8), (6, .long (v10 * (am_I s9 56 9).toInt64))] [.long e15] s16 Q := by
      intro e15 s16 h k
      replace k := hJ14 _ _ k
      refine wp_st (ls' := [(0, .ref 55), (1, .int x1), (2, .int v2), (3, .int v7), (4, .long y8), (6, .long (v10 * (am_I s9 56 9).toInt64)), (8, .long e15)]) dX8_air_142 rfl rfl rfl (Nat.le_of_ble_eq_true rfl) rfl ?_
      refine wp_ld (v := .int v7) dX8_air_144 rfl rfl rfl rfl ?_
      refine jn_rule k (fun J17 hJ17 k => ?_)
      have HJ17 : ∀ (e18 : Int64) (s19 : am_S), am_sh N n s19 → am_ok (J17 e18 s19) P → am_WP (d + 2) mX8_air 173 [(0, .ref 55), (1, .int x1), (2, .int v2), (3, .int v7), (4, .long y8), (6, .long (v10 * (am_I s9 56 9).toInt64))] [.long e18] s19 Q := by
        intro e18 s19 h k
        replace k := hJ17 _ _ k
        refine wp_st (ls' := [(0, .ref 55), (1, .int x1), (2, .int v2), (3, .int v7), (4, .long y8), (6, .long (v10 * (am_I s9 56 9).toInt64)), (8, .long e18)]) dX8_air_173 rfl rfl rfl (Nat.le_of_ble_eq_true rfl) rfl ?_
        refine wp_ld (v := .ref 55) dX8_air_175 rfl rfl rfl rfl ?_
        refine wp_gr dX8_air_176 rfl rfl (kk_55 h) (rr_55_0 h) ?_
        refine wp_cst (v := .int (22 : Int32)) dX8_air_179 rfl rfl ?_
        refine wp_ld (v := .int v7) dX8_air_181 rfl rfl rfl rfl ?_
        refine wp_mem (st' := .int (am_abs v7) :: [.int (22 : Int32), .ref 56]) dX8_air_182 rfl rfl rfl rfl ?_
        refine wp_pu dX8_air_185 rfl rfl ?_
        obtain ⟨g20, k⟩ := ok_g k
        refine wq_iald dX8_air_186 (kk_56 h) g20 (v := (am_I s19 56 (((22 : Int32) + (am_abs v7)).toNatClampNeg))) rfl ?_
        refine wp_pu dX8_air_187 rfl rfl ?_
        refine wp_ld (v := .long y8) dX8_air_188 rfl rfl rfl rfl ?_
        refine wp_pu dX8_air_190 rfl rfl ?_
        show am_WP (d + 2) mX8_air 191 _ _ _ Q
        refine wp_ld (v := .ref 55) dX8_air_191 rfl rfl rfl rfl ?_
        refine wq_gI dX8_air_192 rfl rfl (kk_55 h) (v := (am_I s19 55 23)) rfl ?_
        refine wp_pu dX8_air_195 rfl rfl ?_
        refine wp_pu dX8_air_196 rfl rfl ?_
        refine wp_ld (v := .long (v10 * (am_I s9 56 9).toInt64)) dX8_air_197 rfl rfl rfl rfl ?_
        obtain ⟨g21, k⟩ := ok_g k
        refine wp_ldiv dX8_air_199 g21 ?_
        refine ls_l k (fun y22 _ k => ?_)
        refine wp_st (ls' := [(0, .ref 55), (1, .int x1), (2, .int v2), (3, .int v7), (4, .long y8), (6, .long (v10 * (am_I s9 56 9).toInt64)), (8, .long e18), (10, .long y22)]) dX8_air_200 rfl rfl rfl (Nat.le_of_ble_eq_true rfl) rfl ?_
        refine wp_ld (v := .ref 55) dX8_air_202 rfl rfl rfl rfl ?_
        refine wq_gI dX8_air_203 rfl rfl (kk_55 h) (v := (am_I s19 55 36)) rfl ?_
        refine wp_pu dX8_air_206 rfl rfl ?_
        refine wp_ld (v := .int x1) dX8_air_207 rfl rfl rfl rfl ?_
        refine wp_pu dX8_air_208 rfl rfl ?_
        show am_WP (d + 2) mX8_air 209 _ _ _ Q
        refine wp_ld (v := .long y8) dX8_air_209 rfl rfl rfl rfl ?_
        refine wp_pu dX8_air_211 rfl rfl ?_
        refine wp_ld (v := .ref 55) dX8_air_212 rfl rfl rfl rfl ?_
        refine wq_gI dX8_air_213 rfl rfl (kk_55 h) (v := (am_I s19 55 27)) rfl ?_
        refine wp_pu dX8_air_216 rfl rfl ?_
        refine wp_ld (v := .long e18) dX8_air_217 rfl rfl rfl rfl ?_
        refine wp_pu dX8_air_219 rfl rfl ?_
        refine wp_pu dX8_air_220 rfl rfl ?_
        refine wp_ld (v := .ref 55) dX8_air_221 rfl rfl rfl rfl ?_
        refine wp_gr dX8_air_222 rfl rfl (kk_55 h) (rr_55_0 h) ?_
        refine wp_cst (v := .int (10 : Int32)) dX8_air_225 rfl rfl ?_
        refine wq_iald dX8_air_227 (kk_56 h) (by decide) (v := (am_I s19 56 10)) rfl ?_
        show am_WP (d + 2) mX8_air 228 _ _ _ Q
        refine wp_pu dX8_air_228 rfl rfl ?_
        refine wp_pu dX8_air_229 rfl rfl ?_
        refine wp_cst (v := .long (1000 : Int64)) dX8_air_230 rfl rfl ?_
        refine wp_ldiv dX8_air_233 (by decide) ?_
        refine wp_pu dX8_air_234 rfl rfl ?_
        refine ls_l k (fun y23 _ k => ?_)
        refine wp_st (ls' := [(0, .ref 55), (1, .int x1), (2, .int v2), (3, .int v7), (4, .long y8), (6, .long (v10 * (am_I s9 56 9).toInt64)), (8, .long e18), (10, .long y22), (12, .long y23)]) dX8_air_235 rfl rfl rfl (Nat.le_of_ble_eq_true rfl) rfl ?_
        refine wp_ld (v := .long y23) dX8_air_237 rfl rfl rfl rfl ?_
        refine wp_ld (v := .long y23) dX8_air_239 rfl rfl rfl rfl ?_
        refine wp_ld (v := .ref 55) dX8_air_241 rfl rfl rfl rfl ?_
        refine wp_gr dX8_air_242 rfl rfl (kk_55 h) (rr_55_0 h) ?_
        refine wp_cst (v := .int (11 : Int32)) dX8_air_245 rfl rfl ?_
        refine wq_iald dX8_air_247 (kk_56 h) (by decide) (v := (am_I s19 56 11)) rfl ?_
        show am_WP (d + 2) mX8_air 248 _ _ _ Q
        refine wp_pu dX8_air_248 rfl rfl ?_
        refine wp_pu dX8_air_249 rfl rfl ?_
        refine wp_cst (v := .long (10 : Int64)) dX8_air_250 rfl rfl ?_
        refine wp_ldiv dX8_air_253 (by decide) ?_
        refine wp_pu dX8_air_254 rfl rfl ?_
        refine wp_st (ls' := [(0, .ref 55), (1, .int x1), (2, .int v2), (3, .int v7), (4, .long y8), (6, .long (v10 * (am_I s9 56 9).toInt64)), (8, .long e18), (10, .long y22), (12, .long (y23 - ((y23 * (am_I s19 56 11).toInt64) / (10 : Int64))))]) dX8_air_255 rfl rfl rfl (Nat.le_of_ble_eq_true rfl) rfl ?_
        refine wp_ld (v := .ref 55) dX8_air_257 rfl rfl rfl rfl ?_
        refine wp_ld (v := .long (y23 - ((y23 * (am_I s19 56 11).toInt64) / (10 : Int64)))) dX8_air_258 rfl rfl rfl rfl ?_
        refine wp_cst (v := .int (200 : Int32)) dX8_air_260 rfl rfl ?_
        refine c_i dX8_air_263 rfl rfl rfl (am_inv_s rfl rfl rfl rfl) (s_X8_kept h) k (fun v25 s24 h k => ?_)
        refine wp_pI dX8_air_266 rfl rfl rfl (fun h => absurd h (by decide)) (kk_55 h) ?_
        refine wp_ld (v := .ref 55) dX8_air_269 rfl rfl rfl rfl ?_
        refine wp_ld (v := .ref 55) dX8_air_270 rfl rfl rfl rfl ?_
        refine wq_gI dX8_air_271 rfl rfl (kk_55 (sh_sI h)) (v := (am_I s24 55 35)) rfl ?_
        refine wp_ld (v := .ref 55) dX8_air_274 rfl rfl rfl rfl ?_
        refine wq_gI dX8_air_275 rfl rfl (kk_55 (sh_sI h)) (v := v25) rfl ?_
        refine wp_pu dX8_air_278 rfl rfl ?_
        refine wp_cst (v := .int (1024 : Int32)) dX8_air_279 rfl rfl ?_
        refine wp_pu dX8_air_282 rfl rfl ?_
        refine wp_cst (v := .int (1024 : Int32)) dX8_air_283 rfl rfl ?_
        refine wp_rem dX8_air_286 (by decide) ?_
        show am_WP (d + 2) mX8_air 287 _ _ _ Q
        refine ls_i k (fun y26 _ k => ?_)
        refine wp_pI dX8_air_287 rfl rfl rfl (fun h => absurd h (by decide)) (kk_55 (sh_sI h)) ?_
        refine wp_ld (v := .ref 55) dX8_air_290 rfl rfl rfl rfl ?_
        refine wq_gI dX8_air_291 rfl rfl (kk_55 (sh_sI (sh_sI h))) (v := (am_I s24 55 33)) rfl ?_
        refine wp_pu dX8_air_294 rfl rfl ?_
        refine wp_ld (v := .long y22) dX8_air_295 rfl rfl rfl rfl ?_
        refine wp_pu dX8_air_297 rfl rfl ?_
        refine wp_ld (v := .ref 55) dX8_air_298 rfl rfl rfl rfl ?_
        refine wp_gr dX8_air_299 rfl rfl (kk_55 (sh_sI (sh_sI h))) (rr_55_29 (sh_sI (sh_sI h))) ?_
        refine wp_ld (v := .int v2) dX8_air_302 rfl rfl rfl rfl ?_
        obtain ⟨g27, k⟩ := ok_g k
        refine wq_iald dX8_air_303 (kk_66 (sh_sI (sh_sI h))) g27 (v := (am_I s24 66 v2.toNatClampNeg)) rfl ?_
        refine wp_pu dX8_air_304 rfl rfl ?_
        refine wp_pu dX8_air_305 rfl rfl ?_
        show am_WP (d + 2) mX8_air 306 _ _ _ Q
        refine wp_ld (v := .long e18) dX8_air_306 rfl rfl rfl rfl ?_
        refine wp_ld (v := .ref 55) dX8_air_308 rfl rfl rfl rfl ?_
        refine wp_gr dX8_air_309 rfl rfl (kk_55 (sh_sI (sh_sI h))) (rr_55_28 (sh_sI (sh_sI h))) ?_
        refine wp_ld (v := .int v2) dX8_air_312 rfl rfl rfl rfl ?_
        obtain ⟨g28, k⟩ := ok_g k
        refine wq_iald dX8_air_313 (kk_65 (sh_sI (sh_sI h))) g28 (v := (am_I s24 65 v2.toNatClampNeg)) rfl ?_
        refine wp_pu dX8_air_314 rfl rfl ?_
        refine wp_pu dX8_air_315 rfl rfl ?_
        refine wp_pu dX8_air_316 rfl rfl ?_
        refine wp_cst (v := .long (1000 : Int64)) dX8_air_317 rfl rfl ?_
        refine wp_ldiv dX8_air_320 (by decide) ?_
        refine wp_pu dX8_air_321 rfl rfl ?_
        refine wp_cst (v := .int (2000 : Int32)) dX8_air_322 rfl rfl ?_
        show am_WP (d + 2) mX8_air 325 _ _ _ Q
        refine c_i dX8_air_325 rfl rfl rfl (am_inv_s rfl rfl rfl rfl) (s_X8_kept (sh_sI (sh_sI h))) k (fun v30 s29 h k => ?_)
        refine wp_st (ls' := [(0, .ref 55), (1, .int x1), (2, .int v2), (3, .int v7), (4, .long y8), (6, .long (v10 * (am_I s9 56 9).toInt64)), (8, .long e18), (10, .long y22), (12, .long (y23 - ((y23 * (am_I s19 56 11).toInt64) / (10 : Int64)))), (14, .int v30)]) dX8_air_328 rfl rfl rfl (Nat.le_of_ble_eq_true rfl) rfl ?_
        refine wp_ld (v := .ref 55) dX8_air_330 rfl rfl rfl rfl ?_
        refine wp_ld (v := .ref 55) dX8_air_331 rfl rfl rfl rfl ?_
        refine wq_gI dX8_air_332 rfl rfl (kk_55 h) (v := (am_I s29 55 34)) rfl ?_
        refine wp_pu dX8_air_335 rfl rfl ?_
        refine wp_ld (v := .long y22) dX8_air_336 rfl rfl rfl rfl ?_
        refine wp_pu dX8_air_338 rfl rfl ?_
        refine wp_ld (v := .ref 55) dX8_air_339 rfl rfl rfl rfl ?_
        refine wp_gr dX8_air_340 rfl rfl (kk_55 h) (rr_55_28 h) ?_
        refine wp_ld (v := .int v2) dX8_air_343 rfl rfl rfl rfl ?_
        obtain ⟨g31, k⟩ := ok_g k
        refine wq_iald dX8_air_344 (kk_65 h) g31 (v := (am_I s29 65 v2.toNatClampNeg)) rfl ?_
        show am_WP (d + 2) mX8_air 345 _ _ _ Q
        refine wp_pu dX8_air_345 rfl rfl ?_
        refine wp_pu dX8_air_346 rfl rfl ?_
        refine wp_ld (v := .long e18) dX8_air_347 rfl rfl rfl rfl ?_
        refine wp_ld (v := .ref 55) dX8_air_349 rfl rfl rfl rfl ?_
        refine wp_gr dX8_air_350 rfl rfl (kk_55 h) (rr_55_29 h) ?_
        refine wp_ld (v := .int v2) dX8_air_353 rfl rfl rfl rfl ?_
        obtain ⟨g32, k⟩ := ok_g k
        refine wq_iald dX8_air_354 (kk_66 h) g32 (v := (am_I s29 66 v2.toNatClampNeg)) rfl ?_
        refine wp_pu dX8_air_355 rfl rfl ?_
        refine wp_pu dX8_air_356 rfl rfl ?_
        refine wp_pu dX8_air_357 rfl rfl ?_
        refine wp_cst (v := .long (1000 : Int64)) dX8_air_358 rfl rfl ?_
        refine wp_ldiv dX8_air_361 (by decide) ?_
        show am_WP (d + 2) mX8_air 362 _ _ _ Q
        refine wp_pu dX8_air_362 rfl rfl ?_
        refine wp_ld (v := .ref 55) dX8_air_363 rfl rfl rfl rfl ?_
        refine c_i dX8_air_364 rfl rfl rfl (am_inv_v rfl (kk_55 h) rfl rfl rfl) (s_X8_pull h) k (fun v34 s33 h k => ?_)
        refine wp_pu dX8_air_367 rfl rfl ?_
        refine wp_pu dX8_air_368 rfl rfl ?_
        refine wp_cst (v := .int (2000 : Int32)) dX8_air_369 rfl rfl ?_
        refine c_i dX8_air_372 rfl rfl rfl (am_inv_s rfl rfl rfl rfl) (s_X8_kept h) k (fun v36 s35 h k => ?_)
        refine wp_pI dX8_air_375 rfl rfl rfl (fun h => absurd h (by decide)) (kk_55 h) ?_
        refine wp_ld (v := .ref 55) dX8_air_378 rfl rfl rfl rfl ?_
        refine wp_ld (v := .int v30) dX8_air_379 rfl rfl rfl rfl ?_
        refine wp_pI dX8_air_381 rfl rfl rfl (fun h => absurd h (by decide)) (kk_55 (sh_sI h)) ?_
        exact wp_end dX8_air_384 rfl rfl (hP _ _ (ok_s k) (sh_sI (sh_sI h)))
      refine wp_if_ne dX8_air_145 rfl (fun c37 => have k := ok_neg c37 k; ?_) (fun c37 => have k := ok_pos c37 k; ?_)
      · refine wp_ld (v := .long e15) dX8_air_171 rfl rfl rfl rfl ?_
        exact wp_sub (HJ17 _ _ h k) rfl ⟨rfl, rfl, rfl, rfl, rfl, rfl, trivial⟩
      · refine wp_ld (v := .ref 55) dX8_air_148 rfl rfl rfl rfl ?_
        refine wp_gr dX8_air_149 rfl rfl (kk_55 h) (rr_55_0 h) ?_
        refine wp_cst (v := .int (13 : Int32)) dX8_air_152 rfl rfl ?_
        refine wq_iald dX8_air_154 (kk_56 h) (by decide) (v := (am_I s16 56 13)) rfl ?_
        refine wp_pu dX8_air_155 rfl rfl ?_
        refine wp_ld (v := .long y8) dX8_air_156 rfl rfl rfl rfl ?_
        refine wp_pu dX8_air_158 rfl rfl ?_
        refine wp_ld (v := .ref 55) dX8_air_159 rfl rfl rfl rfl ?_
        refine wq_gI dX8_air_160 rfl rfl (kk_55 h) (v := (am_I s16 55 23)) rfl ?_
        refine wp_pu dX8_air_163 rfl rfl ?_
        refine wp_pu dX8_air_164 rfl rfl ?_
        show am_WP (d + 2) mX8_air 165 _ _ _ Q
        refine wp_ld (v := .long (v10 * (am_I s9 56 9).toInt64)) dX8_air_165 rfl rfl rfl rfl ?_
        obtain ⟨g38, k⟩ := ok_g k
        refine wp_ldiv dX8_air_167 g38 ?_
        refine wp_goto dX8_air_168 rfl ?_
        exact wp_sub (HJ17 _ _ h k) rfl ⟨rfl, rfl, rfl, rfl, rfl, rfl, trivial⟩
    refine wp_if_ge dX8_air_123 rfl (fun c39 => have k := ok_pos c39 k; ?_) (fun c39 => have k := ok_neg c39 k; ?_)
    · refine wp_ld (v := .int v7) dX8_air_132 rfl rfl rfl rfl ?_
      refine wp_if_ne dX8_air_133 rfl (fun c40 => have k := ok_neg c40 k; ?_) (fun c40 => have k := ok_pos c40 k; ?_)
      · refine wp_ld (v := .long y13) dX8_air_140 rfl rfl rfl rfl ?_
        exact wp_sub (HJ14 _ _ h k) rfl ⟨rfl, rfl, rfl, rfl, rfl, rfl, trivial⟩
      · refine wp_cst (v := .long (0 : Int64)) dX8_air_136 rfl rfl ?_
        refine wp_goto dX8_air_137 rfl ?_
        exact wp_sub (HJ14 _ _ h k) rfl ⟨rfl, rfl, rfl, rfl, rfl, rfl, trivial⟩
    · refine wp_ld (v := .long y13) dX8_air_126 rfl rfl rfl rfl ?_
      refine wp_pu dX8_air_128 rfl rfl ?_
      refine wp_goto dX8_air_129 rfl ?_
      exact wp_sub (HJ14 _ _ h k) rfl ⟨rfl, rfl, rfl, rfl, rfl, rfl, trivial⟩
  refine wp_ic_le dX8_air_18 rfl (fun c41 => have k := ok_pos c41 k; ?_) (fun c41 => have k := ok_neg c41 k; ?_)
  · refine wp_ld (v := .int (((am_I s1 55 35) / (16 : Int32)) - v2)) dX8_air_28 rfl rfl rfl rfl ?_
    refine wp_cst (v := .int (-32 : Int32)) dX8_air_29 rfl rfl ?_
    refine wp_ic_ge dX8_air_31 rfl (fun c42 => have k := ok_pos c42 k; ?_) (fun c42 => have k := ok_neg c42 k; ?_)
    · refine wp_ld (v := .int (((am_I s1 55 35) / (16 : Int32)) - v2)) dX8_air_41 rfl rfl rfl rfl ?_
      exact wp_sub (HJ3 _ _ h k) rfl ⟨rfl, rfl, rfl, trivial⟩
    · refine wp_ld (v := .int (((am_I s1 55 35) / (16 : Int32)) - v2)) dX8_air_34 rfl rfl rfl rfl ?_
      refine wp_cst (v := .int (64 : Int32)) dX8_air_35 rfl rfl ?_
      refine wp_pu dX8_air_37 rfl rfl ?_
      refine wp_goto dX8_air_38 rfl ?_
      exact wp_sub (HJ3 _ _ h k) rfl ⟨rfl, rfl, rfl, trivial⟩
  · refine wp_ld (v := .int (((am_I s1 55 35) / (16 : Int32)) - v2)) dX8_air_21 rfl rfl rfl rfl ?_
    refine wp_cst (v := .int (64 : Int32)) dX8_air_22 rfl rfl ?_
    refine wp_pu dX8_air_24 rfl rfl ?_
    refine wp_goto dX8_air_25 rfl ?_
    exact wp_sub (HJ3 _ _ h k) rfl ⟨rfl, rfl, rfl, trivial⟩
noncomputable def L_X8_tick_119 : Nat → Int32 → Int32 → Int32 → am_S → am_FE (Int32)
  | 0, _, _, _, _ => none
  | m + 1, x2, x3, x4, s =>
    if (am_I s 56 5) ≤ x4 then
      some (.inr (x3, s))
    else
      if am_in ((246 : Int32) + ((2 : Int32) * x4)) 264 = true then
        if (am_I s 56 (((246 : Int32) + ((2 : Int32) * x4)).toNatClampNeg)) ≤ x2 then
          L_X8_tick_119 m x2 x3 (x4 + (1 : Int32)) s
        else
          if (am_I s 55 31) < (am_I s 56 (((246 : Int32) + ((2 : Int32) * x4)).toNatClampNeg)) then
            L_X8_tick_119 m x2 x3 (x4 + (1 : Int32)) s
          else
            if am_in (((246 : Int32) + ((2 : Int32) * x4)) + (1 : Int32)) 264 = true then
              if (am_I s 56 ((((246 : Int32) + ((2 : Int32) * x4)) + (1 : Int32)).toNatClampNeg)) < (am_I s 55 32) then
                L_X8_tick_119 m x2 x3 (x4 + (1 : Int32)) s
              else
                if x3 = 0 then
                  L_X8_tick_119 m x2 (am_I s 56 (((246 : Int32) + ((2 : Int32) * x4)).toNatClampNeg)) (x4 + (1 : Int32)) s
                else
                  if x3 ≤ (am_I s 56 (((246 : Int32) + ((2 : Int32) * x4)).toNatClampNeg)) then
                    L_X8_tick_119 m x2 x3 (x4 + (1 : Int32)) s
                  else
                    L_X8_tick_119 m x2 (am_I s 56 (((246 : Int32) + ((2 : Int32) * x4)).toNatClampNeg)) (x4 + (1 : Int32)) s
            else none
      else none
theorem q_X8_tick_119 : ∀ (m : Nat) {N n : Nat} {d : Nat} {x2 : Int32} {x3 : Int32} {x4 : Int32} {s : am_S} {P : (am_O × am_S) ⊕ (Int32 × am_S) → Prop} {Q : am_O → am_S → Prop} (h : am_sh N n s)  (k : am_ok (L_X8_tick_119 m x2 x3 x4 s) P) (hP : ∀ o s, P (.inl (o, s)) → am_sh N n s → Q o s) (hX : ∀ (e : Int32) s, P (.inr (e, s)) → am_sh N n s → am_WP (d + 3) mX8_tick 201 [(0, .ref 55), (2, .int x2), (3, .int e)] [] s Q), am_WP (d + 3) mX8_tick 119 [(0, .ref 55), (2, .int x2), (3, .int x3), (4, .int x4)] [] s Q := by
  intro m
  induction m with
  | zero =>
    intro N n d x2 x3 x4 s P Q h  k hP hX
    exact (ok_no k).elim
  | succ m ih =>
    intro N n d x2 x3 x4 s P Q h  k hP hX
    unfold L_X8_tick_119 at k
    refine wp_ld (v := .int x4) dX8_tick_119 rfl rfl rfl rfl ?_
    refine wp_ld (v := .ref 55) dX8_tick_121 rfl rfl rfl rfl ?_
    refine wp_gr dX8_tick_122 rfl rfl (kk_55 h) (rr_55_0 h) ?_
    refine wp_cst (v := .int (5 : Int32)) dX8_tick_125 rfl rfl ?_
    refine wq_iald dX8_tick_126 (kk_56 h) (by decide) (v := (am_I s 56 5)) rfl ?_
    refine wp_ic_ge dX8_tick_127 rfl (fun c6 => have k := ok_pos c6 k; ?_) (fun c6 => have k := ok_neg c6 k; ?_)
    · exact wp_sub (hX _ _ (ok_s k) h) rfl ⟨rfl, rfl, rfl, trivial⟩
    · refine wp_ld (v := .ref 55) dX8_tick_130 rfl rfl rfl rfl ?_
      refine wp_gr dX8_tick_131 rfl rfl (kk_55 h) (rr_55_0 h) ?_
      refine wp_cst (v := .int (246 : Int32)) dX8_tick_134 rfl rfl ?_
      refine wp_cst (v := .int (2 : Int32)) dX8_tick_137 rfl rfl ?_
      refine wp_ld (v := .int x4) dX8_tick_138 rfl rfl rfl rfl ?_
      refine wp_pu dX8_tick_140 rfl rfl ?_
      refine wp_pu dX8_tick_141 rfl rfl ?_
      obtain ⟨g7, k⟩ := ok_g k
      refine wq_iald dX8_tick_142 (kk_56 h) g7 (v := (am_I s 56 (((246 : Int32) + ((2 : Int32) * x4)).toNatClampNeg))) rfl ?_
      refine wp_st (ls' := [(0, .ref 55), (2, .int x2), (3, .int x3), (4, .int x4), (5, .int (am_I s 56 (((246 : Int32) + ((2 : Int32) * x4)).toNatClampNeg)))]) dX8_tick_143 rfl rfl rfl (Nat.le_of_ble_eq_true rfl) rfl ?_
      refine wp_ld (v := .int x2) dX8_tick_145 rfl rfl rfl rfl ?_
      refine wp_ld (v := .int (am_I s 56 (((246 : Int32) + ((2 : Int32) * x4)).toNatClampNeg))) dX8_tick_146 rfl rfl rfl rfl ?_
      show am_WP (d + 3) mX8_tick 148 _ _ _ Q
      refine wp_ic_ge dX8_tick_148 rfl (fun c8 => have k := ok_pos c8 k; ?_) (fun c8 => have k := ok_neg c8 k; ?_)
      · refine wp_inc (v := (x4 + (1 : Int32))) (ls' := [(0, .ref 55), (2, .int x2), (3, .int x3), (4, .int (x4 + (1 : Int32))), (5, .int (am_I s 56 (((246 : Int32) + ((2 : Int32) * x4)).toNatClampNeg)))]) dX8_tick_195 rfl (Nat.le_of_ble_eq_true rfl) rfl rfl ?_
        refine wp_goto dX8_tick_198 rfl ?_
        exact wp_sub (ih h k hP hX) rfl ⟨rfl, rfl, rfl, rfl, trivial⟩
      · refine wp_ld (v := .ref 55) dX8_tick_151 rfl rfl rfl rfl ?_
        refine wq_gI dX8_tick_152 rfl rfl (kk_55 h) (v := (am_I s 55 31)) rfl ?_
        refine wp_ld (v := .int (am_I s 56 (((246 : Int32) + ((2 : Int32) * x4)).toNatClampNeg))) dX8_tick_155 rfl rfl rfl rfl ?_
        refine wp_ic_lt dX8_tick_157 rfl (fun c9 => have k := ok_pos c9 k; ?_) (fun c9 => have k := ok_neg c9 k; ?_)
        · refine wp_inc (v := (x4 + (1 : Int32))) (ls' := [(0, .ref 55), (2, .int x2), (3, .int x3), (4, .int (x4 + (1 : Int32))), (5, .int (am_I s 56 (((246 : Int32) + ((2 : Int32) * x4)).toNatClampNeg)))]) dX8_tick_195 rfl (Nat.le_of_ble_eq_true rfl) rfl rfl ?_
          refine wp_goto dX8_tick_198 rfl ?_
          exact wp_sub (ih h k hP hX) rfl ⟨rfl, rfl, rfl, rfl, trivial⟩
        · refine wp_ld (v := .ref 55) dX8_tick_160 rfl rfl rfl rfl ?_
          refine wq_gI dX8_tick_161 rfl rfl (kk_55 h) (v := (am_I s 55 32)) rfl ?_
          refine wp_ld (v := .ref 55) dX8_tick_164 rfl rfl rfl rfl ?_
          refine wp_gr dX8_tick_165 rfl rfl (kk_55 h) (rr_55_0 h) ?_
          refine wp_cst (v := .int (246 : Int32)) dX8_tick_168 rfl rfl ?_
          refine wp_cst (v := .int (2 : Int32)) dX8_tick_171 rfl rfl ?_
          refine wp_ld (v := .int x4) dX8_tick_172 rfl rfl rfl rfl ?_
          refine wp_pu dX8_tick_174 rfl rfl ?_
          refine wp_pu dX8_tick_175 rfl rfl ?_
          refine wp_cst (v := .int (1 : Int32)) dX8_tick_176 rfl rfl ?_
          refine wp_pu dX8_tick_177 rfl rfl ?_
          show am_WP (d + 3) mX8_tick 178 _ _ _ Q
          obtain ⟨g10, k⟩ := ok_g k
          refine wq_iald dX8_tick_178 (kk_56 h) g10 (v := (am_I s 56 ((((246 : Int32) + ((2 : Int32) * x4)) + (1 : Int32)).toNatClampNeg))) rfl ?_
          refine wp_ic_gt dX8_tick_179 rfl (fun c11 => have k := ok_pos c11 k; ?_) (fun c11 => have k := ok_neg c11 k; ?_)
          · refine wp_inc (v := (x4 + (1 : Int32))) (ls' := [(0, .ref 55), (2, .int x2), (3, .int x3), (4, .int (x4 + (1 : Int32))), (5, .int (am_I s 56 (((246 : Int32) + ((2 : Int32) * x4)).toNatClampNeg)))]) dX8_tick_195 rfl (Nat.le_of_ble_eq_true rfl) rfl rfl ?_
            refine wp_goto dX8_tick_198 rfl ?_
            exact wp_sub (ih h k hP hX) rfl ⟨rfl, rfl, rfl, rfl, trivial⟩
          · refine wp_ld (v := .int x3) dX8_tick_182 rfl rfl rfl rfl ?_
            refine wp_if_eq dX8_tick_183 rfl (fun c12 => have k := ok_pos c12 k; ?_) (fun c12 => have k := ok_neg c12 k; ?_)
            · refine wp_ld (v := .int (am_I s 56 (((246 : Int32) + ((2 : Int32) * x4)).toNatClampNeg))) dX8_tick_192 rfl rfl rfl rfl ?_
              refine wp_st (ls' := [(0, .ref 55), (2, .int x2), (3, .int (am_I s 56 (((246 : Int32) + ((2 : Int32) * x4)).toNatClampNeg))), (4, .int x4), (5, .int (am_I s 56 (((246 : Int32) + ((2 : Int32) * x4)).toNatClampNeg)))]) dX8_tick_194 rfl rfl rfl (Nat.le_of_ble_eq_true rfl) rfl ?_
              refine wp_inc (v := (x4 + (1 : Int32))) (ls' := [(0, .ref 55), (2, .int x2), (3, .int (am_I s 56 (((246 : Int32) + ((2 : Int32) * x4)).toNatClampNeg))), (4, .int (x4 + (1 : Int32))), (5, .int (am_I s 56 (((246 : Int32) + ((2 : Int32) * x4)).toNatClampNeg)))]) dX8_tick_195 rfl (Nat.le_of_ble_eq_true rfl) rfl rfl ?_
              refine wp_goto dX8_tick_198 rfl ?_
              exact wp_sub (ih h k hP hX) rfl ⟨rfl, rfl, rfl, rfl, trivial⟩
            · refine wp_ld (v := .int (am_I s 56 (((246 : Int32) + ((2 : Int32) * x4)).toNatClampNeg))) dX8_tick_186 rfl rfl rfl rfl ?_
              refine wp_ld (v := .int x3) dX8_tick_188 rfl rfl rfl rfl ?_
              refine wp_ic_ge dX8_tick_189 rfl (fun c13 => have k := ok_pos c13 k; ?_) (fun c13 => have k := ok_neg c13 k; ?_)
              · refine wp_inc (v := (x4 + (1 : Int32))) (ls' := [(0, .ref 55), (2, .int x2), (3, .int x3), (4, .int (x4 + (1 : Int32))), (5, .int (am_I s 56 (((246 : Int32) + ((2 : Int32) * x4)).toNatClampNeg)))]) dX8_tick_195 rfl (Nat.le_of_ble_eq_true rfl) rfl rfl ?_
                refine wp_goto dX8_tick_198 rfl ?_
                exact wp_sub (ih h k hP hX) rfl ⟨rfl, rfl, rfl, rfl, trivial⟩
              · refine wp_ld (v := .int (am_I s 56 (((246 : Int32) + ((2 : Int32) * x4)).toNatClampNeg))) dX8_tick_192 rfl rfl rfl rfl ?_
                refine wp_st (ls' := [(0, .ref 55), (2, .int x2), (3, .int (am_I s 56 (((246 : Int32) + ((2 : Int32) * x4)).toNatClampNeg))), (4, .int x4), (5, .int (am_I s 56 (((246 : Int32) + ((2 : Int32) * x4)).toNatClampNeg)))]) dX8_tick_194 rfl rfl rfl (Nat.le_of_ble_eq_true rfl) rfl ?_
                refine wp_inc (v := (x4 + (1 : Int32))) (ls' := [(0, .ref 55), (2, .int x2), (3, .int (am_I s 56 (((246 : Int32) + ((2 : Int32) * x4)).toNatClampNeg))), (4, .int (x4 + (1 : Int32))), (5, .int (am_I s 56 (((246 : Int32) + ((2 : Int32) * x4)).toNatClampNeg)))]) dX8_tick_195 rfl (Nat.le_of_ble_eq_true rfl) rfl rfl ?_
                refine wp_goto dX8_tick_198 rfl ?_
                exact wp_sub (ih h k hP hX) rfl ⟨rfl, rfl, rfl, rfl, trivial⟩
noncomputable def f_X8_tick (x1 : Int32) (s : am_S) : am_F :=
  am_bu (f_X8_air x1 (am_sI s 55 37 ((am_I s 55 37) + (1 : Int32)))) (fun s1 =>
    am_jn (fun (e4 : Unit) s5 =>
      am_lm (L_X8_tick_119 ax_fuel (am_I s1 55 31) (0 : Int32) (0 : Int32) (am_sI s5 55 38 (am_max (am_I s5 55 38) (am_I s5 55 32)))) (fun e14 s15 =>
        am_jn (fun (e17 : Int32) s18 =>
          am_jn (fun (e20 : Int32) s21 =>
            am_bi (f_X8_within ((am_I s21 55 36).toInt64) (-2 : Int64) (2 : Int64) (am_sI (am_sI s21 55 39 e20) 55 40 ((am_I s21 55 40) + (am_I s21 55 36)))) (fun v23 s22 =>
              am_jn (fun (e25 : Int32) s26 =>
                if (am_I s26 55 42) ≤ 0 then
                  some (.inl none, (am_sI s26 55 41 e25))
                else
                  if (am_I s26 55 42) ≤ (am_I s1 55 31) then
                    some (.inl none, (am_sI s26 55 41 e25))
                  else
                    if (am_I s26 55 31) < (am_I s26 55 42) then
                      some (.inl none, (am_sI s26 55 41 e25))
                    else
                      am_bi (f_X8_within ((am_I s26 55 32).toInt64) ((am_I s26 55 43).toInt64) ((am_I s26 55 44).toInt64) (am_sI s26 55 41 e25)) (fun v31 s30 =>
                        if v31 = 0 then
                          some (.inl none, s30)
                        else
                          some (.inl none, (am_sI s30 55 45 (1 : Int32)))
                      )
              ) (fun J24 =>
                if v23 = 0 then
                  J24 (0 : Int32) s22
                else
                  J24 ((am_I s22 55 41) + (1 : Int32)) s22
              )
            )
          ) (fun J19 =>
            if e14 ≤ 0 then
              if 0 < (am_I s18 55 32) then
                J19 (0 : Int32) (am_sI s18 55 31 e17)
              else
                J19 (1 : Int32) (am_sI s18 55 31 e17)
            else
              J19 (2 : Int32) (am_sI s18 55 31 e17)
          )
        ) (fun J16 =>
          if e14 ≤ 0 then
            J16 (am_I s15 55 31) s15
          else
            J16 e14 s15
        )
      )
    ) (fun J3 =>
      if (am_I s1 56 12) = (-1 : Int32) then
        J3 () (am_sI (am_sI s1 55 31 ((am_I s1 55 31) + (am_I s1 55 33))) 55 32 ((am_I s1 55 32) + (am_I s1 55 34)))
      else
        if ((am_I s1 55 32) + (am_I s1 55 34)) ≤ ((100 : Int32) * (am_I s1 56 12)) then
          J3 () (am_sI (am_sI s1 55 31 ((am_I s1 55 31) + (am_I s1 55 33))) 55 32 ((am_I s1 55 32) + (am_I s1 55 34)))
        else
          J3 () (am_sI (am_sI (am_sI (am_sI s1 55 31 ((am_I s1 55 31) + (am_I s1 55 33))) 55 32 ((am_I s1 55 32) + (am_I s1 55 34))) 55 32 ((100 : Int32) * (am_I s1 56 12))) 55 34 ((-(am_I s1 55 34)) / (2 : Int32)))
    )
  )
theorem s_X8_tick {N n : Nat} {d : Nat} {x1 : Int32} {s : am_S} (h : am_sh N n s)  : am_S1 (am_sh N n) (d + 3) mX8_tick [.ref 55, .int x1] s (f_X8_tick x1 s) := by
  intro P Q k hP
  show am_WP (d + 3) mX8_tick 0 [(0, .ref 55), (1, .int x1)] [] s Q
  unfold f_X8_tick at k
  refine wp_ld (v := .ref 55) dX8_tick_0 rfl rfl rfl rfl ?_
  refine wp_pu dX8_tick_1 rfl rfl ?_
  refine wq_gI dX8_tick_2 rfl rfl (kk_55 h) (v := (am_I s 55 37)) rfl ?_
  refine wp_cst (v := .int (1 : Int32)) dX8_tick_5 rfl rfl ?_
  refine wp_pu dX8_tick_6 rfl rfl ?_
  refine wp_pI dX8_tick_7 rfl rfl rfl (fun h => absurd h (by decide)) (kk_55 h) ?_
  refine wp_ld (v := .ref 55) dX8_tick_10 rfl rfl rfl rfl ?_
  refine wp_ld (v := .int x1) dX8_tick_11 rfl rfl rfl rfl ?_
  refine c_u dX8_tick_12 rfl rfl rfl (am_inv_v rfl (kk_55 (sh_sI h)) rfl rfl rfl) (s_X8_air (sh_sI h)) k (fun s1 h k => ?_)
  refine wp_ld (v := .ref 55) dX8_tick_15 rfl rfl rfl rfl ?_
  refine wq_gI dX8_tick_16 rfl rfl (kk_55 h) (v := (am_I s1 55 31)) rfl ?_
  refine wp_st (ls' := [(0, .ref 55), (1, .int x1), (2, .int (am_I s1 55 31))]) dX8_tick_19 rfl rfl rfl (Nat.le_of_ble_eq_true rfl) rfl ?_
  refine wp_ld (v := .ref 55) dX8_tick_20 rfl rfl rfl rfl ?_
  refine wp_pu dX8_tick_21 rfl rfl ?_
  refine wq_gI dX8_tick_22 rfl rfl (kk_55 h) (v := (am_I s1 55 31)) rfl ?_
  refine wp_ld (v := .ref 55) dX8_tick_25 rfl rfl rfl rfl ?_
  refine wq_gI dX8_tick_26 rfl rfl (kk_55 h) (v := (am_I s1 55 33)) rfl ?_
  refine wp_pu dX8_tick_29 rfl rfl ?_
  refine wp_pI dX8_tick_30 rfl rfl rfl (fun h => absurd h (by decide)) (kk_55 h) ?_
  refine wp_ld (v := .ref 55) dX8_tick_33 rfl rfl rfl rfl ?_
  show am_WP (d + 3) mX8_tick 34 _ _ _ Q
  refine wp_pu dX8_tick_34 rfl rfl ?_
  refine wq_gI dX8_tick_35 rfl rfl (kk_55 (sh_sI h)) (v := (am_I s1 55 32)) rfl ?_
  refine wp_ld (v := .ref 55) dX8_tick_38 rfl rfl rfl rfl ?_
  refine wq_gI dX8_tick_39 rfl rfl (kk_55 (sh_sI h)) (v := (am_I s1 55 34)) rfl ?_
  refine wp_pu dX8_tick_42 rfl rfl ?_
  refine wp_pI dX8_tick_43 rfl rfl rfl (fun h => absurd h (by decide)) (kk_55 (sh_sI h)) ?_
  refine wp_ld (v := .ref 55) dX8_tick_46 rfl rfl rfl rfl ?_
  refine wp_gr dX8_tick_47 rfl rfl (kk_55 (sh_sI (sh_sI h))) (rr_55_0 (sh_sI (sh_sI h))) ?_
  refine wp_cst (v := .int (12 : Int32)) dX8_tick_50 rfl rfl ?_
  refine wq_iald dX8_tick_52 (kk_56 (sh_sI (sh_sI h))) (by decide) (v := (am_I s1 56 12)) rfl ?_
  refine wp_cst (v := .int (-1 : Int32)) dX8_tick_53 rfl rfl ?_
  refine jn_rule k (fun J3 hJ3 k => ?_)
  have HJ3 : ∀ (e4 : Unit) (s5 : am_S), am_sh N n s5 → am_ok (J3 e4 s5) P → am_WP (d + 3) mX8_tick 99 [(0, .ref 55), (2, .int (am_I s1 55 31))] [] s5 Q := by
    intro e4 s5 h k
    replace k := hJ3 _ _ k
    refine wp_ld (v := .ref 55) dX8_tick_99 rfl rfl rfl rfl ?_
    refine wp_ld (v := .ref 55) dX8_tick_100 rfl rfl rfl rfl ?_
    refine wq_gI dX8_tick_101 rfl rfl (kk_55 h) (v := (am_I s5 55 38)) rfl ?_
    refine wp_ld (v := .ref 55) dX8_tick_104 rfl rfl rfl rfl ?_
    refine wq_gI dX8_tick_105 rfl rfl (kk_55 h) (v := (am_I s5 55 32)) rfl ?_
    refine wp_mem (st' := .int (am_max (am_I s5 55 38) (am_I s5 55 32)) :: [.ref 55]) dX8_tick_108 rfl rfl rfl rfl ?_
    refine wp_pI dX8_tick_111 rfl rfl rfl (fun h => absurd h (by decide)) (kk_55 h) ?_
    refine wp_cst (v := .int (0 : Int32)) dX8_tick_114 rfl rfl ?_
    refine wp_st (ls' := [(0, .ref 55), (2, .int (am_I s1 55 31)), (3, .int (0 : Int32))]) dX8_tick_115 rfl rfl rfl (Nat.le_of_ble_eq_true rfl) rfl ?_
    refine wp_cst (v := .int (0 : Int32)) dX8_tick_116 rfl rfl ?_
    refine wp_st (ls' := [(0, .ref 55), (2, .int (am_I s1 55 31)), (3, .int (0 : Int32)), (4, .int (0 : Int32))]) dX8_tick_117 rfl rfl rfl (Nat.le_of_ble_eq_true rfl) rfl ?_
    refine lp_m k (fun P1 k hA hB => ?_)
    refine wp_sub (q_X8_tick_119 ax_fuel (sh_sI h) k (fun o s p h => hP o s (hA o s p) h) (fun e14 s15 p h => have k := hB e14 s15 p; ?_)) rfl ⟨rfl, rfl, rfl, rfl, trivial⟩
    refine wp_ld (v := .ref 55) dX8_tick_201 rfl rfl rfl rfl ?_
    refine wp_ld (v := .int e14) dX8_tick_202 rfl rfl rfl rfl ?_
    refine jn_rule k (fun J16 hJ16 k => ?_)
    have HJ16 : ∀ (e17 : Int32) (s18 : am_S), am_sh N n s18 → am_ok (J16 e17 s18) P → am_WP (d + 3) mX8_tick 214 [(0, .ref 55), (2, .int (am_I s1 55 31)), (3, .int e14)] [.int e17, .ref 55] s18 Q := by
      intro e17 s18 h k
      replace k := hJ16 _ _ k
      refine wp_pI dX8_tick_214 rfl rfl rfl (fun h => absurd h (by decide)) (kk_55 h) ?_
      refine wp_ld (v := .ref 55) dX8_tick_217 rfl rfl rfl rfl ?_
      refine wp_ld (v := .int e14) dX8_tick_218 rfl rfl rfl rfl ?_
      refine jn_rule k (fun J19 hJ19 k => ?_)
      have HJ19 : ∀ (e20 : Int32) (s21 : am_S), am_sh N n s21 → am_ok (J19 e20 s21) P → am_WP (d + 3) mX8_tick 238 [(0, .ref 55), (2, .int (am_I s1 55 31))] [.int e20, .ref 55] s21 Q := by
        intro e20 s21 h k
        replace k := hJ19 _ _ k
        refine wp_pI dX8_tick_238 rfl rfl rfl (fun h => absurd h (by decide)) (kk_55 h) ?_
        refine wp_ld (v := .ref 55) dX8_tick_241 rfl rfl rfl rfl ?_
        refine wp_pu dX8_tick_242 rfl rfl ?_
        refine wq_gI dX8_tick_243 rfl rfl (kk_55 (sh_sI h)) (v := (am_I s21 55 40)) rfl ?_
        refine wp_ld (v := .ref 55) dX8_tick_246 rfl rfl rfl rfl ?_
        refine wq_gI dX8_tick_247 rfl rfl (kk_55 (sh_sI h)) (v := (am_I s21 55 36)) rfl ?_
        refine wp_pu dX8_tick_250 rfl rfl ?_
        refine wp_pI dX8_tick_251 rfl rfl rfl (fun h => absurd h (by decide)) (kk_55 (sh_sI h)) ?_
        refine wp_ld (v := .ref 55) dX8_tick_254 rfl rfl rfl rfl ?_
        refine wp_ld (v := .ref 55) dX8_tick_255 rfl rfl rfl rfl ?_
        refine wq_gI dX8_tick_256 rfl rfl (kk_55 (sh_sI (sh_sI h))) (v := (am_I s21 55 36)) rfl ?_
        show am_WP (d + 3) mX8_tick 259 _ _ _ Q
        refine wp_pu dX8_tick_259 rfl rfl ?_
        refine wp_cst (v := .long (-2 : Int64)) dX8_tick_260 rfl rfl ?_
        refine wp_cst (v := .long (2 : Int64)) dX8_tick_263 rfl rfl ?_
        refine c_i dX8_tick_266 rfl rfl rfl (am_inv_s rfl rfl rfl rfl) (s_X8_within (sh_sI (sh_sI h))) k (fun v23 s22 h k => ?_)
        refine jn_rule k (fun J24 hJ24 k => ?_)
        have HJ24 : ∀ (e25 : Int32) (s26 : am_S), am_sh N n s26 → am_ok (J24 e25 s26) P → am_WP (d + 3) mX8_tick 282 [(0, .ref 55), (2, .int (am_I s1 55 31))] [.int e25, .ref 55] s26 Q := by
          intro e25 s26 h k
          replace k := hJ24 _ _ k
          refine wp_pI dX8_tick_282 rfl rfl rfl (fun h => absurd h (by decide)) (kk_55 h) ?_
          refine wp_ld (v := .ref 55) dX8_tick_285 rfl rfl rfl rfl ?_
          refine wq_gI dX8_tick_286 rfl rfl (kk_55 (sh_sI h)) (v := (am_I s26 55 42)) rfl ?_
          refine wp_if_le dX8_tick_289 rfl (fun c27 => have k := ok_pos c27 k; ?_) (fun c27 => have k := ok_neg c27 k; ?_)
          · exact wp_end dX8_tick_337 rfl rfl (hP _ _ (ok_s k) (sh_sI h))
          · refine wp_ld (v := .int (am_I s1 55 31)) dX8_tick_292 rfl rfl rfl rfl ?_
            refine wp_ld (v := .ref 55) dX8_tick_293 rfl rfl rfl rfl ?_
            refine wq_gI dX8_tick_294 rfl rfl (kk_55 (sh_sI h)) (v := (am_I s26 55 42)) rfl ?_
            refine wp_ic_ge dX8_tick_297 rfl (fun c28 => have k := ok_pos c28 k; ?_) (fun c28 => have k := ok_neg c28 k; ?_)
            · exact wp_end dX8_tick_337 rfl rfl (hP _ _ (ok_s k) (sh_sI h))
            · refine wp_ld (v := .ref 55) dX8_tick_300 rfl rfl rfl rfl ?_
              refine wq_gI dX8_tick_301 rfl rfl (kk_55 (sh_sI h)) (v := (am_I s26 55 31)) rfl ?_
              refine wp_ld (v := .ref 55) dX8_tick_304 rfl rfl rfl rfl ?_
              refine wq_gI dX8_tick_305 rfl rfl (kk_55 (sh_sI h)) (v := (am_I s26 55 42)) rfl ?_
              refine wp_ic_lt dX8_tick_308 rfl (fun c29 => have k := ok_pos c29 k; ?_) (fun c29 => have k := ok_neg c29 k; ?_)
              · exact wp_end dX8_tick_337 rfl rfl (hP _ _ (ok_s k) (sh_sI h))
              · refine wp_ld (v := .ref 55) dX8_tick_311 rfl rfl rfl rfl ?_
                refine wq_gI dX8_tick_312 rfl rfl (kk_55 (sh_sI h)) (v := (am_I s26 55 32)) rfl ?_
                refine wp_pu dX8_tick_315 rfl rfl ?_
                refine wp_ld (v := .ref 55) dX8_tick_316 rfl rfl rfl rfl ?_
                refine wq_gI dX8_tick_317 rfl rfl (kk_55 (sh_sI h)) (v := (am_I s26 55 43)) rfl ?_
                refine wp_pu dX8_tick_320 rfl rfl ?_
                refine wp_ld (v := .ref 55) dX8_tick_321 rfl rfl rfl rfl ?_
                refine wq_gI dX8_tick_322 rfl rfl (kk_55 (sh_sI h)) (v := (am_I s26 55 44)) rfl ?_
                refine wp_pu dX8_tick_325 rfl rfl ?_
                refine c_i dX8_tick_326 rfl rfl rfl (am_inv_s rfl rfl rfl rfl) (s_X8_within (sh_sI h)) k (fun v31 s30 h k => ?_)
                refine wp_if_eq dX8_tick_329 rfl (fun c32 => have k := ok_pos c32 k; ?_) (fun c32 => have k := ok_neg c32 k; ?_)
                · exact wp_end dX8_tick_337 rfl rfl (hP _ _ (ok_s k) h)
                · refine wp_ld (v := .ref 55) dX8_tick_332 rfl rfl rfl rfl ?_
                  refine wp_cst (v := .int (1 : Int32)) dX8_tick_333 rfl rfl ?_
                  refine wp_pI dX8_tick_334 rfl rfl rfl (fun _ => rfl) (kk_55 h) ?_
                  exact wp_end dX8_tick_337 rfl rfl (hP _ _ (ok_s k) (sh_sI h))
        refine wp_if_eq dX8_tick_269 rfl (fun c33 => have k := ok_pos c33 k; ?_) (fun c33 => have k := ok_neg c33 k; ?_)
        · refine wp_cst (v := .int (0 : Int32)) dX8_tick_281 rfl rfl ?_
          exact wp_sub (HJ24 _ _ h k) rfl ⟨rfl, rfl, trivial⟩
        · refine wp_ld (v := .ref 55) dX8_tick_272 rfl rfl rfl rfl ?_
          refine wq_gI dX8_tick_273 rfl rfl (kk_55 h) (v := (am_I s22 55 41)) rfl ?_
          refine wp_cst (v := .int (1 : Int32)) dX8_tick_276 rfl rfl ?_
          refine wp_pu dX8_tick_277 rfl rfl ?_
          refine wp_goto dX8_tick_278 rfl ?_
          exact wp_sub (HJ24 _ _ h k) rfl ⟨rfl, rfl, trivial⟩
      refine wp_if_le dX8_tick_219 rfl (fun c34 => have k := ok_pos c34 k; ?_) (fun c34 => have k := ok_neg c34 k; ?_)
      · refine wp_ld (v := .ref 55) dX8_tick_226 rfl rfl rfl rfl ?_
        refine wq_gI dX8_tick_227 rfl rfl (kk_55 (sh_sI h)) (v := (am_I s18 55 32)) rfl ?_
        refine wp_if_gt dX8_tick_230 rfl (fun c35 => have k := ok_pos c35 k; ?_) (fun c35 => have k := ok_neg c35 k; ?_)
        · refine wp_cst (v := .int (0 : Int32)) dX8_tick_237 rfl rfl ?_
          exact wp_sub (HJ19 _ _ (sh_sI h) k) rfl ⟨rfl, rfl, trivial⟩
        · refine wp_cst (v := .int (1 : Int32)) dX8_tick_233 rfl rfl ?_
          refine wp_goto dX8_tick_234 rfl ?_
          exact wp_sub (HJ19 _ _ (sh_sI h) k) rfl ⟨rfl, rfl, trivial⟩
      · refine wp_cst (v := .int (2 : Int32)) dX8_tick_222 rfl rfl ?_
        refine wp_goto dX8_tick_223 rfl ?_
        exact wp_sub (HJ19 _ _ (sh_sI h) k) rfl ⟨rfl, rfl, trivial⟩
    refine wp_if_le dX8_tick_203 rfl (fun c36 => have k := ok_pos c36 k; ?_) (fun c36 => have k := ok_neg c36 k; ?_)
    · refine wp_ld (v := .ref 55) dX8_tick_210 rfl rfl rfl rfl ?_
      refine wq_gI dX8_tick_211 rfl rfl (kk_55 h) (v := (am_I s15 55 31)) rfl ?_
      exact wp_sub (HJ16 _ _ h k) rfl ⟨rfl, rfl, rfl, trivial⟩
    · refine wp_ld (v := .int e14) dX8_tick_206 rfl rfl rfl rfl ?_
      refine wp_goto dX8_tick_207 rfl ?_
      exact wp_sub (HJ16 _ _ h k) rfl ⟨rfl, rfl, rfl, trivial⟩
  refine wp_ic_eq dX8_tick_54 rfl (fun c37 => have k := ok_pos c37 k; ?_) (fun c37 => have k := ok_neg c37 k; ?_)
  · exact wp_sub (HJ3 _ _ (sh_sI (sh_sI h)) k) rfl ⟨rfl, rfl, trivial⟩
  · refine wp_ld (v := .ref 55) dX8_tick_57 rfl rfl rfl rfl ?_
    refine wq_gI dX8_tick_58 rfl rfl (kk_55 (sh_sI (sh_sI h))) (v := ((am_I s1 55 32) + (am_I s1 55 34))) rfl ?_
    refine wp_cst (v := .int (100 : Int32)) dX8_tick_61 rfl rfl ?_
    refine wp_ld (v := .ref 55) dX8_tick_63 rfl rfl rfl rfl ?_
    refine wp_gr dX8_tick_64 rfl rfl (kk_55 (sh_sI (sh_sI h))) (rr_55_0 (sh_sI (sh_sI h))) ?_
    refine wp_cst (v := .int (12 : Int32)) dX8_tick_67 rfl rfl ?_
    refine wq_iald dX8_tick_69 (kk_56 (sh_sI (sh_sI h))) (by decide) (v := (am_I s1 56 12)) rfl ?_
    refine wp_pu dX8_tick_70 rfl rfl ?_
    refine wp_ic_le dX8_tick_71 rfl (fun c38 => have k := ok_pos c38 k; ?_) (fun c38 => have k := ok_neg c38 k; ?_)
    · exact wp_sub (HJ3 _ _ (sh_sI (sh_sI h)) k) rfl ⟨rfl, rfl, trivial⟩
    · refine wp_ld (v := .ref 55) dX8_tick_74 rfl rfl rfl rfl ?_
      refine wp_cst (v := .int (100 : Int32)) dX8_tick_75 rfl rfl ?_
      refine wp_ld (v := .ref 55) dX8_tick_77 rfl rfl rfl rfl ?_
      refine wp_gr dX8_tick_78 rfl rfl (kk_55 (sh_sI (sh_sI h))) (rr_55_0 (sh_sI (sh_sI h))) ?_
      refine wp_cst (v := .int (12 : Int32)) dX8_tick_81 rfl rfl ?_
      refine wq_iald dX8_tick_83 (kk_56 (sh_sI (sh_sI h))) (by decide) (v := (am_I s1 56 12)) rfl ?_
      refine wp_pu dX8_tick_84 rfl rfl ?_
      refine wp_pI dX8_tick_85 rfl rfl rfl (fun h => absurd h (by decide)) (kk_55 (sh_sI (sh_sI h))) ?_
      refine wp_ld (v := .ref 55) dX8_tick_88 rfl rfl rfl rfl ?_
      refine wp_ld (v := .ref 55) dX8_tick_89 rfl rfl rfl rfl ?_
      refine wq_gI dX8_tick_90 rfl rfl (kk_55 (sh_sI (sh_sI (sh_sI h)))) (v := (am_I s1 55 34)) rfl ?_
      show am_WP (d + 3) mX8_tick 93 _ _ _ Q
      refine wp_pu dX8_tick_93 rfl rfl ?_
      refine wp_cst (v := .int (2 : Int32)) dX8_tick_94 rfl rfl ?_
      refine wp_div dX8_tick_95 (by decide) ?_
      refine wp_pI dX8_tick_96 rfl rfl rfl (fun h => absurd h (by decide)) (kk_55 (sh_sI (sh_sI (sh_sI h)))) ?_
      exact wp_sub (HJ3 _ _ (sh_sI (sh_sI (sh_sI (sh_sI h)))) k) rfl ⟨rfl, rfl, trivial⟩
noncomputable def L_X8_flies_6 : Nat → Int32 → Int32 → am_S → am_FE (Unit)
  | 0, _, _, _ => none
  | m + 1, x1, x4, s =>
    if x4 ≤ (am_I s 55 37) then
      some (.inr ((), s))
    else
      if (am_I s 55 39) = 0 then
        am_bu (f_X8_tick x1 s) (fun s5 =>
          L_X8_flies_6 m x1 x4 s5
        )
      else
        some (.inr ((), s))
theorem q_X8_flies_6 : ∀ (m : Nat) {N n : Nat} {d : Nat} {x1 : Int32} {x4 : Int32} {s : am_S} {P : (am_O × am_S) ⊕ (Unit × am_S) → Prop} {Q : am_O → am_S → Prop} (h : am_sh N n s)  (k : am_ok (L_X8_flies_6 m x1 x4 s) P) (hP : ∀ o s, P (.inl (o, s)) → am_sh N n s → Q o s) (hX : ∀ (e : Unit) s, P (.inr (e, s)) → am_sh N n s → am_WP (d + 6) mX8_flies 30 [] [] s Q), am_WP (d + 6) mX8_flies 6 [(0, .ref 55), (1, .int x1), (4, .int x4)] [] s Q := by
  intro m
  induction m with
  | zero =>
    intro N n d x1 x4 s P Q h  k hP hX
    exact (ok_no k).elim
  | succ m ih =>
    intro N n d x1 x4 s P Q h  k hP hX
    unfold L_X8_flies_6 at k
    refine wp_ld (v := .ref 55) dX8_flies_6 rfl rfl rfl rfl ?_
    refine wq_gI dX8_flies_7 rfl rfl (kk_55 h) (v := (am_I s 55 37)) rfl ?_
    refine wp_ld (v := .int x4) dX8_flies_10 rfl rfl rfl rfl ?_
    refine wp_ic_ge dX8_flies_12 rfl (fun c3 => have k := ok_pos c3 k; ?_) (fun c3 => have k := ok_neg c3 k; ?_)
    · exact wp_sub (hX _ _ (ok_s k) h) rfl trivial
    · refine wp_ld (v := .ref 55) dX8_flies_15 rfl rfl rfl rfl ?_
      refine wq_gI dX8_flies_16 rfl rfl (kk_55 h) (v := (am_I s 55 39)) rfl ?_
      refine wp_if_ne dX8_flies_19 rfl (fun c4 => have k := ok_neg c4 k; ?_) (fun c4 => have k := ok_pos c4 k; ?_)
      · exact wp_sub (hX _ _ (ok_s k) h) rfl trivial
      · refine wp_ld (v := .ref 55) dX8_flies_22 rfl rfl rfl rfl ?_
        refine wp_ld (v := .int x1) dX8_flies_23 rfl rfl rfl rfl ?_
        refine c_u dX8_flies_24 rfl rfl rfl (am_inv_v rfl (kk_55 h) rfl rfl rfl) (s_X8_tick h) k (fun s5 h k => ?_)
        refine wp_goto dX8_flies_27 rfl ?_
        exact wp_sub (ih h k hP hX) rfl ⟨rfl, rfl, rfl, trivial⟩
noncomputable def f_X8_flies (x1 : Int32) (x2 : Int32) (x3 : Int32) (x4 : Int32) (s : am_S) : am_F :=
  am_bu (f_X8_starts x2 x3 s) (fun s1 =>
    am_lm (L_X8_flies_6 ax_fuel x1 x4 s1) (fun e7 s8 =>
      some (.inl none, s8)
    )
  )
theorem s_X8_flies {N n : Nat} {d : Nat} {x1 : Int32} {x2 : Int32} {x3 : Int32} {x4 : Int32} {s : am_S} (h : am_sh N n s)  : am_S1 (am_sh N n) (d + 6) mX8_flies [.ref 55, .int x1, .int x2, .int x3, .int x4] s (f_X8_flies x1 x2 x3 x4 s) := by
  intro P Q k hP
  show am_WP (d + 6) mX8_flies 0 [(0, .ref 55), (1, .int x1), (2, .int x2), (3, .int x3), (4, .int x4)] [] s Q
  unfold f_X8_flies at k
  refine wp_ld (v := .ref 55) dX8_flies_0 rfl rfl rfl rfl ?_
  refine wp_ld (v := .int x2) dX8_flies_1 rfl rfl rfl rfl ?_
  refine wp_ld (v := .int x3) dX8_flies_2 rfl rfl rfl rfl ?_
  refine c_u dX8_flies_3 rfl rfl rfl (am_inv_v rfl (kk_55 h) rfl rfl rfl) (s_X8_starts h) k (fun s1 h k => ?_)
  refine lp_m k (fun P1 k hA hB => ?_)
  refine wp_sub (q_X8_flies_6 ax_fuel h k (fun o s p h => hP o s (hA o s p) h) (fun e7 s8 p h => have k := hB e7 s8 p; ?_)) rfl ⟨rfl, rfl, rfl, trivial⟩
  exact wp_end dX8_flies_30 rfl rfl (hP _ _ (ok_s k) h)
