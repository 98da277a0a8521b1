noncomputable def f_X8_write (x1 : Int32) (x2 : Int32) (x3 : Int64) (s : am_S) : am_F :=
  am_bi (f_X8_isTray x1 (am_sI s 55 3 (0 : Int32))) (fun v2 s1 =>
    if v2 = 0 then
      am_bi (f_X8_fails (1 : Int32) s1) (fun v19 s18 =>
        some (.inl (some (.long v19.toInt64)), s18)
      )
    else
      if am_in x1 4 = true then
        if (am_I s1 68 x1.toNatClampNeg) = (-1 : Int32) then
          am_bi (f_X8_fails (2 : Int32) s1) (fun v17 s16 =>
            some (.inl (some (.long v17.toInt64)), s16)
          )
        else
          if am_in x1 4 = true then
            am_bi (f_X8_within x2.toInt64 (0 : Int64) (((am_I s1 69 x1.toNatClampNeg) - (1 : Int32)).toInt64) s1) (fun v8 s7 =>
              if v8 = 0 then
                am_bi (f_X8_fails (3 : Int32) s7) (fun v15 s14 =>
                  some (.inl (some (.long v15.toInt64)), s14)
                )
              else
                if am_in x1 4 = true then
                  ax_le ((64 : Int32) - ((8 : Int32) <<< ((am_I s7 68 x1.toNatClampNeg) &&& 31))) (fun y11 =>
                    if am_in (((12 : Int32) * x1) + x2) 48 = true then
                      if am_in (((12 : Int32) * x1) + x2) 48 = true then
                        some (.inl (some (.long (am_L (am_sL s7 70 ((((12 : Int32) * x1) + x2).toNatClampNeg) ((x3 <<< (y11.toInt64 &&& 63)) >>> (y11.toInt64 &&& 63))) 70 ((((12 : Int32) * x1) + x2).toNatClampNeg)))), (am_sL s7 70 ((((12 : Int32) * x1) + x2).toNatClampNeg) ((x3 <<< (y11.toInt64 &&& 63)) >>> (y11.toInt64 &&& 63))))
                      else none
                    else none
                  )
                else none
            )
          else none
      else none
  )
theorem s_X8_write {N n : Nat} {d : Nat} {x1 : Int32} {x2 : Int32} {x3 : Int64} {s : am_S} (h : am_sh N n s)  : am_S1 (am_sh N n) (d + 2) mX8_write [.ref 55, .int x1, .int x2, .long x3] s (f_X8_write x1 x2 x3 s) := by
  intro P Q k hP
  show am_WP (d + 2) mX8_write 0 [(0, .ref 55), (1, .int x1), (2, .int x2), (3, .long x3)] [] s Q
  unfold f_X8_write at k
  refine wp_ld (v := .ref 55) dX8_write_0 rfl rfl rfl rfl ?_
  refine wp_cst (v := .int (0 : Int32)) dX8_write_1 rfl rfl ?_
  refine wp_pI dX8_write_2 rfl rfl rfl (fun h => absurd h (by decide)) (kk_55 h) ?_
  refine wp_ld (v := .int x1) dX8_write_5 rfl rfl rfl rfl ?_
  refine c_i dX8_write_6 rfl rfl rfl (am_inv_s rfl rfl rfl rfl) (s_X8_isTray (sh_sI h)) k (fun v2 s1 h k => ?_)
  refine wp_if_ne dX8_write_9 rfl (fun c3 => have k := ok_neg c3 k; ?_) (fun c3 => have k := ok_pos c3 k; ?_)
  · refine wp_ld (v := .ref 55) dX8_write_19 rfl rfl rfl rfl ?_
    refine wp_gr dX8_write_20 rfl rfl (kk_55 h) (rr_55_51 h) ?_
    refine wp_ld (v := .int x1) dX8_write_23 rfl rfl rfl rfl ?_
    obtain ⟨g4, k⟩ := ok_g k
    refine wq_iald dX8_write_24 (kk_68 h) g4 (v := (am_I s1 68 x1.toNatClampNeg)) rfl ?_
    refine wp_cst (v := .int (-1 : Int32)) dX8_write_25 rfl rfl ?_
    refine wp_ic_ne dX8_write_26 rfl (fun c5 => have k := ok_neg c5 k; ?_) (fun c5 => have k := ok_pos c5 k; ?_)
    · refine wp_ld (v := .int x2) dX8_write_36 rfl rfl rfl rfl ?_
      refine wp_pu dX8_write_37 rfl rfl ?_
      refine wp_cst (v := .long (0 : Int64)) dX8_write_38 rfl rfl ?_
      refine wp_ld (v := .ref 55) dX8_write_39 rfl rfl rfl rfl ?_
      refine wp_gr dX8_write_40 rfl rfl (kk_55 h) (rr_55_52 h) ?_
      refine wp_ld (v := .int x1) dX8_write_43 rfl rfl rfl rfl ?_
      obtain ⟨g6, k⟩ := ok_g k
      refine wq_iald dX8_write_44 (kk_69 h) g6 (v := (am_I s1 69 x1.toNatClampNeg)) rfl ?_
      refine wp_cst (v := .int (1 : Int32)) dX8_write_45 rfl rfl ?_
      refine wp_pu dX8_write_46 rfl rfl ?_
      refine wp_pu dX8_write_47 rfl rfl ?_
      refine c_i dX8_write_48 rfl rfl rfl (am_inv_s rfl rfl rfl rfl) (s_X8_within h) k (fun v8 s7 h k => ?_)
      refine wp_if_ne dX8_write_51 rfl (fun c9 => have k := ok_neg c9 k; ?_) (fun c9 => have k := ok_pos c9 k; ?_)
      · refine wp_cst (v := .int (64 : Int32)) dX8_write_61 rfl rfl ?_
        refine wp_cst (v := .int (8 : Int32)) dX8_write_63 rfl rfl ?_
        refine wp_ld (v := .ref 55) dX8_write_65 rfl rfl rfl rfl ?_
        refine wp_gr dX8_write_66 rfl rfl (kk_55 h) (rr_55_51 h) ?_
        refine wp_ld (v := .int x1) dX8_write_69 rfl rfl rfl rfl ?_
        obtain ⟨g10, k⟩ := ok_g k
        refine wq_iald dX8_write_70 (kk_68 h) g10 (v := (am_I s7 68 x1.toNatClampNeg)) rfl ?_
        refine wp_pu dX8_write_71 rfl rfl ?_
        refine wp_pu dX8_write_72 rfl rfl ?_
        refine ls_i k (fun y11 _ k => ?_)
        refine wp_st (ls' := [(0, .ref 55), (1, .int x1), (2, .int x2), (3, .long x3), (5, .int y11)]) dX8_write_73 rfl rfl rfl (Nat.le_of_ble_eq_true rfl) rfl ?_
        refine wp_ld (v := .ref 55) dX8_write_75 rfl rfl rfl rfl ?_
        refine wp_gr dX8_write_76 rfl rfl (kk_55 h) (rr_55_53 h) ?_
        show am_WP (d + 2) mX8_write 79 _ _ _ Q
        refine wp_cst (v := .int (12 : Int32)) dX8_write_79 rfl rfl ?_
        refine wp_ld (v := .int x1) dX8_write_81 rfl rfl rfl rfl ?_
        refine wp_pu dX8_write_82 rfl rfl ?_
        refine wp_ld (v := .int x2) dX8_write_83 rfl rfl rfl rfl ?_
        refine wp_pu dX8_write_84 rfl rfl ?_
        refine wp_ld (v := .long x3) dX8_write_85 rfl rfl rfl rfl ?_
        refine wp_ld (v := .int y11) dX8_write_86 rfl rfl rfl rfl ?_
        refine wp_pu dX8_write_88 rfl rfl ?_
        refine wp_ld (v := .int y11) dX8_write_89 rfl rfl rfl rfl ?_
        refine wp_pu dX8_write_91 rfl rfl ?_
        obtain ⟨g12, k⟩ := ok_g k
        refine wq_last dX8_write_92 (kk_70 h) g12 (j := ((((12 : Int32) * x1) + x2).toNatClampNeg)) rfl ?_
        refine wp_ld (v := .ref 55) dX8_write_93 rfl rfl rfl rfl ?_
        show am_WP (d + 2) mX8_write 94 _ _ _ Q
        refine wp_gr dX8_write_94 rfl rfl (kk_55 (sh_sL h)) (rr_55_53 (sh_sL h)) ?_
        refine wp_cst (v := .int (12 : Int32)) dX8_write_97 rfl rfl ?_
        refine wp_ld (v := .int x1) dX8_write_99 rfl rfl rfl rfl ?_
        refine wp_pu dX8_write_100 rfl rfl ?_
        refine wp_ld (v := .int x2) dX8_write_101 rfl rfl rfl rfl ?_
        refine wp_pu dX8_write_102 rfl rfl ?_
        obtain ⟨g13, k⟩ := ok_g k
        refine wq_lald dX8_write_103 (kk_70 (sh_sL h)) g13 (l := (am_L (am_sL s7 70 ((((12 : Int32) * x1) + x2).toNatClampNeg) ((x3 <<< (y11.toInt64 &&& 63)) >>> (y11.toInt64 &&& 63))) 70 ((((12 : Int32) * x1) + x2).toNatClampNeg))) rfl ?_
        exact wp_end dX8_write_104 rfl (am_end_l rfl) (hP _ _ (ok_s k) (sh_sL h))
      · refine wp_ld (v := .ref 55) dX8_write_54 rfl rfl rfl rfl ?_
        refine wp_cst (v := .int (3 : Int32)) dX8_write_55 rfl rfl ?_
        refine c_i dX8_write_56 rfl rfl rfl (am_inv_v rfl (kk_55 h) rfl rfl rfl) (s_X8_fails h) k (fun v15 s14 h k => ?_)
        refine wp_pu dX8_write_59 rfl rfl ?_
        exact wp_end dX8_write_60 rfl (am_end_l rfl) (hP _ _ (ok_s k) h)
    · refine wp_ld (v := .ref 55) dX8_write_29 rfl rfl rfl rfl ?_
      refine wp_cst (v := .int (2 : Int32)) dX8_write_30 rfl rfl ?_
      refine c_i dX8_write_31 rfl rfl rfl (am_inv_v rfl (kk_55 h) rfl rfl rfl) (s_X8_fails h) k (fun v17 s16 h k => ?_)
      refine wp_pu dX8_write_34 rfl rfl ?_
      exact wp_end dX8_write_35 rfl (am_end_l rfl) (hP _ _ (ok_s k) h)
  · refine wp_ld (v := .ref 55) dX8_write_12 rfl rfl rfl rfl ?_
    refine wp_cst (v := .int (1 : Int32)) dX8_write_13 rfl rfl ?_
    refine c_i dX8_write_14 rfl rfl rfl (am_inv_v rfl (kk_55 h) rfl rfl rfl) (s_X8_fails h) k (fun v19 s18 h k => ?_)
    refine wp_pu dX8_write_17 rfl rfl ?_
    exact wp_end dX8_write_18 rfl (am_end_l rfl) (hP _ _ (ok_s k) h)
noncomputable def f_X6_get (a : Nat) (x1 : Int32) (s : am_S) : am_F :=
  if x1 < 0 then
    some (.inl (some (.long (0 : Int64))), s)
  else
    if (12 : Int32) ≤ x1 then
      some (.inl (some (.long (0 : Int64))), s)
    else
      if am_in x1 12 = true then
        some (.inl (some (.long (am_L s (a + 1) x1.toNatClampNeg))), s)
      else none
theorem s_X6_get {N n : Nat} {d : Nat} {a : Nat} {x1 : Int32} {s : am_S} (h : am_sh N n s) (fa : am_kf n a 6) : am_S1 (am_sh N n) (d) mX6_get [.ref a, .int x1] s (f_X6_get a x1 s) := by
  intro P Q k hP
  show am_WP (d) mX6_get 0 [(0, .ref a), (1, .int x1)] [] s Q
  unfold f_X6_get at k
  refine wp_ld (v := .int x1) dX6_get_0 rfl rfl rfl rfl ?_
  refine wp_if_lt dX6_get_1 rfl (fun c1 => have k := ok_pos c1 k; ?_) (fun c1 => have k := ok_neg c1 k; ?_)
  · refine wp_cst (v := .long (0 : Int64)) dX6_get_19 rfl rfl ?_
    exact wp_end dX6_get_20 rfl (am_end_l rfl) (hP _ _ (ok_s k) h)
  · refine wp_ld (v := .int x1) dX6_get_4 rfl rfl rfl rfl ?_
    refine wp_cst (v := .int (12 : Int32)) dX6_get_5 rfl rfl ?_
    refine wp_ic_ge dX6_get_7 rfl (fun c2 => have k := ok_pos c2 k; ?_) (fun c2 => have k := ok_neg c2 k; ?_)
    · refine wp_cst (v := .long (0 : Int64)) dX6_get_19 rfl rfl ?_
      exact wp_end dX6_get_20 rfl (am_end_l rfl) (hP _ _ (ok_s k) h)
    · refine wp_ld (v := .ref a) dX6_get_10 rfl rfl rfl rfl ?_
      refine wp_gr dX6_get_11 rfl rfl (kk_f h fa) (rr_tr h fa) ?_
      refine wp_ld (v := .int x1) dX6_get_14 rfl rfl rfl rfl ?_
      obtain ⟨g3, k⟩ := ok_g k
      refine wq_lald dX6_get_15 (kk_tr h fa) g3 (l := (am_L s (a + 1) x1.toNatClampNeg)) rfl ?_
      refine wp_goto dX6_get_16 rfl ?_
      exact wp_end dX6_get_20 rfl (am_end_l rfl) (hP _ _ (ok_s k) h)
noncomputable def L_X7_take_40 : Nat → Nat → Nat → Int32 → am_S → am_FE (Unit)
  | 0, _, _, _, _ => none
  | m + 1, a3, a4, x5, s =>
    if (am_I s a3 2) ≤ x5 then
      some (.inr ((), s))
    else
      am_bl (f_X6_get a3 x5 s) (fun v18 s17 =>
        am_bl (f_X6_get a3 (x5 + (1 : Int32)) s17) (fun v20 s19 =>
          am_bl (f_X6_get a3 (x5 + (2 : Int32)) s19) (fun v22 s21 =>
            am_bi (f_X7_isThrow v18 v20 v22 s21) (fun v24 s23 =>
              if v24 = 0 then
                some (.inl (.inr 0, am_tick s23))
              else
                L_X7_take_40 m a3 a4 (x5 + (3 : Int32)) s23
            )
          )
        )
      )
theorem q_X7_take_40 : ∀ (m : Nat) {N n : Nat} {d : Nat} {a3 : Nat} {a4 : Nat} {x5 : Int32} {s : am_S} {P : (am_O × am_S) ⊕ (Unit × am_S) → Prop} {Q : am_O → am_S → Prop} (h : am_sh N n s) (fa3 : am_kf n a3 6) (fa4 : am_kf n a4 4) (k : am_ok (L_X7_take_40 m a3 a4 x5 s) P) (hP : ∀ o s, P (.inl (o, s)) → am_sh N n s → Q o s) (hX : ∀ (e : Unit) s, P (.inr (e, s)) → am_sh N n s → am_WP (d + 2) mX7_take 94 [(3, .ref a3), (4, .ref a4)] [] s Q), am_WP (d + 2) mX7_take 40 [(3, .ref a3), (4, .ref a4), (5, .int x5)] [] s Q := by
  intro m
  induction m with
  | zero =>
    intro N n d a3 a4 x5 s P Q h fa3 fa4 k hP hX
    exact (ok_no k).elim
  | succ m ih =>
    intro N n d a3 a4 x5 s P Q h fa3 fa4 k hP hX
    unfold L_X7_take_40 at k
    refine wp_ld (v := .int x5) dX7_take_40 rfl rfl rfl rfl ?_
    refine wp_ld (v := .ref a3) dX7_take_42 rfl rfl rfl rfl ?_
    refine wq_gI dX7_take_43 rfl rfl (kk_f h fa3) (v := (am_I s a3 2)) rfl ?_
    refine wp_ic_ge dX7_take_46 rfl (fun c16 => have k := ok_pos c16 k; ?_) (fun c16 => have k := ok_neg c16 k; ?_)
    · exact wp_sub (hX _ _ (ok_s k) h) rfl ⟨rfl, rfl, trivial⟩
    · refine wp_ld (v := .ref a3) dX7_take_49 rfl rfl rfl rfl ?_
      refine wp_ld (v := .int x5) dX7_take_50 rfl rfl rfl rfl ?_
      refine c_l dX7_take_52 rfl rfl rfl (am_inv_v rfl (kk_f h fa3) rfl rfl rfl) (s_X6_get h fa3) k (fun v18 s17 h k => ?_)
      refine wp_ld (v := .ref a3) dX7_take_55 rfl rfl rfl rfl ?_
      refine wp_ld (v := .int x5) dX7_take_56 rfl rfl rfl rfl ?_
      refine wp_cst (v := .int (1 : Int32)) dX7_take_58 rfl rfl ?_
      refine wp_pu dX7_take_59 rfl rfl ?_
      refine c_l dX7_take_60 rfl rfl rfl (am_inv_v rfl (kk_f h fa3) rfl rfl rfl) (s_X6_get h fa3) k (fun v20 s19 h k => ?_)
      refine wp_ld (v := .ref a3) dX7_take_63 rfl rfl rfl rfl ?_
      refine wp_ld (v := .int x5) dX7_take_64 rfl rfl rfl rfl ?_
      refine wp_cst (v := .int (2 : Int32)) dX7_take_66 rfl rfl ?_
      refine wp_pu dX7_take_67 rfl rfl ?_
      refine c_l dX7_take_68 rfl rfl rfl (am_inv_v rfl (kk_f h fa3) rfl rfl rfl) (s_X6_get h fa3) k (fun v22 s21 h k => ?_)
      refine c_i dX7_take_71 rfl rfl rfl (am_inv_s rfl rfl rfl rfl) (s_X7_isThrow h) k (fun v24 s23 h k => ?_)
      refine wp_if_ne dX7_take_74 rfl (fun c25 => have k := ok_neg c25 k; ?_) (fun c25 => have k := ok_pos c25 k; ?_)
      · refine wp_inc (v := (x5 + (3 : Int32))) (ls' := [(3, .ref a3), (4, .ref a4), (5, .int (x5 + (3 : Int32)))]) dX7_take_88 rfl (Nat.le_of_ble_eq_true rfl) rfl rfl ?_
        refine wp_goto dX7_take_91 rfl ?_
        exact wp_sub (ih h fa3 fa4 k hP hX) rfl ⟨rfl, rfl, rfl, trivial⟩
      · exact wp_thr dX7_take_77 rfl rfl (am_thr_2 rfl rfl dX7_take_80 dX7_take_81 dX7_take_84 dX7_take_87 rfl) (hP _ _ (ok_s k) (sh_tk h))
noncomputable def L_X7_take_103 : Nat → Nat → Nat → Int32 → am_S → am_FE (Unit)
  | 0, _, _, _, _ => none
  | m + 1, a3, a4, x5, s =>
    if (am_I s a3 2) ≤ x5 then
      some (.inr ((), s))
    else
      am_bl (f_X6_get a3 x5 s) (fun v30 s29 =>
        am_bl (f_X6_get a3 (x5 + (1 : Int32)) s29) (fun v32 s31 =>
          am_bl (f_X6_get a3 (x5 + (2 : Int32)) s31) (fun v34 s33 =>
            am_bi (f_X4_add a4 v30.toInt32 v32.toInt32 v34.toInt32 s33) (fun v36 s35 =>
              L_X7_take_103 m a3 a4 (x5 + (3 : Int32)) s35
            )
          )
        )
      )
theorem q_X7_take_103 : ∀ (m : Nat) {N n : Nat} {d : Nat} {a3 : Nat} {a4 : Nat} {x5 : Int32} {s : am_S} {P : (am_O × am_S) ⊕ (Unit × am_S) → Prop} {Q : am_O → am_S → Prop} (h : am_sh N n s) (fa3 : am_kf n a3 6) (fa4 : am_kf n a4 4) (k : am_ok (L_X7_take_103 m a3 a4 x5 s) P) (hP : ∀ o s, P (.inl (o, s)) → am_sh N n s → Q o s) (hX : ∀ (e : Unit) s, P (.inr (e, s)) → am_sh N n s → am_WP (d + 2) mX7_take 149 [(4, .ref a4)] [] s Q), am_WP (d + 2) mX7_take 103 [(3, .ref a3), (4, .ref a4), (5, .int x5)] [] s Q := by
  intro m
  induction m with
  | zero =>
    intro N n d a3 a4 x5 s P Q h fa3 fa4 k hP hX
    exact (ok_no k).elim
  | succ m ih =>
    intro N n d a3 a4 x5 s P Q h fa3 fa4 k hP hX
    unfold L_X7_take_103 at k
    refine wp_ld (v := .int x5) dX7_take_103 rfl rfl rfl rfl ?_
    refine wp_ld (v := .ref a3) dX7_take_105 rfl rfl rfl rfl ?_
    refine wq_gI dX7_take_106 rfl rfl (kk_f h fa3) (v := (am_I s a3 2)) rfl ?_
    refine wp_ic_ge dX7_take_109 rfl (fun c28 => have k := ok_pos c28 k; ?_) (fun c28 => have k := ok_neg c28 k; ?_)
    · exact wp_sub (hX _ _ (ok_s k) h) rfl ⟨rfl, trivial⟩
    · refine wp_ld (v := .ref a4) dX7_take_112 rfl rfl rfl rfl ?_
      refine wp_ld (v := .ref a3) dX7_take_114 rfl rfl rfl rfl ?_
      refine wp_ld (v := .int x5) dX7_take_115 rfl rfl rfl rfl ?_
      refine c_l dX7_take_117 rfl rfl rfl (am_inv_v rfl (kk_f h fa3) rfl rfl rfl) (s_X6_get h fa3) k (fun v30 s29 h k => ?_)
      refine wp_pu dX7_take_120 rfl rfl ?_
      refine wp_ld (v := .ref a3) dX7_take_121 rfl rfl rfl rfl ?_
      refine wp_ld (v := .int x5) dX7_take_122 rfl rfl rfl rfl ?_
      refine wp_cst (v := .int (1 : Int32)) dX7_take_124 rfl rfl ?_
      refine wp_pu dX7_take_125 rfl rfl ?_
      refine c_l dX7_take_126 rfl rfl rfl (am_inv_v rfl (kk_f h fa3) rfl rfl rfl) (s_X6_get h fa3) k (fun v32 s31 h k => ?_)
      refine wp_pu dX7_take_129 rfl rfl ?_
      refine wp_ld (v := .ref a3) dX7_take_130 rfl rfl rfl rfl ?_
      refine wp_ld (v := .int x5) dX7_take_131 rfl rfl rfl rfl ?_
      refine wp_cst (v := .int (2 : Int32)) dX7_take_133 rfl rfl ?_
      refine wp_pu dX7_take_134 rfl rfl ?_
      refine c_l dX7_take_135 rfl rfl rfl (am_inv_v rfl (kk_f h fa3) rfl rfl rfl) (s_X6_get h fa3) k (fun v34 s33 h k => ?_)
      refine wp_pu dX7_take_138 rfl rfl ?_
      refine c_i dX7_take_139 rfl rfl rfl (am_inv_v rfl (kk_f h fa4) rfl rfl rfl) (s_X4_add h fa4) k (fun v36 s35 h k => ?_)
      refine wp_pu dX7_take_142 rfl rfl ?_
      refine wp_inc (v := (x5 + (3 : Int32))) (ls' := [(3, .ref a3), (4, .ref a4), (5, .int (x5 + (3 : Int32)))]) dX7_take_143 rfl (Nat.le_of_ble_eq_true rfl) rfl rfl ?_
      refine wp_goto dX7_take_146 rfl ?_
      exact wp_sub (ih h fa3 fa4 k hP hX) rfl ⟨rfl, rfl, rfl, trivial⟩
noncomputable def f_X7_take (x1 : Int32) (x2 : Int32) (s : am_S) : am_F :=
  am_tv (f_X7_needTray x1 s) (fun v2 s1 =>
    am_mv v2 none (fun t3 => if am_k0 t3 = (6, 0) ∧ t3 < 72 then
      am_tv (f_X7_needHand x2 s1) (fun v8 s7 =>
        am_mv v8 none (fun t9 => if am_k0 t9 = (4, 0) ∧ t9 < 72 then
          am_tu (f_X7_needThere t3 s7) (fun s13 =>
            if ((am_I s13 t3 2) - (am_I s13 t3 2) / (3 : Int32) * (3 : Int32)) = 0 then
              am_lm (L_X7_take_40 ax_fuel t3 t9 (0 : Int32) s13) (fun e26 s27 =>
                am_lm (L_X7_take_103 ax_fuel t3 t9 (0 : Int32) (am_sI s27 t9 2 (0 : Int32))) (fun e37 s38 =>
                  some (.inl (some (.int (am_I s38 t9 2))), s38)
                )
              )
            else
              some (.inr 2, am_tick s13)
          )
        else none)
      )
    else none)
  )
theorem s_X7_take {N n : Nat} {d : Nat} {x1 : Int32} {x2 : Int32} {s : am_S} (h : am_sh N n s)  : am_S1 (am_sh N n) (d + 2) mX7_take [.ref 0, .int x1, .int x2] s (f_X7_take x1 x2 s) := by
  intro P Q k hP
  show am_WP (d + 2) mX7_take 0 [(0, .ref 0), (1, .int x1), (2, .int x2)] [] s Q
  unfold f_X7_take at k
  refine wp_ld (v := .ref 0) dX7_take_0 rfl rfl rfl rfl ?_
  refine wp_ld (v := .int x1) dX7_take_1 rfl rfl rfl rfl ?_
  refine t_v dX7_take_2 rfl rfl rfl (am_inv_v rfl (kk_0 h) rfl rfl rfl) (s_X7_needTray h) k rfl rfl hP (fun v2 s1 h k => ?_)
  obtain ⟨t3, c4, k⟩ := ok_mn k
  subst c4
  obtain ⟨g5, k⟩ := ok_g k
  have f6 := kk_up h g5
  refine wp_st (ls' := [(0, .ref 0), (1, .int x1), (2, .int x2), (3, .ref t3)]) dX7_take_5 rfl rfl rfl (Nat.le_of_ble_eq_true rfl) rfl ?_
  refine wp_ld (v := .ref 0) dX7_take_6 rfl rfl rfl rfl ?_
  refine wp_ld (v := .int x2) dX7_take_7 rfl rfl rfl rfl ?_
  refine t_v dX7_take_8 rfl rfl rfl (am_inv_v rfl (kk_0 h) rfl rfl rfl) (s_X7_needHand h) k rfl rfl hP (fun v8 s7 h k => ?_)
  obtain ⟨t9, c10, k⟩ := ok_mn k
  subst c10
  obtain ⟨g11, k⟩ := ok_g k
  have f12 := kk_up h g11
  refine wp_st (ls' := [(0, .ref 0), (1, .int x1), (2, .int x2), (3, .ref t3), (4, .ref t9)]) dX7_take_11 rfl rfl rfl (Nat.le_of_ble_eq_true rfl) rfl ?_
  refine wp_ld (v := .ref t3) dX7_take_13 rfl rfl rfl rfl ?_
  refine t_u dX7_take_14 rfl rfl rfl (am_inv_s rfl rfl rfl rfl) (s_X7_needThere h f6) k rfl rfl hP (fun s13 h k => ?_)
  refine wp_ld (v := .ref t3) dX7_take_17 rfl rfl rfl rfl ?_
  refine wq_gI dX7_take_18 rfl rfl (kk_f h f6) (v := (am_I s13 t3 2)) rfl ?_
  refine wp_cst (v := .int (3 : Int32)) dX7_take_21 rfl rfl ?_
  refine wp_rem dX7_take_22 (by decide) ?_
  refine wp_if_eq dX7_take_23 rfl (fun c15 => have k := ok_pos c15 k; ?_) (fun c15 => have k := ok_neg c15 k; ?_)
  · refine wp_cst (v := .int (0 : Int32)) dX7_take_37 rfl rfl ?_
    refine wp_st (ls' := [(0, .ref 0), (1, .int x1), (2, .int x2), (3, .ref t3), (4, .ref t9), (5, .int (0 : Int32))]) dX7_take_38 rfl rfl rfl (Nat.le_of_ble_eq_true rfl) rfl ?_
    refine lp_m k (fun P1 k hA hB => ?_)
    refine wp_sub (q_X7_take_40 ax_fuel h f6 f12 k (fun o s p h => hP o s (hA o s p) h) (fun e26 s27 p h => have k := hB e26 s27 p; ?_)) rfl ⟨rfl, rfl, rfl, trivial⟩
    refine wp_ld (v := .ref t9) dX7_take_94 rfl rfl rfl rfl ?_
    refine wp_cst (v := .int (0 : Int32)) dX7_take_96 rfl rfl ?_
    refine wp_pI dX7_take_97 rfl rfl rfl (fun h => absurd h (by decide)) (kk_f h f12) ?_
    refine wp_cst (v := .int (0 : Int32)) dX7_take_100 rfl rfl ?_
    refine wp_st (ls' := [(3, .ref t3), (4, .ref t9), (5, .int (0 : Int32))]) dX7_take_101 rfl rfl rfl (Nat.le_of_ble_eq_true rfl) rfl ?_
    refine lp_m k (fun P1 k hA hB => ?_)
    refine wp_sub (q_X7_take_103 ax_fuel (sh_sI h) f6 f12 k (fun o s p h => hP o s (hA o s p) h) (fun e37 s38 p h => have k := hB e37 s38 p; ?_)) rfl ⟨rfl, rfl, rfl, trivial⟩
    refine wp_ld (v := .ref t9) dX7_take_149 rfl rfl rfl rfl ?_
    refine wq_gI dX7_take_151 rfl rfl (kk_f h f12) (v := (am_I s38 t9 2)) rfl ?_
    exact wp_end dX7_take_154 rfl (am_end_i rfl) (hP _ _ (ok_s k) h)
  · exact wp_thr dX7_take_26 rfl rfl (am_thr_2 rfl rfl dX7_take_29 dX7_take_30 dX7_take_33 dX7_take_36 rfl) (hP _ _ (ok_s k) (sh_tk h))
noncomputable def f_L_take (x2 : Int32) (x3 : Int32) (s : am_S) : am_F :=
  am_xi (f_X7_take x2 x3 s) (fun v2 s1 =>
    some (.inl (some (.int (0 : Int32))), (am_sL s1 71 0 v2.toInt64))
  ) (fun e s1 =>
    if e = 3 then
      some (.inl (some (.int (1 : Int32))), s1)
    else
      if e = 1 then
        some (.inl (some (.int (2 : Int32))), s1)
      else
        if e = 2 then
          some (.inl (some (.int (3 : Int32))), s1)
        else
          if e = 0 then
            some (.inl (some (.int (4 : Int32))), s1)
          else
            none
  )
theorem s_L_take {N : Nat} {d : Nat} {x2 : Int32} {x3 : Int32} {s : am_S} (h : am_shE N s)  : am_S1 (am_shE N) (d + 3) mL_take [.ref 0, .int x2, .int x3, .ref 71] s (f_L_take x2 x3 s) := by
  intro P Q k hP
  show am_WP (d + 3) mL_take 0 [(0, .ref 0), (1, .int x2), (2, .int x3), (3, .ref 71)] [] s Q
  unfold f_L_take at k
  refine wp_ld (v := .ref 71) dL_take_0 rfl rfl rfl rfl ?_
  refine wp_cst (v := .int (0 : Int32)) dL_take_1 rfl rfl ?_
  refine wp_ld (v := .ref 0) dL_take_2 rfl rfl rfl rfl ?_
  refine wp_ld (v := .int x2) dL_take_3 rfl rfl rfl rfl ?_
  refine wp_ld (v := .int x3) dL_take_4 rfl rfl rfl rfl ?_
  refine x_i dL_take_5 rfl rfl rfl (am_inv_v rfl (kE_0 h) rfl rfl rfl) (sE h (fun _ h => s_X7_take h)) k rfl (List.cons_ne_nil _ _) (fun v2 s1 h k => ?_) (fun e s1 h k => ?_)
  · refine wp_pu dL_take_8 rfl rfl ?_
    refine wq_last dL_take_9 (kE_71 h) (by decide) (j := 0) rfl ?_
    refine wp_goto dL_take_10 rfl ?_
    refine wp_cst (v := .int (0 : Int32)) dL_take_29 rfl rfl ?_
    exact wp_end dL_take_30 rfl (am_end_i rfl) (hP _ _ (ok_s k) (shE_sL h))
  · by_cases c3 : e = 3
    · have k := ok_pos c3 k
      subst c3
      refine ⟨_, _, rfl, ?_⟩
      refine wp_cst (v := .int (1 : Int32)) dL_take_15 rfl rfl ?_
      exact wp_end dL_take_16 rfl (am_end_i rfl) (hP _ _ (ok_s k) h)
    replace k := ok_neg c3 k
    by_cases c4 : e = 1
    · have k := ok_pos c4 k
      subst c4
      refine ⟨_, _, rfl, ?_⟩
      refine wp_cst (v := .int (2 : Int32)) dL_take_19 rfl rfl ?_
      exact wp_end dL_take_20 rfl (am_end_i rfl) (hP _ _ (ok_s k) h)
    replace k := ok_neg c4 k
    by_cases c5 : e = 2
    · have k := ok_pos c5 k
      subst c5
      refine ⟨_, _, rfl, ?_⟩
      refine wp_cst (v := .int (3 : Int32)) dL_take_23 rfl rfl ?_
      exact wp_end dL_take_24 rfl (am_end_i rfl) (hP _ _ (ok_s k) h)
    replace k := ok_neg c5 k
    by_cases c6 : e = 0
    · have k := ok_pos c6 k
      subst c6
      refine ⟨_, _, rfl, ?_⟩
      refine wp_cst (v := .int (4 : Int32)) dL_take_27 rfl rfl ?_
      exact wp_end dL_take_28 rfl (am_end_i rfl) (hP _ _ (ok_s k) h)
    replace k := ok_neg c6 k
    exact (ok_no k).elim
noncomputable def L_X8_take_74 : Nat → Int32 → Int32 → Int32 → Int32 → am_S → am_FE (Unit)
  | 0, _, _, _, _, _ => none
  | m + 1, x1, x2, x3, x4, s =>
    if (((12 : Int32) * x1) + ((3 : Int32) * x3)) ≤ x4 then
      some (.inr ((), s))
    else
      if am_in x4 48 = true then
        if am_in (x4 + (1 : Int32)) 48 = true then
          if am_in (x4 + (2 : Int32)) 48 = true then
            am_bi (f_X8_isThrow (am_L s 70 x4.toNatClampNeg) (am_L s 70 ((x4 + (1 : Int32)).toNatClampNeg)) (am_L s 70 ((x4 + (2 : Int32)).toNatClampNeg)) s) (fun v22 s21 =>
              if v22 = 0 then
                am_bi (f_X8_fails (4 : Int32) s21) (fun v25 s24 =>
                  some (.inl (.inl (some (.int v25)), s24))
                )
              else
                L_X8_take_74 m x1 x2 x3 (x4 + (3 : Int32)) s21
            )
          else none
        else none
      else none
theorem q_X8_take_74 : ∀ (m : Nat) {N n : Nat} {d : Nat} {x1 : Int32} {x2 : Int32} {x3 : Int32} {x4 : Int32} {s : am_S} {P : (am_O × am_S) ⊕ (Unit × am_S) → Prop} {Q : am_O → am_S → Prop} (h : am_sh N n s)  (k : am_ok (L_X8_take_74 m x1 x2 x3 x4 s) P) (hP : ∀ o s, P (.inl (o, s)) → am_sh N n s → Q o s) (hX : ∀ (e : Unit) s, P (.inr (e, s)) → am_sh N n s → am_WP (d + 2) mX8_take 130 [(0, .ref 55), (1, .int x1), (2, .int x2), (3, .int x3)] [] s Q), am_WP (d + 2) mX8_take 74 [(0, .ref 55), (1, .int x1), (2, .int x2), (3, .int x3), (4, .int x4)] [] s Q := by
  intro m
  induction m with
  | zero =>
    intro N n d x1 x2 x3 x4 s P Q h  k hP hX
    exact (ok_no k).elim
  | succ m ih =>
    intro N n d x1 x2 x3 x4 s P Q h  k hP hX
    unfold L_X8_take_74 at k
    refine wp_ld (v := .int x4) dX8_take_74 rfl rfl rfl rfl ?_
    refine wp_cst (v := .int (12 : Int32)) dX8_take_76 rfl rfl ?_
    refine wp_ld (v := .int x1) dX8_take_78 rfl rfl rfl rfl ?_
    refine wp_pu dX8_take_79 rfl rfl ?_
    refine wp_cst (v := .int (3 : Int32)) dX8_take_80 rfl rfl ?_
    refine wp_ld (v := .int x3) dX8_take_81 rfl rfl rfl rfl ?_
    refine wp_pu dX8_take_82 rfl rfl ?_
    refine wp_pu dX8_take_83 rfl rfl ?_
    refine wp_ic_ge dX8_take_84 rfl (fun c17 => have k := ok_pos c17 k; ?_) (fun c17 => have k := ok_neg c17 k; ?_)
    · exact wp_sub (hX _ _ (ok_s k) h) rfl ⟨rfl, rfl, rfl, rfl, trivial⟩
    · refine wp_ld (v := .ref 55) dX8_take_87 rfl rfl rfl rfl ?_
      refine wp_gr dX8_take_88 rfl rfl (kk_55 h) (rr_55_53 h) ?_
      refine wp_ld (v := .int x4) dX8_take_91 rfl rfl rfl rfl ?_
      obtain ⟨g18, k⟩ := ok_g k
      refine wq_lald dX8_take_93 (kk_70 h) g18 (l := (am_L s 70 x4.toNatClampNeg)) rfl ?_
      refine wp_ld (v := .ref 55) dX8_take_94 rfl rfl rfl rfl ?_
      refine wp_gr dX8_take_95 rfl rfl (kk_55 h) (rr_55_53 h) ?_
      refine wp_ld (v := .int x4) dX8_take_98 rfl rfl rfl rfl ?_
      refine wp_cst (v := .int (1 : Int32)) dX8_take_100 rfl rfl ?_
      refine wp_pu dX8_take_101 rfl rfl ?_
      obtain ⟨g19, k⟩ := ok_g k
      refine wq_lald dX8_take_102 (kk_70 h) g19 (l := (am_L s 70 ((x4 + (1 : Int32)).toNatClampNeg))) rfl ?_
      refine wp_ld (v := .ref 55) dX8_take_103 rfl rfl rfl rfl ?_
      show am_WP (d + 2) mX8_take 104 _ _ _ Q
      refine wp_gr dX8_take_104 rfl rfl (kk_55 h) (rr_55_53 h) ?_
      refine wp_ld (v := .int x4) dX8_take_107 rfl rfl rfl rfl ?_
      refine wp_cst (v := .int (2 : Int32)) dX8_take_109 rfl rfl ?_
      refine wp_pu dX8_take_110 rfl rfl ?_
      obtain ⟨g20, k⟩ := ok_g k
      refine wq_lald dX8_take_111 (kk_70 h) g20 (l := (am_L s 70 ((x4 + (2 : Int32)).toNatClampNeg))) rfl ?_
      refine c_i dX8_take_112 rfl rfl rfl (am_inv_s rfl rfl rfl rfl) (s_X8_isThrow h) k (fun v22 s21 h k => ?_)
      refine wp_if_ne dX8_take_115 rfl (fun c23 => have k := ok_neg c23 k; ?_) (fun c23 => have k := ok_pos c23 k; ?_)
      · refine wp_inc (v := (x4 + (3 : Int32))) (ls' := [(0, .ref 55), (1, .int x1), (2, .int x2), (3, .int x3), (4, .int (x4 + (3 : Int32)))]) dX8_take_124 rfl (Nat.le_of_ble_eq_true rfl) rfl rfl ?_
        refine wp_goto dX8_take_127 rfl ?_
        exact wp_sub (ih h k hP hX) rfl ⟨rfl, rfl, rfl, rfl, rfl, trivial⟩
      · refine wp_ld (v := .ref 55) dX8_take_118 rfl rfl rfl rfl ?_
        refine wp_cst (v := .int (4 : Int32)) dX8_take_119 rfl rfl ?_
        refine c_i dX8_take_120 rfl rfl rfl (am_inv_v rfl (kk_55 h) rfl rfl rfl) (s_X8_fails h) k (fun v25 s24 h k => ?_)
        exact wp_end dX8_take_123 rfl (am_end_i rfl) (hP _ _ (ok_s k) h)
noncomputable def L_X8_take_133 : Nat → Int32 → Int32 → Int32 → Int32 → am_S → am_FE (Unit)
  | 0, _, _, _, _, _ => none
  | m + 1, x1, x2, x3, x4, s =>
    if x3 ≤ x4 then
      some (.inr ((), s))
    else
      if am_in (((12 : Int32) * x1) + ((3 : Int32) * x4)) 48 = true then
        if am_in ((((12 : Int32) * x1) + ((3 : Int32) * x4)) + (1 : Int32)) 48 = true then
          if am_in ((((12 : Int32) * x1) + ((3 : Int32) * x4)) + (2 : Int32)) 48 = true then
            am_bu (f_X8_puts x2 x4 ((am_L s 70 ((((12 : Int32) * x1) + ((3 : Int32) * x4)).toNatClampNeg)).toInt32) ((am_L s 70 (((((12 : Int32) * x1) + ((3 : Int32) * x4)) + (1 : Int32)).toNatClampNeg)).toInt32) ((am_L s 70 (((((12 : Int32) * x1) + ((3 : Int32) * x4)) + (2 : Int32)).toNatClampNeg)).toInt32) s) (fun s32 =>
              L_X8_take_133 m x1 x2 x3 (x4 + (1 : Int32)) s32
            )
          else none
        else none
      else none
theorem q_X8_take_133 : ∀ (m : Nat) {N n : Nat} {d : Nat} {x1 : Int32} {x2 : Int32} {x3 : Int32} {x4 : Int32} {s : am_S} {P : (am_O × am_S) ⊕ (Unit × am_S) → Prop} {Q : am_O → am_S → Prop} (h : am_sh N n s)  (k : am_ok (L_X8_take_133 m x1 x2 x3 x4 s) P) (hP : ∀ o s, P (.inl (o, s)) → am_sh N n s → Q o s) (hX : ∀ (e : Unit) s, P (.inr (e, s)) → am_sh N n s → am_WP (d + 2) mX8_take 201 [(0, .ref 55), (2, .int x2), (3, .int x3)] [] s Q), am_WP (d + 2) mX8_take 133 [(0, .ref 55), (1, .int x1), (2, .int x2), (3, .int x3), (4, .int x4)] [] s Q := by
  intro m
  induction m with
  | zero =>
    intro N n d x1 x2 x3 x4 s P Q h  k hP hX
    exact (ok_no k).elim
  | succ m ih =>
    intro N n d x1 x2 x3 x4 s P Q h  k hP hX
    unfold L_X8_take_133 at k
    refine wp_ld (v := .int x4) dX8_take_133 rfl rfl rfl rfl ?_
    refine wp_ld (v := .int x3) dX8_take_135 rfl rfl rfl rfl ?_
    refine wp_ic_ge dX8_take_136 rfl (fun c28 => have k := ok_pos c28 k; ?_) (fun c28 => have k := ok_neg c28 k; ?_)
    · exact wp_sub (hX _ _ (ok_s k) h) rfl ⟨rfl, rfl, rfl, trivial⟩
    · refine wp_ld (v := .ref 55) dX8_take_139 rfl rfl rfl rfl ?_
      refine wp_ld (v := .int x2) dX8_take_140 rfl rfl rfl rfl ?_
      refine wp_ld (v := .int x4) dX8_take_141 rfl rfl rfl rfl ?_
      refine wp_ld (v := .ref 55) dX8_take_143 rfl rfl rfl rfl ?_
      refine wp_gr dX8_take_144 rfl rfl (kk_55 h) (rr_55_53 h) ?_
      refine wp_cst (v := .int (12 : Int32)) dX8_take_147 rfl rfl ?_
      refine wp_ld (v := .int x1) dX8_take_149 rfl rfl rfl rfl ?_
      refine wp_pu dX8_take_150 rfl rfl ?_
      refine wp_cst (v := .int (3 : Int32)) dX8_take_151 rfl rfl ?_
      refine wp_ld (v := .int x4) dX8_take_152 rfl rfl rfl rfl ?_
      refine wp_pu dX8_take_154 rfl rfl ?_
      show am_WP (d + 2) mX8_take 155 _ _ _ Q
      refine wp_pu dX8_take_155 rfl rfl ?_
      obtain ⟨g29, k⟩ := ok_g k
      refine wq_lald dX8_take_156 (kk_70 h) g29 (l := (am_L s 70 ((((12 : Int32) * x1) + ((3 : Int32) * x4)).toNatClampNeg))) rfl ?_
      refine wp_pu dX8_take_157 rfl rfl ?_
      refine wp_ld (v := .ref 55) dX8_take_158 rfl rfl rfl rfl ?_
      refine wp_gr dX8_take_159 rfl rfl (kk_55 h) (rr_55_53 h) ?_
      refine wp_cst (v := .int (12 : Int32)) dX8_take_162 rfl rfl ?_
      refine wp_ld (v := .int x1) dX8_take_164 rfl rfl rfl rfl ?_
      refine wp_pu dX8_take_165 rfl rfl ?_
      refine wp_cst (v := .int (3 : Int32)) dX8_take_166 rfl rfl ?_
      refine wp_ld (v := .int x4) dX8_take_167 rfl rfl rfl rfl ?_
      refine wp_pu dX8_take_169 rfl rfl ?_
      refine wp_pu dX8_take_170 rfl rfl ?_
      show am_WP (d + 2) mX8_take 171 _ _ _ Q
      refine wp_cst (v := .int (1 : Int32)) dX8_take_171 rfl rfl ?_
      refine wp_pu dX8_take_172 rfl rfl ?_
      obtain ⟨g30, k⟩ := ok_g k
      refine wq_lald dX8_take_173 (kk_70 h) g30 (l := (am_L s 70 (((((12 : Int32) * x1) + ((3 : Int32) * x4)) + (1 : Int32)).toNatClampNeg))) rfl ?_
      refine wp_pu dX8_take_174 rfl rfl ?_
      refine wp_ld (v := .ref 55) dX8_take_175 rfl rfl rfl rfl ?_
      refine wp_gr dX8_take_176 rfl rfl (kk_55 h) (rr_55_53 h) ?_
      refine wp_cst (v := .int (12 : Int32)) dX8_take_179 rfl rfl ?_
      refine wp_ld (v := .int x1) dX8_take_181 rfl rfl rfl rfl ?_
      refine wp_pu dX8_take_182 rfl rfl ?_
      refine wp_cst (v := .int (3 : Int32)) dX8_take_183 rfl rfl ?_
      refine wp_ld (v := .int x4) dX8_take_184 rfl rfl rfl rfl ?_
      refine wp_pu dX8_take_186 rfl rfl ?_
      show am_WP (d + 2) mX8_take 187 _ _ _ Q
      refine wp_pu dX8_take_187 rfl rfl ?_
      refine wp_cst (v := .int (2 : Int32)) dX8_take_188 rfl rfl ?_
      refine wp_pu dX8_take_189 rfl rfl ?_
      obtain ⟨g31, k⟩ := ok_g k
      refine wq_lald dX8_take_190 (kk_70 h) g31 (l := (am_L s 70 (((((12 : Int32) * x1) + ((3 : Int32) * x4)) + (2 : Int32)).toNatClampNeg))) rfl ?_
      refine wp_pu dX8_take_191 rfl rfl ?_
      refine c_u dX8_take_192 rfl rfl rfl (am_inv_v rfl (kk_55 h) rfl rfl rfl) (s_X8_puts h) k (fun s32 h k => ?_)
      refine wp_inc (v := (x4 + (1 : Int32))) (ls' := [(0, .ref 55), (1, .int x1), (2, .int x2), (3, .int x3), (4, .int (x4 + (1 : Int32)))]) dX8_take_195 rfl (Nat.le_of_ble_eq_true rfl) rfl rfl ?_
      refine wp_goto dX8_take_198 rfl ?_
      exact wp_sub (ih h k hP hX) rfl ⟨rfl, rfl, rfl, rfl, rfl, trivial⟩
noncomputable def f_X8_take (x1 : Int32) (x2 : Int32) (s : am_S) : am_F :=
  am_bi (f_X8_isTray x1 (am_sI s 55 3 (0 : Int32))) (fun v2 s1 =>
    am_jn (fun (e4 : Unit) s5 =>
      am_bi (f_X8_fails (1 : Int32) s5) (fun v7 s6 =>
        some (.inl (some (.int v7)), s6)
      )
    ) (fun J3 =>
      if v2 = 0 then
        J3 () s1
      else
        am_bi (f_X8_isHand x2 s1) (fun v10 s9 =>
          if v10 = 0 then
            J3 () s9
          else
            if am_in x1 4 = true then
              if (am_I s9 68 x1.toNatClampNeg) = (-1 : Int32) then
                am_bi (f_X8_fails (2 : Int32) s9) (fun v40 s39 =>
                  some (.inl (some (.int v40)), s39)
                )
              else
                if am_in x1 4 = true then
                  if ((am_I s9 69 x1.toNatClampNeg) - (am_I s9 69 x1.toNatClampNeg) / (3 : Int32) * (3 : Int32)) = 0 then
                    if am_in x1 4 = true then
                      am_lm (L_X8_take_74 ax_fuel x1 x2 ((am_I s9 69 x1.toNatClampNeg) / (3 : Int32)) ((12 : Int32) * x1) s9) (fun e26 s27 =>
                        am_lm (L_X8_take_133 ax_fuel x1 x2 ((am_I s9 69 x1.toNatClampNeg) / (3 : Int32)) (0 : Int32) s27) (fun e34 s35 =>
                          if am_in ((169 : Int32) + ((13 : Int32) * x2)) 264 = true then
                            some (.inl (some (.int ((am_I s9 69 x1.toNatClampNeg) / (3 : Int32)))), (am_sI s35 56 (((169 : Int32) + ((13 : Int32) * x2)).toNatClampNeg) ((am_I s9 69 x1.toNatClampNeg) / (3 : Int32))))
                          else none
                        )
                      )
                    else none
                  else
                    am_bi (f_X8_fails (3 : Int32) s9) (fun v38 s37 =>
                      some (.inl (some (.int v38)), s37)
                    )
                else none
            else none
        )
    )
  )
theorem s_X8_take {N n : Nat} {d : Nat} {x1 : Int32} {x2 : Int32} {s : am_S} (h : am_sh N n s)  : am_S1 (am_sh N n) (d + 2) mX8_take [.ref 55, .int x1, .int x2] s (f_X8_take x1 x2 s) := by
  intro P Q k hP
  show am_WP (d + 2) mX8_take 0 [(0, .ref 55), (1, .int x1), (2, .int x2)] [] s Q
  unfold f_X8_take at k
  refine wp_ld (v := .ref 55) dX8_take_0 rfl rfl rfl rfl ?_
  refine wp_cst (v := .int (0 : Int32)) dX8_take_1 rfl rfl ?_
  refine wp_pI dX8_take_2 rfl rfl rfl (fun h => absurd h (by decide)) (kk_55 h) ?_
  refine wp_ld (v := .int x1) dX8_take_5 rfl rfl rfl rfl ?_
  refine c_i dX8_take_6 rfl rfl rfl (am_inv_s rfl rfl rfl rfl) (s_X8_isTray (sh_sI h)) k (fun v2 s1 h k => ?_)
  refine jn_rule k (fun J3 hJ3 k => ?_)
  have HJ3 : ∀ (e4 : Unit) (s5 : am_S), am_sh N n s5 → am_ok (J3 e4 s5) P → am_WP (d + 2) mX8_take 20 [(0, .ref 55)] [] s5 Q := by
    intro e4 s5 h k
    replace k := hJ3 _ _ k
    refine wp_ld (v := .ref 55) dX8_take_20 rfl rfl rfl rfl ?_
    refine wp_cst (v := .int (1 : Int32)) dX8_take_21 rfl rfl ?_
    refine c_i dX8_take_22 rfl rfl rfl (am_inv_v rfl (kk_55 h) rfl rfl rfl) (s_X8_fails h) k (fun v7 s6 h k => ?_)
    exact wp_end dX8_take_25 rfl (am_end_i rfl) (hP _ _ (ok_s k) h)
  refine wp_if_eq dX8_take_9 rfl (fun c8 => have k := ok_pos c8 k; ?_) (fun c8 => have k := ok_neg c8 k; ?_)
  · exact wp_sub (HJ3 _ _ h k) rfl ⟨rfl, trivial⟩
  · refine wp_ld (v := .ref 55) dX8_take_12 rfl rfl rfl rfl ?_
    refine wp_ld (v := .int x2) dX8_take_13 rfl rfl rfl rfl ?_
    refine c_i dX8_take_14 rfl rfl rfl (am_inv_v rfl (kk_55 h) rfl rfl rfl) (s_X8_isHand h) k (fun v10 s9 h k => ?_)
    refine wp_if_ne dX8_take_17 rfl (fun c11 => have k := ok_neg c11 k; ?_) (fun c11 => have k := ok_pos c11 k; ?_)
    · refine wp_ld (v := .ref 55) dX8_take_26 rfl rfl rfl rfl ?_
      refine wp_gr dX8_take_27 rfl rfl (kk_55 h) (rr_55_51 h) ?_
      refine wp_ld (v := .int x1) dX8_take_30 rfl rfl rfl rfl ?_
      obtain ⟨g12, k⟩ := ok_g k
      refine wq_iald dX8_take_31 (kk_68 h) g12 (v := (am_I s9 68 x1.toNatClampNeg)) rfl ?_
      refine wp_cst (v := .int (-1 : Int32)) dX8_take_32 rfl rfl ?_
      refine wp_ic_ne dX8_take_33 rfl (fun c13 => have k := ok_neg c13 k; ?_) (fun c13 => have k := ok_pos c13 k; ?_)
      · refine wp_ld (v := .ref 55) dX8_take_42 rfl rfl rfl rfl ?_
        refine wp_gr dX8_take_43 rfl rfl (kk_55 h) (rr_55_52 h) ?_
        refine wp_ld (v := .int x1) dX8_take_46 rfl rfl rfl rfl ?_
        obtain ⟨g14, k⟩ := ok_g k
        refine wq_iald dX8_take_47 (kk_69 h) g14 (v := (am_I s9 69 x1.toNatClampNeg)) rfl ?_
        refine wp_cst (v := .int (3 : Int32)) dX8_take_48 rfl rfl ?_
        refine wp_rem dX8_take_49 (by decide) ?_
        refine wp_if_eq dX8_take_50 rfl (fun c15 => have k := ok_pos c15 k; ?_) (fun c15 => have k := ok_neg c15 k; ?_)
        · refine wp_ld (v := .ref 55) dX8_take_59 rfl rfl rfl rfl ?_
          refine wp_gr dX8_take_60 rfl rfl (kk_55 h) (rr_55_52 h) ?_
          refine wp_ld (v := .int x1) dX8_take_63 rfl rfl rfl rfl ?_
          obtain ⟨g16, k⟩ := ok_g k
          refine wq_iald dX8_take_64 (kk_69 h) g16 (v := (am_I s9 69 x1.toNatClampNeg)) rfl ?_
          refine wp_cst (v := .int (3 : Int32)) dX8_take_65 rfl rfl ?_
          refine wp_div dX8_take_66 (by decide) ?_
          refine wp_st (ls' := [(0, .ref 55), (1, .int x1), (2, .int x2), (3, .int ((am_I s9 69 x1.toNatClampNeg) / (3 : Int32)))]) dX8_take_67 rfl rfl rfl (Nat.le_of_ble_eq_true rfl) rfl ?_
          refine wp_cst (v := .int (12 : Int32)) dX8_take_68 rfl rfl ?_
          refine wp_ld (v := .int x1) dX8_take_70 rfl rfl rfl rfl ?_
          refine wp_pu dX8_take_71 rfl rfl ?_
          refine wp_st (ls' := [(0, .ref 55), (1, .int x1), (2, .int x2), (3, .int ((am_I s9 69 x1.toNatClampNeg) / (3 : Int32))), (4, .int ((12 : Int32) * x1))]) dX8_take_72 rfl rfl rfl (Nat.le_of_ble_eq_true rfl) rfl ?_
          refine lp_m k (fun P1 k hA hB => ?_)
          refine wp_sub (q_X8_take_74 ax_fuel h k (fun o s p h => hP o s (hA o s p) h) (fun e26 s27 p h => have k := hB e26 s27 p; ?_)) rfl ⟨rfl, rfl, rfl, rfl, rfl, trivial⟩
          refine wp_cst (v := .int (0 : Int32)) dX8_take_130 rfl rfl ?_
          refine wp_st (ls' := [(0, .ref 55), (1, .int x1), (2, .int x2), (3, .int ((am_I s9 69 x1.toNatClampNeg) / (3 : Int32))), (4, .int (0 : Int32))]) dX8_take_131 rfl rfl rfl (Nat.le_of_ble_eq_true rfl) rfl ?_
          refine lp_m k (fun P1 k hA hB => ?_)
          refine wp_sub (q_X8_take_133 ax_fuel h k (fun o s p h => hP o s (hA o s p) h) (fun e34 s35 p h => have k := hB e34 s35 p; ?_)) rfl ⟨rfl, rfl, rfl, rfl, rfl, trivial⟩
          refine wp_ld (v := .ref 55) dX8_take_201 rfl rfl rfl rfl ?_
          refine wp_gr dX8_take_202 rfl rfl (kk_55 h) (rr_55_0 h) ?_
          refine wp_cst (v := .int (169 : Int32)) dX8_take_205 rfl rfl ?_
          refine wp_cst (v := .int (13 : Int32)) dX8_take_208 rfl rfl ?_
          refine wp_ld (v := .int x2) dX8_take_210 rfl rfl rfl rfl ?_
          refine wp_pu dX8_take_211 rfl rfl ?_
          refine wp_pu dX8_take_212 rfl rfl ?_
          refine wp_ld (v := .int ((am_I s9 69 x1.toNatClampNeg) / (3 : Int32))) dX8_take_213 rfl rfl rfl rfl ?_
          obtain ⟨g36, k⟩ := ok_g k
          refine wq_iast dX8_take_214 (kk_56 h) g36 (j := (((169 : Int32) + ((13 : Int32) * x2)).toNatClampNeg)) rfl ?_
          refine wp_ld (v := .int ((am_I s9 69 x1.toNatClampNeg) / (3 : Int32))) dX8_take_215 rfl rfl rfl rfl ?_
          exact wp_end dX8_take_216 rfl (am_end_i rfl) (hP _ _ (ok_s k) (sh_sI h))
        · refine wp_ld (v := .ref 55) dX8_take_53 rfl rfl rfl rfl ?_
          refine wp_cst (v := .int (3 : Int32)) dX8_take_54 rfl rfl ?_
          refine c_i dX8_take_55 rfl rfl rfl (am_inv_v rfl (kk_55 h) rfl rfl rfl) (s_X8_fails h) k (fun v38 s37 h k => ?_)
          exact wp_end dX8_take_58 rfl (am_end_i rfl) (hP _ _ (ok_s k) h)
      · refine wp_ld (v := .ref 55) dX8_take_36 rfl rfl rfl rfl ?_
        refine wp_cst (v := .int (2 : Int32)) dX8_take_37 rfl rfl ?_
        refine c_i dX8_take_38 rfl rfl rfl (am_inv_v rfl (kk_55 h) rfl rfl rfl) (s_X8_fails h) k (fun v40 s39 h k => ?_)
        exact wp_end dX8_take_41 rfl (am_end_i rfl) (hP _ _ (ok_s k) h)
    · exact wp_sub (HJ3 _ _ h k) rfl ⟨rfl, trivial⟩
noncomputable def L_X8_image_38 : Nat → Int32 → Int32 → am_S → am_FE (Unit)
  | 0, _, _, _ => none
  | m + 1, x1, x2, s =>
    if (264 : Int32) ≤ x2 then
      some (.inr ((), s))
    else
      if am_in x2 264 = true then
        if am_in (((264 : Int32) * x1) + x2) 792 = true then
          L_X8_image_38 m x1 (x2 + (1 : Int32)) (am_sI s 57 ((((264 : Int32) * x1) + x2).toNatClampNeg) (am_I s 56 x2.toNatClampNeg))
        else none
      else none
theorem q_X8_image_38 : ∀ (m : Nat) {N n : Nat} {d : Nat} {x1 : Int32} {x2 : Int32} {s : am_S} {P : (am_O × am_S) ⊕ (Unit × am_S) → Prop} {Q : am_O → am_S → Prop} (h : am_sh N n s)  (k : am_ok (L_X8_image_38 m x1 x2 s) P) (hP : ∀ o s, P (.inl (o, s)) → am_sh N n s → Q o s) (hX : ∀ (e : Unit) s, P (.inr (e, s)) → am_sh N n s → am_WP (d + 1) mX8_image 69 [] [] s Q), am_WP (d + 1) mX8_image 38 [(0, .ref 55), (1, .int x1), (2, .int x2)] [] s Q := by
  intro m
  induction m with
  | zero =>
    intro N n d x1 x2 s P Q h  k hP hX
    exact (ok_no k).elim
  | succ m ih =>
    intro N n d x1 x2 s P Q h  k hP hX
    unfold L_X8_image_38 at k
    refine wp_ld (v := .int x2) dX8_image_38 rfl rfl rfl rfl ?_
    refine wp_cst (v := .int (264 : Int32)) dX8_image_39 rfl rfl ?_
    refine wp_ic_ge dX8_image_42 rfl (fun c8 => have k := ok_pos c8 k; ?_) (fun c8 => have k := ok_neg c8 k; ?_)
    · exact wp_sub (hX _ _ (ok_s k) h) rfl trivial
    · refine wp_ld (v := .ref 55) dX8_image_45 rfl rfl rfl rfl ?_
      refine wp_gr dX8_image_46 rfl rfl (kk_55 h) (rr_55_1 h) ?_
      refine wp_cst (v := .int (264 : Int32)) dX8_image_49 rfl rfl ?_
      refine wp_ld (v := .int x1) dX8_image_52 rfl rfl rfl rfl ?_
      refine wp_pu dX8_image_53 rfl rfl ?_
      refine wp_ld (v := .int x2) dX8_image_54 rfl rfl rfl rfl ?_
      refine wp_pu dX8_image_55 rfl rfl ?_
      refine wp_ld (v := .ref 55) dX8_image_56 rfl rfl rfl rfl ?_
      refine wp_gr dX8_image_57 rfl rfl (kk_55 h) (rr_55_0 h) ?_
      refine wp_ld (v := .int x2) dX8_image_60 rfl rfl rfl rfl ?_
      obtain ⟨g9, k⟩ := ok_g k
      refine wq_iald dX8_image_61 (kk_56 h) g9 (v := (am_I s 56 x2.toNatClampNeg)) rfl ?_
      show am_WP (d + 1) mX8_image 62 _ _ _ Q
      obtain ⟨g10, k⟩ := ok_g k
      refine wq_iast dX8_image_62 (kk_57 h) g10 (j := ((((264 : Int32) * x1) + x2).toNatClampNeg)) rfl ?_
      refine wp_inc (v := (x2 + (1 : Int32))) (ls' := [(0, .ref 55), (1, .int x1), (2, .int (x2 + (1 : Int32)))]) dX8_image_63 rfl (Nat.le_of_ble_eq_true rfl) rfl rfl ?_
      refine wp_goto dX8_image_66 rfl ?_
      exact wp_sub (ih (sh_sI h) k hP hX) rfl ⟨rfl, rfl, rfl, trivial⟩
noncomputable def f_X8_image (x1 : Int32) (s : am_S) : am_F :=
  am_bi (f_X8_within x1.toInt64 (0 : Int64) (2 : Int64) s) (fun v2 s1 =>
    am_jn (fun (e4 : Int32) s5 =>
      if e4 ≤ 0 then
        if am_in x1 3 = true then
          am_lm (L_X8_image_38 ax_fuel x1 (0 : Int32) (am_sI (am_sI s5 55 3 e4) 58 (x1.toNatClampNeg) (1 : Int32))) (fun e11 s12 =>
            some (.inl none, s12)
          )
        else none
      else
        some (.inl none, (am_sI s5 55 3 e4))
    ) (fun J3 =>
      if v2 = 0 then
        J3 (1 : Int32) s1
      else
        J3 (0 : Int32) s1
    )
  )
theorem s_X8_image {N n : Nat} {d : Nat} {x1 : Int32} {s : am_S} (h : am_sh N n s)  : am_S1 (am_sh N n) (d + 1) mX8_image [.ref 55, .int x1] s (f_X8_image x1 s) := by
  intro P Q k hP
  show am_WP (d + 1) mX8_image 0 [(0, .ref 55), (1, .int x1)] [] s Q
  unfold f_X8_image at k
  refine wp_ld (v := .ref 55) dX8_image_0 rfl rfl rfl rfl ?_
  refine wp_ld (v := .int x1) dX8_image_1 rfl rfl rfl rfl ?_
  refine wp_pu dX8_image_2 rfl rfl ?_
  refine wp_cst (v := .long (0 : Int64)) dX8_image_3 rfl rfl ?_
  refine wp_cst (v := .long (2 : Int64)) dX8_image_4 rfl rfl ?_
  refine c_i dX8_image_7 rfl rfl rfl (am_inv_s rfl rfl rfl rfl) (s_X8_within h) k (fun v2 s1 h k => ?_)
  refine jn_rule k (fun J3 hJ3 k => ?_)
  have HJ3 : ∀ (e4 : Int32) (s5 : am_S), am_sh N n s5 → am_ok (J3 e4 s5) P → am_WP (d + 1) mX8_image 18 [(0, .ref 55), (1, .int x1)] [.int e4, .ref 55] s5 Q := by
    intro e4 s5 h k
    replace k := hJ3 _ _ k
    refine wp_pI dX8_image_18 rfl rfl rfl (fun h => absurd h (by decide)) (kk_55 h) ?_
    refine wp_ld (v := .ref 55) dX8_image_21 rfl rfl rfl rfl ?_
    refine wq_gI dX8_image_22 rfl rfl (kk_55 (sh_sI h)) (v := e4) rfl ?_
    refine wp_if_le dX8_image_25 rfl (fun c6 => have k := ok_pos c6 k; ?_) (fun c6 => have k := ok_neg c6 k; ?_)
    · refine wp_ld (v := .ref 55) dX8_image_29 rfl rfl rfl rfl ?_
      refine wp_gr dX8_image_30 rfl rfl (kk_55 (sh_sI h)) (rr_55_2 (sh_sI h)) ?_
      refine wp_ld (v := .int x1) dX8_image_33 rfl rfl rfl rfl ?_
      refine wp_cst (v := .int (1 : Int32)) dX8_image_34 rfl rfl ?_
      obtain ⟨g7, k⟩ := ok_g k
      refine wq_zast dX8_image_35 (kk_58 (sh_sI h)) g7 (j := (x1.toNatClampNeg)) rfl (w := (1 : Int32)) rfl ?_
      refine wp_cst (v := .int (0 : Int32)) dX8_image_36 rfl rfl ?_
      refine wp_st (ls' := [(0, .ref 55), (1, .int x1), (2, .int (0 : Int32))]) dX8_image_37 rfl rfl rfl (Nat.le_of_ble_eq_true rfl) rfl ?_
      refine lp_m k (fun P1 k hA hB => ?_)
      refine wp_sub (q_X8_image_38 ax_fuel (sh_sI (sh_sI h)) k (fun o s p h => hP o s (hA o s p) h) (fun e11 s12 p h => have k := hB e11 s12 p; ?_)) rfl ⟨rfl, rfl, rfl, trivial⟩
      exact wp_end dX8_image_69 rfl rfl (hP _ _ (ok_s k) h)
    · exact wp_end dX8_image_28 rfl rfl (hP _ _ (ok_s k) (sh_sI h))
  refine wp_if_eq dX8_image_10 rfl (fun c13 => have k := ok_pos c13 k; ?_) (fun c13 => have k := ok_neg c13 k; ?_)
  · refine wp_cst (v := .int (1 : Int32)) dX8_image_17 rfl rfl ?_
    exact wp_sub (HJ3 _ _ h k) rfl ⟨rfl, rfl, trivial⟩
  · refine wp_cst (v := .int (0 : Int32)) dX8_image_13 rfl rfl ?_
    refine wp_goto dX8_image_14 rfl ?_
    exact wp_sub (HJ3 _ _ h k) rfl ⟨rfl, rfl, trivial⟩
noncomputable def f_X7_needImageNumber (x1 : Int32) (s : am_S) : am_F :=
  if x1 < 0 then
    some (.inr 3, am_tick s)
  else
    if x1 < (3 : Int32) then
      some (.inl none, s)
    else
      some (.inr 3, am_tick s)
theorem s_X7_needImageNumber {N n : Nat} {d : Nat} {x1 : Int32} {s : am_S} (h : am_sh N n s)  : am_S1 (am_sh N n) (d) mX7_needImageNumber [.int x1] s (f_X7_needImageNumber x1 s) := by
  intro P Q k hP
  show am_WP (d) mX7_needImageNumber 0 [(0, .int x1)] [] s Q
  unfold f_X7_needImageNumber at k
  refine wp_ld (v := .int x1) dX7_needImageNumber_0 rfl rfl rfl rfl ?_
  refine wp_if_lt dX7_needImageNumber_1 rfl (fun c1 => have k := ok_pos c1 k; ?_) (fun c1 => have k := ok_neg c1 k; ?_)
  · exact wp_thr dX7_needImageNumber_9 rfl rfl (am_thr_2 rfl rfl dX7_needImageNumber_12 dX7_needImageNumber_13 dX7_needImageNumber_16 dX7_needImageNumber_19 rfl) (hP _ _ (ok_s k) (sh_tk h))
  · refine wp_ld (v := .int x1) dX7_needImageNumber_4 rfl rfl rfl rfl ?_
    refine wp_cst (v := .int (3 : Int32)) dX7_needImageNumber_5 rfl rfl ?_
    refine wp_ic_lt dX7_needImageNumber_6 rfl (fun c2 => have k := ok_pos c2 k; ?_) (fun c2 => have k := ok_neg c2 k; ?_)
    · exact wp_end dX7_needImageNumber_20 rfl rfl (hP _ _ (ok_s k) h)
    · exact wp_thr dX7_needImageNumber_9 rfl rfl (am_thr_2 rfl rfl dX7_needImageNumber_12 dX7_needImageNumber_13 dX7_needImageNumber_16 dX7_needImageNumber_19 rfl) (hP _ _ (ok_s k) (sh_tk h))
noncomputable def L_X5_copyFrom_41 : Nat → Nat → Nat → Int32 → am_S → am_FE (Unit)
  | 0, _, _, _, _ => none
  | m + 1, a0, a1, x2, s =>
    if (6 : Int32) ≤ x2 then
      some (.inr ((), s))
    else
      if am_in x2 6 = true then
        if am_in x2 6 = true then
          am_bu (f_X4_copyFrom (a0 + (10 + 2 * x2.toNatClampNeg)) (a1 + (10 + 2 * x2.toNatClampNeg)) s) (fun s7 =>
            L_X5_copyFrom_41 m a0 a1 (x2 + (1 : Int32)) s7
          )
        else none
      else none
theorem q_X5_copyFrom_41 : ∀ (m : Nat) {N n : Nat} {d : Nat} {a0 : Nat} {a1 : Nat} {x2 : Int32} {s : am_S} {P : (am_O × am_S) ⊕ (Unit × am_S) → Prop} {Q : am_O → am_S → Prop} (h : am_sh N n s) (fa0 : am_kf n a0 5) (fa1 : am_kf n a1 5) (k : am_ok (L_X5_copyFrom_41 m a0 a1 x2 s) P) (hP : ∀ o s, P (.inl (o, s)) → am_sh N n s → Q o s) (hX : ∀ (e : Unit) s, P (.inr (e, s)) → am_sh N n s → am_WP (d + 1) mX5_copyFrom 68 [(0, .ref a0), (1, .ref a1)] [] s Q), am_WP (d + 1) mX5_copyFrom 41 [(0, .ref a0), (1, .ref a1), (2, .int x2)] [] s Q := by
  intro m
  induction m with
  | zero =>
    intro N n d a0 a1 x2 s P Q h fa0 fa1 k hP hX
    exact (ok_no k).elim
  | succ m ih =>
    intro N n d a0 a1 x2 s P Q h fa0 fa1 k hP hX
    unfold L_X5_copyFrom_41 at k
    refine wp_ld (v := .int x2) dX5_copyFrom_41 rfl rfl rfl rfl ?_
    refine wp_cst (v := .int (6 : Int32)) dX5_copyFrom_42 rfl rfl ?_
    refine wp_ic_ge dX5_copyFrom_44 rfl (fun c2 => have k := ok_pos c2 k; ?_) (fun c2 => have k := ok_neg c2 k; ?_)
    · exact wp_sub (hX _ _ (ok_s k) h) rfl ⟨rfl, rfl, trivial⟩
    · refine wp_ld (v := .ref a0) dX5_copyFrom_47 rfl rfl rfl rfl ?_
      refine wp_gr dX5_copyFrom_48 rfl rfl (kk_f h fa0) (rr_st0 h fa0 rfl rfl) ?_
      refine wp_ld (v := .int x2) dX5_copyFrom_51 rfl rfl rfl rfl ?_
      obtain ⟨g3, k⟩ := ok_g k
      have f4 := kf_waysA h fa0 g3
      refine wq_aald dX5_copyFrom_52 (kk_st (j := 2) h fa0 (by decide) rfl) (by decide) g3 (rr_waysA h fa0 g3) ?_
      refine wp_ld (v := .ref a1) dX5_copyFrom_53 rfl rfl rfl rfl ?_
      refine wp_gr dX5_copyFrom_54 rfl rfl (kk_f h fa1) (rr_st0 h fa1 rfl rfl) ?_
      refine wp_ld (v := .int x2) dX5_copyFrom_57 rfl rfl rfl rfl ?_
      obtain ⟨g5, k⟩ := ok_g k
      have f6 := kf_waysA h fa1 g5
      refine wq_aald dX5_copyFrom_58 (kk_st (j := 2) h fa1 (by decide) rfl) (by decide) g5 (rr_waysA h fa1 g5) ?_
      refine c_u dX5_copyFrom_59 rfl rfl rfl (am_inv_v rfl (kk_f h f4) rfl rfl rfl) (s_X4_copyFrom h f4 f6) k (fun s7 h k => ?_)
      refine wp_inc (v := (x2 + (1 : Int32))) (ls' := [(0, .ref a0), (1, .ref a1), (2, .int (x2 + (1 : Int32)))]) dX5_copyFrom_62 rfl (Nat.le_of_ble_eq_true rfl) rfl rfl ?_
      refine wp_goto dX5_copyFrom_65 rfl ?_
      exact wp_sub (ih h fa0 fa1 k hP hX) rfl ⟨rfl, rfl, rfl, trivial⟩
noncomputable def L_X5_copyFrom_78 : Nat → Nat → Nat → Int32 → am_S → am_FE (Unit)
  | 0, _, _, _, _ => none
  | m + 1, a0, a1, x2, s =>
    if (5 : Int32) ≤ x2 then
      some (.inr ((), s))
    else
      if am_in x2 5 = true then
        if am_in x2 5 = true then
          am_bu (f_X4_copyFrom (a0 + (22 + 2 * x2.toNatClampNeg)) (a1 + (22 + 2 * x2.toNatClampNeg)) s) (fun s16 =>
            L_X5_copyFrom_78 m a0 a1 (x2 + (1 : Int32)) s16
          )
        else none
      else none
theorem q_X5_copyFrom_78 : ∀ (m : Nat) {N n : Nat} {d : Nat} {a0 : Nat} {a1 : Nat} {x2 : Int32} {s : am_S} {P : (am_O × am_S) ⊕ (Unit × am_S) → Prop} {Q : am_O → am_S → Prop} (h : am_sh N n s) (fa0 : am_kf n a0 5) (fa1 : am_kf n a1 5) (k : am_ok (L_X5_copyFrom_78 m a0 a1 x2 s) P) (hP : ∀ o s, P (.inl (o, s)) → am_sh N n s → Q o s) (hX : ∀ (e : Unit) s, P (.inr (e, s)) → am_sh N n s → am_WP (d + 1) mX5_copyFrom 104 [(0, .ref a0), (1, .ref a1)] [] s Q), am_WP (d + 1) mX5_copyFrom 78 [(0, .ref a0), (1, .ref a1), (2, .int x2)] [] s Q := by
  intro m
  induction m with
  | zero =>
    intro N n d a0 a1 x2 s P Q h fa0 fa1 k hP hX
    exact (ok_no k).elim
  | succ m ih =>
    intro N n d a0 a1 x2 s P Q h fa0 fa1 k hP hX
    unfold L_X5_copyFrom_78 at k
    refine wp_ld (v := .int x2) dX5_copyFrom_78 rfl rfl rfl rfl ?_
    refine wp_cst (v := .int (5 : Int32)) dX5_copyFrom_79 rfl rfl ?_
    refine wp_ic_ge dX5_copyFrom_80 rfl (fun c11 => have k := ok_pos c11 k; ?_) (fun c11 => have k := ok_neg c11 k; ?_)
    · exact wp_sub (hX _ _ (ok_s k) h) rfl ⟨rfl, rfl, trivial⟩
    · refine wp_ld (v := .ref a0) dX5_copyFrom_83 rfl rfl rfl rfl ?_
      refine wp_gr dX5_copyFrom_84 rfl rfl (kk_f h fa0) (rr_st0 h fa0 rfl rfl) ?_
      refine wp_ld (v := .int x2) dX5_copyFrom_87 rfl rfl rfl rfl ?_
      obtain ⟨g12, k⟩ := ok_g k
      have f13 := kf_handsA h fa0 g12
      refine wq_aald dX5_copyFrom_88 (kk_st (j := 3) h fa0 (by decide) rfl) (by decide) g12 (rr_handsA h fa0 g12) ?_
      refine wp_ld (v := .ref a1) dX5_copyFrom_89 rfl rfl rfl rfl ?_
      refine wp_gr dX5_copyFrom_90 rfl rfl (kk_f h fa1) (rr_st0 h fa1 rfl rfl) ?_
      refine wp_ld (v := .int x2) dX5_copyFrom_93 rfl rfl rfl rfl ?_
      obtain ⟨g14, k⟩ := ok_g k
      have f15 := kf_handsA h fa1 g14
      refine wq_aald dX5_copyFrom_94 (kk_st (j := 3) h fa1 (by decide) rfl) (by decide) g14 (rr_handsA h fa1 g14) ?_
      refine c_u dX5_copyFrom_95 rfl rfl rfl (am_inv_v rfl (kk_f h f13) rfl rfl rfl) (s_X4_copyFrom h f13 f15) k (fun s16 h k => ?_)
      refine wp_inc (v := (x2 + (1 : Int32))) (ls' := [(0, .ref a0), (1, .ref a1), (2, .int (x2 + (1 : Int32)))]) dX5_copyFrom_98 rfl (Nat.le_of_ble_eq_true rfl) rfl rfl ?_
      refine wp_goto dX5_copyFrom_101 rfl ?_
      exact wp_sub (ih h fa0 fa1 k hP hX) rfl ⟨rfl, rfl, rfl, trivial⟩
noncomputable def f_X5_copyFrom (a : Nat) (b1 : Nat) (s : am_S) : am_F :=
  ax_le (am_I (am_sI (am_sI s a 0 (am_I s b1 0)) a 1 (am_I (am_sI s a 0 (am_I s b1 0)) b1 1)) b1 2) (fun y1 =>
    am_lm (L_X5_copyFrom_41 ax_fuel a b1 (0 : Int32) (am_sA (am_sI (am_sI (am_sI s a 0 (am_I s b1 0)) a 1 (am_I (am_sI s a 0 (am_I s b1 0)) b1 1)) a 2 y1) (a + 1) (va_cpy (am_I (am_sI (am_sI (am_sI s a 0 (am_I s b1 0)) a 1 (am_I (am_sI s a 0 (am_I s b1 0)) b1 1)) a 2 y1) (b1 + 1)) (am_I (am_sI (am_sI (am_sI s a 0 (am_I s b1 0)) a 1 (am_I (am_sI s a 0 (am_I s b1 0)) b1 1)) a 2 y1) (a + 1)) 0 0 23))) (fun e9 s10 =>
      am_lm (L_X5_copyFrom_78 ax_fuel a b1 (0 : Int32) (am_sI s10 a 5 (am_I s10 b1 5))) (fun e18 s19 =>
        am_bu (f_X4_copyFrom (a + 4) (b1 + 4) (am_sI s19 a 7 (am_I s19 b1 7))) (fun s20 =>
          am_bu (f_X4_copyFrom (a + 6) (b1 + 6) s20) (fun s22 =>
            am_bu (f_X4_copyFrom (a + 8) (b1 + 8) s22) (fun s24 =>
              some (.inl none, s24)
            )
          )
        )
      )
    )
  )
theorem s_X5_copyFrom {N n : Nat} {d : Nat} {a : Nat} {b1 : Nat} {s : am_S} (h : am_sh N n s) (fa : am_kf n a 5) (fb1 : am_kf n b1 5) : am_S1 (am_sh N n) (d + 1) mX5_copyFrom [.ref a, .ref b1] s (f_X5_copyFrom a b1 s) := by
  intro P Q k hP
  show am_WP (d + 1) mX5_copyFrom 0 [(0, .ref a), (1, .ref b1)] [] s Q
  unfold f_X5_copyFrom at k
  refine wp_ld (v := .ref a) dX5_copyFrom_0 rfl rfl rfl rfl ?_
  refine wp_ld (v := .ref b1) dX5_copyFrom_1 rfl rfl rfl rfl ?_
  refine wq_gI dX5_copyFrom_2 rfl rfl (kk_f h fb1) (v := (am_I s b1 0)) rfl ?_
  refine wp_pI dX5_copyFrom_5 rfl rfl rfl (fun h => absurd h (by decide)) (kk_f h fa) ?_
  refine wp_ld (v := .ref a) dX5_copyFrom_8 rfl rfl rfl rfl ?_
  refine wp_ld (v := .ref b1) dX5_copyFrom_9 rfl rfl rfl rfl ?_
  refine wq_gI dX5_copyFrom_10 rfl rfl (kk_f (sh_sI h) fb1) (v := (am_I (am_sI s a 0 (am_I s b1 0)) b1 1)) rfl ?_
  refine wp_pI dX5_copyFrom_13 rfl rfl rfl (fun h => absurd h (by decide)) (kk_f (sh_sI h) fa) ?_
  refine wp_ld (v := .ref a) dX5_copyFrom_16 rfl rfl rfl rfl ?_
  refine wp_ld (v := .ref b1) dX5_copyFrom_17 rfl rfl rfl rfl ?_
  refine wq_gI dX5_copyFrom_18 rfl rfl (kk_f (sh_sI (sh_sI h)) fb1) (v := (am_I (am_sI (am_sI s a 0 (am_I s b1 0)) a 1 (am_I (am_sI s a 0 (am_I s b1 0)) b1 1)) b1 2)) rfl ?_
  show am_WP (d + 1) mX5_copyFrom 21 _ _ _ Q
  refine ls_i k (fun y1 _ k => ?_)
  refine wp_pI dX5_copyFrom_21 rfl rfl rfl (fun h => absurd h (by decide)) (kk_f (sh_sI (sh_sI h)) fa) ?_
  refine wp_ld (v := .ref b1) dX5_copyFrom_24 rfl rfl rfl rfl ?_
  refine wp_gr dX5_copyFrom_25 rfl rfl (kk_f (sh_sI (sh_sI (sh_sI h))) fb1) (rr_st0 (sh_sI (sh_sI (sh_sI h))) fb1 rfl rfl) ?_
  refine wp_cst (v := .int (0 : Int32)) dX5_copyFrom_28 rfl rfl ?_
  refine wp_ld (v := .ref a) dX5_copyFrom_29 rfl rfl rfl rfl ?_
  refine wp_gr dX5_copyFrom_30 rfl rfl (kk_f (sh_sI (sh_sI (sh_sI h))) fa) (rr_st0 (sh_sI (sh_sI (sh_sI h))) fa rfl rfl) ?_
  refine wp_cst (v := .int (0 : Int32)) dX5_copyFrom_33 rfl rfl ?_
  refine wp_cst (v := .int (23 : Int32)) dX5_copyFrom_34 rfl rfl ?_
  refine wq_ac dX5_copyFrom_36 rfl (kk_st (j := 1) (sh_sI (sh_sI (sh_sI h))) fb1 (by decide) rfl) (by decide) (kk_st (j := 1) (sh_sI (sh_sI (sh_sI h))) fa (by decide) rfl) rfl rfl (m := 23) rfl (by decide) (by decide) (by decide) (Nat.le_of_ble_eq_true rfl) ?_
  refine wp_cst (v := .int (0 : Int32)) dX5_copyFrom_39 rfl rfl ?_
  refine wp_st (ls' := [(0, .ref a), (1, .ref b1), (2, .int (0 : Int32))]) dX5_copyFrom_40 rfl rfl rfl (Nat.le_of_ble_eq_true rfl) rfl ?_
  refine lp_m k (fun P1 k hA hB => ?_)
  refine wp_sub (q_X5_copyFrom_41 ax_fuel (sh_sA (sh_sI (sh_sI (sh_sI h)))) fa fb1 k (fun o s p h => hP o s (hA o s p) h) (fun e9 s10 p h => have k := hB e9 s10 p; ?_)) rfl ⟨rfl, rfl, rfl, trivial⟩
  refine wp_ld (v := .ref a) dX5_copyFrom_68 rfl rfl rfl rfl ?_
  refine wp_ld (v := .ref b1) dX5_copyFrom_69 rfl rfl rfl rfl ?_
  refine wq_gI dX5_copyFrom_70 rfl rfl (kk_f h fb1) (v := (am_I s10 b1 5)) rfl ?_
  refine wp_pI dX5_copyFrom_73 rfl rfl rfl (fun h => absurd h (by decide)) (kk_f h fa) ?_
  refine wp_cst (v := .int (0 : Int32)) dX5_copyFrom_76 rfl rfl ?_
  refine wp_st (ls' := [(0, .ref a), (1, .ref b1), (2, .int (0 : Int32))]) dX5_copyFrom_77 rfl rfl rfl (Nat.le_of_ble_eq_true rfl) rfl ?_
  refine lp_m k (fun P1 k hA hB => ?_)
  refine wp_sub (q_X5_copyFrom_78 ax_fuel (sh_sI h) fa fb1 k (fun o s p h => hP o s (hA o s p) h) (fun e18 s19 p h => have k := hB e18 s19 p; ?_)) rfl ⟨rfl, rfl, rfl, trivial⟩
  refine wp_ld (v := .ref a) dX5_copyFrom_104 rfl rfl rfl rfl ?_
  refine wp_ld (v := .ref b1) dX5_copyFrom_105 rfl rfl rfl rfl ?_
  refine wq_gI dX5_copyFrom_106 rfl rfl (kk_f h fb1) (v := (am_I s19 b1 7)) rfl ?_
  refine wp_pI dX5_copyFrom_109 rfl rfl rfl (fun h => absurd h (by decide)) (kk_f h fa) ?_
  refine wp_ld (v := .ref a) dX5_copyFrom_112 rfl rfl rfl rfl ?_
  refine wp_gr dX5_copyFrom_113 rfl rfl (kk_f (sh_sI h) fa) (rr_st0 (sh_sI h) fa rfl rfl) ?_
  refine wp_ld (v := .ref b1) dX5_copyFrom_116 rfl rfl rfl rfl ?_
  refine wp_gr dX5_copyFrom_117 rfl rfl (kk_f (sh_sI h) fb1) (rr_st0 (sh_sI h) fb1 rfl rfl) ?_
  refine c_u dX5_copyFrom_120 rfl rfl rfl (am_inv_v rfl (kk_f (sh_sI h) (kf_st (j := 4) h fa (by decide) rfl)) rfl rfl rfl) (s_X4_copyFrom (sh_sI h) (kf_st (j := 4) h fa (by decide) rfl) (kf_st (j := 4) h fb1 (by decide) rfl)) k (fun s20 h k => ?_)
  refine wp_ld (v := .ref a) dX5_copyFrom_123 rfl rfl rfl rfl ?_
  refine wp_gr dX5_copyFrom_124 rfl rfl (kk_f h fa) (rr_st0 h fa rfl rfl) ?_
  refine wp_ld (v := .ref b1) dX5_copyFrom_127 rfl rfl rfl rfl ?_
  refine wp_gr dX5_copyFrom_128 rfl rfl (kk_f h fb1) (rr_st0 h fb1 rfl rfl) ?_
  refine c_u dX5_copyFrom_131 rfl rfl rfl (am_inv_v rfl (kk_f h (kf_st (j := 6) h fa (by decide) rfl)) rfl rfl rfl) (s_X4_copyFrom h (kf_st (j := 6) h fa (by decide) rfl) (kf_st (j := 6) h fb1 (by decide) rfl)) k (fun s22 h k => ?_)
  refine wp_ld (v := .ref a) dX5_copyFrom_134 rfl rfl rfl rfl ?_
  refine wp_gr dX5_copyFrom_135 rfl rfl (kk_f h fa) (rr_st0 h fa rfl rfl) ?_
  refine wp_ld (v := .ref b1) dX5_copyFrom_138 rfl rfl rfl rfl ?_
  refine wp_gr dX5_copyFrom_139 rfl rfl (kk_f h fb1) (rr_st0 h fb1 rfl rfl) ?_
  refine c_u dX5_copyFrom_142 rfl rfl rfl (am_inv_v rfl (kk_f h (kf_st (j := 8) h fa (by decide) rfl)) rfl rfl rfl) (s_X4_copyFrom h (kf_st (j := 8) h fa (by decide) rfl) (kf_st (j := 8) h fb1 (by decide) rfl)) k (fun s24 h k => ?_)
  exact wp_end dX5_copyFrom_145 rfl rfl (hP _ _ (ok_s k) h)
noncomputable def f_X7_restore (x1 : Int32) (s : am_S) : am_F :=
  am_tu (f_X7_needImageNumber x1 s) (fun s1 =>
    if am_in x1 3 = true then
      am_mr (am_R s1 33 x1.toNatClampNeg) (
        some (.inr 1, am_tick s1)
      ) (fun t4 =>
        am_bu (f_X5_copyFrom 1 t4 s1) (fun s7 =>
          some (.inl none, s7)
        )
      )
    else none
  )
theorem s_X7_restore {N n : Nat} {d : Nat} {x1 : Int32} {s : am_S} (h : am_sh N n s)  : am_S1 (am_sh N n) (d + 2) mX7_restore [.ref 0, .int x1] s (f_X7_restore x1 s) := by
  intro P Q k hP
  show am_WP (d + 2) mX7_restore 0 [(0, .ref 0), (1, .int x1)] [] s Q
  unfold f_X7_restore at k
  refine wp_ld (v := .int x1) dX7_restore_0 rfl rfl rfl rfl ?_
  refine t_u dX7_restore_1 rfl rfl rfl (am_inv_s rfl rfl rfl rfl) (s_X7_needImageNumber h) k rfl rfl hP (fun s1 h k => ?_)
  refine wp_ld (v := .ref 0) dX7_restore_4 rfl rfl rfl rfl ?_
  refine wp_gr dX7_restore_5 rfl rfl (kk_0 h) (rr_0_1 h) ?_
  refine wp_ld (v := .int x1) dX7_restore_8 rfl rfl rfl rfl ?_
  obtain ⟨g3, k⟩ := ok_g k
  rcases ok_mr k with ⟨c5, k⟩ | ⟨t4, c5, k⟩
  · refine wq_aaln dX7_restore_9 (kk_33 h) (by decide) g3 c5 ?_
    refine wp_st (ls' := [(0, .ref 0), (1, .int x1), (2, .null)]) dX7_restore_10 rfl rfl rfl (Nat.le_of_ble_eq_true rfl) rfl ?_
    refine wp_ld (v := .null) dX7_restore_11 rfl rfl rfl rfl ?_
    refine wp_jp dX7_restore_12 rfl rfl ?_
    exact wp_thr dX7_restore_15 rfl rfl (am_thr_2 rfl rfl dX7_restore_18 dX7_restore_19 dX7_restore_22 dX7_restore_25 rfl) (hP _ _ (ok_s k) (sh_tk h))
  · have f6 := kf_img h c5
    refine wq_aald dX7_restore_9 (kk_33 h) (by decide) g3 c5 ?_
    refine wp_st (ls' := [(0, .ref 0), (1, .int x1), (2, .ref t4)]) dX7_restore_10 rfl rfl rfl (Nat.le_of_ble_eq_true rfl) rfl ?_
    refine wp_ld (v := .ref t4) dX7_restore_11 rfl rfl rfl rfl ?_
    refine wp_jp dX7_restore_12 rfl rfl ?_
    refine wp_ld (v := .ref 0) dX7_restore_26 rfl rfl rfl rfl ?_
    refine wp_gr dX7_restore_27 rfl rfl (kk_0 h) (rr_0_0 h) ?_
    refine wp_ld (v := .ref t4) dX7_restore_30 rfl rfl rfl rfl ?_
    refine c_u dX7_restore_31 rfl rfl rfl (am_inv_v rfl (kk_1 h) rfl rfl rfl) (s_X5_copyFrom h (kf_1 h) f6) k (fun s7 h k => ?_)
    exact wp_end dX7_restore_34 rfl rfl (hP _ _ (ok_s k) h)
noncomputable def f_L_restore (x2 : Int32) (s : am_S) : am_F :=
  am_xu (f_X7_restore x2 s) (fun s1 =>
    some (.inl (some (.int (0 : Int32))), s1)
  ) (fun e s1 =>
    if e = 3 then
      some (.inl (some (.int (1 : Int32))), s1)
    else
      if e = 1 then
        some (.inl (some (.int (2 : Int32))), s1)
      else
        none
  )
theorem s_L_restore {N : Nat} {d : Nat} {x2 : Int32} {s : am_S} (h : am_shE N s)  : am_S1 (am_shE N) (d + 3) mL_restore [.ref 0, .int x2] s (f_L_restore x2 s) := by
  intro P Q k hP
  show am_WP (d + 3) mL_restore 0 [(0, .ref 0), (1, .int x2)] [] s Q
  unfold f_L_restore at k
  refine wp_ld (v := .ref 0) dL_restore_0 rfl rfl rfl rfl ?_
  refine wp_ld (v := .int x2) dL_restore_1 rfl rfl rfl rfl ?_
  refine x_u dL_restore_2 rfl rfl rfl (am_inv_v rfl (kE_0 h) rfl rfl rfl) (sE h (fun _ h => s_X7_restore h)) k rfl (List.cons_ne_nil _ _) (fun s1 h k => ?_) (fun e s1 h k => ?_)
  · refine wp_goto dL_restore_5 rfl ?_
    refine wp_cst (v := .int (0 : Int32)) dL_restore_14 rfl rfl ?_
    exact wp_end dL_restore_15 rfl (am_end_i rfl) (hP _ _ (ok_s k) h)
  · by_cases c3 : e = 3
    · have k := ok_pos c3 k
      subst c3
      refine ⟨_, _, rfl, ?_⟩
      refine wp_cst (v := .int (1 : Int32)) dL_restore_9 rfl rfl ?_
      exact wp_end dL_restore_10 rfl (am_end_i rfl) (hP _ _ (ok_s k) h)
    replace k := ok_neg c3 k
    by_cases c4 : e = 1
    · have k := ok_pos c4 k
      subst c4
      refine ⟨_, _, rfl, ?_⟩
      refine wp_cst (v := .int (2 : Int32)) dL_restore_12 rfl rfl ?_
      exact wp_end dL_restore_13 rfl (am_end_i rfl) (hP _ _ (ok_s k) h)
    replace k := ok_neg c4 k
    exact (ok_no k).elim
noncomputable def L_X8_restore_44 : Nat → Int32 → Int32 → am_S → am_FE (Unit)
  | 0, _, _, _ => none
  | m + 1, x1, x2, s =>
    if (264 : Int32) ≤ x2 then
      some (.inr ((), s))
    else
      if am_in (((264 : Int32) * x1) + x2) 792 = true then
        if am_in x2 264 = true then
          L_X8_restore_44 m x1 (x2 + (1 : Int32)) (am_sI s 56 (x2.toNatClampNeg) (am_I s 57 ((((264 : Int32) * x1) + x2).toNatClampNeg)))
        else none
      else none
theorem q_X8_restore_44 : ∀ (m : Nat) {N n : Nat} {d : Nat} {x1 : Int32} {x2 : Int32} {s : am_S} {P : (am_O × am_S) ⊕ (Unit × am_S) → Prop} {Q : am_O → am_S → Prop} (h : am_sh N n s)  (k : am_ok (L_X8_restore_44 m x1 x2 s) P) (hP : ∀ o s, P (.inl (o, s)) → am_sh N n s → Q o s) (hX : ∀ (e : Unit) s, P (.inr (e, s)) → am_sh N n s → am_WP (d + 1) mX8_restore 75 [] [] s Q), am_WP (d + 1) mX8_restore 44 [(0, .ref 55), (1, .int x1), (2, .int x2)] [] s Q := by
  intro m
  induction m with
  | zero =>
    intro N n d x1 x2 s P Q h  k hP hX
    exact (ok_no k).elim
  | succ m ih =>
    intro N n d x1 x2 s P Q h  k hP hX
    unfold L_X8_restore_44 at k
    refine wp_ld (v := .int x2) dX8_restore_44 rfl rfl rfl rfl ?_
    refine wp_cst (v := .int (264 : Int32)) dX8_restore_45 rfl rfl ?_
    refine wp_ic_ge dX8_restore_48 rfl (fun c7 => have k := ok_pos c7 k; ?_) (fun c7 => have k := ok_neg c7 k; ?_)
    · exact wp_sub (hX _ _ (ok_s k) h) rfl trivial
    · refine wp_ld (v := .ref 55) dX8_restore_51 rfl rfl rfl rfl ?_
      refine wp_gr dX8_restore_52 rfl rfl (kk_55 h) (rr_55_0 h) ?_
      refine wp_ld (v := .int x2) dX8_restore_55 rfl rfl rfl rfl ?_
      refine wp_ld (v := .ref 55) dX8_restore_56 rfl rfl rfl rfl ?_
      refine wp_gr dX8_restore_57 rfl rfl (kk_55 h) (rr_55_1 h) ?_
      refine wp_cst (v := .int (264 : Int32)) dX8_restore_60 rfl rfl ?_
      refine wp_ld (v := .int x1) dX8_restore_63 rfl rfl rfl rfl ?_
      refine wp_pu dX8_restore_64 rfl rfl ?_
      refine wp_ld (v := .int x2) dX8_restore_65 rfl rfl rfl rfl ?_
      refine wp_pu dX8_restore_66 rfl rfl ?_
      obtain ⟨g8, k⟩ := ok_g k
      refine wq_iald dX8_restore_67 (kk_57 h) g8 (v := (am_I s 57 ((((264 : Int32) * x1) + x2).toNatClampNeg))) rfl ?_
      show am_WP (d + 1) mX8_restore 68 _ _ _ Q
      obtain ⟨g9, k⟩ := ok_g k
      refine wq_iast dX8_restore_68 (kk_56 h) g9 (j := (x2.toNatClampNeg)) rfl ?_
      refine wp_inc (v := (x2 + (1 : Int32))) (ls' := [(0, .ref 55), (1, .int x1), (2, .int (x2 + (1 : Int32)))]) dX8_restore_69 rfl (Nat.le_of_ble_eq_true rfl) rfl rfl ?_
      refine wp_goto dX8_restore_72 rfl ?_
      exact wp_sub (ih (sh_sI h) k hP hX) rfl ⟨rfl, rfl, rfl, trivial⟩
noncomputable def f_X8_restore (x1 : Int32) (s : am_S) : am_F :=
  am_bi (f_X8_within x1.toInt64 (0 : Int64) (2 : Int64) s) (fun v2 s1 =>
    am_jn (fun (e4 : Int32) s5 =>
      if e4 ≤ 0 then
        am_lm (L_X8_restore_44 ax_fuel x1 (0 : Int32) (am_sI s5 55 3 e4)) (fun e10 s11 =>
          some (.inl none, s11)
        )
      else
        some (.inl none, (am_sI s5 55 3 e4))
    ) (fun J3 =>
      if v2 = 0 then
        J3 (1 : Int32) s1
      else
        if am_in x1 3 = true then
          if (am_I s1 58 x1.toNatClampNeg) = 0 then
            J3 (2 : Int32) s1
          else
            J3 (0 : Int32) s1
        else none
    )
  )
theorem s_X8_restore {N n : Nat} {d : Nat} {x1 : Int32} {s : am_S} (h : am_sh N n s)  : am_S1 (am_sh N n) (d + 1) mX8_restore [.ref 55, .int x1] s (f_X8_restore x1 s) := by
  intro P Q k hP
  show am_WP (d + 1) mX8_restore 0 [(0, .ref 55), (1, .int x1)] [] s Q
  unfold f_X8_restore at k
  refine wp_ld (v := .ref 55) dX8_restore_0 rfl rfl rfl rfl ?_
  refine wp_ld (v := .int x1) dX8_restore_1 rfl rfl rfl rfl ?_
  refine wp_pu dX8_restore_2 rfl rfl ?_
  refine wp_cst (v := .long (0 : Int64)) dX8_restore_3 rfl rfl ?_
  refine wp_cst (v := .long (2 : Int64)) dX8_restore_4 rfl rfl ?_
  refine c_i dX8_restore_7 rfl rfl rfl (am_inv_s rfl rfl rfl rfl) (s_X8_within h) k (fun v2 s1 h k => ?_)
  refine jn_rule k (fun J3 hJ3 k => ?_)
  have HJ3 : ∀ (e4 : Int32) (s5 : am_S), am_sh N n s5 → am_ok (J3 e4 s5) P → am_WP (d + 1) mX8_restore 31 [(0, .ref 55), (1, .int x1)] [.int e4, .ref 55] s5 Q := by
    intro e4 s5 h k
    replace k := hJ3 _ _ k
    refine wp_pI dX8_restore_31 rfl rfl rfl (fun h => absurd h (by decide)) (kk_55 h) ?_
    refine wp_ld (v := .ref 55) dX8_restore_34 rfl rfl rfl rfl ?_
    refine wq_gI dX8_restore_35 rfl rfl (kk_55 (sh_sI h)) (v := e4) rfl ?_
    refine wp_if_le dX8_restore_38 rfl (fun c6 => have k := ok_pos c6 k; ?_) (fun c6 => have k := ok_neg c6 k; ?_)
    · refine wp_cst (v := .int (0 : Int32)) dX8_restore_42 rfl rfl ?_
      refine wp_st (ls' := [(0, .ref 55), (1, .int x1), (2, .int (0 : Int32))]) dX8_restore_43 rfl rfl rfl (Nat.le_of_ble_eq_true rfl) rfl ?_
      refine lp_m k (fun P1 k hA hB => ?_)
      refine wp_sub (q_X8_restore_44 ax_fuel (sh_sI h) k (fun o s p h => hP o s (hA o s p) h) (fun e10 s11 p h => have k := hB e10 s11 p; ?_)) rfl ⟨rfl, rfl, rfl, trivial⟩
      exact wp_end dX8_restore_75 rfl rfl (hP _ _ (ok_s k) h)
    · exact wp_end dX8_restore_41 rfl rfl (hP _ _ (ok_s k) (sh_sI h))
  refine wp_if_ne dX8_restore_10 rfl (fun c12 => have k := ok_neg c12 k; ?_) (fun c12 => have k := ok_pos c12 k; ?_)
  · refine wp_ld (v := .ref 55) dX8_restore_17 rfl rfl rfl rfl ?_
    refine wp_gr dX8_restore_18 rfl rfl (kk_55 h) (rr_55_2 h) ?_
    refine wp_ld (v := .int x1) dX8_restore_21 rfl rfl rfl rfl ?_
    obtain ⟨g13, k⟩ := ok_g k
    refine wq_zald dX8_restore_22 (kk_58 h) g13 (v := (am_I s1 58 x1.toNatClampNeg)) rfl ?_
    refine wp_if_ne dX8_restore_23 rfl (fun c14 => have k := ok_neg c14 k; ?_) (fun c14 => have k := ok_pos c14 k; ?_)
    · refine wp_cst (v := .int (0 : Int32)) dX8_restore_30 rfl rfl ?_
      exact wp_sub (HJ3 _ _ h k) rfl ⟨rfl, rfl, trivial⟩
    · refine wp_cst (v := .int (2 : Int32)) dX8_restore_26 rfl rfl ?_
      refine wp_goto dX8_restore_27 rfl ?_
      exact wp_sub (HJ3 _ _ h k) rfl ⟨rfl, rfl, trivial⟩
  · refine wp_cst (v := .int (1 : Int32)) dX8_restore_13 rfl rfl ?_
    refine wp_goto dX8_restore_14 rfl ?_
    exact wp_sub (HJ3 _ _ h k) rfl ⟨rfl, rfl, trivial⟩
noncomputable def f_X7_count (x1 : Int32) (s : am_S) : am_F :=
  if x1 = (0 : Int32) then
    some (.inl (some (.int (am_I s 1 5))), s)
  else if x1 = (1 : Int32) then
    some (.inl (some (.int (am_I s 1 7))), s)
  else if x1 = (2 : Int32) then
    some (.inl (some (.int (am_I s 1 0))), s)
  else if x1 = (3 : Int32) then
    some (.inl (some (.int (am_I s 1 1))), s)
  else if x1 = (4 : Int32) then
    some (.inl (some (.int (am_I s 34 1))), s)
  else if x1 = (5 : Int32) then
    some (.inl (some (.int (am_I s 2 18))), s)
  else if x1 = (6 : Int32) then
    some (.inl (some (.int (am_I s 2 19))), s)
  else if x1 = (7 : Int32) then
    some (.inl (some (.int (am_I s 2 20))), s)
  else if x1 = (8 : Int32) then
    some (.inl (some (.int (am_I s 2 21))), s)
  else if x1 = (9 : Int32) then
    some (.inl (some (.int (am_I s 2 22))), s)
  else if x1 = (10 : Int32) then
    some (.inl (some (.int (am_I s 5 2))), s)
  else if x1 = (11 : Int32) then
    some (.inl (some (.int (am_I s 7 2))), s)
  else if x1 = (12 : Int32) then
    some (.inl (some (.int (am_I s 9 2))), s)
  else if x1 = (13 : Int32) then
    some (.inl (some (.int (am_I s 1 2))), s)
  else
    some (.inl (some (.int (-1 : Int32))), s)
theorem s_X7_count {N n : Nat} {d : Nat} {x1 : Int32} {s : am_S} (h : am_sh N n s)  : am_S1 (am_sh N n) (d) mX7_count [.ref 0, .int x1] s (f_X7_count x1 s) := by
  intro P Q k hP
  show am_WP (d) mX7_count 0 [(0, .ref 0), (1, .int x1)] [] s Q
  unfold f_X7_count at k
  refine wp_ld (v := .int x1) dX7_count_0 rfl rfl rfl rfl ?_
  by_cases c1 : x1 = (0 : Int32)
  · have k := ok_pos c1 k
    refine sw_hit dX7_count_1 rfl c1 rfl ?_
    refine wp_ld (v := .ref 0) dX7_count_72 rfl rfl rfl rfl ?_
    refine wp_gr dX7_count_73 rfl rfl (kk_0 h) (rr_0_0 h) ?_
    refine wq_gI dX7_count_76 rfl rfl (kk_1 h) (v := (am_I s 1 5)) rfl ?_
    exact wp_end dX7_count_79 rfl (am_end_i rfl) (hP _ _ (ok_s k) h)
  replace k := ok_neg c1 k
  by_cases c2 : x1 = (1 : Int32)
  · have k := ok_pos c2 k
    refine sw_hit dX7_count_1 rfl c2 rfl ?_
    refine wp_ld (v := .ref 0) dX7_count_80 rfl rfl rfl rfl ?_
    refine wp_gr dX7_count_81 rfl rfl (kk_0 h) (rr_0_0 h) ?_
    refine wq_gI dX7_count_84 rfl rfl (kk_1 h) (v := (am_I s 1 7)) rfl ?_
    exact wp_end dX7_count_87 rfl (am_end_i rfl) (hP _ _ (ok_s k) h)
  replace k := ok_neg c2 k
  by_cases c3 : x1 = (2 : Int32)
  · have k := ok_pos c3 k
    refine sw_hit dX7_count_1 rfl c3 rfl ?_
    refine wp_ld (v := .ref 0) dX7_count_88 rfl rfl rfl rfl ?_
    refine wp_gr dX7_count_89 rfl rfl (kk_0 h) (rr_0_0 h) ?_
    refine wq_gI dX7_count_92 rfl rfl (kk_1 h) (v := (am_I s 1 0)) rfl ?_
    exact wp_end dX7_count_95 rfl (am_end_i rfl) (hP _ _ (ok_s k) h)
  replace k := ok_neg c3 k
  by_cases c4 : x1 = (3 : Int32)
  · have k := ok_pos c4 k
    refine sw_hit dX7_count_1 rfl c4 rfl ?_
    refine wp_ld (v := .ref 0) dX7_count_96 rfl rfl rfl rfl ?_
    refine wp_gr dX7_count_97 rfl rfl (kk_0 h) (rr_0_0 h) ?_
    refine wq_gI dX7_count_100 rfl rfl (kk_1 h) (v := (am_I s 1 1)) rfl ?_
    exact wp_end dX7_count_103 rfl (am_end_i rfl) (hP _ _ (ok_s k) h)
  replace k := ok_neg c4 k
  by_cases c5 : x1 = (4 : Int32)
  · have k := ok_pos c5 k
    refine sw_hit dX7_count_1 rfl c5 rfl ?_
    refine wp_ld (v := .ref 0) dX7_count_104 rfl rfl rfl rfl ?_
    refine wp_gr dX7_count_105 rfl rfl (kk_0 h) (rr_0_2 h) ?_
    refine wq_gI dX7_count_108 rfl rfl (kk_34 h) (v := (am_I s 34 1)) rfl ?_
    exact wp_end dX7_count_111 rfl (am_end_i rfl) (hP _ _ (ok_s k) h)
  replace k := ok_neg c5 k
  by_cases c6 : x1 = (5 : Int32)
  · have k := ok_pos c6 k
    refine sw_hit dX7_count_1 rfl c6 rfl ?_
    refine wp_ld (v := .ref 0) dX7_count_112 rfl rfl rfl rfl ?_
    refine wp_gr dX7_count_113 rfl rfl (kk_0 h) (rr_0_0 h) ?_
    refine wp_gr dX7_count_116 rfl rfl (kk_1 h) (rr_1_3 h) ?_
    refine wp_cst (v := .int (18 : Int32)) dX7_count_119 rfl rfl ?_
    refine wq_iald dX7_count_121 (kk_2 h) (by decide) (v := (am_I s 2 18)) rfl ?_
    exact wp_end dX7_count_122 rfl (am_end_i rfl) (hP _ _ (ok_s k) h)
  replace k := ok_neg c6 k
  by_cases c7 : x1 = (6 : Int32)
  · have k := ok_pos c7 k
    refine sw_hit dX7_count_1 rfl c7 rfl ?_
    refine wp_ld (v := .ref 0) dX7_count_123 rfl rfl rfl rfl ?_
    refine wp_gr dX7_count_124 rfl rfl (kk_0 h) (rr_0_0 h) ?_
    refine wp_gr dX7_count_127 rfl rfl (kk_1 h) (rr_1_3 h) ?_
    refine wp_cst (v := .int (19 : Int32)) dX7_count_130 rfl rfl ?_
    refine wq_iald dX7_count_132 (kk_2 h) (by decide) (v := (am_I s 2 19)) rfl ?_
    exact wp_end dX7_count_133 rfl (am_end_i rfl) (hP _ _ (ok_s k) h)
  replace k := ok_neg c7 k
  by_cases c8 : x1 = (7 : Int32)
  · have k := ok_pos c8 k
    refine sw_hit dX7_count_1 rfl c8 rfl ?_
    refine wp_ld (v := .ref 0) dX7_count_134 rfl rfl rfl rfl ?_
    refine wp_gr dX7_count_135 rfl rfl (kk_0 h) (rr_0_0 h) ?_
    refine wp_gr dX7_count_138 rfl rfl (kk_1 h) (rr_1_3 h) ?_
    refine wp_cst (v := .int (20 : Int32)) dX7_count_141 rfl rfl ?_
    refine wq_iald dX7_count_143 (kk_2 h) (by decide) (v := (am_I s 2 20)) rfl ?_
    exact wp_end dX7_count_144 rfl (am_end_i rfl) (hP _ _ (ok_s k) h)
  replace k := ok_neg c8 k
  by_cases c9 : x1 = (8 : Int32)
  · have k := ok_pos c9 k
    refine sw_hit dX7_count_1 rfl c9 rfl ?_
    refine wp_ld (v := .ref 0) dX7_count_145 rfl rfl rfl rfl ?_
    refine wp_gr dX7_count_146 rfl rfl (kk_0 h) (rr_0_0 h) ?_
    refine wp_gr dX7_count_149 rfl rfl (kk_1 h) (rr_1_3 h) ?_
    refine wp_cst (v := .int (21 : Int32)) dX7_count_152 rfl rfl ?_
    refine wq_iald dX7_count_154 (kk_2 h) (by decide) (v := (am_I s 2 21)) rfl ?_
    exact wp_end dX7_count_155 rfl (am_end_i rfl) (hP _ _ (ok_s k) h)
  replace k := ok_neg c9 k
  by_cases c10 : x1 = (9 : Int32)
  · have k := ok_pos c10 k
    refine sw_hit dX7_count_1 rfl c10 rfl ?_
    refine wp_ld (v := .ref 0) dX7_count_156 rfl rfl rfl rfl ?_
    refine wp_gr dX7_count_157 rfl rfl (kk_0 h) (rr_0_0 h) ?_
    refine wp_gr dX7_count_160 rfl rfl (kk_1 h) (rr_1_3 h) ?_
    refine wp_cst (v := .int (22 : Int32)) dX7_count_163 rfl rfl ?_
    refine wq_iald dX7_count_165 (kk_2 h) (by decide) (v := (am_I s 2 22)) rfl ?_
    exact wp_end dX7_count_166 rfl (am_end_i rfl) (hP _ _ (ok_s k) h)
  replace k := ok_neg c10 k
  by_cases c11 : x1 = (10 : Int32)
  · have k := ok_pos c11 k
    refine sw_hit dX7_count_1 rfl c11 rfl ?_
    refine wp_ld (v := .ref 0) dX7_count_167 rfl rfl rfl rfl ?_
    refine wp_gr dX7_count_168 rfl rfl (kk_0 h) (rr_0_0 h) ?_
    refine wp_gr dX7_count_171 rfl rfl (kk_1 h) (rr_1_8 h) ?_
    refine wq_gI dX7_count_174 rfl rfl (kk_5 h) (v := (am_I s 5 2)) rfl ?_
    exact wp_end dX7_count_177 rfl (am_end_i rfl) (hP _ _ (ok_s k) h)
  replace k := ok_neg c11 k
  by_cases c12 : x1 = (11 : Int32)
  · have k := ok_pos c12 k
    refine sw_hit dX7_count_1 rfl c12 rfl ?_
    refine wp_ld (v := .ref 0) dX7_count_178 rfl rfl rfl rfl ?_
    refine wp_gr dX7_count_179 rfl rfl (kk_0 h) (rr_0_0 h) ?_
    refine wp_gr dX7_count_182 rfl rfl (kk_1 h) (rr_1_9 h) ?_
    refine wq_gI dX7_count_185 rfl rfl (kk_7 h) (v := (am_I s 7 2)) rfl ?_
    exact wp_end dX7_count_188 rfl (am_end_i rfl) (hP _ _ (ok_s k) h)
  replace k := ok_neg c12 k
  by_cases c13 : x1 = (12 : Int32)
  · have k := ok_pos c13 k
    refine sw_hit dX7_count_1 rfl c13 rfl ?_
    refine wp_ld (v := .ref 0) dX7_count_189 rfl rfl rfl rfl ?_
    refine wp_gr dX7_count_190 rfl rfl (kk_0 h) (rr_0_0 h) ?_
    refine wp_gr dX7_count_193 rfl rfl (kk_1 h) (rr_1_10 h) ?_
    refine wq_gI dX7_count_196 rfl rfl (kk_9 h) (v := (am_I s 9 2)) rfl ?_
    exact wp_end dX7_count_199 rfl (am_end_i rfl) (hP _ _ (ok_s k) h)
  replace k := ok_neg c13 k
  by_cases c14 : x1 = (13 : Int32)
  · have k := ok_pos c14 k
    refine sw_hit dX7_count_1 rfl c14 rfl ?_
    refine wp_ld (v := .ref 0) dX7_count_200 rfl rfl rfl rfl ?_
    refine wp_gr dX7_count_201 rfl rfl (kk_0 h) (rr_0_0 h) ?_
    refine wq_gI dX7_count_204 rfl rfl (kk_1 h) (v := (am_I s 1 2)) rfl ?_
    exact wp_end dX7_count_207 rfl (am_end_i rfl) (hP _ _ (ok_s k) h)
  replace k := ok_neg c14 k
  refine ts_out dX7_count_1 rfl (by
      intro j h1 h2
      have hj : j = 0 ∨ j = 1 ∨ j = 2 ∨ j = 3 ∨ j = 4 ∨ j = 5 ∨ j = 6 ∨ j = 7 ∨ j = 8 ∨ j = 9 ∨ j = 10 ∨ j = 11 ∨ j = 12 ∨ j = 13 := by omega
      rcases hj with e | e | e | e | e | e | e | e | e | e | e | e | e | e
      · subst e; exact c1
      · subst e; exact c2
      · subst e; exact c3
      · subst e; exact c4
      · subst e; exact c5
      · subst e; exact c6
      · subst e; exact c7
      · subst e; exact c8
      · subst e; exact c9
      · subst e; exact c10
      · subst e; exact c11
      · subst e; exact c12
      · subst e; exact c13
      · subst e; exact c14
      ) ?_
  refine wp_cst (v := .int (-1 : Int32)) dX7_count_208 rfl rfl ?_
  exact wp_end dX7_count_209 rfl (am_end_i rfl) (hP _ _ (ok_s k) h)
noncomputable def f_X8_count_ (x1 : Int32) (s : am_S) : am_F :=
  if x1 = (0 : Int32) then
    some (.inl (some (.int (am_I s 56 2))), (am_sI s 55 3 (0 : Int32)))
  else if x1 = (1 : Int32) then
    some (.inl (some (.int (am_I s 56 3))), (am_sI s 55 3 (0 : Int32)))
  else if x1 = (2 : Int32) then
    some (.inl (some (.int (am_I s 56 0))), (am_sI s 55 3 (0 : Int32)))
  else if x1 = (3 : Int32) then
    some (.inl (some (.int (am_I s 56 1))), (am_sI s 55 3 (0 : Int32)))
  else if x1 = (4 : Int32) then
    some (.inl (some (.int (am_I s 55 7))), (am_sI s 55 3 (0 : Int32)))
  else if x1 = (5 : Int32) then
    some (.inl (some (.int (am_I s 56 8))), (am_sI s 55 3 (0 : Int32)))
  else if x1 = (6 : Int32) then
    some (.inl (some (.int (am_I s 56 9))), (am_sI s 55 3 (0 : Int32)))
  else if x1 = (7 : Int32) then
    some (.inl (some (.int (am_I s 56 10))), (am_sI s 55 3 (0 : Int32)))
  else if x1 = (8 : Int32) then
    some (.inl (some (.int (am_I s 56 11))), (am_sI s 55 3 (0 : Int32)))
  else if x1 = (9 : Int32) then
    some (.inl (some (.int (am_I s 56 12))), (am_sI s 55 3 (0 : Int32)))
  else if x1 = (10 : Int32) then
    some (.inl (some (.int (am_I s 56 4))), (am_sI s 55 3 (0 : Int32)))
  else if x1 = (11 : Int32) then
    some (.inl (some (.int (am_I s 56 5))), (am_sI s 55 3 (0 : Int32)))
  else if x1 = (12 : Int32) then
    some (.inl (some (.int (am_I s 56 6))), (am_sI s 55 3 (0 : Int32)))
  else if x1 = (13 : Int32) then
    some (.inl (some (.int (am_I s 56 7))), (am_sI s 55 3 (0 : Int32)))
  else
    some (.inl (some (.int (-1 : Int32))), (am_sI s 55 3 (0 : Int32)))
theorem s_X8_count_ {N n : Nat} {d : Nat} {x1 : Int32} {s : am_S} (h : am_sh N n s)  : am_S1 (am_sh N n) (d) mX8_count_ [.ref 55, .int x1] s (f_X8_count_ x1 s) := by
  intro P Q k hP
  show am_WP (d) mX8_count_ 0 [(0, .ref 55), (1, .int x1)] [] s Q
  unfold f_X8_count_ at k
  refine wp_ld (v := .ref 55) dX8_count__0 rfl rfl rfl rfl ?_
  refine wp_cst (v := .int (0 : Int32)) dX8_count__1 rfl rfl ?_
  refine wp_pI dX8_count__2 rfl rfl rfl (fun h => absurd h (by decide)) (kk_55 h) ?_
  refine wp_ld (v := .int x1) dX8_count__5 rfl rfl rfl rfl ?_
  by_cases c1 : x1 = (0 : Int32)
  · have k := ok_pos c1 k
    refine sw_hit dX8_count__6 rfl c1 rfl ?_
    refine wp_ld (v := .ref 55) dX8_count__76 rfl rfl rfl rfl ?_
    refine wp_gr dX8_count__77 rfl rfl (kk_55 (sh_sI h)) (rr_55_0 (sh_sI h)) ?_
    refine wp_cst (v := .int (2 : Int32)) dX8_count__80 rfl rfl ?_
    refine wq_iald dX8_count__81 (kk_56 (sh_sI h)) (by decide) (v := (am_I s 56 2)) rfl ?_
    exact wp_end dX8_count__82 rfl (am_end_i rfl) (hP _ _ (ok_s k) (sh_sI h))
  replace k := ok_neg c1 k
  by_cases c2 : x1 = (1 : Int32)
  · have k := ok_pos c2 k
    refine sw_hit dX8_count__6 rfl c2 rfl ?_
    refine wp_ld (v := .ref 55) dX8_count__83 rfl rfl rfl rfl ?_
    refine wp_gr dX8_count__84 rfl rfl (kk_55 (sh_sI h)) (rr_55_0 (sh_sI h)) ?_
    refine wp_cst (v := .int (3 : Int32)) dX8_count__87 rfl rfl ?_
    refine wq_iald dX8_count__88 (kk_56 (sh_sI h)) (by decide) (v := (am_I s 56 3)) rfl ?_
    exact wp_end dX8_count__89 rfl (am_end_i rfl) (hP _ _ (ok_s k) (sh_sI h))
  replace k := ok_neg c2 k
  by_cases c3 : x1 = (2 : Int32)
  · have k := ok_pos c3 k
    refine sw_hit dX8_count__6 rfl c3 rfl ?_
    refine wp_ld (v := .ref 55) dX8_count__90 rfl rfl rfl rfl ?_
    refine wp_gr dX8_count__91 rfl rfl (kk_55 (sh_sI h)) (rr_55_0 (sh_sI h)) ?_
    refine wp_cst (v := .int (0 : Int32)) dX8_count__94 rfl rfl ?_
    refine wq_iald dX8_count__95 (kk_56 (sh_sI h)) (by decide) (v := (am_I s 56 0)) rfl ?_
    exact wp_end dX8_count__96 rfl (am_end_i rfl) (hP _ _ (ok_s k) (sh_sI h))
  replace k := ok_neg c3 k
  by_cases c4 : x1 = (3 : Int32)
  · have k := ok_pos c4 k
    refine sw_hit dX8_count__6 rfl c4 rfl ?_
    refine wp_ld (v := .ref 55) dX8_count__97 rfl rfl rfl rfl ?_
    refine wp_gr dX8_count__98 rfl rfl (kk_55 (sh_sI h)) (rr_55_0 (sh_sI h)) ?_
    refine wp_cst (v := .int (1 : Int32)) dX8_count__101 rfl rfl ?_
    refine wq_iald dX8_count__102 (kk_56 (sh_sI h)) (by decide) (v := (am_I s 56 1)) rfl ?_
    exact wp_end dX8_count__103 rfl (am_end_i rfl) (hP _ _ (ok_s k) (sh_sI h))
  replace k := ok_neg c4 k
  by_cases c5 : x1 = (4 : Int32)
  · have k := ok_pos c5 k
    refine sw_hit dX8_count__6 rfl c5 rfl ?_
    refine wp_ld (v := .ref 55) dX8_count__104 rfl rfl rfl rfl ?_
    refine wq_gI dX8_count__105 rfl rfl (kk_55 (sh_sI h)) (v := (am_I s 55 7)) rfl ?_
    exact wp_end dX8_count__108 rfl (am_end_i rfl) (hP _ _ (ok_s k) (sh_sI h))
  replace k := ok_neg c5 k
  by_cases c6 : x1 = (5 : Int32)
  · have k := ok_pos c6 k
    refine sw_hit dX8_count__6 rfl c6 rfl ?_
    refine wp_ld (v := .ref 55) dX8_count__109 rfl rfl rfl rfl ?_
    refine wp_gr dX8_count__110 rfl rfl (kk_55 (sh_sI h)) (rr_55_0 (sh_sI h)) ?_
    refine wp_cst (v := .int (8 : Int32)) dX8_count__113 rfl rfl ?_
    refine wq_iald dX8_count__115 (kk_56 (sh_sI h)) (by decide) (v := (am_I s 56 8)) rfl ?_
    exact wp_end dX8_count__116 rfl (am_end_i rfl) (hP _ _ (ok_s k) (sh_sI h))
  replace k := ok_neg c6 k
  by_cases c7 : x1 = (6 : Int32)
  · have k := ok_pos c7 k
    refine sw_hit dX8_count__6 rfl c7 rfl ?_
    refine wp_ld (v := .ref 55) dX8_count__117 rfl rfl rfl rfl ?_
    refine wp_gr dX8_count__118 rfl rfl (kk_55 (sh_sI h)) (rr_55_0 (sh_sI h)) ?_
    refine wp_cst (v := .int (9 : Int32)) dX8_count__121 rfl rfl ?_
    refine wq_iald dX8_count__123 (kk_56 (sh_sI h)) (by decide) (v := (am_I s 56 9)) rfl ?_
    exact wp_end dX8_count__124 rfl (am_end_i rfl) (hP _ _ (ok_s k) (sh_sI h))
  replace k := ok_neg c7 k
  by_cases c8 : x1 = (7 : Int32)
  · have k := ok_pos c8 k
    refine sw_hit dX8_count__6 rfl c8 rfl ?_
    refine wp_ld (v := .ref 55) dX8_count__125 rfl rfl rfl rfl ?_
    refine wp_gr dX8_count__126 rfl rfl (kk_55 (sh_sI h)) (rr_55_0 (sh_sI h)) ?_
    refine wp_cst (v := .int (10 : Int32)) dX8_count__129 rfl rfl ?_
    refine wq_iald dX8_count__131 (kk_56 (sh_sI h)) (by decide) (v := (am_I s 56 10)) rfl ?_
    exact wp_end dX8_count__132 rfl (am_end_i rfl) (hP _ _ (ok_s k) (sh_sI h))
  replace k := ok_neg c8 k
  by_cases c9 : x1 = (8 : Int32)
  · have k := ok_pos c9 k
    refine sw_hit dX8_count__6 rfl c9 rfl ?_
    refine wp_ld (v := .ref 55) dX8_count__133 rfl rfl rfl rfl ?_
    refine wp_gr dX8_count__134 rfl rfl (kk_55 (sh_sI h)) (rr_55_0 (sh_sI h)) ?_
    refine wp_cst (v := .int (11 : Int32)) dX8_count__137 rfl rfl ?_
    refine wq_iald dX8_count__139 (kk_56 (sh_sI h)) (by decide) (v := (am_I s 56 11)) rfl ?_
    exact wp_end dX8_count__140 rfl (am_end_i rfl) (hP _ _ (ok_s k) (sh_sI h))
  replace k := ok_neg c9 k
  by_cases c10 : x1 = (9 : Int32)
  · have k := ok_pos c10 k
    refine sw_hit dX8_count__6 rfl c10 rfl ?_
    refine wp_ld (v := .ref 55) dX8_count__141 rfl rfl rfl rfl ?_
    refine wp_gr dX8_count__142 rfl rfl (kk_55 (sh_sI h)) (rr_55_0 (sh_sI h)) ?_
    refine wp_cst (v := .int (12 : Int32)) dX8_count__145 rfl rfl ?_
    refine wq_iald dX8_count__147 (kk_56 (sh_sI h)) (by decide) (v := (am_I s 56 12)) rfl ?_
    exact wp_end dX8_count__148 rfl (am_end_i rfl) (hP _ _ (ok_s k) (sh_sI h))
  replace k := ok_neg c10 k
  by_cases c11 : x1 = (10 : Int32)
  · have k := ok_pos c11 k
    refine sw_hit dX8_count__6 rfl c11 rfl ?_
    refine wp_ld (v := .ref 55) dX8_count__149 rfl rfl rfl rfl ?_
    refine wp_gr dX8_count__150 rfl rfl (kk_55 (sh_sI h)) (rr_55_0 (sh_sI h)) ?_
    refine wp_cst (v := .int (4 : Int32)) dX8_count__153 rfl rfl ?_
    refine wq_iald dX8_count__154 (kk_56 (sh_sI h)) (by decide) (v := (am_I s 56 4)) rfl ?_
    exact wp_end dX8_count__155 rfl (am_end_i rfl) (hP _ _ (ok_s k) (sh_sI h))
  replace k := ok_neg c11 k
  by_cases c12 : x1 = (11 : Int32)
  · have k := ok_pos c12 k
    refine sw_hit dX8_count__6 rfl c12 rfl ?_
    refine wp_ld (v := .ref 55) dX8_count__156 rfl rfl rfl rfl ?_
    refine wp_gr dX8_count__157 rfl rfl (kk_55 (sh_sI h)) (rr_55_0 (sh_sI h)) ?_
    refine wp_cst (v := .int (5 : Int32)) dX8_count__160 rfl rfl ?_
    refine wq_iald dX8_count__161 (kk_56 (sh_sI h)) (by decide) (v := (am_I s 56 5)) rfl ?_
    exact wp_end dX8_count__162 rfl (am_end_i rfl) (hP _ _ (ok_s k) (sh_sI h))
  replace k := ok_neg c12 k
  by_cases c13 : x1 = (12 : Int32)
  · have k := ok_pos c13 k
    refine sw_hit dX8_count__6 rfl c13 rfl ?_
    refine wp_ld (v := .ref 55) dX8_count__163 rfl rfl rfl rfl ?_
    refine wp_gr dX8_count__164 rfl rfl (kk_55 (sh_sI h)) (rr_55_0 (sh_sI h)) ?_
    refine wp_cst (v := .int (6 : Int32)) dX8_count__167 rfl rfl ?_
    refine wq_iald dX8_count__169 (kk_56 (sh_sI h)) (by decide) (v := (am_I s 56 6)) rfl ?_
    exact wp_end dX8_count__170 rfl (am_end_i rfl) (hP _ _ (ok_s k) (sh_sI h))
  replace k := ok_neg c13 k
  by_cases c14 : x1 = (13 : Int32)
  · have k := ok_pos c14 k
    refine sw_hit dX8_count__6 rfl c14 rfl ?_
    refine wp_ld (v := .ref 55) dX8_count__171 rfl rfl rfl rfl ?_
    refine wp_gr dX8_count__172 rfl rfl (kk_55 (sh_sI h)) (rr_55_0 (sh_sI h)) ?_
    refine wp_cst (v := .int (7 : Int32)) dX8_count__175 rfl rfl ?_
    refine wq_iald dX8_count__177 (kk_56 (sh_sI h)) (by decide) (v := (am_I s 56 7)) rfl ?_
    exact wp_end dX8_count__178 rfl (am_end_i rfl) (hP _ _ (ok_s k) (sh_sI h))
  replace k := ok_neg c14 k
  refine ts_out dX8_count__6 rfl (by
      intro j h1 h2
      have hj : j = 0 ∨ j = 1 ∨ j = 2 ∨ j = 3 ∨ j = 4 ∨ j = 5 ∨ j = 6 ∨ j = 7 ∨ j = 8 ∨ j = 9 ∨ j = 10 ∨ j = 11 ∨ j = 12 ∨ j = 13 := by omega
      rcases hj with e | e | e | e | e | e | e | e | e | e | e | e | e | e
      · subst e; exact c1
      · subst e; exact c2
      · subst e; exact c3
      · subst e; exact c4
      · subst e; exact c5
      · subst e; exact c6
      · subst e; exact c7
      · subst e; exact c8
      · subst e; exact c9
      · subst e; exact c10
      · subst e; exact c11
      · subst e; exact c12
      · subst e; exact c13
      · subst e; exact c14
      ) ?_
  refine wp_cst (v := .int (-1 : Int32)) dX8_count__179 rfl rfl ?_
  exact wp_end dX8_count__180 rfl (am_end_i rfl) (hP _ _ (ok_s k) (sh_sI h))
