noncomputable def L_X8_seen_45 : Nat → Int32 → Int32 → Int32 → Int32 → Int32 → Int32 → am_S → am_FE (Int32)
  | 0, _, _, _, _, _, _, _ => none
  | m + 1, x2, x3, x4, x5, x6, x7, s =>
    if (9 : Int32) < x7 then
      some (.inr (x6, s))
    else
      am_bu (f_X8_flies x7 x2 x3 (200 : Int32) s) (fun s16 =>
        if (am_I s16 55 31) = x4 then
          if (am_I s16 55 37) = x5 then
            L_X8_seen_45 m x2 x3 x4 x5 (x6 ||| ((1 : Int32) <<< ((x7 + (9 : Int32)) &&& 31))) (x7 + (1 : Int32)) s16
          else
            L_X8_seen_45 m x2 x3 x4 x5 (x6 ||| (0 : Int32)) (x7 + (1 : Int32)) s16
        else
          L_X8_seen_45 m x2 x3 x4 x5 (x6 ||| (0 : Int32)) (x7 + (1 : Int32)) s16
      )
theorem q_X8_seen_45 : ∀ (m : Nat) {N n : Nat} {d : Nat} {x2 : Int32} {x3 : Int32} {x4 : Int32} {x5 : Int32} {x6 : Int32} {x7 : Int32} {s : am_S} {P : (am_O × am_S) ⊕ (Int32 × am_S) → Prop} {Q : am_O → am_S → Prop} (h : am_sh N n s)  (k : am_ok (L_X8_seen_45 m x2 x3 x4 x5 x6 x7 s) P) (hP : ∀ o s, P (.inl (o, s)) → am_sh N n s → Q o s) (hX : ∀ (e : Int32) s, P (.inr (e, s)) → am_sh N n s → am_WP (d + 7) mX8_seen 103 [(6, .int e)] [] s Q), am_WP (d + 7) mX8_seen 45 [(0, .ref 55), (2, .int x2), (3, .int x3), (4, .int x4), (5, .int x5), (6, .int x6), (7, .int x7)] [] s Q := by
  intro m
  induction m with
  | zero =>
    intro N n d x2 x3 x4 x5 x6 x7 s P Q h  k hP hX
    exact (ok_no k).elim
  | succ m ih =>
    intro N n d x2 x3 x4 x5 x6 x7 s P Q h  k hP hX
    unfold L_X8_seen_45 at k
    refine wp_ld (v := .int x7) dX8_seen_45 rfl rfl rfl rfl ?_
    refine wp_cst (v := .int (9 : Int32)) dX8_seen_47 rfl rfl ?_
    refine wp_ic_gt dX8_seen_49 rfl (fun c15 => have k := ok_pos c15 k; ?_) (fun c15 => have k := ok_neg c15 k; ?_)
    · exact wp_sub (hX _ _ (ok_s k) h) rfl ⟨rfl, trivial⟩
    · refine wp_ld (v := .ref 55) dX8_seen_52 rfl rfl rfl rfl ?_
      refine wp_ld (v := .int x7) dX8_seen_53 rfl rfl rfl rfl ?_
      refine wp_ld (v := .int x2) dX8_seen_55 rfl rfl rfl rfl ?_
      refine wp_ld (v := .int x3) dX8_seen_56 rfl rfl rfl rfl ?_
      refine wp_cst (v := .int (200 : Int32)) dX8_seen_57 rfl rfl ?_
      refine c_u dX8_seen_60 rfl rfl rfl (am_inv_v rfl (kk_55 h) rfl rfl rfl) (s_X8_flies h) k (fun s16 h k => ?_)
      refine wp_ld (v := .int x6) dX8_seen_63 rfl rfl rfl rfl ?_
      refine wp_ld (v := .ref 55) dX8_seen_65 rfl rfl rfl rfl ?_
      refine wq_gI dX8_seen_66 rfl rfl (kk_55 h) (v := (am_I s16 55 31)) rfl ?_
      refine wp_ld (v := .int x4) dX8_seen_69 rfl rfl rfl rfl ?_
      refine wp_ic_ne dX8_seen_71 rfl (fun c18 => have k := ok_neg c18 k; ?_) (fun c18 => have k := ok_pos c18 k; ?_)
      · refine wp_cst (v := .int (0 : Int32)) dX8_seen_93 rfl rfl ?_
        refine wp_pu dX8_seen_94 rfl rfl ?_
        refine wp_st (ls' := [(0, .ref 55), (2, .int x2), (3, .int x3), (4, .int x4), (5, .int x5), (6, .int (x6 ||| (0 : Int32))), (7, .int x7)]) dX8_seen_95 rfl rfl rfl (Nat.le_of_ble_eq_true rfl) rfl ?_
        refine wp_inc (v := (x7 + (1 : Int32))) (ls' := [(0, .ref 55), (2, .int x2), (3, .int x3), (4, .int x4), (5, .int x5), (6, .int (x6 ||| (0 : Int32))), (7, .int (x7 + (1 : Int32)))]) dX8_seen_97 rfl (Nat.le_of_ble_eq_true rfl) rfl rfl ?_
        refine wp_goto dX8_seen_100 rfl ?_
        exact wp_sub (ih h k hP hX) rfl ⟨rfl, rfl, rfl, rfl, rfl, rfl, rfl, trivial⟩
      · refine wp_ld (v := .ref 55) dX8_seen_74 rfl rfl rfl rfl ?_
        refine wq_gI dX8_seen_75 rfl rfl (kk_55 h) (v := (am_I s16 55 37)) rfl ?_
        refine wp_ld (v := .int x5) dX8_seen_78 rfl rfl rfl rfl ?_
        refine wp_ic_ne dX8_seen_80 rfl (fun c19 => have k := ok_neg c19 k; ?_) (fun c19 => have k := ok_pos c19 k; ?_)
        · refine wp_cst (v := .int (0 : Int32)) dX8_seen_93 rfl rfl ?_
          refine wp_pu dX8_seen_94 rfl rfl ?_
          refine wp_st (ls' := [(0, .ref 55), (2, .int x2), (3, .int x3), (4, .int x4), (5, .int x5), (6, .int (x6 ||| (0 : Int32))), (7, .int x7)]) dX8_seen_95 rfl rfl rfl (Nat.le_of_ble_eq_true rfl) rfl ?_
          refine wp_inc (v := (x7 + (1 : Int32))) (ls' := [(0, .ref 55), (2, .int x2), (3, .int x3), (4, .int x4), (5, .int x5), (6, .int (x6 ||| (0 : Int32))), (7, .int (x7 + (1 : Int32)))]) dX8_seen_97 rfl (Nat.le_of_ble_eq_true rfl) rfl rfl ?_
          refine wp_goto dX8_seen_100 rfl ?_
          exact wp_sub (ih h k hP hX) rfl ⟨rfl, rfl, rfl, rfl, rfl, rfl, rfl, trivial⟩
        · refine wp_cst (v := .int (1 : Int32)) dX8_seen_83 rfl rfl ?_
          refine wp_ld (v := .int x7) dX8_seen_84 rfl rfl rfl rfl ?_
          refine wp_cst (v := .int (9 : Int32)) dX8_seen_86 rfl rfl ?_
          refine wp_pu dX8_seen_88 rfl rfl ?_
          refine wp_pu dX8_seen_89 rfl rfl ?_
          refine wp_goto dX8_seen_90 rfl ?_
          refine wp_pu dX8_seen_94 rfl rfl ?_
          refine wp_st (ls' := [(0, .ref 55), (2, .int x2), (3, .int x3), (4, .int x4), (5, .int x5), (6, .int (x6 ||| ((1 : Int32) <<< ((x7 + (9 : Int32)) &&& 31)))), (7, .int x7)]) dX8_seen_95 rfl rfl rfl (Nat.le_of_ble_eq_true rfl) rfl ?_
          refine wp_inc (v := (x7 + (1 : Int32))) (ls' := [(0, .ref 55), (2, .int x2), (3, .int x3), (4, .int x4), (5, .int x5), (6, .int (x6 ||| ((1 : Int32) <<< ((x7 + (9 : Int32)) &&& 31)))), (7, .int (x7 + (1 : Int32)))]) dX8_seen_97 rfl (Nat.le_of_ble_eq_true rfl) rfl rfl ?_
          refine wp_goto dX8_seen_100 rfl ?_
          exact wp_sub (ih h k hP hX) rfl ⟨rfl, rfl, rfl, rfl, rfl, rfl, rfl, trivial⟩
noncomputable def f_X8_seen (x1 : Int32) (x2 : Int32) (x3 : Int32) (x4 : Int32) (x5 : Int32) (s : am_S) : am_F :=
  am_bi (f_X8_wayFault x1 s) (fun v2 s1 =>
    if v2 ≤ 0 then
      am_bi (f_X8_isSpeed x2 (am_sI s1 55 3 v2)) (fun v5 s4 =>
        am_jn (fun (e7 : Unit) s8 =>
          am_bi (f_X8_fails (3 : Int32) s8) (fun v10 s9 =>
            some (.inl (some (.int v10)), s9)
          )
        ) (fun J6 =>
          if v5 = 0 then
            J6 () s4
          else
            am_bi (f_X8_isSlant x3 s4) (fun v13 s12 =>
              if v13 = 0 then
                J6 () s12
              else
                am_lm (L_X8_seen_45 ax_fuel x2 x3 x4 x5 (0 : Int32) (-9 : Int32) s12) (fun e20 s21 =>
                  some (.inl (some (.int e20)), s21)
                )
            )
        )
      )
    else
      some (.inl (some (.int (0 : Int32))), (am_sI s1 55 3 v2))
  )
theorem s_X8_seen {N n : Nat} {d : Nat} {x1 : Int32} {x2 : Int32} {x3 : Int32} {x4 : Int32} {x5 : Int32} {s : am_S} (h : am_sh N n s)  : am_S1 (am_sh N n) (d + 7) mX8_seen [.ref 55, .int x1, .int x2, .int x3, .int x4, .int x5] s (f_X8_seen x1 x2 x3 x4 x5 s) := by
  intro P Q k hP
  show am_WP (d + 7) mX8_seen 0 [(0, .ref 55), (1, .int x1), (2, .int x2), (3, .int x3), (4, .int x4), (5, .int x5)] [] s Q
  unfold f_X8_seen at k
  refine wp_ld (v := .ref 55) dX8_seen_0 rfl rfl rfl rfl ?_
  refine wp_ld (v := .ref 55) dX8_seen_1 rfl rfl rfl rfl ?_
  refine wp_ld (v := .int x1) dX8_seen_2 rfl rfl rfl rfl ?_
  refine c_i dX8_seen_3 rfl rfl rfl (am_inv_v rfl (kk_55 h) rfl rfl rfl) (s_X8_wayFault h) k (fun v2 s1 h k => ?_)
  refine wp_pI dX8_seen_6 rfl rfl rfl (fun h => absurd h (by decide)) (kk_55 h) ?_
  refine wp_ld (v := .ref 55) dX8_seen_9 rfl rfl rfl rfl ?_
  refine wq_gI dX8_seen_10 rfl rfl (kk_55 (sh_sI h)) (v := v2) rfl ?_
  refine wp_if_le dX8_seen_13 rfl (fun c3 => have k := ok_pos c3 k; ?_) (fun c3 => have k := ok_neg c3 k; ?_)
  · refine wp_ld (v := .int x2) dX8_seen_18 rfl rfl rfl rfl ?_
    refine c_i dX8_seen_19 rfl rfl rfl (am_inv_s rfl rfl rfl rfl) (s_X8_isSpeed (sh_sI h)) k (fun v5 s4 h k => ?_)
    refine jn_rule k (fun J6 hJ6 k => ?_)
    have HJ6 : ∀ (e7 : Unit) (s8 : am_S), am_sh N n s8 → am_ok (J6 e7 s8) P → am_WP (d + 7) mX8_seen 32 [(0, .ref 55)] [] s8 Q := by
      intro e7 s8 h k
      replace k := hJ6 _ _ k
      refine wp_ld (v := .ref 55) dX8_seen_32 rfl rfl rfl rfl ?_
      refine wp_cst (v := .int (3 : Int32)) dX8_seen_33 rfl rfl ?_
      refine c_i dX8_seen_34 rfl rfl rfl (am_inv_v rfl (kk_55 h) rfl rfl rfl) (s_X8_fails h) k (fun v10 s9 h k => ?_)
      exact wp_end dX8_seen_37 rfl (am_end_i rfl) (hP _ _ (ok_s k) h)
    refine wp_if_eq dX8_seen_22 rfl (fun c11 => have k := ok_pos c11 k; ?_) (fun c11 => have k := ok_neg c11 k; ?_)
    · exact wp_sub (HJ6 _ _ h k) rfl ⟨rfl, trivial⟩
    · refine wp_ld (v := .int x3) dX8_seen_25 rfl rfl rfl rfl ?_
      refine c_i dX8_seen_26 rfl rfl rfl (am_inv_s rfl rfl rfl rfl) (s_X8_isSlant h) k (fun v13 s12 h k => ?_)
      refine wp_if_ne dX8_seen_29 rfl (fun c14 => have k := ok_neg c14 k; ?_) (fun c14 => have k := ok_pos c14 k; ?_)
      · refine wp_cst (v := .int (0 : Int32)) dX8_seen_38 rfl rfl ?_
        refine wp_st (ls' := [(0, .ref 55), (1, .int x1), (2, .int x2), (3, .int x3), (4, .int x4), (5, .int x5), (6, .int (0 : Int32))]) dX8_seen_39 rfl rfl rfl (Nat.le_of_ble_eq_true rfl) rfl ?_
        refine wp_cst (v := .int (-9 : Int32)) dX8_seen_41 rfl rfl ?_
        refine wp_st (ls' := [(0, .ref 55), (1, .int x1), (2, .int x2), (3, .int x3), (4, .int x4), (5, .int x5), (6, .int (0 : Int32)), (7, .int (-9 : Int32))]) dX8_seen_43 rfl rfl rfl (Nat.le_of_ble_eq_true rfl) rfl ?_
        refine lp_m k (fun P1 k hA hB => ?_)
        refine wp_sub (q_X8_seen_45 ax_fuel h k (fun o s p h => hP o s (hA o s p) h) (fun e20 s21 p h => have k := hB e20 s21 p; ?_)) rfl ⟨rfl, rfl, rfl, rfl, rfl, rfl, rfl, trivial⟩
        refine wp_ld (v := .int e20) dX8_seen_103 rfl rfl rfl rfl ?_
        exact wp_end dX8_seen_105 rfl (am_end_i rfl) (hP _ _ (ok_s k) h)
      · exact wp_sub (HJ6 _ _ h k) rfl ⟨rfl, trivial⟩
  · refine wp_cst (v := .int (0 : Int32)) dX8_seen_16 rfl rfl ?_
    exact wp_end dX8_seen_17 rfl (am_end_i rfl) (hP _ _ (ok_s k) (sh_sI h))
noncomputable def f_X2_isLike (x1 : Int32) (x2 : Int32) (s : am_S) : am_F :=
  if (am_I s 37 4) = x1 then
    if (am_I s 37 6) = x2 then
      some (.inl (some (.int (1 : Int32))), s)
    else
      some (.inl (some (.int (0 : Int32))), s)
  else
    some (.inl (some (.int (0 : Int32))), s)
theorem s_X2_isLike {N n : Nat} {d : Nat} {x1 : Int32} {x2 : Int32} {s : am_S} (h : am_sh N n s)  : am_S1 (am_sh N n) (d) mX2_isLike [.ref 37, .int x1, .int x2] s (f_X2_isLike x1 x2 s) := by
  intro P Q k hP
  show am_WP (d) mX2_isLike 0 [(0, .ref 37), (1, .int x1), (2, .int x2)] [] s Q
  unfold f_X2_isLike at k
  refine wp_ld (v := .ref 37) dX2_isLike_0 rfl rfl rfl rfl ?_
  refine wq_gI dX2_isLike_1 rfl rfl (kk_37 h) (v := (am_I s 37 4)) rfl ?_
  refine wp_ld (v := .int x1) dX2_isLike_4 rfl rfl rfl rfl ?_
  refine wp_ic_ne dX2_isLike_5 rfl (fun c1 => have k := ok_neg c1 k; ?_) (fun c1 => have k := ok_pos c1 k; ?_)
  · refine wp_cst (v := .int (0 : Int32)) dX2_isLike_20 rfl rfl ?_
    exact wp_end dX2_isLike_21 rfl rfl (hP _ _ (ok_s k) h)
  · refine wp_ld (v := .ref 37) dX2_isLike_8 rfl rfl rfl rfl ?_
    refine wq_gI dX2_isLike_9 rfl rfl (kk_37 h) (v := (am_I s 37 6)) rfl ?_
    refine wp_ld (v := .int x2) dX2_isLike_12 rfl rfl rfl rfl ?_
    refine wp_ic_ne dX2_isLike_13 rfl (fun c2 => have k := ok_neg c2 k; ?_) (fun c2 => have k := ok_pos c2 k; ?_)
    · refine wp_cst (v := .int (0 : Int32)) dX2_isLike_20 rfl rfl ?_
      exact wp_end dX2_isLike_21 rfl rfl (hP _ _ (ok_s k) h)
    · refine wp_cst (v := .int (1 : Int32)) dX2_isLike_16 rfl rfl ?_
      refine wp_goto dX2_isLike_17 rfl ?_
      exact wp_end dX2_isLike_21 rfl rfl (hP _ _ (ok_s k) h)
noncomputable def f_X7_findNoFold (x1 : Int32) (x2 : Int32) (s : am_S) : am_F :=
  am_bi (f_X7_breakOf 42 (am_sI s 42 2 (0 : Int32))) (fun v2 s1 =>
    am_bi (f_X2_isLike x1 x2 s1) (fun v4 s3 =>
      if v4 = 0 ∨ v4 = 1 then
        some (.inl (some (.int v4)), s3)
      else none
    )
  )
theorem s_X7_findNoFold {N n : Nat} {d : Nat} {x1 : Int32} {x2 : Int32} {s : am_S} (h : am_sh N n s)  : am_S1 (am_sh N n) (d + 5) mX7_findNoFold [.ref 0, .int x1, .int x2] s (f_X7_findNoFold x1 x2 s) := by
  intro P Q k hP
  show am_WP (d + 5) mX7_findNoFold 0 [(0, .ref 0), (1, .int x1), (2, .int x2)] [] s Q
  unfold f_X7_findNoFold at k
  refine wp_ld (v := .ref 0) dX7_findNoFold_0 rfl rfl rfl rfl ?_
  refine wp_gr dX7_findNoFold_1 rfl rfl (kk_0 h) (rr_0_7 h) ?_
  refine wp_cst (v := .int (0 : Int32)) dX7_findNoFold_4 rfl rfl ?_
  refine wp_pI dX7_findNoFold_5 rfl rfl rfl (fun h => absurd h (by decide)) (kk_42 h) ?_
  refine wp_ld (v := .ref 0) dX7_findNoFold_8 rfl rfl rfl rfl ?_
  refine wp_ld (v := .ref 0) dX7_findNoFold_9 rfl rfl rfl rfl ?_
  refine wp_gr dX7_findNoFold_10 rfl rfl (kk_0 (sh_sI h)) (rr_0_7 (sh_sI h)) ?_
  refine c_i dX7_findNoFold_13 rfl rfl rfl (am_inv_v rfl (kk_0 (sh_sI h)) rfl rfl rfl) (s_X7_breakOf (sh_sI h) (kf_42 h)) k (fun v2 s1 h k => ?_)
  refine wp_pu dX7_findNoFold_16 rfl rfl ?_
  refine wp_ld (v := .ref 0) dX7_findNoFold_17 rfl rfl rfl rfl ?_
  refine wp_gr dX7_findNoFold_18 rfl rfl (kk_0 h) (rr_0_4 h) ?_
  refine wp_ld (v := .int x1) dX7_findNoFold_21 rfl rfl rfl rfl ?_
  refine wp_ld (v := .int x2) dX7_findNoFold_22 rfl rfl rfl rfl ?_
  refine c_i dX7_findNoFold_23 rfl rfl rfl (am_inv_v rfl (kk_37 h) rfl rfl rfl) (s_X2_isLike h) k (fun v4 s3 h k => ?_)
  obtain ⟨g5, k⟩ := ok_g k
  exact wp_end dX7_findNoFold_26 rfl (am_end_b rfl g5) (hP _ _ (ok_s k) h)
noncomputable def f_X7_tryFirst (x1 : Int32) (s : am_S) : am_F :=
  am_bi (f_X7_triedKind x1 (am_sI s 42 2 (0 : Int32))) (fun v2 s1 =>
    am_bi (f_X7_triedN x1 s1) (fun v4 s3 =>
      am_bi (f_X4_add 42 v2 v4 (0 : Int32) s3) (fun v6 s5 =>
        some (.inl none, s5)
      )
    )
  )
theorem s_X7_tryFirst {N n : Nat} {d : Nat} {x1 : Int32} {s : am_S} (h : am_sh N n s)  : am_S1 (am_sh N n) (d + 2) mX7_tryFirst [.ref 0, .int x1] s (f_X7_tryFirst x1 s) := by
  intro P Q k hP
  show am_WP (d + 2) mX7_tryFirst 0 [(0, .ref 0), (1, .int x1)] [] s Q
  unfold f_X7_tryFirst at k
  refine wp_ld (v := .ref 0) dX7_tryFirst_0 rfl rfl rfl rfl ?_
  refine wp_gr dX7_tryFirst_1 rfl rfl (kk_0 h) (rr_0_7 h) ?_
  refine wp_cst (v := .int (0 : Int32)) dX7_tryFirst_4 rfl rfl ?_
  refine wp_pI dX7_tryFirst_5 rfl rfl rfl (fun h => absurd h (by decide)) (kk_42 h) ?_
  refine wp_ld (v := .ref 0) dX7_tryFirst_8 rfl rfl rfl rfl ?_
  refine wp_gr dX7_tryFirst_9 rfl rfl (kk_0 (sh_sI h)) (rr_0_7 (sh_sI h)) ?_
  refine wp_ld (v := .int x1) dX7_tryFirst_12 rfl rfl rfl rfl ?_
  refine c_i dX7_tryFirst_13 rfl rfl rfl (am_inv_s rfl rfl rfl rfl) (s_X7_triedKind (sh_sI h)) k (fun v2 s1 h k => ?_)
  refine wp_ld (v := .int x1) dX7_tryFirst_16 rfl rfl rfl rfl ?_
  refine c_i dX7_tryFirst_17 rfl rfl rfl (am_inv_s rfl rfl rfl rfl) (s_X7_triedN h) k (fun v4 s3 h k => ?_)
  refine wp_cst (v := .int (0 : Int32)) dX7_tryFirst_20 rfl rfl ?_
  refine c_i dX7_tryFirst_21 rfl rfl rfl (am_inv_v rfl (kk_42 h) rfl rfl rfl) (s_X4_add h (kf_42 h)) k (fun v6 s5 h k => ?_)
  refine wp_pu dX7_tryFirst_24 rfl rfl ?_
  exact wp_end dX7_tryFirst_25 rfl rfl (hP _ _ (ok_s k) h)
noncomputable def L_X7_findOneFold_2 : Nat → Int32 → Int32 → Int32 → am_S → am_FE (Unit)
  | 0, _, _, _, _ => none
  | m + 1, x1, x2, x3, s =>
    if (18 : Int32) ≤ x3 then
      some (.inr ((), s))
    else
      am_bu (f_X7_tryFirst x3 s) (fun s2 =>
        am_bi (f_X7_breakOf 42 s2) (fun v5 s4 =>
          if v5 = (-1 : Int32) then
            am_bi (f_X2_isLike x1 x2 s4) (fun v8 s7 =>
              if v8 = 0 then
                L_X7_findOneFold_2 m x1 x2 (x3 + (1 : Int32)) s7
              else
                some (.inl (.inl (some (.int (1 : Int32))), s7))
            )
          else
            L_X7_findOneFold_2 m x1 x2 (x3 + (1 : Int32)) s4
        )
      )
theorem q_X7_findOneFold_2 : ∀ (m : Nat) {N n : Nat} {d : Nat} {x1 : Int32} {x2 : Int32} {x3 : Int32} {s : am_S} {P : (am_O × am_S) ⊕ (Unit × am_S) → Prop} {Q : am_O → am_S → Prop} (h : am_sh N n s)  (k : am_ok (L_X7_findOneFold_2 m x1 x2 x3 s) P) (hP : ∀ o s, P (.inl (o, s)) → am_sh N n s → Q o s) (hX : ∀ (e : Unit) s, P (.inr (e, s)) → am_sh N n s → am_WP (d + 5) mX7_findOneFold 45 [] [] s Q), am_WP (d + 5) mX7_findOneFold 2 [(0, .ref 0), (1, .int x1), (2, .int x2), (3, .int x3)] [] s Q := by
  intro m
  induction m with
  | zero =>
    intro N n d x1 x2 x3 s P Q h  k hP hX
    exact (ok_no k).elim
  | succ m ih =>
    intro N n d x1 x2 x3 s P Q h  k hP hX
    unfold L_X7_findOneFold_2 at k
    refine wp_ld (v := .int x3) dX7_findOneFold_2 rfl rfl rfl rfl ?_
    refine wp_cst (v := .int (18 : Int32)) dX7_findOneFold_3 rfl rfl ?_
    refine wp_ic_ge dX7_findOneFold_5 rfl (fun c1 => have k := ok_pos c1 k; ?_) (fun c1 => have k := ok_neg c1 k; ?_)
    · exact wp_sub (hX _ _ (ok_s k) h) rfl trivial
    · refine wp_ld (v := .ref 0) dX7_findOneFold_8 rfl rfl rfl rfl ?_
      refine wp_ld (v := .int x3) dX7_findOneFold_9 rfl rfl rfl rfl ?_
      refine c_u dX7_findOneFold_10 rfl rfl rfl (am_inv_v rfl (kk_0 h) rfl rfl rfl) (s_X7_tryFirst h) k (fun s2 h k => ?_)
      refine wp_ld (v := .ref 0) dX7_findOneFold_13 rfl rfl rfl rfl ?_
      refine wp_ld (v := .ref 0) dX7_findOneFold_14 rfl rfl rfl rfl ?_
      refine wp_gr dX7_findOneFold_15 rfl rfl (kk_0 h) (rr_0_7 h) ?_
      refine c_i dX7_findOneFold_18 rfl rfl rfl (am_inv_v rfl (kk_0 h) rfl rfl rfl) (s_X7_breakOf h (kf_42 h)) k (fun v5 s4 h k => ?_)
      refine wp_cst (v := .int (-1 : Int32)) dX7_findOneFold_21 rfl rfl ?_
      refine wp_ic_ne dX7_findOneFold_22 rfl (fun c6 => have k := ok_neg c6 k; ?_) (fun c6 => have k := ok_pos c6 k; ?_)
      · refine wp_inc (v := (x3 + (1 : Int32))) (ls' := [(0, .ref 0), (1, .int x1), (2, .int x2), (3, .int (x3 + (1 : Int32)))]) dX7_findOneFold_39 rfl (Nat.le_of_ble_eq_true rfl) rfl rfl ?_
        refine wp_goto dX7_findOneFold_42 rfl ?_
        exact wp_sub (ih h k hP hX) rfl ⟨rfl, rfl, rfl, rfl, trivial⟩
      · refine wp_ld (v := .ref 0) dX7_findOneFold_25 rfl rfl rfl rfl ?_
        refine wp_gr dX7_findOneFold_26 rfl rfl (kk_0 h) (rr_0_4 h) ?_
        refine wp_ld (v := .int x1) dX7_findOneFold_29 rfl rfl rfl rfl ?_
        refine wp_ld (v := .int x2) dX7_findOneFold_30 rfl rfl rfl rfl ?_
        refine c_i dX7_findOneFold_31 rfl rfl rfl (am_inv_v rfl (kk_37 h) rfl rfl rfl) (s_X2_isLike h) k (fun v8 s7 h k => ?_)
        refine wp_if_eq dX7_findOneFold_34 rfl (fun c9 => have k := ok_pos c9 k; ?_) (fun c9 => have k := ok_neg c9 k; ?_)
        · refine wp_inc (v := (x3 + (1 : Int32))) (ls' := [(0, .ref 0), (1, .int x1), (2, .int x2), (3, .int (x3 + (1 : Int32)))]) dX7_findOneFold_39 rfl (Nat.le_of_ble_eq_true rfl) rfl rfl ?_
          refine wp_goto dX7_findOneFold_42 rfl ?_
          exact wp_sub (ih h k hP hX) rfl ⟨rfl, rfl, rfl, rfl, trivial⟩
        · refine wp_cst (v := .int (1 : Int32)) dX7_findOneFold_37 rfl rfl ?_
          exact wp_end dX7_findOneFold_38 rfl rfl (hP _ _ (ok_s k) h)
noncomputable def f_X7_findOneFold (x1 : Int32) (x2 : Int32) (s : am_S) : am_F :=
  am_lm (L_X7_findOneFold_2 ax_fuel x1 x2 (0 : Int32) s) (fun e10 s11 =>
    some (.inl (some (.int (0 : Int32))), s11)
  )
theorem s_X7_findOneFold {N n : Nat} {d : Nat} {x1 : Int32} {x2 : Int32} {s : am_S} (h : am_sh N n s)  : am_S1 (am_sh N n) (d + 5) mX7_findOneFold [.ref 0, .int x1, .int x2] s (f_X7_findOneFold x1 x2 s) := by
  intro P Q k hP
  show am_WP (d + 5) mX7_findOneFold 0 [(0, .ref 0), (1, .int x1), (2, .int x2)] [] s Q
  unfold f_X7_findOneFold at k
  refine wp_cst (v := .int (0 : Int32)) dX7_findOneFold_0 rfl rfl ?_
  refine wp_st (ls' := [(0, .ref 0), (1, .int x1), (2, .int x2), (3, .int (0 : Int32))]) dX7_findOneFold_1 rfl rfl rfl (Nat.le_of_ble_eq_true rfl) rfl ?_
  refine lp_m k (fun P1 k hA hB => ?_)
  refine wp_sub (q_X7_findOneFold_2 ax_fuel h k (fun o s p h => hP o s (hA o s p) h) (fun e10 s11 p h => have k := hB e10 s11 p; ?_)) rfl ⟨rfl, rfl, rfl, rfl, trivial⟩
  refine wp_cst (v := .int (0 : Int32)) dX7_findOneFold_45 rfl rfl ?_
  exact wp_end dX7_findOneFold_46 rfl rfl (hP _ _ (ok_s k) h)
noncomputable def f_X2_copyFrom (a : Nat) (b1 : Nat) (s : am_S) : am_F :=
  ax_le (am_I (am_sA s (a + 1) (va_cpy (am_I s (b1 + 1)) (am_I s (a + 1)) 0 0 288)) b1 1) (fun y1 =>
    ax_le (am_I (am_sI (am_sA s (a + 1) (va_cpy (am_I s (b1 + 1)) (am_I s (a + 1)) 0 0 288)) a 1 y1) b1 2) (fun y2 =>
      ax_le (am_I (am_sI (am_sI (am_sA s (a + 1) (va_cpy (am_I s (b1 + 1)) (am_I s (a + 1)) 0 0 288)) a 1 y1) a 2 y2) b1 3) (fun y3 =>
        some (.inl none, (am_sI (am_sI (am_sI (am_sA s (a + 1) (va_cpy (am_I s (b1 + 1)) (am_I s (a + 1)) 0 0 288)) a 1 y1) a 2 y2) a 3 y3))
      )
    )
  )
theorem s_X2_copyFrom {N n : Nat} {d : Nat} {a : Nat} {b1 : Nat} {s : am_S} (h : am_sh N n s) (fa : am_kf n a 2) (fb1 : am_kf n b1 2) : am_S1 (am_sh N n) (d) mX2_copyFrom [.ref a, .ref b1] s (f_X2_copyFrom a b1 s) := by
  intro P Q k hP
  show am_WP (d) mX2_copyFrom 0 [(0, .ref a), (1, .ref b1)] [] s Q
  unfold f_X2_copyFrom at k
  refine wp_ld (v := .ref b1) dX2_copyFrom_0 rfl rfl rfl rfl ?_
  refine wp_gr dX2_copyFrom_1 rfl rfl (kk_f h fb1) (rr_pp h fb1) ?_
  refine wp_cst (v := .int (0 : Int32)) dX2_copyFrom_4 rfl rfl ?_
  refine wp_ld (v := .ref a) dX2_copyFrom_5 rfl rfl rfl rfl ?_
  refine wp_gr dX2_copyFrom_6 rfl rfl (kk_f h fa) (rr_pp h fa) ?_
  refine wp_cst (v := .int (0 : Int32)) dX2_copyFrom_9 rfl rfl ?_
  refine wp_cst (v := .int (288 : Int32)) dX2_copyFrom_10 rfl rfl ?_
  refine wq_ac dX2_copyFrom_13 rfl (kk_pp h fb1) (by decide) (kk_pp h fa) rfl rfl (m := 288) rfl (by decide) (by decide) (by decide) (Nat.le_of_ble_eq_true rfl) ?_
  refine wp_ld (v := .ref a) dX2_copyFrom_16 rfl rfl rfl rfl ?_
  refine wp_ld (v := .ref b1) dX2_copyFrom_17 rfl rfl rfl rfl ?_
  refine wq_gI dX2_copyFrom_18 rfl rfl (kk_f (sh_sA h) fb1) (v := (am_I (am_sA s (a + 1) (va_cpy (am_I s (b1 + 1)) (am_I s (a + 1)) 0 0 288)) b1 1)) rfl ?_
  show am_WP (d) mX2_copyFrom 21 _ _ _ Q
  refine ls_i k (fun y1 _ k => ?_)
  refine wp_pI dX2_copyFrom_21 rfl rfl rfl (fun h => absurd h (by decide)) (kk_f (sh_sA h) fa) ?_
  refine wp_ld (v := .ref a) dX2_copyFrom_24 rfl rfl rfl rfl ?_
  refine wp_ld (v := .ref b1) dX2_copyFrom_25 rfl rfl rfl rfl ?_
  refine wq_gI dX2_copyFrom_26 rfl rfl (kk_f (sh_sI (sh_sA h)) fb1) (v := (am_I (am_sI (am_sA s (a + 1) (va_cpy (am_I s (b1 + 1)) (am_I s (a + 1)) 0 0 288)) a 1 y1) b1 2)) rfl ?_
  refine ls_i k (fun y2 _ k => ?_)
  refine wp_pI dX2_copyFrom_29 rfl rfl rfl (fun h => absurd h (by decide)) (kk_f (sh_sI (sh_sA h)) fa) ?_
  refine wp_ld (v := .ref a) dX2_copyFrom_32 rfl rfl rfl rfl ?_
  refine wp_ld (v := .ref b1) dX2_copyFrom_33 rfl rfl rfl rfl ?_
  refine wq_gI dX2_copyFrom_34 rfl rfl (kk_f (sh_sI (sh_sI (sh_sA h))) fb1) (v := (am_I (am_sI (am_sI (am_sA s (a + 1) (va_cpy (am_I s (b1 + 1)) (am_I s (a + 1)) 0 0 288)) a 1 y1) a 2 y2) b1 3)) rfl ?_
  refine ls_i k (fun y3 _ k => ?_)
  refine wp_pI dX2_copyFrom_37 rfl rfl rfl (fun h => absurd h (by decide)) (kk_f (sh_sI (sh_sI (sh_sA h))) fa) ?_
  exact wp_end dX2_copyFrom_40 rfl rfl (hP _ _ (ok_s k) (sh_sI (sh_sI (sh_sI (sh_sA h)))))
noncomputable def L_X7_findSecond_13 : Nat → Int32 → Int32 → Int32 → am_S → am_FE (Unit)
  | 0, _, _, _, _ => none
  | m + 1, x1, x2, x3, s =>
    if (18 : Int32) ≤ x3 then
      some (.inr ((), s))
    else
      am_bu (f_X2_copyFrom 37 39 s) (fun s4 =>
        am_bi (f_X7_triedKind x3 s4) (fun v7 s6 =>
          am_bi (f_X7_triedN x3 s6) (fun v9 s8 =>
            am_bi (f_X2_foldOnce v7 v9 s8) (fun v11 s10 =>
              if v11 = 0 then
                L_X7_findSecond_13 m x1 x2 (x3 + (1 : Int32)) s10
              else
                am_bu (f_X2_weigh s10) (fun s13 =>
                  am_bi (f_X2_isLike x1 x2 s13) (fun v16 s15 =>
                    if v16 = 0 then
                      L_X7_findSecond_13 m x1 x2 (x3 + (1 : Int32)) s15
                    else
                      am_bi (f_X7_triedKind x3 s15) (fun v19 s18 =>
                        am_bi (f_X7_triedN x3 s18) (fun v21 s20 =>
                          am_bi (f_X4_add 42 v19 v21 (0 : Int32) s20) (fun v23 s22 =>
                            some (.inl (.inl (some (.int (1 : Int32))), s22))
                          )
                        )
                      )
                  )
                )
            )
          )
        )
      )
theorem q_X7_findSecond_13 : ∀ (m : Nat) {N n : Nat} {d : Nat} {x1 : Int32} {x2 : Int32} {x3 : Int32} {s : am_S} {P : (am_O × am_S) ⊕ (Unit × am_S) → Prop} {Q : am_O → am_S → Prop} (h : am_sh N n s)  (k : am_ok (L_X7_findSecond_13 m x1 x2 x3 s) P) (hP : ∀ o s, P (.inl (o, s)) → am_sh N n s → Q o s) (hX : ∀ (e : Unit) s, P (.inr (e, s)) → am_sh N n s → am_WP (d + 3) mX7_findSecond 92 [] [] s Q), am_WP (d + 3) mX7_findSecond 13 [(0, .ref 0), (1, .int x1), (2, .int x2), (3, .int x3)] [] s Q := by
  intro m
  induction m with
  | zero =>
    intro N n d x1 x2 x3 s P Q h  k hP hX
    exact (ok_no k).elim
  | succ m ih =>
    intro N n d x1 x2 x3 s P Q h  k hP hX
    unfold L_X7_findSecond_13 at k
    refine wp_ld (v := .int x3) dX7_findSecond_13 rfl rfl rfl rfl ?_
    refine wp_cst (v := .int (18 : Int32)) dX7_findSecond_14 rfl rfl ?_
    refine wp_ic_ge dX7_findSecond_16 rfl (fun c3 => have k := ok_pos c3 k; ?_) (fun c3 => have k := ok_neg c3 k; ?_)
    · exact wp_sub (hX _ _ (ok_s k) h) rfl trivial
    · refine wp_ld (v := .ref 0) dX7_findSecond_19 rfl rfl rfl rfl ?_
      refine wp_gr dX7_findSecond_20 rfl rfl (kk_0 h) (rr_0_4 h) ?_
      refine wp_ld (v := .ref 0) dX7_findSecond_23 rfl rfl rfl rfl ?_
      refine wp_gr dX7_findSecond_24 rfl rfl (kk_0 h) (rr_0_5 h) ?_
      refine c_u dX7_findSecond_27 rfl rfl rfl (am_inv_v rfl (kk_37 h) rfl rfl rfl) (s_X2_copyFrom h (kf_37 h) (kf_39 h)) k (fun s4 h k => ?_)
      refine wp_ld (v := .ref 0) dX7_findSecond_30 rfl rfl rfl rfl ?_
      refine wp_gr dX7_findSecond_31 rfl rfl (kk_0 h) (rr_0_4 h) ?_
      refine wp_ld (v := .int x3) dX7_findSecond_34 rfl rfl rfl rfl ?_
      refine c_i dX7_findSecond_35 rfl rfl rfl (am_inv_s rfl rfl rfl rfl) (s_X7_triedKind h) k (fun v7 s6 h k => ?_)
      refine wp_ld (v := .int x3) dX7_findSecond_38 rfl rfl rfl rfl ?_
      refine c_i dX7_findSecond_39 rfl rfl rfl (am_inv_s rfl rfl rfl rfl) (s_X7_triedN h) k (fun v9 s8 h k => ?_)
      refine c_i dX7_findSecond_42 rfl rfl rfl (am_inv_v rfl (kk_37 h) rfl rfl rfl) (s_X2_foldOnce h) k (fun v11 s10 h k => ?_)
      refine wp_if_eq dX7_findSecond_45 rfl (fun c12 => have k := ok_pos c12 k; ?_) (fun c12 => have k := ok_neg c12 k; ?_)
      · refine wp_inc (v := (x3 + (1 : Int32))) (ls' := [(0, .ref 0), (1, .int x1), (2, .int x2), (3, .int (x3 + (1 : Int32)))]) dX7_findSecond_86 rfl (Nat.le_of_ble_eq_true rfl) rfl rfl ?_
        refine wp_goto dX7_findSecond_89 rfl ?_
        exact wp_sub (ih h k hP hX) rfl ⟨rfl, rfl, rfl, rfl, trivial⟩
      · refine wp_ld (v := .ref 0) dX7_findSecond_48 rfl rfl rfl rfl ?_
        refine wp_gr dX7_findSecond_49 rfl rfl (kk_0 h) (rr_0_4 h) ?_
        refine c_u dX7_findSecond_52 rfl rfl rfl (am_inv_v rfl (kk_37 h) rfl rfl rfl) (s_X2_weigh h) k (fun s13 h k => ?_)
        refine wp_ld (v := .ref 0) dX7_findSecond_55 rfl rfl rfl rfl ?_
        refine wp_gr dX7_findSecond_56 rfl rfl (kk_0 h) (rr_0_4 h) ?_
        refine wp_ld (v := .int x1) dX7_findSecond_59 rfl rfl rfl rfl ?_
        refine wp_ld (v := .int x2) dX7_findSecond_60 rfl rfl rfl rfl ?_
        refine c_i dX7_findSecond_61 rfl rfl rfl (am_inv_v rfl (kk_37 h) rfl rfl rfl) (s_X2_isLike h) k (fun v16 s15 h k => ?_)
        refine wp_if_eq dX7_findSecond_64 rfl (fun c17 => have k := ok_pos c17 k; ?_) (fun c17 => have k := ok_neg c17 k; ?_)
        · refine wp_inc (v := (x3 + (1 : Int32))) (ls' := [(0, .ref 0), (1, .int x1), (2, .int x2), (3, .int (x3 + (1 : Int32)))]) dX7_findSecond_86 rfl (Nat.le_of_ble_eq_true rfl) rfl rfl ?_
          refine wp_goto dX7_findSecond_89 rfl ?_
          exact wp_sub (ih h k hP hX) rfl ⟨rfl, rfl, rfl, rfl, trivial⟩
        · refine wp_ld (v := .ref 0) dX7_findSecond_67 rfl rfl rfl rfl ?_
          refine wp_gr dX7_findSecond_68 rfl rfl (kk_0 h) (rr_0_7 h) ?_
          refine wp_ld (v := .int x3) dX7_findSecond_71 rfl rfl rfl rfl ?_
          refine c_i dX7_findSecond_72 rfl rfl rfl (am_inv_s rfl rfl rfl rfl) (s_X7_triedKind h) k (fun v19 s18 h k => ?_)
          refine wp_ld (v := .int x3) dX7_findSecond_75 rfl rfl rfl rfl ?_
          refine c_i dX7_findSecond_76 rfl rfl rfl (am_inv_s rfl rfl rfl rfl) (s_X7_triedN h) k (fun v21 s20 h k => ?_)
          refine wp_cst (v := .int (0 : Int32)) dX7_findSecond_79 rfl rfl ?_
          refine c_i dX7_findSecond_80 rfl rfl rfl (am_inv_v rfl (kk_42 h) rfl rfl rfl) (s_X4_add h (kf_42 h)) k (fun v23 s22 h k => ?_)
          refine wp_pu dX7_findSecond_83 rfl rfl ?_
          refine wp_cst (v := .int (1 : Int32)) dX7_findSecond_84 rfl rfl ?_
          exact wp_end dX7_findSecond_85 rfl rfl (hP _ _ (ok_s k) h)
noncomputable def f_X7_findSecond (x1 : Int32) (x2 : Int32) (s : am_S) : am_F :=
  am_bu (f_X2_copyFrom 39 37 s) (fun s1 =>
    am_lm (L_X7_findSecond_13 ax_fuel x1 x2 (0 : Int32) s1) (fun e24 s25 =>
      some (.inl (some (.int (0 : Int32))), s25)
    )
  )
theorem s_X7_findSecond {N n : Nat} {d : Nat} {x1 : Int32} {x2 : Int32} {s : am_S} (h : am_sh N n s)  : am_S1 (am_sh N n) (d + 3) mX7_findSecond [.ref 0, .int x1, .int x2] s (f_X7_findSecond x1 x2 s) := by
  intro P Q k hP
  show am_WP (d + 3) mX7_findSecond 0 [(0, .ref 0), (1, .int x1), (2, .int x2)] [] s Q
  unfold f_X7_findSecond at k
  refine wp_ld (v := .ref 0) dX7_findSecond_0 rfl rfl rfl rfl ?_
  refine wp_gr dX7_findSecond_1 rfl rfl (kk_0 h) (rr_0_5 h) ?_
  refine wp_ld (v := .ref 0) dX7_findSecond_4 rfl rfl rfl rfl ?_
  refine wp_gr dX7_findSecond_5 rfl rfl (kk_0 h) (rr_0_4 h) ?_
  refine c_u dX7_findSecond_8 rfl rfl rfl (am_inv_v rfl (kk_39 h) rfl rfl rfl) (s_X2_copyFrom h (kf_39 h) (kf_37 h)) k (fun s1 h k => ?_)
  refine wp_cst (v := .int (0 : Int32)) dX7_findSecond_11 rfl rfl ?_
  refine wp_st (ls' := [(0, .ref 0), (1, .int x1), (2, .int x2), (3, .int (0 : Int32))]) dX7_findSecond_12 rfl rfl rfl (Nat.le_of_ble_eq_true rfl) rfl ?_
  refine lp_m k (fun P1 k hA hB => ?_)
  refine wp_sub (q_X7_findSecond_13 ax_fuel h k (fun o s p h => hP o s (hA o s p) h) (fun e24 s25 p h => have k := hB e24 s25 p; ?_)) rfl ⟨rfl, rfl, rfl, rfl, trivial⟩
  refine wp_cst (v := .int (0 : Int32)) dX7_findSecond_92 rfl rfl ?_
  exact wp_end dX7_findSecond_93 rfl rfl (hP _ _ (ok_s k) h)
noncomputable def L_X7_findTwoFolds_2 : Nat → Int32 → Int32 → Int32 → am_S → am_FE (Unit)
  | 0, _, _, _, _ => none
  | m + 1, x1, x2, x3, s =>
    if (18 : Int32) ≤ x3 then
      some (.inr ((), s))
    else
      am_bu (f_X7_tryFirst x3 s) (fun s2 =>
        am_bi (f_X7_breakOf 42 s2) (fun v5 s4 =>
          if v5 = (-1 : Int32) then
            am_bi (f_X7_findSecond x1 x2 s4) (fun v8 s7 =>
              if v8 = 0 then
                L_X7_findTwoFolds_2 m x1 x2 (x3 + (1 : Int32)) s7
              else
                some (.inl (.inl (some (.int (1 : Int32))), s7))
            )
          else
            L_X7_findTwoFolds_2 m x1 x2 (x3 + (1 : Int32)) s4
        )
      )
theorem q_X7_findTwoFolds_2 : ∀ (m : Nat) {N n : Nat} {d : Nat} {x1 : Int32} {x2 : Int32} {x3 : Int32} {s : am_S} {P : (am_O × am_S) ⊕ (Unit × am_S) → Prop} {Q : am_O → am_S → Prop} (h : am_sh N n s)  (k : am_ok (L_X7_findTwoFolds_2 m x1 x2 x3 s) P) (hP : ∀ o s, P (.inl (o, s)) → am_sh N n s → Q o s) (hX : ∀ (e : Unit) s, P (.inr (e, s)) → am_sh N n s → am_WP (d + 5) mX7_findTwoFolds 42 [] [] s Q), am_WP (d + 5) mX7_findTwoFolds 2 [(0, .ref 0), (1, .int x1), (2, .int x2), (3, .int x3)] [] s Q := by
  intro m
  induction m with
  | zero =>
    intro N n d x1 x2 x3 s P Q h  k hP hX
    exact (ok_no k).elim
  | succ m ih =>
    intro N n d x1 x2 x3 s P Q h  k hP hX
    unfold L_X7_findTwoFolds_2 at k
    refine wp_ld (v := .int x3) dX7_findTwoFolds_2 rfl rfl rfl rfl ?_
    refine wp_cst (v := .int (18 : Int32)) dX7_findTwoFolds_3 rfl rfl ?_
    refine wp_ic_ge dX7_findTwoFolds_5 rfl (fun c1 => have k := ok_pos c1 k; ?_) (fun c1 => have k := ok_neg c1 k; ?_)
    · exact wp_sub (hX _ _ (ok_s k) h) rfl trivial
    · refine wp_ld (v := .ref 0) dX7_findTwoFolds_8 rfl rfl rfl rfl ?_
      refine wp_ld (v := .int x3) dX7_findTwoFolds_9 rfl rfl rfl rfl ?_
      refine c_u dX7_findTwoFolds_10 rfl rfl rfl (am_inv_v rfl (kk_0 h) rfl rfl rfl) (s_X7_tryFirst h) k (fun s2 h k => ?_)
      refine wp_ld (v := .ref 0) dX7_findTwoFolds_13 rfl rfl rfl rfl ?_
      refine wp_ld (v := .ref 0) dX7_findTwoFolds_14 rfl rfl rfl rfl ?_
      refine wp_gr dX7_findTwoFolds_15 rfl rfl (kk_0 h) (rr_0_7 h) ?_
      refine c_i dX7_findTwoFolds_18 rfl rfl rfl (am_inv_v rfl (kk_0 h) rfl rfl rfl) (s_X7_breakOf h (kf_42 h)) k (fun v5 s4 h k => ?_)
      refine wp_cst (v := .int (-1 : Int32)) dX7_findTwoFolds_21 rfl rfl ?_
      refine wp_ic_ne dX7_findTwoFolds_22 rfl (fun c6 => have k := ok_neg c6 k; ?_) (fun c6 => have k := ok_pos c6 k; ?_)
      · refine wp_inc (v := (x3 + (1 : Int32))) (ls' := [(0, .ref 0), (1, .int x1), (2, .int x2), (3, .int (x3 + (1 : Int32)))]) dX7_findTwoFolds_36 rfl (Nat.le_of_ble_eq_true rfl) rfl rfl ?_
        refine wp_goto dX7_findTwoFolds_39 rfl ?_
        exact wp_sub (ih h k hP hX) rfl ⟨rfl, rfl, rfl, rfl, trivial⟩
      · refine wp_ld (v := .ref 0) dX7_findTwoFolds_25 rfl rfl rfl rfl ?_
        refine wp_ld (v := .int x1) dX7_findTwoFolds_26 rfl rfl rfl rfl ?_
        refine wp_ld (v := .int x2) dX7_findTwoFolds_27 rfl rfl rfl rfl ?_
        refine c_i dX7_findTwoFolds_28 rfl rfl rfl (am_inv_v rfl (kk_0 h) rfl rfl rfl) (s_X7_findSecond h) k (fun v8 s7 h k => ?_)
        refine wp_if_eq dX7_findTwoFolds_31 rfl (fun c9 => have k := ok_pos c9 k; ?_) (fun c9 => have k := ok_neg c9 k; ?_)
        · refine wp_inc (v := (x3 + (1 : Int32))) (ls' := [(0, .ref 0), (1, .int x1), (2, .int x2), (3, .int (x3 + (1 : Int32)))]) dX7_findTwoFolds_36 rfl (Nat.le_of_ble_eq_true rfl) rfl rfl ?_
          refine wp_goto dX7_findTwoFolds_39 rfl ?_
          exact wp_sub (ih h k hP hX) rfl ⟨rfl, rfl, rfl, rfl, trivial⟩
        · refine wp_cst (v := .int (1 : Int32)) dX7_findTwoFolds_34 rfl rfl ?_
          exact wp_end dX7_findTwoFolds_35 rfl rfl (hP _ _ (ok_s k) h)
noncomputable def f_X7_findTwoFolds (x1 : Int32) (x2 : Int32) (s : am_S) : am_F :=
  am_lm (L_X7_findTwoFolds_2 ax_fuel x1 x2 (0 : Int32) s) (fun e10 s11 =>
    some (.inl (some (.int (0 : Int32))), s11)
  )
theorem s_X7_findTwoFolds {N n : Nat} {d : Nat} {x1 : Int32} {x2 : Int32} {s : am_S} (h : am_sh N n s)  : am_S1 (am_sh N n) (d + 5) mX7_findTwoFolds [.ref 0, .int x1, .int x2] s (f_X7_findTwoFolds x1 x2 s) := by
  intro P Q k hP
  show am_WP (d + 5) mX7_findTwoFolds 0 [(0, .ref 0), (1, .int x1), (2, .int x2)] [] s Q
  unfold f_X7_findTwoFolds at k
  refine wp_cst (v := .int (0 : Int32)) dX7_findTwoFolds_0 rfl rfl ?_
  refine wp_st (ls' := [(0, .ref 0), (1, .int x1), (2, .int x2), (3, .int (0 : Int32))]) dX7_findTwoFolds_1 rfl rfl rfl (Nat.le_of_ble_eq_true rfl) rfl ?_
  refine lp_m k (fun P1 k hA hB => ?_)
  refine wp_sub (q_X7_findTwoFolds_2 ax_fuel h k (fun o s p h => hP o s (hA o s p) h) (fun e10 s11 p h => have k := hB e10 s11 p; ?_)) rfl ⟨rfl, rfl, rfl, rfl, trivial⟩
  refine wp_cst (v := .int (0 : Int32)) dX7_findTwoFolds_42 rfl rfl ?_
  exact wp_end dX7_findTwoFolds_43 rfl rfl (hP _ _ (ok_s k) h)
noncomputable def f_X7_found (x1 : Int32) (x2 : Int32) (x3 : Int32) (s : am_S) : am_F :=
  am_bi (f_X7_findNoFold x1 x2 s) (fun v2 s1 =>
    am_jn (fun (e4 : Unit) s5 =>
      if x3 = (-1 : Int32) then
        some (.inl (some (.int (am_I s5 42 2))), s5)
      else
        am_bi (f_X7_codeOf 42 x3 s5) (fun v8 s7 =>
          some (.inl (some (.int v8)), s7)
        )
    ) (fun J3 =>
      if v2 = 0 then
        am_bi (f_X7_findOneFold x1 x2 s1) (fun v11 s10 =>
          if v11 = 0 then
            am_bi (f_X7_findTwoFolds x1 x2 s10) (fun v14 s13 =>
              if v14 = 0 then
                some (.inl (some (.int (-1 : Int32))), s13)
              else
                J3 () s13
            )
          else
            J3 () s10
        )
      else
        J3 () s1
    )
  )
theorem s_X7_found {N n : Nat} {d : Nat} {x1 : Int32} {x2 : Int32} {x3 : Int32} {s : am_S} (h : am_sh N n s)  : am_S1 (am_sh N n) (d + 6) mX7_found [.ref 0, .int x1, .int x2, .int x3] s (f_X7_found x1 x2 x3 s) := by
  intro P Q k hP
  show am_WP (d + 6) mX7_found 0 [(0, .ref 0), (1, .int x1), (2, .int x2), (3, .int x3)] [] s Q
  unfold f_X7_found at k
  refine wp_ld (v := .ref 0) dX7_found_0 rfl rfl rfl rfl ?_
  refine wp_ld (v := .int x1) dX7_found_1 rfl rfl rfl rfl ?_
  refine wp_ld (v := .int x2) dX7_found_2 rfl rfl rfl rfl ?_
  refine c_i dX7_found_3 rfl rfl rfl (am_inv_v rfl (kk_0 h) rfl rfl rfl) (s_X7_findNoFold h) k (fun v2 s1 h k => ?_)
  refine jn_rule k (fun J3 hJ3 k => ?_)
  have HJ3 : ∀ (e4 : Unit) (s5 : am_S), am_sh N n s5 → am_ok (J3 e4 s5) P → am_WP (d + 6) mX7_found 29 [(0, .ref 0), (3, .int x3)] [] s5 Q := by
    intro e4 s5 h k
    replace k := hJ3 _ _ k
    refine wp_ld (v := .int x3) dX7_found_29 rfl rfl rfl rfl ?_
    refine wp_cst (v := .int (-1 : Int32)) dX7_found_30 rfl rfl ?_
    refine wp_ic_ne dX7_found_31 rfl (fun c6 => have k := ok_neg c6 k; ?_) (fun c6 => have k := ok_pos c6 k; ?_)
    · refine wp_ld (v := .ref 0) dX7_found_44 rfl rfl rfl rfl ?_
      refine wp_gr dX7_found_45 rfl rfl (kk_0 h) (rr_0_7 h) ?_
      refine wp_ld (v := .int x3) dX7_found_48 rfl rfl rfl rfl ?_
      refine c_i dX7_found_49 rfl rfl rfl (am_inv_s rfl rfl rfl rfl) (s_X7_codeOf h (kf_42 h)) k (fun v8 s7 h k => ?_)
      exact wp_end dX7_found_52 rfl (am_end_i rfl) (hP _ _ (ok_s k) h)
    · refine wp_ld (v := .ref 0) dX7_found_34 rfl rfl rfl rfl ?_
      refine wp_gr dX7_found_35 rfl rfl (kk_0 h) (rr_0_7 h) ?_
      refine wq_gI dX7_found_38 rfl rfl (kk_42 h) (v := (am_I s5 42 2)) rfl ?_
      refine wp_goto dX7_found_41 rfl ?_
      exact wp_end dX7_found_52 rfl (am_end_i rfl) (hP _ _ (ok_s k) h)
  refine wp_if_ne dX7_found_6 rfl (fun c9 => have k := ok_neg c9 k; ?_) (fun c9 => have k := ok_pos c9 k; ?_)
  · exact wp_sub (HJ3 _ _ h k) rfl ⟨rfl, rfl, trivial⟩
  · refine wp_ld (v := .ref 0) dX7_found_9 rfl rfl rfl rfl ?_
    refine wp_ld (v := .int x1) dX7_found_10 rfl rfl rfl rfl ?_
    refine wp_ld (v := .int x2) dX7_found_11 rfl rfl rfl rfl ?_
    refine c_i dX7_found_12 rfl rfl rfl (am_inv_v rfl (kk_0 h) rfl rfl rfl) (s_X7_findOneFold h) k (fun v11 s10 h k => ?_)
    refine wp_if_ne dX7_found_15 rfl (fun c12 => have k := ok_neg c12 k; ?_) (fun c12 => have k := ok_pos c12 k; ?_)
    · exact wp_sub (HJ3 _ _ h k) rfl ⟨rfl, rfl, trivial⟩
    · refine wp_ld (v := .ref 0) dX7_found_18 rfl rfl rfl rfl ?_
      refine wp_ld (v := .int x1) dX7_found_19 rfl rfl rfl rfl ?_
      refine wp_ld (v := .int x2) dX7_found_20 rfl rfl rfl rfl ?_
      refine c_i dX7_found_21 rfl rfl rfl (am_inv_v rfl (kk_0 h) rfl rfl rfl) (s_X7_findTwoFolds h) k (fun v14 s13 h k => ?_)
      refine wp_if_ne dX7_found_24 rfl (fun c15 => have k := ok_neg c15 k; ?_) (fun c15 => have k := ok_pos c15 k; ?_)
      · exact wp_sub (HJ3 _ _ h k) rfl ⟨rfl, rfl, trivial⟩
      · refine wp_cst (v := .int (-1 : Int32)) dX7_found_27 rfl rfl ?_
        exact wp_end dX7_found_28 rfl (am_end_i rfl) (hP _ _ (ok_s k) h)
noncomputable def f_X8_isFound (x1 : Int32) (x2 : Int32) (s : am_S) : am_F :=
  am_bu (f_X8_measure s) (fun s1 =>
    if (am_I s1 55 23) = x1 then
      if (am_I s1 55 25) = x2 then
        some (.inl (some (.int (1 : Int32))), s1)
      else
        some (.inl (some (.int (0 : Int32))), s1)
    else
      some (.inl (some (.int (0 : Int32))), s1)
  )
theorem s_X8_isFound {N n : Nat} {d : Nat} {x1 : Int32} {x2 : Int32} {s : am_S} (h : am_sh N n s)  : am_S1 (am_sh N n) (d + 2) mX8_isFound [.ref 55, .int x1, .int x2] s (f_X8_isFound x1 x2 s) := by
  intro P Q k hP
  show am_WP (d + 2) mX8_isFound 0 [(0, .ref 55), (1, .int x1), (2, .int x2)] [] s Q
  unfold f_X8_isFound at k
  refine wp_ld (v := .ref 55) dX8_isFound_0 rfl rfl rfl rfl ?_
  refine c_u dX8_isFound_1 rfl rfl rfl (am_inv_v rfl (kk_55 h) rfl rfl rfl) (s_X8_measure h) k (fun s1 h k => ?_)
  refine wp_ld (v := .ref 55) dX8_isFound_4 rfl rfl rfl rfl ?_
  refine wq_gI dX8_isFound_5 rfl rfl (kk_55 h) (v := (am_I s1 55 23)) rfl ?_
  refine wp_ld (v := .int x1) dX8_isFound_8 rfl rfl rfl rfl ?_
  refine wp_ic_ne dX8_isFound_9 rfl (fun c3 => have k := ok_neg c3 k; ?_) (fun c3 => have k := ok_pos c3 k; ?_)
  · refine wp_cst (v := .int (0 : Int32)) dX8_isFound_24 rfl rfl ?_
    exact wp_end dX8_isFound_25 rfl rfl (hP _ _ (ok_s k) h)
  · refine wp_ld (v := .ref 55) dX8_isFound_12 rfl rfl rfl rfl ?_
    refine wq_gI dX8_isFound_13 rfl rfl (kk_55 h) (v := (am_I s1 55 25)) rfl ?_
    refine wp_ld (v := .int x2) dX8_isFound_16 rfl rfl rfl rfl ?_
    refine wp_ic_ne dX8_isFound_17 rfl (fun c4 => have k := ok_neg c4 k; ?_) (fun c4 => have k := ok_pos c4 k; ?_)
    · refine wp_cst (v := .int (0 : Int32)) dX8_isFound_24 rfl rfl ?_
      exact wp_end dX8_isFound_25 rfl rfl (hP _ _ (ok_s k) h)
    · refine wp_cst (v := .int (1 : Int32)) dX8_isFound_20 rfl rfl ?_
      refine wp_goto dX8_isFound_21 rfl ?_
      exact wp_end dX8_isFound_25 rfl rfl (hP _ _ (ok_s k) h)
noncomputable def L_X8_found_32 : Nat → Int32 → Int32 → Int32 → Int32 → am_S → am_FE (Unit)
  | 0, _, _, _, _, _ => none
  | m + 1, x1, x2, x3, x4, s =>
    if (18 : Int32) ≤ x4 then
      some (.inr ((), s))
    else
      am_bu (f_X8_flat s) (fun s7 =>
        am_bi (f_X8_folds (x4 / (6 : Int32)) ((x4 - x4 / (6 : Int32) * (6 : Int32)) + (1 : Int32)) s7) (fun v10 s9 =>
          if v10 = 0 then
            L_X8_found_32 m x1 x2 x3 (x4 + (1 : Int32)) s9
          else
            am_bi (f_X8_isFound x1 x2 s9) (fun v13 s12 =>
              if v13 = 0 then
                L_X8_found_32 m x1 x2 x3 (x4 + (1 : Int32)) s12
              else
                if x3 = (-1 : Int32) then
                  some (.inl (.inl (some (.int (1 : Int32))), s12))
                else
                  if x3 = 0 then
                    some (.inl (.inl (some (.int ((((100 : Int32) * (x4 / (6 : Int32))) + (x4 - x4 / (6 : Int32) * (6 : Int32))) + (1 : Int32)))), s12))
                  else
                    some (.inl (.inl (some (.int (-1 : Int32))), s12))
            )
        )
      )
theorem q_X8_found_32 : ∀ (m : Nat) {N n : Nat} {d : Nat} {x1 : Int32} {x2 : Int32} {x3 : Int32} {x4 : Int32} {s : am_S} {P : (am_O × am_S) ⊕ (Unit × am_S) → Prop} {Q : am_O → am_S → Prop} (h : am_sh N n s)  (k : am_ok (L_X8_found_32 m x1 x2 x3 x4 s) P) (hP : ∀ o s, P (.inl (o, s)) → am_sh N n s → Q o s) (hX : ∀ (e : Unit) s, P (.inr (e, s)) → am_sh N n s → am_WP (d + 3) mX8_found 111 [(0, .ref 55), (1, .int x1), (2, .int x2), (3, .int x3)] [] s Q), am_WP (d + 3) mX8_found 32 [(0, .ref 55), (1, .int x1), (2, .int x2), (3, .int x3), (4, .int x4)] [] s Q := by
  intro m
  induction m with
  | zero =>
    intro N n d x1 x2 x3 x4 s P Q h  k hP hX
    exact (ok_no k).elim
  | succ m ih =>
    intro N n d x1 x2 x3 x4 s P Q h  k hP hX
    unfold L_X8_found_32 at k
    refine wp_ld (v := .int x4) dX8_found_32 rfl rfl rfl rfl ?_
    refine wp_cst (v := .int (18 : Int32)) dX8_found_34 rfl rfl ?_
    refine wp_ic_ge dX8_found_36 rfl (fun c6 => have k := ok_pos c6 k; ?_) (fun c6 => have k := ok_neg c6 k; ?_)
    · exact wp_sub (hX _ _ (ok_s k) h) rfl ⟨rfl, rfl, rfl, rfl, trivial⟩
    · refine wp_ld (v := .ref 55) dX8_found_39 rfl rfl rfl rfl ?_
      refine c_u dX8_found_40 rfl rfl rfl (am_inv_v rfl (kk_55 h) rfl rfl rfl) (s_X8_flat h) k (fun s7 h k => ?_)
      refine wp_ld (v := .ref 55) dX8_found_43 rfl rfl rfl rfl ?_
      refine wp_ld (v := .int x4) dX8_found_44 rfl rfl rfl rfl ?_
      refine wp_cst (v := .int (6 : Int32)) dX8_found_46 rfl rfl ?_
      refine wp_div dX8_found_48 (by decide) ?_
      refine wp_ld (v := .int x4) dX8_found_49 rfl rfl rfl rfl ?_
      refine wp_cst (v := .int (6 : Int32)) dX8_found_51 rfl rfl ?_
      refine wp_rem dX8_found_53 (by decide) ?_
      refine wp_cst (v := .int (1 : Int32)) dX8_found_54 rfl rfl ?_
      refine wp_pu dX8_found_55 rfl rfl ?_
      refine c_i dX8_found_56 rfl rfl rfl (am_inv_v rfl (kk_55 h) rfl rfl rfl) (s_X8_folds h) k (fun v10 s9 h k => ?_)
      refine wp_if_eq dX8_found_59 rfl (fun c11 => have k := ok_pos c11 k; ?_) (fun c11 => have k := ok_neg c11 k; ?_)
      · refine wp_inc (v := (x4 + (1 : Int32))) (ls' := [(0, .ref 55), (1, .int x1), (2, .int x2), (3, .int x3), (4, .int (x4 + (1 : Int32)))]) dX8_found_105 rfl (Nat.le_of_ble_eq_true rfl) rfl rfl ?_
        refine wp_goto dX8_found_108 rfl ?_
        exact wp_sub (ih h k hP hX) rfl ⟨rfl, rfl, rfl, rfl, rfl, trivial⟩
      · refine wp_ld (v := .ref 55) dX8_found_62 rfl rfl rfl rfl ?_
        refine wp_ld (v := .int x1) dX8_found_63 rfl rfl rfl rfl ?_
        refine wp_ld (v := .int x2) dX8_found_64 rfl rfl rfl rfl ?_
        refine c_i dX8_found_65 rfl rfl rfl (am_inv_v rfl (kk_55 h) rfl rfl rfl) (s_X8_isFound h) k (fun v13 s12 h k => ?_)
        refine wp_if_eq dX8_found_68 rfl (fun c14 => have k := ok_pos c14 k; ?_) (fun c14 => have k := ok_neg c14 k; ?_)
        · refine wp_inc (v := (x4 + (1 : Int32))) (ls' := [(0, .ref 55), (1, .int x1), (2, .int x2), (3, .int x3), (4, .int (x4 + (1 : Int32)))]) dX8_found_105 rfl (Nat.le_of_ble_eq_true rfl) rfl rfl ?_
          refine wp_goto dX8_found_108 rfl ?_
          exact wp_sub (ih h k hP hX) rfl ⟨rfl, rfl, rfl, rfl, rfl, trivial⟩
        · refine wp_ld (v := .int x3) dX8_found_71 rfl rfl rfl rfl ?_
          refine wp_cst (v := .int (-1 : Int32)) dX8_found_72 rfl rfl ?_
          refine wp_ic_ne dX8_found_73 rfl (fun c15 => have k := ok_neg c15 k; ?_) (fun c15 => have k := ok_pos c15 k; ?_)
          · refine wp_ld (v := .int x3) dX8_found_80 rfl rfl rfl rfl ?_
            refine wp_if_ne dX8_found_81 rfl (fun c16 => have k := ok_neg c16 k; ?_) (fun c16 => have k := ok_pos c16 k; ?_)
            · refine wp_cst (v := .int (-1 : Int32)) dX8_found_103 rfl rfl ?_
              exact wp_end dX8_found_104 rfl (am_end_i rfl) (hP _ _ (ok_s k) h)
            · refine wp_cst (v := .int (100 : Int32)) dX8_found_84 rfl rfl ?_
              refine wp_ld (v := .int x4) dX8_found_86 rfl rfl rfl rfl ?_
              refine wp_cst (v := .int (6 : Int32)) dX8_found_88 rfl rfl ?_
              refine wp_div dX8_found_90 (by decide) ?_
              refine wp_pu dX8_found_91 rfl rfl ?_
              refine wp_ld (v := .int x4) dX8_found_92 rfl rfl rfl rfl ?_
              refine wp_cst (v := .int (6 : Int32)) dX8_found_94 rfl rfl ?_
              refine wp_rem dX8_found_96 (by decide) ?_
              refine wp_pu dX8_found_97 rfl rfl ?_
              refine wp_cst (v := .int (1 : Int32)) dX8_found_98 rfl rfl ?_
              refine wp_pu dX8_found_99 rfl rfl ?_
              show am_WP (d + 3) mX8_found 100 _ _ _ Q
              refine wp_goto dX8_found_100 rfl ?_
              exact wp_end dX8_found_104 rfl (am_end_i rfl) (hP _ _ (ok_s k) h)
          · refine wp_cst (v := .int (1 : Int32)) dX8_found_76 rfl rfl ?_
            refine wp_goto dX8_found_77 rfl ?_
            exact wp_end dX8_found_104 rfl (am_end_i rfl) (hP _ _ (ok_s k) h)
noncomputable def L_X8_found_124 : Nat → Int32 → Int32 → Int32 → Int32 → Int32 → am_S → am_FE (Unit)
  | 0, _, _, _, _, _, _ => none
  | m + 1, x1, x2, x3, x4, x5, s =>
    if (18 : Int32) ≤ x5 then
      some (.inr ((), s))
    else
      am_bu (f_X8_flat s) (fun s21 =>
        am_bi (f_X8_folds (x4 / (6 : Int32)) ((x4 - x4 / (6 : Int32) * (6 : Int32)) + (1 : Int32)) s21) (fun v24 s23 =>
          if v24 = 0 then
            L_X8_found_124 m x1 x2 x3 x4 (x5 + (1 : Int32)) s23
          else
            am_bi (f_X8_folds (x5 / (6 : Int32)) ((x5 - x5 / (6 : Int32) * (6 : Int32)) + (1 : Int32)) s23) (fun v27 s26 =>
              if v27 = 0 then
                L_X8_found_124 m x1 x2 x3 x4 (x5 + (1 : Int32)) s26
              else
                am_bi (f_X8_isFound x1 x2 s26) (fun v30 s29 =>
                  if v30 = 0 then
                    L_X8_found_124 m x1 x2 x3 x4 (x5 + (1 : Int32)) s29
                  else
                    if x3 = 0 then
                      if x3 = (-1 : Int32) then
                        some (.inl (.inl (some (.int (2 : Int32))), s29))
                      else
                        am_bi (f_X8_within x3.toInt64 (0 : Int64) (1 : Int64) s29) (fun v39 s38 =>
                          if v39 = 0 then
                            some (.inl (.inl (some (.int (-1 : Int32))), s38))
                          else
                            some (.inl (.inl (some (.int ((((100 : Int32) * (x4 / (6 : Int32))) + (x4 - x4 / (6 : Int32) * (6 : Int32))) + (1 : Int32)))), s38))
                        )
                    else
                      if x3 = (-1 : Int32) then
                        some (.inl (.inl (some (.int (2 : Int32))), s29))
                      else
                        am_bi (f_X8_within x3.toInt64 (0 : Int64) (1 : Int64) s29) (fun v35 s34 =>
                          if v35 = 0 then
                            some (.inl (.inl (some (.int (-1 : Int32))), s34))
                          else
                            some (.inl (.inl (some (.int ((((100 : Int32) * (x5 / (6 : Int32))) + (x5 - x5 / (6 : Int32) * (6 : Int32))) + (1 : Int32)))), s34))
                        )
                )
            )
        )
      )
theorem q_X8_found_124 : ∀ (m : Nat) {N n : Nat} {d : Nat} {x1 : Int32} {x2 : Int32} {x3 : Int32} {x4 : Int32} {x5 : Int32} {s : am_S} {P : (am_O × am_S) ⊕ (Unit × am_S) → Prop} {Q : am_O → am_S → Prop} (h : am_sh N n s)  (k : am_ok (L_X8_found_124 m x1 x2 x3 x4 x5 s) P) (hP : ∀ o s, P (.inl (o, s)) → am_sh N n s → Q o s) (hX : ∀ (e : Unit) s, P (.inr (e, s)) → am_sh N n s → am_WP (d + 3) mX8_found 244 [(0, .ref 55), (1, .int x1), (2, .int x2), (3, .int x3), (4, .int x4)] [] s Q), am_WP (d + 3) mX8_found 124 [(0, .ref 55), (1, .int x1), (2, .int x2), (3, .int x3), (4, .int x4), (5, .int x5)] [] s Q := by
  intro m
  induction m with
  | zero =>
    intro N n d x1 x2 x3 x4 x5 s P Q h  k hP hX
    exact (ok_no k).elim
  | succ m ih =>
    intro N n d x1 x2 x3 x4 x5 s P Q h  k hP hX
    unfold L_X8_found_124 at k
    refine wp_ld (v := .int x5) dX8_found_124 rfl rfl rfl rfl ?_
    refine wp_cst (v := .int (18 : Int32)) dX8_found_126 rfl rfl ?_
    refine wp_ic_ge dX8_found_128 rfl (fun c20 => have k := ok_pos c20 k; ?_) (fun c20 => have k := ok_neg c20 k; ?_)
    · exact wp_sub (hX _ _ (ok_s k) h) rfl ⟨rfl, rfl, rfl, rfl, rfl, trivial⟩
    · refine wp_ld (v := .ref 55) dX8_found_131 rfl rfl rfl rfl ?_
      refine c_u dX8_found_132 rfl rfl rfl (am_inv_v rfl (kk_55 h) rfl rfl rfl) (s_X8_flat h) k (fun s21 h k => ?_)
      refine wp_ld (v := .ref 55) dX8_found_135 rfl rfl rfl rfl ?_
      refine wp_ld (v := .int x4) dX8_found_136 rfl rfl rfl rfl ?_
      refine wp_cst (v := .int (6 : Int32)) dX8_found_138 rfl rfl ?_
      refine wp_div dX8_found_140 (by decide) ?_
      refine wp_ld (v := .int x4) dX8_found_141 rfl rfl rfl rfl ?_
      refine wp_cst (v := .int (6 : Int32)) dX8_found_143 rfl rfl ?_
      refine wp_rem dX8_found_145 (by decide) ?_
      refine wp_cst (v := .int (1 : Int32)) dX8_found_146 rfl rfl ?_
      refine wp_pu dX8_found_147 rfl rfl ?_
      refine c_i dX8_found_148 rfl rfl rfl (am_inv_v rfl (kk_55 h) rfl rfl rfl) (s_X8_folds h) k (fun v24 s23 h k => ?_)
      refine wp_if_eq dX8_found_151 rfl (fun c25 => have k := ok_pos c25 k; ?_) (fun c25 => have k := ok_neg c25 k; ?_)
      · refine wp_inc (v := (x5 + (1 : Int32))) (ls' := [(0, .ref 55), (1, .int x1), (2, .int x2), (3, .int x3), (4, .int x4), (5, .int (x5 + (1 : Int32)))]) dX8_found_238 rfl (Nat.le_of_ble_eq_true rfl) rfl rfl ?_
        refine wp_goto dX8_found_241 rfl ?_
        exact wp_sub (ih h k hP hX) rfl ⟨rfl, rfl, rfl, rfl, rfl, rfl, trivial⟩
      · refine wp_ld (v := .ref 55) dX8_found_154 rfl rfl rfl rfl ?_
        refine wp_ld (v := .int x5) dX8_found_155 rfl rfl rfl rfl ?_
        refine wp_cst (v := .int (6 : Int32)) dX8_found_157 rfl rfl ?_
        refine wp_div dX8_found_159 (by decide) ?_
        refine wp_ld (v := .int x5) dX8_found_160 rfl rfl rfl rfl ?_
        refine wp_cst (v := .int (6 : Int32)) dX8_found_162 rfl rfl ?_
        refine wp_rem dX8_found_164 (by decide) ?_
        refine wp_cst (v := .int (1 : Int32)) dX8_found_165 rfl rfl ?_
        refine wp_pu dX8_found_166 rfl rfl ?_
        refine c_i dX8_found_167 rfl rfl rfl (am_inv_v rfl (kk_55 h) rfl rfl rfl) (s_X8_folds h) k (fun v27 s26 h k => ?_)
        refine wp_if_eq dX8_found_170 rfl (fun c28 => have k := ok_pos c28 k; ?_) (fun c28 => have k := ok_neg c28 k; ?_)
        · refine wp_inc (v := (x5 + (1 : Int32))) (ls' := [(0, .ref 55), (1, .int x1), (2, .int x2), (3, .int x3), (4, .int x4), (5, .int (x5 + (1 : Int32)))]) dX8_found_238 rfl (Nat.le_of_ble_eq_true rfl) rfl rfl ?_
          refine wp_goto dX8_found_241 rfl ?_
          exact wp_sub (ih h k hP hX) rfl ⟨rfl, rfl, rfl, rfl, rfl, rfl, trivial⟩
        · refine wp_ld (v := .ref 55) dX8_found_173 rfl rfl rfl rfl ?_
          refine wp_ld (v := .int x1) dX8_found_174 rfl rfl rfl rfl ?_
          refine wp_ld (v := .int x2) dX8_found_175 rfl rfl rfl rfl ?_
          refine c_i dX8_found_176 rfl rfl rfl (am_inv_v rfl (kk_55 h) rfl rfl rfl) (s_X8_isFound h) k (fun v30 s29 h k => ?_)
          refine wp_if_ne dX8_found_179 rfl (fun c31 => have k := ok_neg c31 k; ?_) (fun c31 => have k := ok_pos c31 k; ?_)
          · refine wp_ld (v := .int x3) dX8_found_185 rfl rfl rfl rfl ?_
            refine wp_if_ne dX8_found_186 rfl (fun c32 => have k := ok_neg c32 k; ?_) (fun c32 => have k := ok_pos c32 k; ?_)
            · refine wp_ld (v := .int x5) dX8_found_194 rfl rfl rfl rfl ?_
              refine wp_st (ls' := [(0, .ref 55), (1, .int x1), (2, .int x2), (3, .int x3), (4, .int x4), (5, .int x5), (6, .int x5)]) dX8_found_196 rfl rfl rfl (Nat.le_of_ble_eq_true rfl) rfl ?_
              refine wp_ld (v := .int x3) dX8_found_198 rfl rfl rfl rfl ?_
              refine wp_cst (v := .int (-1 : Int32)) dX8_found_199 rfl rfl ?_
              refine wp_ic_ne dX8_found_200 rfl (fun c33 => have k := ok_neg c33 k; ?_) (fun c33 => have k := ok_pos c33 k; ?_)
              · refine wp_ld (v := .int x3) dX8_found_207 rfl rfl rfl rfl ?_
                refine wp_pu dX8_found_208 rfl rfl ?_
                refine wp_cst (v := .long (0 : Int64)) dX8_found_209 rfl rfl ?_
                refine wp_cst (v := .long (1 : Int64)) dX8_found_210 rfl rfl ?_
                refine c_i dX8_found_211 rfl rfl rfl (am_inv_s rfl rfl rfl rfl) (s_X8_within h) k (fun v35 s34 h k => ?_)
                refine wp_if_eq dX8_found_214 rfl (fun c36 => have k := ok_pos c36 k; ?_) (fun c36 => have k := ok_neg c36 k; ?_)
                · refine wp_cst (v := .int (-1 : Int32)) dX8_found_236 rfl rfl ?_
                  exact wp_end dX8_found_237 rfl (am_end_i rfl) (hP _ _ (ok_s k) h)
                · refine wp_cst (v := .int (100 : Int32)) dX8_found_217 rfl rfl ?_
                  refine wp_ld (v := .int x5) dX8_found_219 rfl rfl rfl rfl ?_
                  refine wp_cst (v := .int (6 : Int32)) dX8_found_221 rfl rfl ?_
                  refine wp_div dX8_found_223 (by decide) ?_
                  refine wp_pu dX8_found_224 rfl rfl ?_
                  refine wp_ld (v := .int x5) dX8_found_225 rfl rfl rfl rfl ?_
                  refine wp_cst (v := .int (6 : Int32)) dX8_found_227 rfl rfl ?_
                  refine wp_rem dX8_found_229 (by decide) ?_
                  refine wp_pu dX8_found_230 rfl rfl ?_
                  refine wp_cst (v := .int (1 : Int32)) dX8_found_231 rfl rfl ?_
                  refine wp_pu dX8_found_232 rfl rfl ?_
                  show am_WP (d + 3) mX8_found 233 _ _ _ Q
                  refine wp_goto dX8_found_233 rfl ?_
                  exact wp_end dX8_found_237 rfl (am_end_i rfl) (hP _ _ (ok_s k) h)
              · refine wp_cst (v := .int (2 : Int32)) dX8_found_203 rfl rfl ?_
                refine wp_goto dX8_found_204 rfl ?_
                exact wp_end dX8_found_237 rfl (am_end_i rfl) (hP _ _ (ok_s k) h)
            · refine wp_ld (v := .int x4) dX8_found_189 rfl rfl rfl rfl ?_
              refine wp_goto dX8_found_191 rfl ?_
              refine wp_st (ls' := [(0, .ref 55), (1, .int x1), (2, .int x2), (3, .int x3), (4, .int x4), (5, .int x5), (6, .int x4)]) dX8_found_196 rfl rfl rfl (Nat.le_of_ble_eq_true rfl) rfl ?_
              refine wp_ld (v := .int x3) dX8_found_198 rfl rfl rfl rfl ?_
              refine wp_cst (v := .int (-1 : Int32)) dX8_found_199 rfl rfl ?_
              refine wp_ic_ne dX8_found_200 rfl (fun c37 => have k := ok_neg c37 k; ?_) (fun c37 => have k := ok_pos c37 k; ?_)
              · refine wp_ld (v := .int x3) dX8_found_207 rfl rfl rfl rfl ?_
                refine wp_pu dX8_found_208 rfl rfl ?_
                refine wp_cst (v := .long (0 : Int64)) dX8_found_209 rfl rfl ?_
                refine wp_cst (v := .long (1 : Int64)) dX8_found_210 rfl rfl ?_
                refine c_i dX8_found_211 rfl rfl rfl (am_inv_s rfl rfl rfl rfl) (s_X8_within h) k (fun v39 s38 h k => ?_)
                refine wp_if_eq dX8_found_214 rfl (fun c40 => have k := ok_pos c40 k; ?_) (fun c40 => have k := ok_neg c40 k; ?_)
                · refine wp_cst (v := .int (-1 : Int32)) dX8_found_236 rfl rfl ?_
                  exact wp_end dX8_found_237 rfl (am_end_i rfl) (hP _ _ (ok_s k) h)
                · refine wp_cst (v := .int (100 : Int32)) dX8_found_217 rfl rfl ?_
                  refine wp_ld (v := .int x4) dX8_found_219 rfl rfl rfl rfl ?_
                  refine wp_cst (v := .int (6 : Int32)) dX8_found_221 rfl rfl ?_
                  refine wp_div dX8_found_223 (by decide) ?_
                  refine wp_pu dX8_found_224 rfl rfl ?_
                  refine wp_ld (v := .int x4) dX8_found_225 rfl rfl rfl rfl ?_
                  refine wp_cst (v := .int (6 : Int32)) dX8_found_227 rfl rfl ?_
                  refine wp_rem dX8_found_229 (by decide) ?_
                  refine wp_pu dX8_found_230 rfl rfl ?_
                  refine wp_cst (v := .int (1 : Int32)) dX8_found_231 rfl rfl ?_
                  refine wp_pu dX8_found_232 rfl rfl ?_
                  show am_WP (d + 3) mX8_found 233 _ _ _ Q
                  refine wp_goto dX8_found_233 rfl ?_
                  exact wp_end dX8_found_237 rfl (am_end_i rfl) (hP _ _ (ok_s k) h)
              · refine wp_cst (v := .int (2 : Int32)) dX8_found_203 rfl rfl ?_
                refine wp_goto dX8_found_204 rfl ?_
                exact wp_end dX8_found_237 rfl (am_end_i rfl) (hP _ _ (ok_s k) h)
          · refine wp_goto dX8_found_182 rfl ?_
            refine wp_inc (v := (x5 + (1 : Int32))) (ls' := [(0, .ref 55), (1, .int x1), (2, .int x2), (3, .int x3), (4, .int x4), (5, .int (x5 + (1 : Int32)))]) dX8_found_238 rfl (Nat.le_of_ble_eq_true rfl) rfl rfl ?_
            refine wp_goto dX8_found_241 rfl ?_
            exact wp_sub (ih h k hP hX) rfl ⟨rfl, rfl, rfl, rfl, rfl, rfl, trivial⟩
noncomputable def L_X8_found_114 : Nat → Int32 → Int32 → Int32 → Int32 → am_S → am_FE (Unit)
  | 0, _, _, _, _, _ => none
  | m + 1, x1, x2, x3, x4, s =>
    if (18 : Int32) ≤ x4 then
      some (.inr ((), s))
    else
      am_ll (L_X8_found_124 ax_fuel x1 x2 x3 x4 (0 : Int32) s) (fun e41 s42 =>
        L_X8_found_114 m x1 x2 x3 (x4 + (1 : Int32)) s42
      )
theorem q_X8_found_114 : ∀ (m : Nat) {N n : Nat} {d : Nat} {x1 : Int32} {x2 : Int32} {x3 : Int32} {x4 : Int32} {s : am_S} {P : (am_O × am_S) ⊕ (Unit × am_S) → Prop} {Q : am_O → am_S → Prop} (h : am_sh N n s)  (k : am_ok (L_X8_found_114 m x1 x2 x3 x4 s) P) (hP : ∀ o s, P (.inl (o, s)) → am_sh N n s → Q o s) (hX : ∀ (e : Unit) s, P (.inr (e, s)) → am_sh N n s → am_WP (d + 3) mX8_found 250 [] [] s Q), am_WP (d + 3) mX8_found 114 [(0, .ref 55), (1, .int x1), (2, .int x2), (3, .int x3), (4, .int x4)] [] s Q := by
  intro m
  induction m with
  | zero =>
    intro N n d x1 x2 x3 x4 s P Q h  k hP hX
    exact (ok_no k).elim
  | succ m ih =>
    intro N n d x1 x2 x3 x4 s P Q h  k hP hX
    unfold L_X8_found_114 at k
    refine wp_ld (v := .int x4) dX8_found_114 rfl rfl rfl rfl ?_
    refine wp_cst (v := .int (18 : Int32)) dX8_found_116 rfl rfl ?_
    refine wp_ic_ge dX8_found_118 rfl (fun c19 => have k := ok_pos c19 k; ?_) (fun c19 => have k := ok_neg c19 k; ?_)
    · exact wp_sub (hX _ _ (ok_s k) h) rfl trivial
    · refine wp_cst (v := .int (0 : Int32)) dX8_found_121 rfl rfl ?_
      refine wp_st (ls' := [(0, .ref 55), (1, .int x1), (2, .int x2), (3, .int x3), (4, .int x4), (5, .int (0 : Int32))]) dX8_found_122 rfl rfl rfl (Nat.le_of_ble_eq_true rfl) rfl ?_
      refine lp_l k (fun P1 k hA hB => ?_)
      refine wp_sub (q_X8_found_124 ax_fuel h k (fun o s p h => hP o s (hA o s p) h) (fun e41 s42 p h => have k := hB e41 s42 p; ?_)) rfl ⟨rfl, rfl, rfl, rfl, rfl, rfl, trivial⟩
      refine wp_inc (v := (x4 + (1 : Int32))) (ls' := [(0, .ref 55), (1, .int x1), (2, .int x2), (3, .int x3), (4, .int (x4 + (1 : Int32)))]) dX8_found_244 rfl (Nat.le_of_ble_eq_true rfl) rfl rfl ?_
      refine wp_goto dX8_found_247 rfl ?_
      exact wp_sub (ih h k hP hX) rfl ⟨rfl, rfl, rfl, rfl, rfl, trivial⟩
noncomputable def f_X8_found (x1 : Int32) (x2 : Int32) (x3 : Int32) (s : am_S) : am_F :=
  am_bu (f_X8_flat (am_sI s 55 3 (0 : Int32))) (fun s1 =>
    am_bi (f_X8_isFound x1 x2 s1) (fun v4 s3 =>
      if v4 = 0 then
        am_lm (L_X8_found_32 ax_fuel x1 x2 x3 (0 : Int32) s3) (fun e17 s18 =>
          am_lm (L_X8_found_114 ax_fuel x1 x2 x3 (0 : Int32) s18) (fun e43 s44 =>
            some (.inl (some (.int (-1 : Int32))), s44)
          )
        )
      else
        if x3 = (-1 : Int32) then
          some (.inl (some (.int (0 : Int32))), s3)
        else
          some (.inl (some (.int (-1 : Int32))), s3)
    )
  )
theorem s_X8_found {N n : Nat} {d : Nat} {x1 : Int32} {x2 : Int32} {x3 : Int32} {s : am_S} (h : am_sh N n s)  : am_S1 (am_sh N n) (d + 3) mX8_found [.ref 55, .int x1, .int x2, .int x3] s (f_X8_found x1 x2 x3 s) := by
  intro P Q k hP
  show am_WP (d + 3) mX8_found 0 [(0, .ref 55), (1, .int x1), (2, .int x2), (3, .int x3)] [] s Q
  unfold f_X8_found at k
  refine wp_ld (v := .ref 55) dX8_found_0 rfl rfl rfl rfl ?_
  refine wp_cst (v := .int (0 : Int32)) dX8_found_1 rfl rfl ?_
  refine wp_pI dX8_found_2 rfl rfl rfl (fun h => absurd h (by decide)) (kk_55 h) ?_
  refine wp_ld (v := .ref 55) dX8_found_5 rfl rfl rfl rfl ?_
  refine c_u dX8_found_6 rfl rfl rfl (am_inv_v rfl (kk_55 (sh_sI h)) rfl rfl rfl) (s_X8_flat (sh_sI h)) k (fun s1 h k => ?_)
  refine wp_ld (v := .ref 55) dX8_found_9 rfl rfl rfl rfl ?_
  refine wp_ld (v := .int x1) dX8_found_10 rfl rfl rfl rfl ?_
  refine wp_ld (v := .int x2) dX8_found_11 rfl rfl rfl rfl ?_
  refine c_i dX8_found_12 rfl rfl rfl (am_inv_v rfl (kk_55 h) rfl rfl rfl) (s_X8_isFound h) k (fun v4 s3 h k => ?_)
  refine wp_if_eq dX8_found_15 rfl (fun c5 => have k := ok_pos c5 k; ?_) (fun c5 => have k := ok_neg c5 k; ?_)
  · refine wp_cst (v := .int (0 : Int32)) dX8_found_29 rfl rfl ?_
    refine wp_st (ls' := [(0, .ref 55), (1, .int x1), (2, .int x2), (3, .int x3), (4, .int (0 : Int32))]) dX8_found_30 rfl rfl rfl (Nat.le_of_ble_eq_true rfl) rfl ?_
    refine lp_m k (fun P1 k hA hB => ?_)
    refine wp_sub (q_X8_found_32 ax_fuel h k (fun o s p h => hP o s (hA o s p) h) (fun e17 s18 p h => have k := hB e17 s18 p; ?_)) rfl ⟨rfl, rfl, rfl, rfl, rfl, trivial⟩
    refine wp_cst (v := .int (0 : Int32)) dX8_found_111 rfl rfl ?_
    refine wp_st (ls' := [(0, .ref 55), (1, .int x1), (2, .int x2), (3, .int x3), (4, .int (0 : Int32))]) dX8_found_112 rfl rfl rfl (Nat.le_of_ble_eq_true rfl) rfl ?_
    refine lp_m k (fun P1 k hA hB => ?_)
    refine wp_sub (q_X8_found_114 ax_fuel h k (fun o s p h => hP o s (hA o s p) h) (fun e43 s44 p h => have k := hB e43 s44 p; ?_)) rfl ⟨rfl, rfl, rfl, rfl, rfl, trivial⟩
    refine wp_cst (v := .int (-1 : Int32)) dX8_found_250 rfl rfl ?_
    exact wp_end dX8_found_251 rfl (am_end_i rfl) (hP _ _ (ok_s k) h)
  · refine wp_ld (v := .int x3) dX8_found_18 rfl rfl rfl rfl ?_
    refine wp_cst (v := .int (-1 : Int32)) dX8_found_19 rfl rfl ?_
    refine wp_ic_ne dX8_found_20 rfl (fun c45 => have k := ok_neg c45 k; ?_) (fun c45 => have k := ok_pos c45 k; ?_)
    · refine wp_cst (v := .int (-1 : Int32)) dX8_found_27 rfl rfl ?_
      exact wp_end dX8_found_28 rfl (am_end_i rfl) (hP _ _ (ok_s k) h)
    · refine wp_cst (v := .int (0 : Int32)) dX8_found_23 rfl rfl ?_
      refine wp_goto dX8_found_24 rfl ?_
      exact wp_end dX8_found_28 rfl (am_end_i rfl) (hP _ _ (ok_s k) h)
noncomputable def f_X7_needTray (x1 : Int32) (s : am_S) : am_F :=
  am_jn (fun (e2 : Value) s3 =>
    am_mv e2 (
      some (.inr 3, am_tick s3)
    ) (fun t4 => if am_k0 t4 = (6, 0) ∧ t4 < 72 then
      some (.inl (some (.ref t4)), s3)
    else none)
  ) (fun J1 =>
    am_jn (fun (e9 : Unit) s10 =>
      J1 (.null) s10
    ) (fun J8 =>
      if x1 < 0 then
        J8 () s
      else
        if (4 : Int32) ≤ x1 then
          J8 () s
        else
          if am_in x1 4 = true then
            J1 (.ref (47 + 2 * x1.toNatClampNeg)) s
          else none
    )
  )
theorem s_X7_needTray {N n : Nat} {d : Nat} {x1 : Int32} {s : am_S} (h : am_sh N n s)  : am_S1 (am_sh N n) (d) mX7_needTray [.ref 0, .int x1] s (f_X7_needTray x1 s) := by
  intro P Q k hP
  show am_WP (d) mX7_needTray 0 [(0, .ref 0), (1, .int x1)] [] s Q
  unfold f_X7_needTray at k
  refine wp_ld (v := .int x1) dX7_needTray_0 rfl rfl rfl rfl ?_
  refine jn_rule k (fun J1 hJ1 k => ?_)
  have HJ1 : ∀ (e2 : Value) (s3 : am_S), am_sh N n s3 → am_ok (J1 e2 s3) P → am_WP (d) mX7_needTray 19 [] [e2] s3 Q := by
    intro e2 s3 h k
    replace k := hJ1 _ _ k
    rcases ok_mv k with ⟨c5, k⟩ | ⟨t4, c5, k⟩
    · subst c5
      refine wp_st (ls' := [(2, .null)]) dX7_needTray_19 rfl rfl rfl (Nat.le_of_ble_eq_true rfl) rfl ?_
      refine wp_ld (v := .null) dX7_needTray_20 rfl rfl rfl rfl ?_
      refine wp_jp dX7_needTray_21 rfl rfl ?_
      exact wp_thr dX7_needTray_24 rfl rfl (am_thr_2 rfl rfl dX7_needTray_27 dX7_needTray_28 dX7_needTray_31 dX7_needTray_34 rfl) (hP _ _ (ok_s k) (sh_tk h))
    · subst c5
      obtain ⟨g6, k⟩ := ok_g k
      have f7 := kk_up h g6
      refine wp_st (ls' := [(2, .ref t4)]) dX7_needTray_19 rfl rfl rfl (Nat.le_of_ble_eq_true rfl) rfl ?_
      refine wp_ld (v := .ref t4) dX7_needTray_20 rfl rfl rfl rfl ?_
      refine wp_jp dX7_needTray_21 rfl rfl ?_
      refine wp_ld (v := .ref t4) dX7_needTray_35 rfl rfl rfl rfl ?_
      exact wp_end dX7_needTray_36 rfl rfl (hP _ _ (ok_s k) h)
  refine jn_rule k (fun J8 hJ8 k => ?_)
  have HJ8 : ∀ (e9 : Unit) (s10 : am_S), am_sh N n s10 → am_ok (J8 e9 s10) P → am_WP (d) mX7_needTray 18 [] [] s10 Q := by
    intro e9 s10 h k
    replace k := hJ8 _ _ k
    refine wp_cst (v := .null) dX7_needTray_18 rfl rfl ?_
    exact wp_sub (HJ1 _ _ h k) rfl trivial
  refine wp_if_lt dX7_needTray_1 rfl (fun c11 => have k := ok_pos c11 k; ?_) (fun c11 => have k := ok_neg c11 k; ?_)
  · exact wp_sub (HJ8 _ _ h k) rfl trivial
  · refine wp_ld (v := .int x1) dX7_needTray_4 rfl rfl rfl rfl ?_
    refine wp_cst (v := .int (4 : Int32)) dX7_needTray_5 rfl rfl ?_
    refine wp_ic_ge dX7_needTray_6 rfl (fun c12 => have k := ok_pos c12 k; ?_) (fun c12 => have k := ok_neg c12 k; ?_)
    · exact wp_sub (HJ8 _ _ h k) rfl trivial
    · refine wp_ld (v := .ref 0) dX7_needTray_9 rfl rfl rfl rfl ?_
      refine wp_gr dX7_needTray_10 rfl rfl (kk_0 h) (rr_0_3 h) ?_
      refine wp_ld (v := .int x1) dX7_needTray_13 rfl rfl rfl rfl ?_
      obtain ⟨g13, k⟩ := ok_g k
      have f14 := kf_trays h g13
      refine wq_aald dX7_needTray_14 (kk_36 h) (by decide) g13 (rr_trays h g13) ?_
      refine wp_goto dX7_needTray_15 rfl ?_
      exact wp_sub (HJ1 _ _ h k) rfl trivial
noncomputable def L_X6_lay_12 : Nat → Nat → Int32 → am_S → am_FE (Unit)
  | 0, _, _, _ => none
  | m + 1, a0, x3, s =>
    if (12 : Int32) ≤ x3 then
      some (.inr ((), s))
    else
      if am_in x3 12 = true then
        L_X6_lay_12 m a0 (x3 + (1 : Int32)) (am_sL s (a0 + 1) (x3.toNatClampNeg) (0 : Int64))
      else none
theorem q_X6_lay_12 : ∀ (m : Nat) {N n : Nat} {d : Nat} {a0 : Nat} {x3 : Int32} {s : am_S} {P : (am_O × am_S) ⊕ (Unit × am_S) → Prop} {Q : am_O → am_S → Prop} (h : am_sh N n s) (fa0 : am_kf n a0 6) (k : am_ok (L_X6_lay_12 m a0 x3 s) P) (hP : ∀ o s, P (.inl (o, s)) → am_sh N n s → Q o s) (hX : ∀ (e : Unit) s, P (.inr (e, s)) → am_sh N n s → am_WP (d) mX6_lay 31 [] [] s Q), am_WP (d) mX6_lay 12 [(0, .ref a0), (3, .int x3)] [] s Q := by
  intro m
  induction m with
  | zero =>
    intro N n d a0 x3 s P Q h fa0 k hP hX
    exact (ok_no k).elim
  | succ m ih =>
    intro N n d a0 x3 s P Q h fa0 k hP hX
    unfold L_X6_lay_12 at k
    refine wp_ld (v := .int x3) dX6_lay_12 rfl rfl rfl rfl ?_
    refine wp_cst (v := .int (12 : Int32)) dX6_lay_13 rfl rfl ?_
    refine wp_ic_ge dX6_lay_15 rfl (fun c1 => have k := ok_pos c1 k; ?_) (fun c1 => have k := ok_neg c1 k; ?_)
    · exact wp_sub (hX _ _ (ok_s k) h) rfl trivial
    · refine wp_ld (v := .ref a0) dX6_lay_18 rfl rfl rfl rfl ?_
      refine wp_gr dX6_lay_19 rfl rfl (kk_f h fa0) (rr_tr h fa0) ?_
      refine wp_ld (v := .int x3) dX6_lay_22 rfl rfl rfl rfl ?_
      refine wp_cst (v := .long (0 : Int64)) dX6_lay_23 rfl rfl ?_
      obtain ⟨g2, k⟩ := ok_g k
      refine wq_last dX6_lay_24 (kk_tr h fa0) g2 (j := (x3.toNatClampNeg)) rfl ?_
      refine wp_inc (v := (x3 + (1 : Int32))) (ls' := [(0, .ref a0), (3, .int (x3 + (1 : Int32)))]) dX6_lay_25 rfl (Nat.le_of_ble_eq_true rfl) rfl rfl ?_
      refine wp_goto dX6_lay_28 rfl ?_
      exact wp_sub (ih (sh_sL h) fa0 k hP hX) rfl ⟨rfl, rfl, trivial⟩
noncomputable def f_X6_lay (a : Nat) (x1 : Int32) (x2 : Int32) (s : am_S) : am_F :=
  am_lm (L_X6_lay_12 ax_fuel a (0 : Int32) (am_sI (am_sI s a 1 x1) a 2 x2)) (fun e3 s4 =>
    some (.inl none, s4)
  )
theorem s_X6_lay {N n : Nat} {d : Nat} {a : Nat} {x1 : Int32} {x2 : Int32} {s : am_S} (h : am_sh N n s) (fa : am_kf n a 6) : am_S1 (am_sh N n) (d) mX6_lay [.ref a, .int x1, .int x2] s (f_X6_lay a x1 x2 s) := by
  intro P Q k hP
  show am_WP (d) mX6_lay 0 [(0, .ref a), (1, .int x1), (2, .int x2)] [] s Q
  unfold f_X6_lay at k
  refine wp_ld (v := .ref a) dX6_lay_0 rfl rfl rfl rfl ?_
  refine wp_ld (v := .int x1) dX6_lay_1 rfl rfl rfl rfl ?_
  refine wp_pI dX6_lay_2 rfl rfl rfl (fun h => absurd h (by decide)) (kk_f h fa) ?_
  refine wp_ld (v := .ref a) dX6_lay_5 rfl rfl rfl rfl ?_
  refine wp_ld (v := .int x2) dX6_lay_6 rfl rfl rfl rfl ?_
  refine wp_pI dX6_lay_7 rfl rfl rfl (fun h => absurd h (by decide)) (kk_f (sh_sI h) fa) ?_
  refine wp_cst (v := .int (0 : Int32)) dX6_lay_10 rfl rfl ?_
  refine wp_st (ls' := [(0, .ref a), (1, .int x1), (2, .int x2), (3, .int (0 : Int32))]) dX6_lay_11 rfl rfl rfl (Nat.le_of_ble_eq_true rfl) rfl ?_
  refine lp_m k (fun P1 k hA hB => ?_)
  refine wp_sub (q_X6_lay_12 ax_fuel (sh_sI (sh_sI h)) fa k (fun o s p h => hP o s (hA o s p) h) (fun e3 s4 p h => have k := hB e3 s4 p; ?_)) rfl ⟨rfl, rfl, trivial⟩
  exact wp_end dX6_lay_31 rfl rfl (hP _ _ (ok_s k) h)
noncomputable def f_X7_tray (x1 : Int32) (x2 : Int32) (x3 : Int32) (s : am_S) : am_F :=
  am_tv (f_X7_needTray x1 s) (fun v2 s1 =>
    am_mv v2 none (fun t3 => if am_k0 t3 = (6, 0) ∧ t3 < 72 then
      am_tu (f_X7_needWithin x2 (0 : Int32) (3 : Int32) s1) (fun s7 =>
        am_tu (f_X7_needWithin x3 (0 : Int32) (12 : Int32) s7) (fun s9 =>
          am_bu (f_X6_lay t3 x2 x3 s9) (fun s11 =>
            some (.inl none, s11)
          )
        )
      )
    else none)
  )
theorem s_X7_tray {N n : Nat} {d : Nat} {x1 : Int32} {x2 : Int32} {x3 : Int32} {s : am_S} (h : am_sh N n s)  : am_S1 (am_sh N n) (d + 1) mX7_tray [.ref 0, .int x1, .int x2, .int x3] s (f_X7_tray x1 x2 x3 s) := by
  intro P Q k hP
  show am_WP (d + 1) mX7_tray 0 [(0, .ref 0), (1, .int x1), (2, .int x2), (3, .int x3)] [] s Q
  unfold f_X7_tray at k
  refine wp_ld (v := .ref 0) dX7_tray_0 rfl rfl rfl rfl ?_
  refine wp_ld (v := .int x1) dX7_tray_1 rfl rfl rfl rfl ?_
  refine t_v dX7_tray_2 rfl rfl rfl (am_inv_v rfl (kk_0 h) rfl rfl rfl) (s_X7_needTray h) k rfl rfl hP (fun v2 s1 h k => ?_)
  obtain ⟨t3, c4, k⟩ := ok_mn k
  subst c4
  obtain ⟨g5, k⟩ := ok_g k
  have f6 := kk_up h g5
  refine wp_st (ls' := [(0, .ref 0), (1, .int x1), (2, .int x2), (3, .int x3), (4, .ref t3)]) dX7_tray_5 rfl rfl rfl (Nat.le_of_ble_eq_true rfl) rfl ?_
  refine wp_ld (v := .int x2) dX7_tray_7 rfl rfl rfl rfl ?_
  refine wp_cst (v := .int (0 : Int32)) dX7_tray_8 rfl rfl ?_
  refine wp_cst (v := .int (3 : Int32)) dX7_tray_9 rfl rfl ?_
  refine t_u dX7_tray_10 rfl rfl rfl (am_inv_s rfl rfl rfl rfl) (s_X7_needWithin h) k rfl rfl hP (fun s7 h k => ?_)
  refine wp_ld (v := .int x3) dX7_tray_13 rfl rfl rfl rfl ?_
  refine wp_cst (v := .int (0 : Int32)) dX7_tray_14 rfl rfl ?_
  refine wp_cst (v := .int (12 : Int32)) dX7_tray_15 rfl rfl ?_
  refine t_u dX7_tray_17 rfl rfl rfl (am_inv_s rfl rfl rfl rfl) (s_X7_needWithin h) k rfl rfl hP (fun s9 h k => ?_)
  refine wp_ld (v := .ref t3) dX7_tray_20 rfl rfl rfl rfl ?_
  refine wp_ld (v := .int x2) dX7_tray_22 rfl rfl rfl rfl ?_
  refine wp_ld (v := .int x3) dX7_tray_23 rfl rfl rfl rfl ?_
  refine c_u dX7_tray_24 rfl rfl rfl (am_inv_v rfl (kk_f h f6) rfl rfl rfl) (s_X6_lay h f6) k (fun s11 h k => ?_)
  exact wp_end dX7_tray_27 rfl rfl (hP _ _ (ok_s k) h)
noncomputable def f_L_tray (x2 : Int32) (x3 : Int32) (x4 : Int32) (s : am_S) : am_F :=
  am_xu (f_X7_tray x2 x3 x4 s) (fun s1 =>
    some (.inl (some (.int (0 : Int32))), s1)
  ) (fun e s1 =>
    if e = 3 then
      some (.inl (some (.int (1 : Int32))), s1)
    else
      if e = 0 then
        some (.inl (some (.int (2 : Int32))), s1)
      else
        none
  )
theorem s_L_tray {N : Nat} {d : Nat} {x2 : Int32} {x3 : Int32} {x4 : Int32} {s : am_S} (h : am_shE N s)  : am_S1 (am_shE N) (d + 2) mL_tray [.ref 0, .int x2, .int x3, .int x4] s (f_L_tray x2 x3 x4 s) := by
  intro P Q k hP
  show am_WP (d + 2) mL_tray 0 [(0, .ref 0), (1, .int x2), (2, .int x3), (3, .int x4)] [] s Q
  unfold f_L_tray at k
  refine wp_ld (v := .ref 0) dL_tray_0 rfl rfl rfl rfl ?_
  refine wp_ld (v := .int x2) dL_tray_1 rfl rfl rfl rfl ?_
  refine wp_ld (v := .int x3) dL_tray_2 rfl rfl rfl rfl ?_
  refine wp_ld (v := .int x4) dL_tray_3 rfl rfl rfl rfl ?_
  refine x_u dL_tray_4 rfl rfl rfl (am_inv_v rfl (kE_0 h) rfl rfl rfl) (sE h (fun _ h => s_X7_tray h)) k rfl (List.cons_ne_nil _ _) (fun s1 h k => ?_) (fun e s1 h k => ?_)
  · refine wp_goto dL_tray_7 rfl ?_
    refine wp_cst (v := .int (0 : Int32)) dL_tray_18 rfl rfl ?_
    exact wp_end dL_tray_19 rfl (am_end_i rfl) (hP _ _ (ok_s k) h)
  · by_cases c3 : e = 3
    · have k := ok_pos c3 k
      subst c3
      refine ⟨_, _, rfl, ?_⟩
      refine wp_cst (v := .int (1 : Int32)) dL_tray_12 rfl rfl ?_
      exact wp_end dL_tray_13 rfl (am_end_i rfl) (hP _ _ (ok_s k) h)
    replace k := ok_neg c3 k
    by_cases c4 : e = 0
    · have k := ok_pos c4 k
      subst c4
      refine ⟨_, _, rfl, ?_⟩
      refine wp_cst (v := .int (2 : Int32)) dL_tray_16 rfl rfl ?_
      exact wp_end dL_tray_17 rfl (am_end_i rfl) (hP _ _ (ok_s k) h)
    replace k := ok_neg c4 k
    exact (ok_no k).elim
noncomputable def f_X8_isTray (x1 : Int32) (s : am_S) : am_F :=
  am_bi (f_X8_within x1.toInt64 (0 : Int64) (3 : Int64) s) (fun v2 s1 =>
    if v2 = 0 ∨ v2 = 1 then
      some (.inl (some (.int v2)), s1)
    else none
  )
theorem s_X8_isTray {N n : Nat} {d : Nat} {x1 : Int32} {s : am_S} (h : am_sh N n s)  : am_S1 (am_sh N n) (d + 1) mX8_isTray [.int x1] s (f_X8_isTray x1 s) := by
  intro P Q k hP
  show am_WP (d + 1) mX8_isTray 0 [(0, .int x1)] [] s Q
  unfold f_X8_isTray at k
  refine wp_ld (v := .int x1) dX8_isTray_0 rfl rfl rfl rfl ?_
  refine wp_pu dX8_isTray_1 rfl rfl ?_
  refine wp_cst (v := .long (0 : Int64)) dX8_isTray_2 rfl rfl ?_
  refine wp_cst (v := .long (3 : Int64)) dX8_isTray_3 rfl rfl ?_
  refine c_i dX8_isTray_6 rfl rfl rfl (am_inv_s rfl rfl rfl rfl) (s_X8_within h) k (fun v2 s1 h k => ?_)
  obtain ⟨g3, k⟩ := ok_g k
  exact wp_end dX8_isTray_9 rfl (am_end_b rfl g3) (hP _ _ (ok_s k) h)
noncomputable def L_X8_tray_69 : Nat → Int32 → Int32 → am_S → am_FE (Unit)
  | 0, _, _, _ => none
  | m + 1, x1, x4, s =>
    if (12 : Int32) ≤ x4 then
      some (.inr ((), s))
    else
      if am_in (((12 : Int32) * x1) + x4) 48 = true then
        L_X8_tray_69 m x1 (x4 + (1 : Int32)) (am_sL s 70 ((((12 : Int32) * x1) + x4).toNatClampNeg) (0 : Int64))
      else none
theorem q_X8_tray_69 : ∀ (m : Nat) {N n : Nat} {d : Nat} {x1 : Int32} {x4 : Int32} {s : am_S} {P : (am_O × am_S) ⊕ (Unit × am_S) → Prop} {Q : am_O → am_S → Prop} (h : am_sh N n s)  (k : am_ok (L_X8_tray_69 m x1 x4 s) P) (hP : ∀ o s, P (.inl (o, s)) → am_sh N n s → Q o s) (hX : ∀ (e : Unit) s, P (.inr (e, s)) → am_sh N n s → am_WP (d + 2) mX8_tray 95 [] [] s Q), am_WP (d + 2) mX8_tray 69 [(0, .ref 55), (1, .int x1), (4, .int x4)] [] s Q := by
  intro m
  induction m with
  | zero =>
    intro N n d x1 x4 s P Q h  k hP hX
    exact (ok_no k).elim
  | succ m ih =>
    intro N n d x1 x4 s P Q h  k hP hX
    unfold L_X8_tray_69 at k
    refine wp_ld (v := .int x4) dX8_tray_69 rfl rfl rfl rfl ?_
    refine wp_cst (v := .int (12 : Int32)) dX8_tray_71 rfl rfl ?_
    refine wp_ic_ge dX8_tray_73 rfl (fun c9 => have k := ok_pos c9 k; ?_) (fun c9 => have k := ok_neg c9 k; ?_)
    · exact wp_sub (hX _ _ (ok_s k) h) rfl trivial
    · refine wp_ld (v := .ref 55) dX8_tray_76 rfl rfl rfl rfl ?_
      refine wp_gr dX8_tray_77 rfl rfl (kk_55 h) (rr_55_53 h) ?_
      refine wp_cst (v := .int (12 : Int32)) dX8_tray_80 rfl rfl ?_
      refine wp_ld (v := .int x1) dX8_tray_82 rfl rfl rfl rfl ?_
      refine wp_pu dX8_tray_83 rfl rfl ?_
      refine wp_ld (v := .int x4) dX8_tray_84 rfl rfl rfl rfl ?_
      refine wp_pu dX8_tray_86 rfl rfl ?_
      refine wp_cst (v := .long (0 : Int64)) dX8_tray_87 rfl rfl ?_
      obtain ⟨g10, k⟩ := ok_g k
      refine wq_last dX8_tray_88 (kk_70 h) g10 (j := ((((12 : Int32) * x1) + x4).toNatClampNeg)) rfl ?_
      refine wp_inc (v := (x4 + (1 : Int32))) (ls' := [(0, .ref 55), (1, .int x1), (4, .int (x4 + (1 : Int32)))]) dX8_tray_89 rfl (Nat.le_of_ble_eq_true rfl) rfl rfl ?_
      refine wp_goto dX8_tray_92 rfl ?_
      exact wp_sub (ih (sh_sL h) k hP hX) rfl ⟨rfl, rfl, rfl, trivial⟩
noncomputable def f_X8_tray (x1 : Int32) (x2 : Int32) (x3 : Int32) (s : am_S) : am_F :=
  am_bi (f_X8_isTray x1 s) (fun v2 s1 =>
    am_jn (fun (e4 : Int32) s5 =>
      if e4 ≤ 0 then
        if am_in x1 4 = true then
          if am_in x1 4 = true then
            am_lm (L_X8_tray_69 ax_fuel x1 (0 : Int32) (am_sI (am_sI (am_sI s5 55 3 e4) 68 (x1.toNatClampNeg) x2) 69 (x1.toNatClampNeg) x3)) (fun e11 s12 =>
              some (.inl none, s12)
            )
          else none
        else none
      else
        some (.inl none, (am_sI s5 55 3 e4))
    ) (fun J3 =>
      if v2 = 0 then
        J3 (1 : Int32) s1
      else
        am_bi (f_X8_within x2.toInt64 (0 : Int64) (3 : Int64) s1) (fun v15 s14 =>
          am_jn (fun (e17 : Unit) s18 =>
            J3 (2 : Int32) s18
          ) (fun J16 =>
            if v15 = 0 then
              J16 () s14
            else
              am_bi (f_X8_within x3.toInt64 (0 : Int64) (12 : Int64) s14) (fun v21 s20 =>
                if v21 = 0 then
                  J16 () s20
                else
                  J3 (0 : Int32) s20
              )
          )
        )
    )
  )
theorem s_X8_tray {N n : Nat} {d : Nat} {x1 : Int32} {x2 : Int32} {x3 : Int32} {s : am_S} (h : am_sh N n s)  : am_S1 (am_sh N n) (d + 2) mX8_tray [.ref 55, .int x1, .int x2, .int x3] s (f_X8_tray x1 x2 x3 s) := by
  intro P Q k hP
  show am_WP (d + 2) mX8_tray 0 [(0, .ref 55), (1, .int x1), (2, .int x2), (3, .int x3)] [] s Q
  unfold f_X8_tray at k
  refine wp_ld (v := .ref 55) dX8_tray_0 rfl rfl rfl rfl ?_
  refine wp_ld (v := .int x1) dX8_tray_1 rfl rfl rfl rfl ?_
  refine c_i dX8_tray_2 rfl rfl rfl (am_inv_s rfl rfl rfl rfl) (s_X8_isTray h) k (fun v2 s1 h k => ?_)
  refine jn_rule k (fun J3 hJ3 k => ?_)
  have HJ3 : ∀ (e4 : Int32) (s5 : am_S), am_sh N n s5 → am_ok (J3 e4 s5) P → am_WP (d + 2) mX8_tray 41 [(0, .ref 55), (1, .int x1), (2, .int x2), (3, .int x3)] [.int e4, .ref 55] s5 Q := by
    intro e4 s5 h k
    replace k := hJ3 _ _ k
    refine wp_pI dX8_tray_41 rfl rfl rfl (fun h => absurd h (by decide)) (kk_55 h) ?_
    refine wp_ld (v := .ref 55) dX8_tray_44 rfl rfl rfl rfl ?_
    refine wq_gI dX8_tray_45 rfl rfl (kk_55 (sh_sI h)) (v := e4) rfl ?_
    refine wp_if_le dX8_tray_48 rfl (fun c6 => have k := ok_pos c6 k; ?_) (fun c6 => have k := ok_neg c6 k; ?_)
    · refine wp_ld (v := .ref 55) dX8_tray_52 rfl rfl rfl rfl ?_
      refine wp_gr dX8_tray_53 rfl rfl (kk_55 (sh_sI h)) (rr_55_51 (sh_sI h)) ?_
      refine wp_ld (v := .int x1) dX8_tray_56 rfl rfl rfl rfl ?_
      refine wp_ld (v := .int x2) dX8_tray_57 rfl rfl rfl rfl ?_
      obtain ⟨g7, k⟩ := ok_g k
      refine wq_iast dX8_tray_58 (kk_68 (sh_sI h)) g7 (j := (x1.toNatClampNeg)) rfl ?_
      refine wp_ld (v := .ref 55) dX8_tray_59 rfl rfl rfl rfl ?_
      refine wp_gr dX8_tray_60 rfl rfl (kk_55 (sh_sI (sh_sI h))) (rr_55_52 (sh_sI (sh_sI h))) ?_
      refine wp_ld (v := .int x1) dX8_tray_63 rfl rfl rfl rfl ?_
      refine wp_ld (v := .int x3) dX8_tray_64 rfl rfl rfl rfl ?_
      obtain ⟨g8, k⟩ := ok_g k
      refine wq_iast dX8_tray_65 (kk_69 (sh_sI (sh_sI h))) g8 (j := (x1.toNatClampNeg)) rfl ?_
      refine wp_cst (v := .int (0 : Int32)) dX8_tray_66 rfl rfl ?_
      show am_WP (d + 2) mX8_tray 67 _ _ _ Q
      refine wp_st (ls' := [(0, .ref 55), (1, .int x1), (2, .int x2), (3, .int x3), (4, .int (0 : Int32))]) dX8_tray_67 rfl rfl rfl (Nat.le_of_ble_eq_true rfl) rfl ?_
      refine lp_m k (fun P1 k hA hB => ?_)
      refine wp_sub (q_X8_tray_69 ax_fuel (sh_sI (sh_sI (sh_sI h))) k (fun o s p h => hP o s (hA o s p) h) (fun e11 s12 p h => have k := hB e11 s12 p; ?_)) rfl ⟨rfl, rfl, rfl, trivial⟩
      exact wp_end dX8_tray_95 rfl rfl (hP _ _ (ok_s k) h)
    · exact wp_end dX8_tray_51 rfl rfl (hP _ _ (ok_s k) (sh_sI h))
  refine wp_if_ne dX8_tray_5 rfl (fun c13 => have k := ok_neg c13 k; ?_) (fun c13 => have k := ok_pos c13 k; ?_)
  · refine wp_ld (v := .int x2) dX8_tray_12 rfl rfl rfl rfl ?_
    refine wp_pu dX8_tray_13 rfl rfl ?_
    refine wp_cst (v := .long (0 : Int64)) dX8_tray_14 rfl rfl ?_
    refine wp_cst (v := .long (3 : Int64)) dX8_tray_15 rfl rfl ?_
    refine c_i dX8_tray_18 rfl rfl rfl (am_inv_s rfl rfl rfl rfl) (s_X8_within h) k (fun v15 s14 h k => ?_)
    refine jn_rule k (fun J16 hJ16 k => ?_)
    have HJ16 : ∀ (e17 : Unit) (s18 : am_S), am_sh N n s18 → am_ok (J16 e17 s18) P → am_WP (d + 2) mX8_tray 36 [(0, .ref 55), (1, .int x1), (2, .int x2), (3, .int x3)] [.ref 55] s18 Q := by
      intro e17 s18 h k
      replace k := hJ16 _ _ k
      refine wp_cst (v := .int (2 : Int32)) dX8_tray_36 rfl rfl ?_
      refine wp_goto dX8_tray_37 rfl ?_
      exact wp_sub (HJ3 _ _ h k) rfl ⟨rfl, rfl, rfl, rfl, trivial⟩
    refine wp_if_eq dX8_tray_21 rfl (fun c19 => have k := ok_pos c19 k; ?_) (fun c19 => have k := ok_neg c19 k; ?_)
    · exact wp_sub (HJ16 _ _ h k) rfl ⟨rfl, rfl, rfl, rfl, trivial⟩
    · refine wp_ld (v := .int x3) dX8_tray_24 rfl rfl rfl rfl ?_
      refine wp_pu dX8_tray_25 rfl rfl ?_
      refine wp_cst (v := .long (0 : Int64)) dX8_tray_26 rfl rfl ?_
      refine wp_cst (v := .long (12 : Int64)) dX8_tray_27 rfl rfl ?_
      refine c_i dX8_tray_30 rfl rfl rfl (am_inv_s rfl rfl rfl rfl) (s_X8_within h) k (fun v21 s20 h k => ?_)
      refine wp_if_ne dX8_tray_33 rfl (fun c22 => have k := ok_neg c22 k; ?_) (fun c22 => have k := ok_pos c22 k; ?_)
      · refine wp_cst (v := .int (0 : Int32)) dX8_tray_40 rfl rfl ?_
        exact wp_sub (HJ3 _ _ h k) rfl ⟨rfl, rfl, rfl, rfl, trivial⟩
      · exact wp_sub (HJ16 _ _ h k) rfl ⟨rfl, rfl, rfl, rfl, trivial⟩
  · refine wp_cst (v := .int (1 : Int32)) dX8_tray_8 rfl rfl ?_
    refine wp_goto dX8_tray_9 rfl ?_
    exact wp_sub (HJ3 _ _ h k) rfl ⟨rfl, rfl, rfl, rfl, trivial⟩
noncomputable def f_X7_needThere (b1 : Nat) (s : am_S) : am_F :=
  if (am_I s b1 1) = (-1 : Int32) then
    some (.inr 1, am_tick s)
  else
    some (.inl none, s)
theorem s_X7_needThere {N n : Nat} {d : Nat} {b1 : Nat} {s : am_S} (h : am_sh N n s) (fb1 : am_kf n b1 6) : am_S1 (am_sh N n) (d) mX7_needThere [.ref b1] s (f_X7_needThere b1 s) := by
  intro P Q k hP
  show am_WP (d) mX7_needThere 0 [(0, .ref b1)] [] s Q
  unfold f_X7_needThere at k
  refine wp_ld (v := .ref b1) dX7_needThere_0 rfl rfl rfl rfl ?_
  refine wq_gI dX7_needThere_1 rfl rfl (kk_f h fb1) (v := (am_I s b1 1)) rfl ?_
  refine wp_cst (v := .int (-1 : Int32)) dX7_needThere_4 rfl rfl ?_
  refine wp_ic_ne dX7_needThere_5 rfl (fun c1 => have k := ok_neg c1 k; ?_) (fun c1 => have k := ok_pos c1 k; ?_)
  · exact wp_end dX7_needThere_19 rfl rfl (hP _ _ (ok_s k) h)
  · exact wp_thr dX7_needThere_8 rfl rfl (am_thr_2 rfl rfl dX7_needThere_11 dX7_needThere_12 dX7_needThere_15 dX7_needThere_18 rfl) (hP _ _ (ok_s k) (sh_tk h))
noncomputable def f_X6_cut (a : Nat) (x1 : Int64) (s : am_S) : am_F :=
  if (am_I s a 1) = (0 : Int32) then
    some (.inl (some (.long x1.toInt32.toInt8.toInt32.toInt64)), s)
  else if (am_I s a 1) = (1 : Int32) then
    some (.inl (some (.long x1.toInt32.toInt16.toInt32.toInt64)), s)
  else if (am_I s a 1) = (2 : Int32) then
    some (.inl (some (.long x1.toInt32.toInt64)), s)
  else
    some (.inl (some (.long x1)), s)
theorem s_X6_cut {N n : Nat} {d : Nat} {a : Nat} {x1 : Int64} {s : am_S} (h : am_sh N n s) (fa : am_kf n a 6) : am_S1 (am_sh N n) (d) mX6_cut [.ref a, .long x1] s (f_X6_cut a x1 s) := by
  intro P Q k hP
  show am_WP (d) mX6_cut 0 [(0, .ref a), (1, .long x1)] [] s Q
  unfold f_X6_cut at k
  refine wp_ld (v := .ref a) dX6_cut_0 rfl rfl rfl rfl ?_
  refine wq_gI dX6_cut_1 rfl rfl (kk_f h fa) (v := (am_I s a 1)) rfl ?_
  by_cases c1 : (am_I s a 1) = (0 : Int32)
  · have k := ok_pos c1 k
    refine sw_hit dX6_cut_4 rfl c1 rfl ?_
    refine wp_ld (v := .long x1) dX6_cut_32 rfl rfl rfl rfl ?_
    refine wp_pu dX6_cut_33 rfl rfl ?_
    refine wp_pu dX6_cut_34 rfl rfl ?_
    refine wp_pu dX6_cut_35 rfl rfl ?_
    exact wp_end dX6_cut_36 rfl (am_end_l rfl) (hP _ _ (ok_s k) h)
  replace k := ok_neg c1 k
  by_cases c2 : (am_I s a 1) = (1 : Int32)
  · have k := ok_pos c2 k
    refine sw_hit dX6_cut_4 rfl c2 rfl ?_
    refine wp_ld (v := .long x1) dX6_cut_37 rfl rfl rfl rfl ?_
    refine wp_pu dX6_cut_38 rfl rfl ?_
    refine wp_pu dX6_cut_39 rfl rfl ?_
    refine wp_pu dX6_cut_40 rfl rfl ?_
    exact wp_end dX6_cut_41 rfl (am_end_l rfl) (hP _ _ (ok_s k) h)
  replace k := ok_neg c2 k
  by_cases c3 : (am_I s a 1) = (2 : Int32)
  · have k := ok_pos c3 k
    refine sw_hit dX6_cut_4 rfl c3 rfl ?_
    refine wp_ld (v := .long x1) dX6_cut_42 rfl rfl rfl rfl ?_
    refine wp_pu dX6_cut_43 rfl rfl ?_
    refine wp_pu dX6_cut_44 rfl rfl ?_
    exact wp_end dX6_cut_45 rfl (am_end_l rfl) (hP _ _ (ok_s k) h)
  replace k := ok_neg c3 k
  refine ts_out dX6_cut_4 rfl (by
      intro j h1 h2
      have hj : j = 0 ∨ j = 1 ∨ j = 2 := by omega
      rcases hj with e | e | e
      · subst e; exact c1
      · subst e; exact c2
      · subst e; exact c3
      ) ?_
  refine wp_ld (v := .long x1) dX6_cut_46 rfl rfl rfl rfl ?_
  exact wp_end dX6_cut_47 rfl (am_end_l rfl) (hP _ _ (ok_s k) h)
noncomputable def f_X6_put (a : Nat) (x1 : Int32) (x2 : Int64) (s : am_S) : am_F :=
  am_bl (f_X6_cut a x2 s) (fun v2 s1 =>
    if x1 < 0 then
      some (.inl (some (.long v2)), s1)
    else
      if (12 : Int32) ≤ x1 then
        some (.inl (some (.long v2)), s1)
      else
        if am_in x1 12 = true then
          some (.inl (some (.long v2)), (am_sL s1 (a + 1) (x1.toNatClampNeg) v2))
        else none
  )
theorem s_X6_put {N n : Nat} {d : Nat} {a : Nat} {x1 : Int32} {x2 : Int64} {s : am_S} (h : am_sh N n s) (fa : am_kf n a 6) : am_S1 (am_sh N n) (d + 1) mX6_put [.ref a, .int x1, .long x2] s (f_X6_put a x1 x2 s) := by
  intro P Q k hP
  show am_WP (d + 1) mX6_put 0 [(0, .ref a), (1, .int x1), (2, .long x2)] [] s Q
  unfold f_X6_put at k
  refine wp_ld (v := .ref a) dX6_put_0 rfl rfl rfl rfl ?_
  refine wp_ld (v := .long x2) dX6_put_1 rfl rfl rfl rfl ?_
  refine c_l dX6_put_2 rfl rfl rfl (am_inv_v rfl (kk_f h fa) rfl rfl rfl) (s_X6_cut h fa) k (fun v2 s1 h k => ?_)
  refine wp_st (ls' := [(0, .ref a), (1, .int x1), (2, .long x2), (4, .long v2)]) dX6_put_5 rfl rfl rfl (Nat.le_of_ble_eq_true rfl) rfl ?_
  refine wp_ld (v := .int x1) dX6_put_7 rfl rfl rfl rfl ?_
  refine wp_if_lt dX6_put_8 rfl (fun c3 => have k := ok_pos c3 k; ?_) (fun c3 => have k := ok_neg c3 k; ?_)
  · refine wp_ld (v := .long v2) dX6_put_25 rfl rfl rfl rfl ?_
    exact wp_end dX6_put_27 rfl (am_end_l rfl) (hP _ _ (ok_s k) h)
  · refine wp_ld (v := .int x1) dX6_put_11 rfl rfl rfl rfl ?_
    refine wp_cst (v := .int (12 : Int32)) dX6_put_12 rfl rfl ?_
    refine wp_ic_ge dX6_put_14 rfl (fun c4 => have k := ok_pos c4 k; ?_) (fun c4 => have k := ok_neg c4 k; ?_)
    · refine wp_ld (v := .long v2) dX6_put_25 rfl rfl rfl rfl ?_
      exact wp_end dX6_put_27 rfl (am_end_l rfl) (hP _ _ (ok_s k) h)
    · refine wp_ld (v := .ref a) dX6_put_17 rfl rfl rfl rfl ?_
      refine wp_gr dX6_put_18 rfl rfl (kk_f h fa) (rr_tr h fa) ?_
      refine wp_ld (v := .int x1) dX6_put_21 rfl rfl rfl rfl ?_
      refine wp_ld (v := .long v2) dX6_put_22 rfl rfl rfl rfl ?_
      obtain ⟨g5, k⟩ := ok_g k
      refine wq_last dX6_put_24 (kk_tr h fa) g5 (j := (x1.toNatClampNeg)) rfl ?_
      refine wp_ld (v := .long v2) dX6_put_25 rfl rfl rfl rfl ?_
      exact wp_end dX6_put_27 rfl (am_end_l rfl) (hP _ _ (ok_s k) (sh_sL h))
noncomputable def f_X7_write (x1 : Int32) (x2 : Int32) (x3 : Int64) (s : am_S) : am_F :=
  am_tv (f_X7_needTray x1 s) (fun v2 s1 =>
    am_mv v2 none (fun t3 => if am_k0 t3 = (6, 0) ∧ t3 < 72 then
      am_tu (f_X7_needThere t3 s1) (fun s7 =>
        if x2 < 0 then
          some (.inr 2, am_tick s7)
        else
          if x2 < (am_I s7 t3 2) then
            am_bl (f_X6_put t3 x2 x3 s7) (fun v12 s11 =>
              some (.inl (some (.long v12)), s11)
            )
          else
            some (.inr 2, am_tick s7)
      )
    else none)
  )
theorem s_X7_write {N n : Nat} {d : Nat} {x1 : Int32} {x2 : Int32} {x3 : Int64} {s : am_S} (h : am_sh N n s)  : am_S1 (am_sh N n) (d + 2) mX7_write [.ref 0, .int x1, .int x2, .long x3] s (f_X7_write x1 x2 x3 s) := by
  intro P Q k hP
  show am_WP (d + 2) mX7_write 0 [(0, .ref 0), (1, .int x1), (2, .int x2), (3, .long x3)] [] s Q
  unfold f_X7_write at k
  refine wp_ld (v := .ref 0) dX7_write_0 rfl rfl rfl rfl ?_
  refine wp_ld (v := .int x1) dX7_write_1 rfl rfl rfl rfl ?_
  refine t_v dX7_write_2 rfl rfl rfl (am_inv_v rfl (kk_0 h) rfl rfl rfl) (s_X7_needTray h) k rfl rfl hP (fun v2 s1 h k => ?_)
  obtain ⟨t3, c4, k⟩ := ok_mn k
  subst c4
  obtain ⟨g5, k⟩ := ok_g k
  have f6 := kk_up h g5
  refine wp_st (ls' := [(0, .ref 0), (1, .int x1), (2, .int x2), (3, .long x3), (5, .ref t3)]) dX7_write_5 rfl rfl rfl (Nat.le_of_ble_eq_true rfl) rfl ?_
  refine wp_ld (v := .ref t3) dX7_write_7 rfl rfl rfl rfl ?_
  refine t_u dX7_write_9 rfl rfl rfl (am_inv_s rfl rfl rfl rfl) (s_X7_needThere h f6) k rfl rfl hP (fun s7 h k => ?_)
  refine wp_ld (v := .int x2) dX7_write_12 rfl rfl rfl rfl ?_
  refine wp_if_lt dX7_write_13 rfl (fun c9 => have k := ok_pos c9 k; ?_) (fun c9 => have k := ok_neg c9 k; ?_)
  · exact wp_thr dX7_write_25 rfl rfl (am_thr_2 rfl rfl dX7_write_28 dX7_write_29 dX7_write_32 dX7_write_35 rfl) (hP _ _ (ok_s k) (sh_tk h))
  · refine wp_ld (v := .int x2) dX7_write_16 rfl rfl rfl rfl ?_
    refine wp_ld (v := .ref t3) dX7_write_17 rfl rfl rfl rfl ?_
    refine wq_gI dX7_write_19 rfl rfl (kk_f h f6) (v := (am_I s7 t3 2)) rfl ?_
    refine wp_ic_lt dX7_write_22 rfl (fun c10 => have k := ok_pos c10 k; ?_) (fun c10 => have k := ok_neg c10 k; ?_)
    · refine wp_ld (v := .ref t3) dX7_write_36 rfl rfl rfl rfl ?_
      refine wp_ld (v := .int x2) dX7_write_38 rfl rfl rfl rfl ?_
      refine wp_ld (v := .long x3) dX7_write_39 rfl rfl rfl rfl ?_
      refine c_l dX7_write_40 rfl rfl rfl (am_inv_v rfl (kk_f h f6) rfl rfl rfl) (s_X6_put h f6) k (fun v12 s11 h k => ?_)
      exact wp_end dX7_write_43 rfl (am_end_l rfl) (hP _ _ (ok_s k) h)
    · exact wp_thr dX7_write_25 rfl rfl (am_thr_2 rfl rfl dX7_write_28 dX7_write_29 dX7_write_32 dX7_write_35 rfl) (hP _ _ (ok_s k) (sh_tk h))
noncomputable def f_L_write (x2 : Int32) (x3 : Int32) (x4 : Int64) (s : am_S) : am_F :=
  am_xl (f_X7_write x2 x3 x4 s) (fun v2 s1 =>
    some (.inl (some (.int (0 : Int32))), (am_sL s1 71 0 v2))
  ) (fun e s1 =>
    if e = 3 then
      some (.inl (some (.int (1 : Int32))), s1)
    else
      if e = 1 then
        some (.inl (some (.int (2 : Int32))), s1)
      else
        if e = 2 then
          some (.inl (some (.int (3 : Int32))), s1)
        else
          none
  )
theorem s_L_write {N : Nat} {d : Nat} {x2 : Int32} {x3 : Int32} {x4 : Int64} {s : am_S} (h : am_shE N s)  : am_S1 (am_shE N) (d + 3) mL_write [.ref 0, .int x2, .int x3, .long x4, .ref 71] s (f_L_write x2 x3 x4 s) := by
  intro P Q k hP
  show am_WP (d + 3) mL_write 0 [(0, .ref 0), (1, .int x2), (2, .int x3), (3, .long x4), (5, .ref 71)] [] s Q
  unfold f_L_write at k
  refine wp_ld (v := .ref 71) dL_write_0 rfl rfl rfl rfl ?_
  refine wp_cst (v := .int (0 : Int32)) dL_write_2 rfl rfl ?_
  refine wp_ld (v := .ref 0) dL_write_3 rfl rfl rfl rfl ?_
  refine wp_ld (v := .int x2) dL_write_4 rfl rfl rfl rfl ?_
  refine wp_ld (v := .int x3) dL_write_5 rfl rfl rfl rfl ?_
  refine wp_ld (v := .long x4) dL_write_6 rfl rfl rfl rfl ?_
  refine x_l dL_write_7 rfl rfl rfl (am_inv_v rfl (kE_0 h) rfl rfl rfl) (sE h (fun _ h => s_X7_write h)) k rfl (List.cons_ne_nil _ _) (fun v2 s1 h k => ?_) (fun e s1 h k => ?_)
  · refine wq_last dL_write_10 (kE_71 h) (by decide) (j := 0) rfl ?_
    refine wp_goto dL_write_11 rfl ?_
    refine wp_cst (v := .int (0 : Int32)) dL_write_26 rfl rfl ?_
    exact wp_end dL_write_27 rfl (am_end_i rfl) (hP _ _ (ok_s k) (shE_sL h))
  · by_cases c3 : e = 3
    · have k := ok_pos c3 k
      subst c3
      refine ⟨_, _, rfl, ?_⟩
      refine wp_cst (v := .int (1 : Int32)) dL_write_16 rfl rfl ?_
      exact wp_end dL_write_17 rfl (am_end_i rfl) (hP _ _ (ok_s k) h)
    replace k := ok_neg c3 k
    by_cases c4 : e = 1
    · have k := ok_pos c4 k
      subst c4
      refine ⟨_, _, rfl, ?_⟩
      refine wp_cst (v := .int (2 : Int32)) dL_write_20 rfl rfl ?_
      exact wp_end dL_write_21 rfl (am_end_i rfl) (hP _ _ (ok_s k) h)
    replace k := ok_neg c4 k
    by_cases c5 : e = 2
    · have k := ok_pos c5 k
      subst c5
      refine ⟨_, _, rfl, ?_⟩
      refine wp_cst (v := .int (3 : Int32)) dL_write_24 rfl rfl ?_
      exact wp_end dL_write_25 rfl (am_end_i rfl) (hP _ _ (ok_s k) h)
    replace k := ok_neg c5 k
    exact (ok_no k).elim
