noncomputable def L_X3_append_3 : Nat → Int32 → Int32 → am_S → am_FE (Unit)
  | 0, _, _, _ => none
  | m + 1, x1, x2, s =>
    if x2 < 0 then
      some (.inr ((), s))
    else
      if (400 : Int32) ≤ (am_I s 34 1) then
        some (.inr ((), s))
      else
        if am_in (am_I s 34 1) 400 = true then
          L_X3_append_3 m x1 (x2 + (-8 : Int32)) (am_sI (am_sI s 35 ((am_I s 34 1).toNatClampNeg) ((x1 >>> (x2 &&& 31)) &&& (255 : Int32))) 34 1 ((am_I s 34 1) + (1 : Int32)))
        else none
theorem q_X3_append_3 : ∀ (m : Nat) {N n : Nat} {d : Nat} {x1 : Int32} {x2 : Int32} {s : am_S} {P : (am_O × am_S) ⊕ (Unit × am_S) → Prop} {Q : am_O → am_S → Prop} (h : am_sh N n s)  (k : am_ok (L_X3_append_3 m x1 x2 s) P) (hP : ∀ o s, P (.inl (o, s)) → am_sh N n s → Q o s) (hX : ∀ (e : Unit) s, P (.inr (e, s)) → am_sh N n s → am_WP (d) mX3_append 49 [] [] s Q), am_WP (d) mX3_append 3 [(0, .ref 34), (1, .int x1), (2, .int x2)] [] s Q := by
  intro m
  induction m with
  | zero =>
    intro N n d x1 x2 s P Q h  k hP hX
    exact (ok_no k).elim
  | succ m ih =>
    intro N n d x1 x2 s P Q h  k hP hX
    unfold L_X3_append_3 at k
    refine wp_ld (v := .int x2) dX3_append_3 rfl rfl rfl rfl ?_
    refine wp_if_lt dX3_append_4 rfl (fun c1 => have k := ok_pos c1 k; ?_) (fun c1 => have k := ok_neg c1 k; ?_)
    · exact wp_sub (hX _ _ (ok_s k) h) rfl trivial
    · refine wp_ld (v := .ref 34) dX3_append_7 rfl rfl rfl rfl ?_
      refine wq_gI dX3_append_8 rfl rfl (kk_34 h) (v := (am_I s 34 1)) rfl ?_
      refine wp_cst (v := .int (400 : Int32)) dX3_append_11 rfl rfl ?_
      refine wp_ic_ge dX3_append_14 rfl (fun c2 => have k := ok_pos c2 k; ?_) (fun c2 => have k := ok_neg c2 k; ?_)
      · exact wp_sub (hX _ _ (ok_s k) h) rfl trivial
      · refine wp_ld (v := .ref 34) dX3_append_17 rfl rfl rfl rfl ?_
        refine wp_gr dX3_append_18 rfl rfl (kk_34 h) (rr_34_0 h) ?_
        refine wp_ld (v := .ref 34) dX3_append_21 rfl rfl rfl rfl ?_
        refine wq_gI dX3_append_22 rfl rfl (kk_34 h) (v := (am_I s 34 1)) rfl ?_
        refine wp_ld (v := .int x1) dX3_append_25 rfl rfl rfl rfl ?_
        refine wp_ld (v := .int x2) dX3_append_26 rfl rfl rfl rfl ?_
        refine wp_pu dX3_append_27 rfl rfl ?_
        refine wp_cst (v := .int (255 : Int32)) dX3_append_28 rfl rfl ?_
        refine wp_pu dX3_append_31 rfl rfl ?_
        obtain ⟨g3, k⟩ := ok_g k
        refine wq_iast dX3_append_32 (kk_35 h) g3 (j := ((am_I s 34 1).toNatClampNeg)) rfl ?_
        refine wp_ld (v := .ref 34) dX3_append_33 rfl rfl rfl rfl ?_
        show am_WP (d) mX3_append 34 _ _ _ Q
        refine wp_pu dX3_append_34 rfl rfl ?_
        refine wq_gI dX3_append_35 rfl rfl (kk_34 (sh_sI h)) (v := (am_I s 34 1)) rfl ?_
        refine wp_cst (v := .int (1 : Int32)) dX3_append_38 rfl rfl ?_
        refine wp_pu dX3_append_39 rfl rfl ?_
        refine wp_pI dX3_append_40 rfl rfl rfl (fun h => absurd h (by decide)) (kk_34 (sh_sI h)) ?_
        refine wp_inc (v := (x2 + (-8 : Int32))) (ls' := [(0, .ref 34), (1, .int x1), (2, .int (x2 + (-8 : Int32)))]) dX3_append_43 rfl (Nat.le_of_ble_eq_true rfl) rfl rfl ?_
        refine wp_goto dX3_append_46 rfl ?_
        exact wp_sub (ih (sh_sI (sh_sI h)) k hP hX) rfl ⟨rfl, rfl, rfl, trivial⟩
noncomputable def f_X3_append (x1 : Int32) (s : am_S) : am_F :=
  am_lm (L_X3_append_3 ax_fuel x1 (24 : Int32) s) (fun e4 s5 =>
    some (.inl none, s5)
  )
theorem s_X3_append {N n : Nat} {d : Nat} {x1 : Int32} {s : am_S} (h : am_sh N n s)  : am_S1 (am_sh N n) (d) mX3_append [.ref 34, .int x1] s (f_X3_append x1 s) := by
  intro P Q k hP
  show am_WP (d) mX3_append 0 [(0, .ref 34), (1, .int x1)] [] s Q
  unfold f_X3_append at k
  refine wp_cst (v := .int (24 : Int32)) dX3_append_0 rfl rfl ?_
  refine wp_st (ls' := [(0, .ref 34), (1, .int x1), (2, .int (24 : Int32))]) dX3_append_2 rfl rfl rfl (Nat.le_of_ble_eq_true rfl) rfl ?_
  refine lp_m k (fun P1 k hA hB => ?_)
  refine wp_sub (q_X3_append_3 ax_fuel h k (fun o s p h => hP o s (hA o s p) h) (fun e4 s5 p h => have k := hB e4 s5 p; ?_)) rfl ⟨rfl, rfl, rfl, trivial⟩
  exact wp_end dX3_append_49 rfl rfl (hP _ _ (ok_s k) h)
noncomputable def f_X7_feed (x1 : Int32) (x2 : Int32) (x3 : Int32) (x4 : Int32) (x5 : Int32) (s : am_S) : am_F :=
  if ((am_I s 34 1) + (20 : Int32)) ≤ (400 : Int32) then
    am_bu (f_X3_append x1 s) (fun s2 =>
      am_bu (f_X3_append x2 s2) (fun s4 =>
        am_bu (f_X3_append x3 s4) (fun s6 =>
          am_bu (f_X3_append x4 s6) (fun s8 =>
            am_bu (f_X3_append x5 s8) (fun s10 =>
              some (.inl (some (.int (am_I s10 34 1))), s10)
            )
          )
        )
      )
    )
  else
    some (.inl (some (.int (-1 : Int32))), s)
theorem s_X7_feed {N n : Nat} {d : Nat} {x1 : Int32} {x2 : Int32} {x3 : Int32} {x4 : Int32} {x5 : Int32} {s : am_S} (h : am_sh N n s)  : am_S1 (am_sh N n) (d + 1) mX7_feed [.ref 0, .int x1, .int x2, .int x3, .int x4, .int x5] s (f_X7_feed x1 x2 x3 x4 x5 s) := by
  intro P Q k hP
  show am_WP (d + 1) mX7_feed 0 [(0, .ref 0), (1, .int x1), (2, .int x2), (3, .int x3), (4, .int x4), (5, .int x5)] [] s Q
  unfold f_X7_feed at k
  refine wp_ld (v := .ref 0) dX7_feed_0 rfl rfl rfl rfl ?_
  refine wp_gr dX7_feed_1 rfl rfl (kk_0 h) (rr_0_2 h) ?_
  refine wq_gI dX7_feed_4 rfl rfl (kk_34 h) (v := (am_I s 34 1)) rfl ?_
  refine wp_cst (v := .int (20 : Int32)) dX7_feed_7 rfl rfl ?_
  refine wp_pu dX7_feed_9 rfl rfl ?_
  refine wp_cst (v := .int (400 : Int32)) dX7_feed_10 rfl rfl ?_
  refine wp_ic_le dX7_feed_13 rfl (fun c1 => have k := ok_pos c1 k; ?_) (fun c1 => have k := ok_neg c1 k; ?_)
  · refine wp_ld (v := .ref 0) dX7_feed_18 rfl rfl rfl rfl ?_
    refine wp_gr dX7_feed_19 rfl rfl (kk_0 h) (rr_0_2 h) ?_
    refine wp_ld (v := .int x1) dX7_feed_22 rfl rfl rfl rfl ?_
    refine c_u dX7_feed_23 rfl rfl rfl (am_inv_v rfl (kk_34 h) rfl rfl rfl) (s_X3_append h) k (fun s2 h k => ?_)
    refine wp_ld (v := .ref 0) dX7_feed_26 rfl rfl rfl rfl ?_
    refine wp_gr dX7_feed_27 rfl rfl (kk_0 h) (rr_0_2 h) ?_
    refine wp_ld (v := .int x2) dX7_feed_30 rfl rfl rfl rfl ?_
    refine c_u dX7_feed_31 rfl rfl rfl (am_inv_v rfl (kk_34 h) rfl rfl rfl) (s_X3_append h) k (fun s4 h k => ?_)
    refine wp_ld (v := .ref 0) dX7_feed_34 rfl rfl rfl rfl ?_
    refine wp_gr dX7_feed_35 rfl rfl (kk_0 h) (rr_0_2 h) ?_
    refine wp_ld (v := .int x3) dX7_feed_38 rfl rfl rfl rfl ?_
    refine c_u dX7_feed_39 rfl rfl rfl (am_inv_v rfl (kk_34 h) rfl rfl rfl) (s_X3_append h) k (fun s6 h k => ?_)
    refine wp_ld (v := .ref 0) dX7_feed_42 rfl rfl rfl rfl ?_
    refine wp_gr dX7_feed_43 rfl rfl (kk_0 h) (rr_0_2 h) ?_
    refine wp_ld (v := .int x4) dX7_feed_46 rfl rfl rfl rfl ?_
    refine c_u dX7_feed_48 rfl rfl rfl (am_inv_v rfl (kk_34 h) rfl rfl rfl) (s_X3_append h) k (fun s8 h k => ?_)
    refine wp_ld (v := .ref 0) dX7_feed_51 rfl rfl rfl rfl ?_
    refine wp_gr dX7_feed_52 rfl rfl (kk_0 h) (rr_0_2 h) ?_
    refine wp_ld (v := .int x5) dX7_feed_55 rfl rfl rfl rfl ?_
    refine c_u dX7_feed_57 rfl rfl rfl (am_inv_v rfl (kk_34 h) rfl rfl rfl) (s_X3_append h) k (fun s10 h k => ?_)
    refine wp_ld (v := .ref 0) dX7_feed_60 rfl rfl rfl rfl ?_
    refine wp_gr dX7_feed_61 rfl rfl (kk_0 h) (rr_0_2 h) ?_
    refine wq_gI dX7_feed_64 rfl rfl (kk_34 h) (v := (am_I s10 34 1)) rfl ?_
    exact wp_end dX7_feed_67 rfl (am_end_i rfl) (hP _ _ (ok_s k) h)
  · refine wp_cst (v := .int (-1 : Int32)) dX7_feed_16 rfl rfl ?_
    exact wp_end dX7_feed_17 rfl (am_end_i rfl) (hP _ _ (ok_s k) h)
noncomputable def L_X8_feed_23 : Nat → Int32 → Int32 → Int32 → Int32 → Int32 → Int32 → am_S → am_FE (Unit)
  | 0, _, _, _, _, _, _, _ => none
  | m + 1, x1, x2, x3, x4, x5, x6, s =>
    if (20 : Int32) ≤ x6 then
      some (.inr ((), s))
    else
      am_jn (fun (e4 : Int32) s5 =>
        ax_le ((e4.toUInt32 >>> (((24 : Int32) - ((8 : Int32) * (x6 &&& (3 : Int32)))).toUInt32 &&& Int32.toUInt32 31)).toInt32 &&& (255 : Int32)) (fun y6 =>
          if am_in (am_I s5 55 7) 400 = true then
            L_X8_feed_23 m x1 x2 x3 x4 x5 (x6 + (1 : Int32)) (am_sI (am_sI s5 59 ((am_I s5 55 7).toNatClampNeg) y6) 55 7 ((am_I s5 55 7) + (1 : Int32)))
          else none
        )
      ) (fun J3 =>
        if (4 : Int32) ≤ x6 then
          if (8 : Int32) ≤ x6 then
            if (12 : Int32) ≤ x6 then
              if (16 : Int32) ≤ x6 then
                J3 x5 s
              else
                J3 x4 s
            else
              J3 x3 s
          else
            J3 x2 s
        else
          J3 x1 s
      )
theorem q_X8_feed_23 : ∀ (m : Nat) {N n : Nat} {d : Nat} {x1 : Int32} {x2 : Int32} {x3 : Int32} {x4 : Int32} {x5 : Int32} {x6 : Int32} {s : am_S} {P : (am_O × am_S) ⊕ (Unit × am_S) → Prop} {Q : am_O → am_S → Prop} (h : am_sh N n s)  (k : am_ok (L_X8_feed_23 m x1 x2 x3 x4 x5 x6 s) P) (hP : ∀ o s, P (.inl (o, s)) → am_sh N n s → Q o s) (hX : ∀ (e : Unit) s, P (.inr (e, s)) → am_sh N n s → am_WP (d) mX8_feed 120 [(0, .ref 55)] [] s Q), am_WP (d) mX8_feed 23 [(0, .ref 55), (1, .int x1), (2, .int x2), (3, .int x3), (4, .int x4), (5, .int x5), (6, .int x6)] [] s Q := by
  intro m
  induction m with
  | zero =>
    intro N n d x1 x2 x3 x4 x5 x6 s P Q h  k hP hX
    exact (ok_no k).elim
  | succ m ih =>
    intro N n d x1 x2 x3 x4 x5 x6 s P Q h  k hP hX
    unfold L_X8_feed_23 at k
    refine wp_ld (v := .int x6) dX8_feed_23 rfl rfl rfl rfl ?_
    refine wp_cst (v := .int (20 : Int32)) dX8_feed_25 rfl rfl ?_
    refine wp_ic_ge dX8_feed_27 rfl (fun c2 => have k := ok_pos c2 k; ?_) (fun c2 => have k := ok_neg c2 k; ?_)
    · exact wp_sub (hX _ _ (ok_s k) h) rfl ⟨rfl, trivial⟩
    · refine wp_ld (v := .int x6) dX8_feed_30 rfl rfl rfl rfl ?_
      refine wp_cst (v := .int (4 : Int32)) dX8_feed_32 rfl rfl ?_
      refine jn_rule k (fun J3 hJ3 k => ?_)
      have HJ3 : ∀ (e4 : Int32) (s5 : am_S), am_sh N n s5 → am_ok (J3 e4 s5) P → am_WP (d) mX8_feed 76 [(0, .ref 55), (1, .int x1), (2, .int x2), (3, .int x3), (4, .int x4), (5, .int x5), (6, .int x6)] [.int e4] s5 Q := by
        intro e4 s5 h k
        replace k := hJ3 _ _ k
        refine wp_st (ls' := [(0, .ref 55), (1, .int x1), (2, .int x2), (3, .int x3), (4, .int x4), (5, .int x5), (6, .int x6), (7, .int e4)]) dX8_feed_76 rfl rfl rfl (Nat.le_of_ble_eq_true rfl) rfl ?_
        refine wp_ld (v := .ref 55) dX8_feed_78 rfl rfl rfl rfl ?_
        refine wp_gr dX8_feed_79 rfl rfl (kk_55 h) (rr_55_4 h) ?_
        refine wp_ld (v := .ref 55) dX8_feed_82 rfl rfl rfl rfl ?_
        refine wq_gI dX8_feed_83 rfl rfl (kk_55 h) (v := (am_I s5 55 7)) rfl ?_
        refine wp_ld (v := .int e4) dX8_feed_86 rfl rfl rfl rfl ?_
        refine wp_cst (v := .int (24 : Int32)) dX8_feed_88 rfl rfl ?_
        refine wp_cst (v := .int (8 : Int32)) dX8_feed_90 rfl rfl ?_
        refine wp_ld (v := .int x6) dX8_feed_92 rfl rfl rfl rfl ?_
        refine wp_cst (v := .int (3 : Int32)) dX8_feed_94 rfl rfl ?_
        refine wp_pu dX8_feed_95 rfl rfl ?_
        show am_WP (d) mX8_feed 96 _ _ _ Q
        refine wp_pu dX8_feed_96 rfl rfl ?_
        refine wp_pu dX8_feed_97 rfl rfl ?_
        refine wp_pu dX8_feed_98 rfl rfl ?_
        refine wp_cst (v := .int (255 : Int32)) dX8_feed_99 rfl rfl ?_
        refine wp_pu dX8_feed_102 rfl rfl ?_
        refine ls_i k (fun y6 _ k => ?_)
        obtain ⟨g7, k⟩ := ok_g k
        refine wq_iast dX8_feed_103 (kk_59 h) g7 (j := ((am_I s5 55 7).toNatClampNeg)) rfl ?_
        refine wp_ld (v := .ref 55) dX8_feed_104 rfl rfl rfl rfl ?_
        refine wp_pu dX8_feed_105 rfl rfl ?_
        refine wq_gI dX8_feed_106 rfl rfl (kk_55 (sh_sI h)) (v := (am_I s5 55 7)) rfl ?_
        refine wp_cst (v := .int (1 : Int32)) dX8_feed_109 rfl rfl ?_
        refine wp_pu dX8_feed_110 rfl rfl ?_
        refine wp_pI dX8_feed_111 rfl rfl rfl (fun h => absurd h (by decide)) (kk_55 (sh_sI h)) ?_
        show am_WP (d) mX8_feed 114 _ _ _ Q
        refine wp_inc (v := (x6 + (1 : Int32))) (ls' := [(0, .ref 55), (1, .int x1), (2, .int x2), (3, .int x3), (4, .int x4), (5, .int x5), (6, .int (x6 + (1 : Int32))), (7, .int e4)]) dX8_feed_114 rfl (Nat.le_of_ble_eq_true rfl) rfl rfl ?_
        refine wp_goto dX8_feed_117 rfl ?_
        exact wp_sub (ih (sh_sI (sh_sI h)) k hP hX) rfl ⟨rfl, rfl, rfl, rfl, rfl, rfl, rfl, trivial⟩
      refine wp_ic_ge dX8_feed_33 rfl (fun c8 => have k := ok_pos c8 k; ?_) (fun c8 => have k := ok_neg c8 k; ?_)
      · refine wp_ld (v := .int x6) dX8_feed_40 rfl rfl rfl rfl ?_
        refine wp_cst (v := .int (8 : Int32)) dX8_feed_42 rfl rfl ?_
        refine wp_ic_ge dX8_feed_44 rfl (fun c9 => have k := ok_pos c9 k; ?_) (fun c9 => have k := ok_neg c9 k; ?_)
        · refine wp_ld (v := .int x6) dX8_feed_51 rfl rfl rfl rfl ?_
          refine wp_cst (v := .int (12 : Int32)) dX8_feed_53 rfl rfl ?_
          refine wp_ic_ge dX8_feed_55 rfl (fun c10 => have k := ok_pos c10 k; ?_) (fun c10 => have k := ok_neg c10 k; ?_)
          · refine wp_ld (v := .int x6) dX8_feed_62 rfl rfl rfl rfl ?_
            refine wp_cst (v := .int (16 : Int32)) dX8_feed_64 rfl rfl ?_
            refine wp_ic_ge dX8_feed_66 rfl (fun c11 => have k := ok_pos c11 k; ?_) (fun c11 => have k := ok_neg c11 k; ?_)
            · refine wp_ld (v := .int x5) dX8_feed_74 rfl rfl rfl rfl ?_
              exact wp_sub (HJ3 _ _ h k) rfl ⟨rfl, rfl, rfl, rfl, rfl, rfl, rfl, trivial⟩
            · refine wp_ld (v := .int x4) dX8_feed_69 rfl rfl rfl rfl ?_
              refine wp_goto dX8_feed_71 rfl ?_
              exact wp_sub (HJ3 _ _ h k) rfl ⟨rfl, rfl, rfl, rfl, rfl, rfl, rfl, trivial⟩
          · refine wp_ld (v := .int x3) dX8_feed_58 rfl rfl rfl rfl ?_
            refine wp_goto dX8_feed_59 rfl ?_
            exact wp_sub (HJ3 _ _ h k) rfl ⟨rfl, rfl, rfl, rfl, rfl, rfl, rfl, trivial⟩
        · refine wp_ld (v := .int x2) dX8_feed_47 rfl rfl rfl rfl ?_
          refine wp_goto dX8_feed_48 rfl ?_
          exact wp_sub (HJ3 _ _ h k) rfl ⟨rfl, rfl, rfl, rfl, rfl, rfl, rfl, trivial⟩
      · refine wp_ld (v := .int x1) dX8_feed_36 rfl rfl rfl rfl ?_
        refine wp_goto dX8_feed_37 rfl ?_
        exact wp_sub (HJ3 _ _ h k) rfl ⟨rfl, rfl, rfl, rfl, rfl, rfl, rfl, trivial⟩
noncomputable def f_X8_feed (x1 : Int32) (x2 : Int32) (x3 : Int32) (x4 : Int32) (x5 : Int32) (s : am_S) : am_F :=
  if ((am_I s 55 7) + (20 : Int32)) ≤ (400 : Int32) then
    am_lm (L_X8_feed_23 ax_fuel x1 x2 x3 x4 x5 (0 : Int32) (am_sI s 55 3 (0 : Int32))) (fun e12 s13 =>
      some (.inl (some (.int (am_I s13 55 7))), s13)
    )
  else
    some (.inl (some (.int (-1 : Int32))), (am_sI s 55 3 (0 : Int32)))
theorem s_X8_feed {N n : Nat} {d : Nat} {x1 : Int32} {x2 : Int32} {x3 : Int32} {x4 : Int32} {x5 : Int32} {s : am_S} (h : am_sh N n s)  : am_S1 (am_sh N n) (d) mX8_feed [.ref 55, .int x1, .int x2, .int x3, .int x4, .int x5] s (f_X8_feed x1 x2 x3 x4 x5 s) := by
  intro P Q k hP
  show am_WP (d) mX8_feed 0 [(0, .ref 55), (1, .int x1), (2, .int x2), (3, .int x3), (4, .int x4), (5, .int x5)] [] s Q
  unfold f_X8_feed at k
  refine wp_ld (v := .ref 55) dX8_feed_0 rfl rfl rfl rfl ?_
  refine wp_cst (v := .int (0 : Int32)) dX8_feed_1 rfl rfl ?_
  refine wp_pI dX8_feed_2 rfl rfl rfl (fun h => absurd h (by decide)) (kk_55 h) ?_
  refine wp_ld (v := .ref 55) dX8_feed_5 rfl rfl rfl rfl ?_
  refine wq_gI dX8_feed_6 rfl rfl (kk_55 (sh_sI h)) (v := (am_I s 55 7)) rfl ?_
  refine wp_cst (v := .int (20 : Int32)) dX8_feed_9 rfl rfl ?_
  refine wp_pu dX8_feed_11 rfl rfl ?_
  refine wp_cst (v := .int (400 : Int32)) dX8_feed_12 rfl rfl ?_
  refine wp_ic_le dX8_feed_15 rfl (fun c1 => have k := ok_pos c1 k; ?_) (fun c1 => have k := ok_neg c1 k; ?_)
  · refine wp_cst (v := .int (0 : Int32)) dX8_feed_20 rfl rfl ?_
    refine wp_st (ls' := [(0, .ref 55), (1, .int x1), (2, .int x2), (3, .int x3), (4, .int x4), (5, .int x5), (6, .int (0 : Int32))]) dX8_feed_21 rfl rfl rfl (Nat.le_of_ble_eq_true rfl) rfl ?_
    refine lp_m k (fun P1 k hA hB => ?_)
    refine wp_sub (q_X8_feed_23 ax_fuel (sh_sI h) k (fun o s p h => hP o s (hA o s p) h) (fun e12 s13 p h => have k := hB e12 s13 p; ?_)) rfl ⟨rfl, rfl, rfl, rfl, rfl, rfl, rfl, trivial⟩
    refine wp_ld (v := .ref 55) dX8_feed_120 rfl rfl rfl rfl ?_
    refine wq_gI dX8_feed_121 rfl rfl (kk_55 h) (v := (am_I s13 55 7)) rfl ?_
    exact wp_end dX8_feed_124 rfl (am_end_i rfl) (hP _ _ (ok_s k) h)
  · refine wp_cst (v := .int (-1 : Int32)) dX8_feed_18 rfl rfl ?_
    exact wp_end dX8_feed_19 rfl (am_end_i rfl) (hP _ _ (ok_s k) (sh_sI h))
noncomputable def f_X3_foldWord (x1 : Int32) (s : am_S) : am_F :=
  if x1 = (0 : Int32) then
    some (.inl (some (.ref 1000000)), s)
  else if x1 = (1 : Int32) then
    some (.inl (some (.ref 1000001)), s)
  else
    some (.inl (some (.ref 1000002)), s)
theorem s_X3_foldWord {N n : Nat} {d : Nat} {x1 : Int32} {s : am_S} (h : am_sh N n s)  : am_S1 (am_sh N n) (d) mX3_foldWord [.int x1] s (f_X3_foldWord x1 s) := by
  intro P Q k hP
  show am_WP (d) mX3_foldWord 0 [(0, .int x1)] [] s Q
  unfold f_X3_foldWord at k
  refine wp_ld (v := .int x1) dX3_foldWord_0 rfl rfl rfl rfl ?_
  by_cases c1 : x1 = (0 : Int32)
  · have k := ok_pos c1 k
    refine sw_hit dX3_foldWord_1 rfl c1 rfl ?_
    refine wp_cst (v := .ref 1000000) dX3_foldWord_28 rfl rfl ?_
    exact wp_end dX3_foldWord_30 rfl rfl (hP _ _ (ok_s k) h)
  replace k := ok_neg c1 k
  by_cases c2 : x1 = (1 : Int32)
  · have k := ok_pos c2 k
    refine sw_hit dX3_foldWord_1 rfl c2 rfl ?_
    refine wp_cst (v := .ref 1000001) dX3_foldWord_31 rfl rfl ?_
    exact wp_end dX3_foldWord_33 rfl rfl (hP _ _ (ok_s k) h)
  replace k := ok_neg c2 k
  refine lk_out dX3_foldWord_1 rfl (lk2 c1 c2) rfl ?_
  refine wp_cst (v := .ref 1000002) dX3_foldWord_34 rfl rfl ?_
  exact wp_end dX3_foldWord_36 rfl rfl (hP _ _ (ok_s k) h)
noncomputable def L_X3_kindOfWord_2 : Nat → Int32 → am_S → am_FE (Unit)
  | 0, _, _ => none
  | m + 1, x1, s =>
    if (3 : Int32) ≤ x1 then
      some (.inr ((), s))
    else
      am_bv (f_X3_foldWord x1 s) (fun v3 s2 =>
        am_mv v3 none (fun t4 => if (am_k0 t4).1 = 18 then
          am_bi (f_X3_isWord t4 s2) (fun v9 s8 =>
            if v9 = 0 then
              L_X3_kindOfWord_2 m (x1 + (1 : Int32)) s8
            else
              some (.inl (.inl (some (.int x1)), s8))
          )
        else none)
      )
theorem q_X3_kindOfWord_2 : ∀ (m : Nat) {N n : Nat} {d : Nat} {x1 : Int32} {s : am_S} {P : (am_O × am_S) ⊕ (Unit × am_S) → Prop} {Q : am_O → am_S → Prop} (h : am_sh N n s)  (k : am_ok (L_X3_kindOfWord_2 m x1 s) P) (hP : ∀ o s, P (.inl (o, s)) → am_sh N n s → Q o s) (hX : ∀ (e : Unit) s, P (.inr (e, s)) → am_sh N n s → am_WP (d + 2) mX3_kindOfWord 26 [] [] s Q), am_WP (d + 2) mX3_kindOfWord 2 [(0, .ref 34), (1, .int x1)] [] s Q := by
  intro m
  induction m with
  | zero =>
    intro N n d x1 s P Q h  k hP hX
    exact (ok_no k).elim
  | succ m ih =>
    intro N n d x1 s P Q h  k hP hX
    unfold L_X3_kindOfWord_2 at k
    refine wp_ld (v := .int x1) dX3_kindOfWord_2 rfl rfl rfl rfl ?_
    refine wp_cst (v := .int (3 : Int32)) dX3_kindOfWord_3 rfl rfl ?_
    refine wp_ic_ge dX3_kindOfWord_4 rfl (fun c1 => have k := ok_pos c1 k; ?_) (fun c1 => have k := ok_neg c1 k; ?_)
    · exact wp_sub (hX _ _ (ok_s k) h) rfl trivial
    · refine wp_ld (v := .ref 34) dX3_kindOfWord_7 rfl rfl rfl rfl ?_
      refine wp_ld (v := .int x1) dX3_kindOfWord_8 rfl rfl rfl rfl ?_
      refine c_v dX3_kindOfWord_9 rfl rfl rfl (am_inv_s rfl rfl rfl rfl) (s_X3_foldWord h) k (fun v3 s2 h k => ?_)
      obtain ⟨t4, c5, k⟩ := ok_mn k
      subst c5
      obtain ⟨g6, k⟩ := ok_g k
      refine c_i dX3_kindOfWord_12 rfl rfl rfl (am_inv_v rfl (kk_34 h) rfl rfl rfl) (s_X3_isWord h g6) k (fun v9 s8 h k => ?_)
      refine wp_if_eq dX3_kindOfWord_15 rfl (fun c10 => have k := ok_pos c10 k; ?_) (fun c10 => have k := ok_neg c10 k; ?_)
      · refine wp_inc (v := (x1 + (1 : Int32))) (ls' := [(0, .ref 34), (1, .int (x1 + (1 : Int32)))]) dX3_kindOfWord_20 rfl (Nat.le_of_ble_eq_true rfl) rfl rfl ?_
        refine wp_goto dX3_kindOfWord_23 rfl ?_
        exact wp_sub (ih h k hP hX) rfl ⟨rfl, rfl, trivial⟩
      · refine wp_ld (v := .int x1) dX3_kindOfWord_18 rfl rfl rfl rfl ?_
        exact wp_end dX3_kindOfWord_19 rfl (am_end_i rfl) (hP _ _ (ok_s k) h)
noncomputable def f_X3_kindOfWord  (s : am_S) : am_F :=
  am_lm (L_X3_kindOfWord_2 ax_fuel (0 : Int32) s) (fun e11 s12 =>
    some (.inl (some (.int (-1 : Int32))), s12)
  )
theorem s_X3_kindOfWord {N n : Nat} {d : Nat}  {s : am_S} (h : am_sh N n s)  : am_S1 (am_sh N n) (d + 2) mX3_kindOfWord [.ref 34] s (f_X3_kindOfWord s) := by
  intro P Q k hP
  show am_WP (d + 2) mX3_kindOfWord 0 [(0, .ref 34)] [] s Q
  unfold f_X3_kindOfWord at k
  refine wp_cst (v := .int (0 : Int32)) dX3_kindOfWord_0 rfl rfl ?_
  refine wp_st (ls' := [(0, .ref 34), (1, .int (0 : Int32))]) dX3_kindOfWord_1 rfl rfl rfl (Nat.le_of_ble_eq_true rfl) rfl ?_
  refine lp_m k (fun P1 k hA hB => ?_)
  refine wp_sub (q_X3_kindOfWord_2 ax_fuel h k (fun o s p h => hP o s (hA o s p) h) (fun e11 s12 p h => have k := hB e11 s12 p; ?_)) rfl ⟨rfl, rfl, trivial⟩
  refine wp_cst (v := .int (-1 : Int32)) dX3_kindOfWord_26 rfl rfl ?_
  exact wp_end dX3_kindOfWord_27 rfl (am_end_i rfl) (hP _ _ (ok_s k) h)
noncomputable def f_X3_readFold (b1 : Nat) (s : am_S) : am_F :=
  am_bi (f_X3_kindOfWord s) (fun v2 s1 =>
    if v2 = (-1 : Int32) then
      am_bu (f_X3_refuse s1) (fun s16 =>
        some (.inl none, s16)
      )
    else
      if (am_I s1 b1 2) < (11 : Int32) then
        am_bu (f_X3_advance s1) (fun s5 =>
          am_bi (f_X3_readNumber (1 : Int32) (12 : Int32) s5) (fun v8 s7 =>
            am_bu (f_X3_readStop s7) (fun s9 =>
              if (am_I s9 34 7) = 0 then
                am_bi (f_X4_add b1 v2 v8 (0 : Int32) s9) (fun v13 s12 =>
                  some (.inl none, s12)
                )
              else
                some (.inl none, s9)
            )
          )
        )
      else
        am_bu (f_X3_fail (4 : Int32) s1) (fun s14 =>
          some (.inl none, s14)
        )
  )
theorem s_X3_readFold {N n : Nat} {d : Nat} {b1 : Nat} {s : am_S} (h : am_sh N n s) (fb1 : am_kf n b1 4) : am_S1 (am_sh N n) (d + 4) mX3_readFold [.ref 34, .ref b1] s (f_X3_readFold b1 s) := by
  intro P Q k hP
  show am_WP (d + 4) mX3_readFold 0 [(0, .ref 34), (1, .ref b1)] [] s Q
  unfold f_X3_readFold at k
  refine wp_ld (v := .ref 34) dX3_readFold_0 rfl rfl rfl rfl ?_
  refine c_i dX3_readFold_1 rfl rfl rfl (am_inv_v rfl (kk_34 h) rfl rfl rfl) (s_X3_kindOfWord h) k (fun v2 s1 h k => ?_)
  refine wp_st (ls' := [(0, .ref 34), (1, .ref b1), (2, .int v2)]) dX3_readFold_4 rfl rfl rfl (Nat.le_of_ble_eq_true rfl) rfl ?_
  refine wp_ld (v := .int v2) dX3_readFold_5 rfl rfl rfl rfl ?_
  refine wp_cst (v := .int (-1 : Int32)) dX3_readFold_6 rfl rfl ?_
  refine wp_ic_ne dX3_readFold_7 rfl (fun c3 => have k := ok_neg c3 k; ?_) (fun c3 => have k := ok_pos c3 k; ?_)
  · refine wp_ld (v := .ref b1) dX3_readFold_15 rfl rfl rfl rfl ?_
    refine wq_gI dX3_readFold_16 rfl rfl (kk_f h fb1) (v := (am_I s1 b1 2)) rfl ?_
    refine wp_cst (v := .int (11 : Int32)) dX3_readFold_19 rfl rfl ?_
    refine wp_ic_lt dX3_readFold_21 rfl (fun c4 => have k := ok_pos c4 k; ?_) (fun c4 => have k := ok_neg c4 k; ?_)
    · refine wp_ld (v := .ref 34) dX3_readFold_30 rfl rfl rfl rfl ?_
      refine c_u dX3_readFold_31 rfl rfl rfl (am_inv_v rfl (kk_34 h) rfl rfl rfl) (s_X3_advance h) k (fun s5 h k => ?_)
      refine wp_ld (v := .ref 34) dX3_readFold_34 rfl rfl rfl rfl ?_
      refine wp_cst (v := .int (1 : Int32)) dX3_readFold_35 rfl rfl ?_
      refine wp_cst (v := .int (12 : Int32)) dX3_readFold_36 rfl rfl ?_
      refine c_i dX3_readFold_38 rfl rfl rfl (am_inv_v rfl (kk_34 h) rfl rfl rfl) (s_X3_readNumber h) k (fun v8 s7 h k => ?_)
      refine wp_st (ls' := [(0, .ref 34), (1, .ref b1), (2, .int v2), (3, .int v8)]) dX3_readFold_41 rfl rfl rfl (Nat.le_of_ble_eq_true rfl) rfl ?_
      refine wp_ld (v := .ref 34) dX3_readFold_42 rfl rfl rfl rfl ?_
      refine c_u dX3_readFold_43 rfl rfl rfl (am_inv_v rfl (kk_34 h) rfl rfl rfl) (s_X3_readStop h) k (fun s9 h k => ?_)
      refine wp_ld (v := .ref 34) dX3_readFold_46 rfl rfl rfl rfl ?_
      refine wq_gI dX3_readFold_47 rfl rfl (kk_34 h) (v := (am_I s9 34 7)) rfl ?_
      refine wp_if_ne dX3_readFold_50 rfl (fun c11 => have k := ok_neg c11 k; ?_) (fun c11 => have k := ok_pos c11 k; ?_)
      · exact wp_end dX3_readFold_61 rfl rfl (hP _ _ (ok_s k) h)
      · refine wp_ld (v := .ref b1) dX3_readFold_53 rfl rfl rfl rfl ?_
        refine wp_ld (v := .int v2) dX3_readFold_54 rfl rfl rfl rfl ?_
        refine wp_ld (v := .int v8) dX3_readFold_55 rfl rfl rfl rfl ?_
        refine wp_cst (v := .int (0 : Int32)) dX3_readFold_56 rfl rfl ?_
        refine c_i dX3_readFold_57 rfl rfl rfl (am_inv_v rfl (kk_f h fb1) rfl rfl rfl) (s_X4_add h fb1) k (fun v13 s12 h k => ?_)
        refine wp_pu dX3_readFold_60 rfl rfl ?_
        exact wp_end dX3_readFold_61 rfl rfl (hP _ _ (ok_s k) h)
    · refine wp_ld (v := .ref 34) dX3_readFold_24 rfl rfl rfl rfl ?_
      refine wp_cst (v := .int (4 : Int32)) dX3_readFold_25 rfl rfl ?_
      refine c_u dX3_readFold_26 rfl rfl rfl (am_inv_v rfl (kk_34 h) rfl rfl rfl) (s_X3_fail h) k (fun s14 h k => ?_)
      exact wp_end dX3_readFold_29 rfl rfl (hP _ _ (ok_s k) h)
  · refine wp_ld (v := .ref 34) dX3_readFold_10 rfl rfl rfl rfl ?_
    refine c_u dX3_readFold_11 rfl rfl rfl (am_inv_v rfl (kk_34 h) rfl rfl rfl) (s_X3_refuse h) k (fun s16 h k => ?_)
    exact wp_end dX3_readFold_14 rfl rfl (hP _ _ (ok_s k) h)
noncomputable def L_X3_readWay_12 : Nat → Nat → Int32 → am_S → am_FE (Unit)
  | 0, _, _, _ => none
  | m + 1, a2, x3, s =>
    if (400 : Int32) < x3 then
      some (.inr ((), s))
    else
      if (am_I s 34 7) = 0 then
        if (am_I s 34 4) = 0 then
          some (.inr ((), s))
        else
          am_bu (f_X3_readFold a2 s) (fun s6 =>
            L_X3_readWay_12 m a2 (x3 + (1 : Int32)) s6
          )
      else
        some (.inr ((), s))
theorem q_X3_readWay_12 : ∀ (m : Nat) {N n : Nat} {d : Nat} {a2 : Nat} {x3 : Int32} {s : am_S} {P : (am_O × am_S) ⊕ (Unit × am_S) → Prop} {Q : am_O → am_S → Prop} (h : am_sh N n s) (fa2 : am_kf n a2 4) (k : am_ok (L_X3_readWay_12 m a2 x3 s) P) (hP : ∀ o s, P (.inl (o, s)) → am_sh N n s → Q o s) (hX : ∀ (e : Unit) s, P (.inr (e, s)) → am_sh N n s → am_WP (d + 5) mX3_readWay 44 [(0, .ref 34)] [] s Q), am_WP (d + 5) mX3_readWay 12 [(0, .ref 34), (2, .ref a2), (3, .int x3)] [] s Q := by
  intro m
  induction m with
  | zero =>
    intro N n d a2 x3 s P Q h fa2 k hP hX
    exact (ok_no k).elim
  | succ m ih =>
    intro N n d a2 x3 s P Q h fa2 k hP hX
    unfold L_X3_readWay_12 at k
    refine wp_ld (v := .int x3) dX3_readWay_12 rfl rfl rfl rfl ?_
    refine wp_cst (v := .int (400 : Int32)) dX3_readWay_13 rfl rfl ?_
    refine wp_ic_gt dX3_readWay_16 rfl (fun c3 => have k := ok_pos c3 k; ?_) (fun c3 => have k := ok_neg c3 k; ?_)
    · exact wp_sub (hX _ _ (ok_s k) h) rfl ⟨rfl, trivial⟩
    · refine wp_ld (v := .ref 34) dX3_readWay_19 rfl rfl rfl rfl ?_
      refine wq_gI dX3_readWay_20 rfl rfl (kk_34 h) (v := (am_I s 34 7)) rfl ?_
      refine wp_if_ne dX3_readWay_23 rfl (fun c4 => have k := ok_neg c4 k; ?_) (fun c4 => have k := ok_pos c4 k; ?_)
      · exact wp_sub (hX _ _ (ok_s k) h) rfl ⟨rfl, trivial⟩
      · refine wp_ld (v := .ref 34) dX3_readWay_26 rfl rfl rfl rfl ?_
        refine wq_gI dX3_readWay_27 rfl rfl (kk_34 h) (v := (am_I s 34 4)) rfl ?_
        refine wp_if_eq dX3_readWay_30 rfl (fun c5 => have k := ok_pos c5 k; ?_) (fun c5 => have k := ok_neg c5 k; ?_)
        · exact wp_sub (hX _ _ (ok_s k) h) rfl ⟨rfl, trivial⟩
        · refine wp_ld (v := .ref 34) dX3_readWay_33 rfl rfl rfl rfl ?_
          refine wp_ld (v := .ref a2) dX3_readWay_34 rfl rfl rfl rfl ?_
          refine c_u dX3_readWay_35 rfl rfl rfl (am_inv_v rfl (kk_34 h) rfl rfl rfl) (s_X3_readFold h fa2) k (fun s6 h k => ?_)
          refine wp_inc (v := (x3 + (1 : Int32))) (ls' := [(0, .ref 34), (2, .ref a2), (3, .int (x3 + (1 : Int32)))]) dX3_readWay_38 rfl (Nat.le_of_ble_eq_true rfl) rfl rfl ?_
          refine wp_goto dX3_readWay_41 rfl ?_
          exact wp_sub (ih h fa2 k hP hX) rfl ⟨rfl, rfl, rfl, trivial⟩
noncomputable def f_X3_readWay (x1 : Int32) (b2 : Nat) (s : am_S) : am_F :=
  am_bu (f_X3_begin x1 s) (fun s1 =>
    am_lm (L_X3_readWay_12 ax_fuel b2 (0 : Int32) (am_sI s1 b2 2 (0 : Int32))) (fun e8 s9 =>
      if (am_I s9 34 7) = 0 then
        some (.inl (some (.int (1 : Int32))), s9)
      else
        some (.inl (some (.int (0 : Int32))), s9)
    )
  )
theorem s_X3_readWay {N n : Nat} {d : Nat} {x1 : Int32} {b2 : Nat} {s : am_S} (h : am_sh N n s) (fb2 : am_kf n b2 4) : am_S1 (am_sh N n) (d + 5) mX3_readWay [.ref 34, .int x1, .ref b2] s (f_X3_readWay x1 b2 s) := by
  intro P Q k hP
  show am_WP (d + 5) mX3_readWay 0 [(0, .ref 34), (1, .int x1), (2, .ref b2)] [] s Q
  unfold f_X3_readWay at k
  refine wp_ld (v := .ref 34) dX3_readWay_0 rfl rfl rfl rfl ?_
  refine wp_ld (v := .int x1) dX3_readWay_1 rfl rfl rfl rfl ?_
  refine c_u dX3_readWay_2 rfl rfl rfl (am_inv_v rfl (kk_34 h) rfl rfl rfl) (s_X3_begin h) k (fun s1 h k => ?_)
  refine wp_ld (v := .ref b2) dX3_readWay_5 rfl rfl rfl rfl ?_
  refine wp_cst (v := .int (0 : Int32)) dX3_readWay_6 rfl rfl ?_
  refine wp_pI dX3_readWay_7 rfl rfl rfl (fun h => absurd h (by decide)) (kk_f h fb2) ?_
  refine wp_cst (v := .int (0 : Int32)) dX3_readWay_10 rfl rfl ?_
  refine wp_st (ls' := [(0, .ref 34), (1, .int x1), (2, .ref b2), (3, .int (0 : Int32))]) dX3_readWay_11 rfl rfl rfl (Nat.le_of_ble_eq_true rfl) rfl ?_
  refine lp_m k (fun P1 k hA hB => ?_)
  refine wp_sub (q_X3_readWay_12 ax_fuel (sh_sI h) fb2 k (fun o s p h => hP o s (hA o s p) h) (fun e8 s9 p h => have k := hB e8 s9 p; ?_)) rfl ⟨rfl, rfl, rfl, trivial⟩
  refine wp_ld (v := .ref 34) dX3_readWay_44 rfl rfl rfl rfl ?_
  refine wq_gI dX3_readWay_45 rfl rfl (kk_34 h) (v := (am_I s9 34 7)) rfl ?_
  refine wp_if_ne dX3_readWay_48 rfl (fun c10 => have k := ok_neg c10 k; ?_) (fun c10 => have k := ok_pos c10 k; ?_)
  · refine wp_cst (v := .int (0 : Int32)) dX3_readWay_55 rfl rfl ?_
    exact wp_end dX3_readWay_56 rfl rfl (hP _ _ (ok_s k) h)
  · refine wp_cst (v := .int (1 : Int32)) dX3_readWay_51 rfl rfl ?_
    refine wp_goto dX3_readWay_52 rfl ?_
    exact wp_end dX3_readWay_56 rfl rfl (hP _ _ (ok_s k) h)
noncomputable def f_X5_addWay (b1 : Nat) (s : am_S) : am_F :=
  if (am_I s 1 5) < 0 then
    some (.inl (some (.int (-1 : Int32))), s)
  else
    if (am_I s 1 5) < (6 : Int32) then
      if am_in (am_I s 1 5) 6 = true then
        am_bu (f_X4_copyFrom (11 + 2 * (am_I s 1 5).toNatClampNeg) b1 s) (fun s5 =>
          some (.inl (some (.int (am_I s 1 5))), (am_sI s5 1 5 ((am_I s 1 5) + (1 : Int32))))
        )
      else none
    else
      some (.inl (some (.int (-1 : Int32))), s)
theorem s_X5_addWay {N n : Nat} {d : Nat} {b1 : Nat} {s : am_S} (h : am_sh N n s) (fb1 : am_kf n b1 4) : am_S1 (am_sh N n) (d + 1) mX5_addWay [.ref 1, .ref b1] s (f_X5_addWay b1 s) := by
  intro P Q k hP
  show am_WP (d + 1) mX5_addWay 0 [(0, .ref 1), (1, .ref b1)] [] s Q
  unfold f_X5_addWay at k
  refine wp_ld (v := .ref 1) dX5_addWay_0 rfl rfl rfl rfl ?_
  refine wq_gI dX5_addWay_1 rfl rfl (kk_1 h) (v := (am_I s 1 5)) rfl ?_
  refine wp_st (ls' := [(0, .ref 1), (1, .ref b1), (2, .int (am_I s 1 5))]) dX5_addWay_4 rfl rfl rfl (Nat.le_of_ble_eq_true rfl) rfl ?_
  refine wp_ld (v := .int (am_I s 1 5)) dX5_addWay_5 rfl rfl rfl rfl ?_
  refine wp_if_lt dX5_addWay_6 rfl (fun c1 => have k := ok_pos c1 k; ?_) (fun c1 => have k := ok_neg c1 k; ?_)
  · refine wp_cst (v := .int (-1 : Int32)) dX5_addWay_15 rfl rfl ?_
    exact wp_end dX5_addWay_16 rfl (am_end_i rfl) (hP _ _ (ok_s k) h)
  · refine wp_ld (v := .int (am_I s 1 5)) dX5_addWay_9 rfl rfl rfl rfl ?_
    refine wp_cst (v := .int (6 : Int32)) dX5_addWay_10 rfl rfl ?_
    refine wp_ic_lt dX5_addWay_12 rfl (fun c2 => have k := ok_pos c2 k; ?_) (fun c2 => have k := ok_neg c2 k; ?_)
    · refine wp_ld (v := .ref 1) dX5_addWay_17 rfl rfl rfl rfl ?_
      refine wp_gr dX5_addWay_18 rfl rfl (kk_1 h) (rr_1_4 h) ?_
      refine wp_ld (v := .int (am_I s 1 5)) dX5_addWay_21 rfl rfl rfl rfl ?_
      obtain ⟨g3, k⟩ := ok_g k
      have f4 := kf_ways h g3
      refine wq_aald dX5_addWay_22 (kk_3 h) (by decide) g3 (rr_ways h g3) ?_
      refine wp_ld (v := .ref b1) dX5_addWay_23 rfl rfl rfl rfl ?_
      refine c_u dX5_addWay_24 rfl rfl rfl (am_inv_v rfl (kk_f h f4) rfl rfl rfl) (s_X4_copyFrom h f4 fb1) k (fun s5 h k => ?_)
      refine wp_ld (v := .ref 1) dX5_addWay_27 rfl rfl rfl rfl ?_
      refine wp_ld (v := .int (am_I s 1 5)) dX5_addWay_28 rfl rfl rfl rfl ?_
      refine wp_cst (v := .int (1 : Int32)) dX5_addWay_29 rfl rfl ?_
      refine wp_pu dX5_addWay_30 rfl rfl ?_
      refine wp_pI dX5_addWay_31 rfl rfl rfl (fun h => absurd h (by decide)) (kk_1 h) ?_
      refine wp_ld (v := .int (am_I s 1 5)) dX5_addWay_34 rfl rfl rfl rfl ?_
      exact wp_end dX5_addWay_35 rfl (am_end_i rfl) (hP _ _ (ok_s k) (sh_sI h))
    · refine wp_cst (v := .int (-1 : Int32)) dX5_addWay_15 rfl rfl ?_
      exact wp_end dX5_addWay_16 rfl (am_end_i rfl) (hP _ _ (ok_s k) h)
noncomputable def f_X7_way (x1 : Int32) (s : am_S) : am_F :=
  am_tu (f_X7_needWithin x1 (0 : Int32) (am_I s 34 1) s) (fun s1 =>
    if (am_I s1 1 5) < (6 : Int32) then
      am_bi (f_X3_readWay x1 42 s1) (fun v5 s4 =>
        if v5 = 0 then
          some (.inl (some (.int ((-10 : Int32) - (am_I s4 34 7)))), s4)
        else
          am_bi (f_X5_addWay 42 s4) (fun v8 s7 =>
            some (.inl (some (.int v8)), s7)
          )
      )
    else
      some (.inl (some (.int (-1 : Int32))), s1)
  )
theorem s_X7_way {N n : Nat} {d : Nat} {x1 : Int32} {s : am_S} (h : am_sh N n s)  : am_S1 (am_sh N n) (d + 6) mX7_way [.ref 0, .int x1] s (f_X7_way x1 s) := by
  intro P Q k hP
  show am_WP (d + 6) mX7_way 0 [(0, .ref 0), (1, .int x1)] [] s Q
  unfold f_X7_way at k
  refine wp_ld (v := .int x1) dX7_way_0 rfl rfl rfl rfl ?_
  refine wp_cst (v := .int (0 : Int32)) dX7_way_1 rfl rfl ?_
  refine wp_ld (v := .ref 0) dX7_way_2 rfl rfl rfl rfl ?_
  refine wp_gr dX7_way_3 rfl rfl (kk_0 h) (rr_0_2 h) ?_
  refine wq_gI dX7_way_6 rfl rfl (kk_34 h) (v := (am_I s 34 1)) rfl ?_
  refine t_u dX7_way_9 rfl rfl rfl (am_inv_s rfl rfl rfl rfl) (s_X7_needWithin h) k rfl rfl hP (fun s1 h k => ?_)
  refine wp_ld (v := .ref 0) dX7_way_12 rfl rfl rfl rfl ?_
  refine wp_gr dX7_way_13 rfl rfl (kk_0 h) (rr_0_0 h) ?_
  refine wq_gI dX7_way_16 rfl rfl (kk_1 h) (v := (am_I s1 1 5)) rfl ?_
  refine wp_cst (v := .int (6 : Int32)) dX7_way_19 rfl rfl ?_
  refine wp_ic_lt dX7_way_21 rfl (fun c3 => have k := ok_pos c3 k; ?_) (fun c3 => have k := ok_neg c3 k; ?_)
  · refine wp_ld (v := .ref 0) dX7_way_26 rfl rfl rfl rfl ?_
    refine wp_gr dX7_way_27 rfl rfl (kk_0 h) (rr_0_2 h) ?_
    refine wp_ld (v := .int x1) dX7_way_30 rfl rfl rfl rfl ?_
    refine wp_ld (v := .ref 0) dX7_way_31 rfl rfl rfl rfl ?_
    refine wp_gr dX7_way_32 rfl rfl (kk_0 h) (rr_0_7 h) ?_
    refine c_i dX7_way_35 rfl rfl rfl (am_inv_v rfl (kk_34 h) rfl rfl rfl) (s_X3_readWay h (kf_42 h)) k (fun v5 s4 h k => ?_)
    refine wp_if_ne dX7_way_38 rfl (fun c6 => have k := ok_neg c6 k; ?_) (fun c6 => have k := ok_pos c6 k; ?_)
    · refine wp_ld (v := .ref 0) dX7_way_52 rfl rfl rfl rfl ?_
      refine wp_gr dX7_way_53 rfl rfl (kk_0 h) (rr_0_0 h) ?_
      refine wp_ld (v := .ref 0) dX7_way_56 rfl rfl rfl rfl ?_
      refine wp_gr dX7_way_57 rfl rfl (kk_0 h) (rr_0_7 h) ?_
      refine c_i dX7_way_60 rfl rfl rfl (am_inv_v rfl (kk_1 h) rfl rfl rfl) (s_X5_addWay h (kf_42 h)) k (fun v8 s7 h k => ?_)
      exact wp_end dX7_way_63 rfl (am_end_i rfl) (hP _ _ (ok_s k) h)
    · refine wp_cst (v := .int (-10 : Int32)) dX7_way_41 rfl rfl ?_
      refine wp_ld (v := .ref 0) dX7_way_43 rfl rfl rfl rfl ?_
      refine wp_gr dX7_way_44 rfl rfl (kk_0 h) (rr_0_2 h) ?_
      refine wq_gI dX7_way_47 rfl rfl (kk_34 h) (v := (am_I s4 34 7)) rfl ?_
      refine wp_pu dX7_way_50 rfl rfl ?_
      exact wp_end dX7_way_51 rfl (am_end_i rfl) (hP _ _ (ok_s k) h)
  · refine wp_cst (v := .int (-1 : Int32)) dX7_way_24 rfl rfl ?_
    exact wp_end dX7_way_25 rfl (am_end_i rfl) (hP _ _ (ok_s k) h)
noncomputable def f_L_way (x2 : Int32) (s : am_S) : am_F :=
  am_xi (f_X7_way x2 s) (fun v2 s1 =>
    some (.inl (some (.int (0 : Int32))), (am_sL s1 71 0 v2.toInt64))
  ) (fun e s1 =>
    if e = 0 then
      some (.inl (some (.int (1 : Int32))), s1)
    else
      none
  )
theorem s_L_way {N : Nat} {d : Nat} {x2 : Int32} {s : am_S} (h : am_shE N s)  : am_S1 (am_shE N) (d + 7) mL_way [.ref 0, .int x2, .ref 71] s (f_L_way x2 s) := by
  intro P Q k hP
  show am_WP (d + 7) mL_way 0 [(0, .ref 0), (1, .int x2), (2, .ref 71)] [] s Q
  unfold f_L_way at k
  refine wp_ld (v := .ref 71) dL_way_0 rfl rfl rfl rfl ?_
  refine wp_cst (v := .int (0 : Int32)) dL_way_1 rfl rfl ?_
  refine wp_ld (v := .ref 0) dL_way_2 rfl rfl rfl rfl ?_
  refine wp_ld (v := .int x2) dL_way_3 rfl rfl rfl rfl ?_
  refine x_i dL_way_4 rfl rfl rfl (am_inv_v rfl (kE_0 h) rfl rfl rfl) (sE h (fun _ h => s_X7_way h)) k rfl (List.cons_ne_nil _ _) (fun v2 s1 h k => ?_) (fun e s1 h k => ?_)
  · refine wp_pu dL_way_7 rfl rfl ?_
    refine wq_last dL_way_8 (kE_71 h) (by decide) (j := 0) rfl ?_
    refine wp_goto dL_way_9 rfl ?_
    refine wp_cst (v := .int (0 : Int32)) dL_way_15 rfl rfl ?_
    exact wp_end dL_way_16 rfl (am_end_i rfl) (hP _ _ (ok_s k) (shE_sL h))
  · by_cases c3 : e = 0
    · have k := ok_pos c3 k
      subst c3
      refine ⟨_, _, rfl, ?_⟩
      refine wp_cst (v := .int (1 : Int32)) dL_way_13 rfl rfl ?_
      exact wp_end dL_way_14 rfl (am_end_i rfl) (hP _ _ (ok_s k) h)
    replace k := ok_neg c3 k
    exact (ok_no k).elim
noncomputable def f_X8_fails (x1 : Int32) (s : am_S) : am_F :=
  some (.inl (some (.int (0 : Int32))), (am_sI s 55 3 x1))
theorem s_X8_fails {N n : Nat} {d : Nat} {x1 : Int32} {s : am_S} (h : am_sh N n s)  : am_S1 (am_sh N n) (d) mX8_fails [.ref 55, .int x1] s (f_X8_fails x1 s) := by
  intro P Q k hP
  show am_WP (d) mX8_fails 0 [(0, .ref 55), (1, .int x1)] [] s Q
  unfold f_X8_fails at k
  refine wp_ld (v := .ref 55) dX8_fails_0 rfl rfl rfl rfl ?_
  refine wp_ld (v := .int x1) dX8_fails_1 rfl rfl rfl rfl ?_
  refine wp_pI dX8_fails_2 rfl rfl rfl (fun h => absurd h (by decide)) (kk_55 h) ?_
  refine wp_cst (v := .int (0 : Int32)) dX8_fails_5 rfl rfl ?_
  exact wp_end dX8_fails_6 rfl (am_end_i rfl) (hP _ _ (ok_s k) (sh_sI h))
noncomputable def f_X8_isLetter (x1 : Int32) (s : am_S) : am_F :=
  if x1 < (97 : Int32) then
    some (.inl (some (.int (0 : Int32))), s)
  else
    if (122 : Int32) < x1 then
      some (.inl (some (.int (0 : Int32))), s)
    else
      some (.inl (some (.int (1 : Int32))), s)
theorem s_X8_isLetter {N n : Nat} {d : Nat} {x1 : Int32} {s : am_S} (h : am_sh N n s)  : am_S1 (am_sh N n) (d) mX8_isLetter [.int x1] s (f_X8_isLetter x1 s) := by
  intro P Q k hP
  show am_WP (d) mX8_isLetter 0 [(0, .int x1)] [] s Q
  unfold f_X8_isLetter at k
  refine wp_ld (v := .int x1) dX8_isLetter_0 rfl rfl rfl rfl ?_
  refine wp_cst (v := .int (97 : Int32)) dX8_isLetter_1 rfl rfl ?_
  refine wp_ic_lt dX8_isLetter_3 rfl (fun c1 => have k := ok_pos c1 k; ?_) (fun c1 => have k := ok_neg c1 k; ?_)
  · refine wp_cst (v := .int (0 : Int32)) dX8_isLetter_16 rfl rfl ?_
    exact wp_end dX8_isLetter_17 rfl rfl (hP _ _ (ok_s k) h)
  · refine wp_ld (v := .int x1) dX8_isLetter_6 rfl rfl rfl rfl ?_
    refine wp_cst (v := .int (122 : Int32)) dX8_isLetter_7 rfl rfl ?_
    refine wp_ic_gt dX8_isLetter_9 rfl (fun c2 => have k := ok_pos c2 k; ?_) (fun c2 => have k := ok_neg c2 k; ?_)
    · refine wp_cst (v := .int (0 : Int32)) dX8_isLetter_16 rfl rfl ?_
      exact wp_end dX8_isLetter_17 rfl rfl (hP _ _ (ok_s k) h)
    · refine wp_cst (v := .int (1 : Int32)) dX8_isLetter_12 rfl rfl ?_
      refine wp_goto dX8_isLetter_13 rfl ?_
      exact wp_end dX8_isLetter_17 rfl rfl (hP _ _ (ok_s k) h)
noncomputable def f_X8_see (x1 : Int32) (s : am_S) : am_F :=
  if (am_I s 55 8) ≤ x1 then
    some (.inl (some (.int (0 : Int32))), s)
  else
    if am_in x1 400 = true then
      some (.inl (some (.int (am_I s 59 x1.toNatClampNeg))), s)
    else none
theorem s_X8_see {N n : Nat} {d : Nat} {x1 : Int32} {s : am_S} (h : am_sh N n s)  : am_S1 (am_sh N n) (d) mX8_see [.ref 55, .int x1] s (f_X8_see x1 s) := by
  intro P Q k hP
  show am_WP (d) mX8_see 0 [(0, .ref 55), (1, .int x1)] [] s Q
  unfold f_X8_see at k
  refine wp_ld (v := .int x1) dX8_see_0 rfl rfl rfl rfl ?_
  refine wp_ld (v := .ref 55) dX8_see_1 rfl rfl rfl rfl ?_
  refine wq_gI dX8_see_2 rfl rfl (kk_55 h) (v := (am_I s 55 8)) rfl ?_
  refine wp_ic_ge dX8_see_5 rfl (fun c1 => have k := ok_pos c1 k; ?_) (fun c1 => have k := ok_neg c1 k; ?_)
  · refine wp_cst (v := .int (0 : Int32)) dX8_see_17 rfl rfl ?_
    exact wp_end dX8_see_18 rfl (am_end_i rfl) (hP _ _ (ok_s k) h)
  · refine wp_ld (v := .ref 55) dX8_see_8 rfl rfl rfl rfl ?_
    refine wp_gr dX8_see_9 rfl rfl (kk_55 h) (rr_55_4 h) ?_
    refine wp_ld (v := .int x1) dX8_see_12 rfl rfl rfl rfl ?_
    obtain ⟨g2, k⟩ := ok_g k
    refine wq_iald dX8_see_13 (kk_59 h) g2 (v := (am_I s 59 x1.toNatClampNeg)) rfl ?_
    refine wp_goto dX8_see_14 rfl ?_
    exact wp_end dX8_see_18 rfl (am_end_i rfl) (hP _ _ (ok_s k) h)
noncomputable def f_X8_isDigit (x1 : Int32) (s : am_S) : am_F :=
  if x1 < (48 : Int32) then
    some (.inl (some (.int (0 : Int32))), s)
  else
    if (57 : Int32) < x1 then
      some (.inl (some (.int (0 : Int32))), s)
    else
      some (.inl (some (.int (1 : Int32))), s)
theorem s_X8_isDigit {N n : Nat} {d : Nat} {x1 : Int32} {s : am_S} (h : am_sh N n s)  : am_S1 (am_sh N n) (d) mX8_isDigit [.int x1] s (f_X8_isDigit x1 s) := by
  intro P Q k hP
  show am_WP (d) mX8_isDigit 0 [(0, .int x1)] [] s Q
  unfold f_X8_isDigit at k
  refine wp_ld (v := .int x1) dX8_isDigit_0 rfl rfl rfl rfl ?_
  refine wp_cst (v := .int (48 : Int32)) dX8_isDigit_1 rfl rfl ?_
  refine wp_ic_lt dX8_isDigit_3 rfl (fun c1 => have k := ok_pos c1 k; ?_) (fun c1 => have k := ok_neg c1 k; ?_)
  · refine wp_cst (v := .int (0 : Int32)) dX8_isDigit_16 rfl rfl ?_
    exact wp_end dX8_isDigit_17 rfl rfl (hP _ _ (ok_s k) h)
  · refine wp_ld (v := .int x1) dX8_isDigit_6 rfl rfl rfl rfl ?_
    refine wp_cst (v := .int (57 : Int32)) dX8_isDigit_7 rfl rfl ?_
    refine wp_ic_gt dX8_isDigit_9 rfl (fun c2 => have k := ok_pos c2 k; ?_) (fun c2 => have k := ok_neg c2 k; ?_)
    · refine wp_cst (v := .int (0 : Int32)) dX8_isDigit_16 rfl rfl ?_
      exact wp_end dX8_isDigit_17 rfl rfl (hP _ _ (ok_s k) h)
    · refine wp_cst (v := .int (1 : Int32)) dX8_isDigit_12 rfl rfl ?_
      refine wp_goto dX8_isDigit_13 rfl ?_
      exact wp_end dX8_isDigit_17 rfl rfl (hP _ _ (ok_s k) h)
noncomputable def L_X8_next_141 : Nat → am_S → am_FE (Unit)
  | 0, _ => none
  | m + 1, s =>
    am_bi (f_X8_see (am_I s 55 9) s) (fun v15 s14 =>
      am_bi (f_X8_isDigit v15 s14) (fun v17 s16 =>
        if v17 = 0 then
          some (.inr ((), s16))
        else
          am_jn (fun (e20 : Int32) s21 =>
            L_X8_next_141 m (am_sI (am_sI s21 55 12 e20) 55 9 ((am_I s21 55 9) + (1 : Int32)))
          ) (fun J19 =>
            if (2 : Int32) ≤ ((am_I s16 55 9) - (am_I s16 55 10)) then
              J19 (am_I s16 55 12) s16
            else
              if am_in (am_I s16 55 9) 400 = true then
                J19 ((((10 : Int32) * (am_I s16 55 12)) + (am_I s16 59 ((am_I s16 55 9).toNatClampNeg))) - (48 : Int32)) s16
              else none
          )
      )
    )
theorem q_X8_next_141 : ∀ (m : Nat) {N n : Nat} {d : Nat}  {s : am_S} {P : (am_O × am_S) ⊕ (Unit × am_S) → Prop} {Q : am_O → am_S → Prop} (h : am_sh N n s)  (k : am_ok (L_X8_next_141 m s) P) (hP : ∀ o s, P (.inl (o, s)) → am_sh N n s → Q o s) (hX : ∀ (e : Unit) s, P (.inr (e, s)) → am_sh N n s → am_WP (d + 1) mX8_next 212 [(0, .ref 55)] [] s Q), am_WP (d + 1) mX8_next 141 [(0, .ref 55)] [] s Q := by
  intro m
  induction m with
  | zero =>
    intro N n d s P Q h  k hP hX
    exact (ok_no k).elim
  | succ m ih =>
    intro N n d s P Q h  k hP hX
    unfold L_X8_next_141 at k
    refine wp_ld (v := .ref 55) dX8_next_141 rfl rfl rfl rfl ?_
    refine wp_ld (v := .ref 55) dX8_next_142 rfl rfl rfl rfl ?_
    refine wq_gI dX8_next_143 rfl rfl (kk_55 h) (v := (am_I s 55 9)) rfl ?_
    refine c_i dX8_next_146 rfl rfl rfl (am_inv_v rfl (kk_55 h) rfl rfl rfl) (s_X8_see h) k (fun v15 s14 h k => ?_)
    refine c_i dX8_next_149 rfl rfl rfl (am_inv_s rfl rfl rfl rfl) (s_X8_isDigit h) k (fun v17 s16 h k => ?_)
    refine wp_if_eq dX8_next_152 rfl (fun c18 => have k := ok_pos c18 k; ?_) (fun c18 => have k := ok_neg c18 k; ?_)
    · exact wp_sub (hX _ _ (ok_s k) h) rfl ⟨rfl, trivial⟩
    · refine wp_ld (v := .ref 55) dX8_next_155 rfl rfl rfl rfl ?_
      refine wp_ld (v := .ref 55) dX8_next_156 rfl rfl rfl rfl ?_
      refine wq_gI dX8_next_157 rfl rfl (kk_55 h) (v := (am_I s16 55 9)) rfl ?_
      refine wp_ld (v := .ref 55) dX8_next_160 rfl rfl rfl rfl ?_
      refine wq_gI dX8_next_161 rfl rfl (kk_55 h) (v := (am_I s16 55 10)) rfl ?_
      refine wp_pu dX8_next_164 rfl rfl ?_
      refine wp_cst (v := .int (2 : Int32)) dX8_next_165 rfl rfl ?_
      refine jn_rule k (fun J19 hJ19 k => ?_)
      have HJ19 : ∀ (e20 : Int32) (s21 : am_S), am_sh N n s21 → am_ok (J19 e20 s21) P → am_WP (d + 1) mX8_next 196 [(0, .ref 55)] [.int e20, .ref 55] s21 Q := by
        intro e20 s21 h k
        replace k := hJ19 _ _ k
        refine wp_pI dX8_next_196 rfl rfl rfl (fun h => absurd h (by decide)) (kk_55 h) ?_
        refine wp_ld (v := .ref 55) dX8_next_199 rfl rfl rfl rfl ?_
        refine wp_pu dX8_next_200 rfl rfl ?_
        refine wq_gI dX8_next_201 rfl rfl (kk_55 (sh_sI h)) (v := (am_I s21 55 9)) rfl ?_
        refine wp_cst (v := .int (1 : Int32)) dX8_next_204 rfl rfl ?_
        refine wp_pu dX8_next_205 rfl rfl ?_
        refine wp_pI dX8_next_206 rfl rfl rfl (fun h => absurd h (by decide)) (kk_55 (sh_sI h)) ?_
        refine wp_goto dX8_next_209 rfl ?_
        exact wp_sub (ih (sh_sI (sh_sI h)) k hP hX) rfl ⟨rfl, trivial⟩
      refine wp_ic_ge dX8_next_166 rfl (fun c22 => have k := ok_pos c22 k; ?_) (fun c22 => have k := ok_neg c22 k; ?_)
      · refine wp_ld (v := .ref 55) dX8_next_192 rfl rfl rfl rfl ?_
        refine wq_gI dX8_next_193 rfl rfl (kk_55 h) (v := (am_I s16 55 12)) rfl ?_
        exact wp_sub (HJ19 _ _ h k) rfl ⟨rfl, trivial⟩
      · refine wp_cst (v := .int (10 : Int32)) dX8_next_169 rfl rfl ?_
        refine wp_ld (v := .ref 55) dX8_next_171 rfl rfl rfl rfl ?_
        refine wq_gI dX8_next_172 rfl rfl (kk_55 h) (v := (am_I s16 55 12)) rfl ?_
        refine wp_pu dX8_next_175 rfl rfl ?_
        refine wp_ld (v := .ref 55) dX8_next_176 rfl rfl rfl rfl ?_
        refine wp_gr dX8_next_177 rfl rfl (kk_55 h) (rr_55_4 h) ?_
        refine wp_ld (v := .ref 55) dX8_next_180 rfl rfl rfl rfl ?_
        refine wq_gI dX8_next_181 rfl rfl (kk_55 h) (v := (am_I s16 55 9)) rfl ?_
        obtain ⟨g23, k⟩ := ok_g k
        refine wq_iald dX8_next_184 (kk_59 h) g23 (v := (am_I s16 59 ((am_I s16 55 9).toNatClampNeg))) rfl ?_
        refine wp_pu dX8_next_185 rfl rfl ?_
        refine wp_cst (v := .int (48 : Int32)) dX8_next_186 rfl rfl ?_
        show am_WP (d + 1) mX8_next 188 _ _ _ Q
        refine wp_pu dX8_next_188 rfl rfl ?_
        refine wp_goto dX8_next_189 rfl ?_
        exact wp_sub (HJ19 _ _ h k) rfl ⟨rfl, trivial⟩
noncomputable def L_X8_next_94 : Nat → am_S → am_FE (Unit)
  | 0, _ => none
  | m + 1, s =>
    am_bi (f_X8_see (am_I s 55 9) s) (fun v31 s30 =>
      am_bi (f_X8_isLetter v31 s30) (fun v33 s32 =>
        if v33 = 0 then
          some (.inr ((), s32))
        else
          L_X8_next_94 m (am_sI s32 55 9 ((am_I s32 55 9) + (1 : Int32)))
      )
    )
theorem q_X8_next_94 : ∀ (m : Nat) {N n : Nat} {d : Nat}  {s : am_S} {P : (am_O × am_S) ⊕ (Unit × am_S) → Prop} {Q : am_O → am_S → Prop} (h : am_sh N n s)  (k : am_ok (L_X8_next_94 m s) P) (hP : ∀ o s, P (.inl (o, s)) → am_sh N n s → Q o s) (hX : ∀ (e : Unit) s, P (.inr (e, s)) → am_sh N n s → am_WP (d + 1) mX8_next 121 [(0, .ref 55)] [] s Q), am_WP (d + 1) mX8_next 94 [(0, .ref 55)] [] s Q := by
  intro m
  induction m with
  | zero =>
    intro N n d s P Q h  k hP hX
    exact (ok_no k).elim
  | succ m ih =>
    intro N n d s P Q h  k hP hX
    unfold L_X8_next_94 at k
    refine wp_ld (v := .ref 55) dX8_next_94 rfl rfl rfl rfl ?_
    refine wp_ld (v := .ref 55) dX8_next_95 rfl rfl rfl rfl ?_
    refine wq_gI dX8_next_96 rfl rfl (kk_55 h) (v := (am_I s 55 9)) rfl ?_
    refine c_i dX8_next_99 rfl rfl rfl (am_inv_v rfl (kk_55 h) rfl rfl rfl) (s_X8_see h) k (fun v31 s30 h k => ?_)
    refine c_i dX8_next_102 rfl rfl rfl (am_inv_s rfl rfl rfl rfl) (s_X8_isLetter h) k (fun v33 s32 h k => ?_)
    refine wp_if_eq dX8_next_105 rfl (fun c34 => have k := ok_pos c34 k; ?_) (fun c34 => have k := ok_neg c34 k; ?_)
    · exact wp_sub (hX _ _ (ok_s k) h) rfl ⟨rfl, trivial⟩
    · refine wp_ld (v := .ref 55) dX8_next_108 rfl rfl rfl rfl ?_
      refine wp_pu dX8_next_109 rfl rfl ?_
      refine wq_gI dX8_next_110 rfl rfl (kk_55 h) (v := (am_I s32 55 9)) rfl ?_
      refine wp_cst (v := .int (1 : Int32)) dX8_next_113 rfl rfl ?_
      refine wp_pu dX8_next_114 rfl rfl ?_
      refine wp_pI dX8_next_115 rfl rfl rfl (fun h => absurd h (by decide)) (kk_55 h) ?_
      refine wp_goto dX8_next_118 rfl ?_
      exact wp_sub (ih (sh_sI h) k hP hX) rfl ⟨rfl, trivial⟩
noncomputable def L_X8_next_0 : Nat → am_S → am_FE (Unit)
  | 0, _ => none
  | m + 1, s =>
    if (am_I s 55 8) ≤ (am_I s 55 9) then
      some (.inr ((), s))
    else
      if am_in (am_I s 55 9) 400 = true then
        am_jn (fun (e42 : Unit) s43 =>
          L_X8_next_0 m (am_sI s43 55 9 ((am_I s43 55 9) + (1 : Int32)))
        ) (fun J41 =>
          if (am_I s 59 ((am_I s 55 9).toNatClampNeg)) = (32 : Int32) then
            J41 () s
          else
            if am_in (am_I s 55 9) 400 = true then
              if (am_I s 59 ((am_I s 55 9).toNatClampNeg)) = (10 : Int32) then
                J41 () s
              else
                some (.inr ((), s))
            else none
        )
      else none
theorem q_X8_next_0 : ∀ (m : Nat) {N n : Nat} {d : Nat}  {s : am_S} {P : (am_O × am_S) ⊕ (Unit × am_S) → Prop} {Q : am_O → am_S → Prop} (h : am_sh N n s)  (k : am_ok (L_X8_next_0 m s) P) (hP : ∀ o s, P (.inl (o, s)) → am_sh N n s → Q o s) (hX : ∀ (e : Unit) s, P (.inr (e, s)) → am_sh N n s → am_WP (d + 1) mX8_next 52 [(0, .ref 55)] [] s Q), am_WP (d + 1) mX8_next 0 [(0, .ref 55)] [] s Q := by
  intro m
  induction m with
  | zero =>
    intro N n d s P Q h  k hP hX
    exact (ok_no k).elim
  | succ m ih =>
    intro N n d s P Q h  k hP hX
    unfold L_X8_next_0 at k
    refine wp_ld (v := .ref 55) dX8_next_0 rfl rfl rfl rfl ?_
    refine wq_gI dX8_next_1 rfl rfl (kk_55 h) (v := (am_I s 55 9)) rfl ?_
    refine wp_ld (v := .ref 55) dX8_next_4 rfl rfl rfl rfl ?_
    refine wq_gI dX8_next_5 rfl rfl (kk_55 h) (v := (am_I s 55 8)) rfl ?_
    refine wp_ic_ge dX8_next_8 rfl (fun c39 => have k := ok_pos c39 k; ?_) (fun c39 => have k := ok_neg c39 k; ?_)
    · exact wp_sub (hX _ _ (ok_s k) h) rfl ⟨rfl, trivial⟩
    · refine wp_ld (v := .ref 55) dX8_next_11 rfl rfl rfl rfl ?_
      refine wp_gr dX8_next_12 rfl rfl (kk_55 h) (rr_55_4 h) ?_
      refine wp_ld (v := .ref 55) dX8_next_15 rfl rfl rfl rfl ?_
      refine wq_gI dX8_next_16 rfl rfl (kk_55 h) (v := (am_I s 55 9)) rfl ?_
      obtain ⟨g40, k⟩ := ok_g k
      refine wq_iald dX8_next_19 (kk_59 h) g40 (v := (am_I s 59 ((am_I s 55 9).toNatClampNeg))) rfl ?_
      refine wp_cst (v := .int (32 : Int32)) dX8_next_20 rfl rfl ?_
      refine jn_rule k (fun J41 hJ41 k => ?_)
      have HJ41 : ∀ (e42 : Unit) (s43 : am_S), am_sh N n s43 → am_ok (J41 e42 s43) P → am_WP (d + 1) mX8_next 39 [(0, .ref 55)] [] s43 Q := by
        intro e42 s43 h k
        replace k := hJ41 _ _ k
        refine wp_ld (v := .ref 55) dX8_next_39 rfl rfl rfl rfl ?_
        refine wp_pu dX8_next_40 rfl rfl ?_
        refine wq_gI dX8_next_41 rfl rfl (kk_55 h) (v := (am_I s43 55 9)) rfl ?_
        refine wp_cst (v := .int (1 : Int32)) dX8_next_44 rfl rfl ?_
        refine wp_pu dX8_next_45 rfl rfl ?_
        refine wp_pI dX8_next_46 rfl rfl rfl (fun h => absurd h (by decide)) (kk_55 h) ?_
        refine wp_goto dX8_next_49 rfl ?_
        exact wp_sub (ih (sh_sI h) k hP hX) rfl ⟨rfl, trivial⟩
      refine wp_ic_eq dX8_next_22 rfl (fun c44 => have k := ok_pos c44 k; ?_) (fun c44 => have k := ok_neg c44 k; ?_)
      · exact wp_sub (HJ41 _ _ h k) rfl ⟨rfl, trivial⟩
      · refine wp_ld (v := .ref 55) dX8_next_25 rfl rfl rfl rfl ?_
        refine wp_gr dX8_next_26 rfl rfl (kk_55 h) (rr_55_4 h) ?_
        refine wp_ld (v := .ref 55) dX8_next_29 rfl rfl rfl rfl ?_
        refine wq_gI dX8_next_30 rfl rfl (kk_55 h) (v := (am_I s 55 9)) rfl ?_
        obtain ⟨g45, k⟩ := ok_g k
        refine wq_iald dX8_next_33 (kk_59 h) g45 (v := (am_I s 59 ((am_I s 55 9).toNatClampNeg))) rfl ?_
        refine wp_cst (v := .int (10 : Int32)) dX8_next_34 rfl rfl ?_
        refine wp_ic_ne dX8_next_36 rfl (fun c46 => have k := ok_neg c46 k; ?_) (fun c46 => have k := ok_pos c46 k; ?_)
        · exact wp_sub (hX _ _ (ok_s k) h) rfl ⟨rfl, trivial⟩
        · exact wp_sub (HJ41 _ _ h k) rfl ⟨rfl, trivial⟩
noncomputable def f_X8_next  (s : am_S) : am_F :=
  if (am_I s 55 8) ≤ (am_I s 55 9) then
    if (am_I s 55 9) < (am_I s 55 8) then
      if am_in (am_I s 55 9) 400 = true then
        am_bi (f_X8_isLetter (am_I s 59 ((am_I s 55 9).toNatClampNeg)) (am_sI s 55 10 (am_I s 55 9))) (fun v5 s4 =>
          if v5 = 0 then
            am_bi (f_X8_isDigit (am_I s 59 ((am_I s 55 9).toNatClampNeg)) s4) (fun v8 s7 =>
              if v8 = 0 then
                am_jn (fun (e11 : Int32) s12 =>
                  some (.inl none, (am_sI (am_sI s12 55 11 e11) 55 9 ((am_I s12 55 9) + (1 : Int32))))
                ) (fun J10 =>
                  if (am_I s 59 ((am_I s 55 9).toNatClampNeg)) = (59 : Int32) then
                    J10 (3 : Int32) s7
                  else
                    J10 (4 : Int32) s7
                )
              else
                am_lm (L_X8_next_141 ax_fuel (am_sI s7 55 12 (0 : Int32))) (fun e24 s25 =>
                  am_jn (fun (e27 : Int32) s28 =>
                    some (.inl none, (am_sI s28 55 11 e27))
                  ) (fun J26 =>
                    if ((am_I s25 55 9) - (am_I s25 55 10)) ≤ (2 : Int32) then
                      J26 (2 : Int32) s25
                    else
                      J26 (4 : Int32) s25
                  )
                )
            )
          else
            am_lm (L_X8_next_94 ax_fuel s4) (fun e35 s36 =>
              some (.inl none, (am_sI s36 55 11 (1 : Int32)))
            )
        )
      else none
    else
      some (.inl none, (am_sI (am_sI s 55 10 (am_I s 55 9)) 55 11 (0 : Int32)))
  else
    if am_in (am_I s 55 9) 400 = true then
      if (am_I s 59 ((am_I s 55 9).toNatClampNeg)) = (32 : Int32) then
        am_lm (L_X8_next_0 ax_fuel (am_sI s 55 9 ((am_I s 55 9) + (1 : Int32)))) (fun e47 s48 =>
          if (am_I s48 55 9) < (am_I s48 55 8) then
            if am_in (am_I s48 55 9) 400 = true then
              am_bi (f_X8_isLetter (am_I s48 59 ((am_I s48 55 9).toNatClampNeg)) (am_sI s48 55 10 (am_I s48 55 9))) (fun v52 s51 =>
                if v52 = 0 then
                  am_bi (f_X8_isDigit (am_I s48 59 ((am_I s48 55 9).toNatClampNeg)) s51) (fun v55 s54 =>
                    if v55 = 0 then
                      am_jn (fun (e58 : Int32) s59 =>
                        some (.inl none, (am_sI (am_sI s59 55 11 e58) 55 9 ((am_I s59 55 9) + (1 : Int32))))
                      ) (fun J57 =>
                        if (am_I s48 59 ((am_I s48 55 9).toNatClampNeg)) = (59 : Int32) then
                          J57 (3 : Int32) s54
                        else
                          J57 (4 : Int32) s54
                      )
                    else
                      am_lm (L_X8_next_141 ax_fuel (am_sI s54 55 12 (0 : Int32))) (fun e61 s62 =>
                        am_jn (fun (e64 : Int32) s65 =>
                          some (.inl none, (am_sI s65 55 11 e64))
                        ) (fun J63 =>
                          if ((am_I s62 55 9) - (am_I s62 55 10)) ≤ (2 : Int32) then
                            J63 (2 : Int32) s62
                          else
                            J63 (4 : Int32) s62
                        )
                      )
                  )
                else
                  am_lm (L_X8_next_94 ax_fuel s51) (fun e67 s68 =>
                    some (.inl none, (am_sI s68 55 11 (1 : Int32)))
                  )
              )
            else none
          else
            some (.inl none, (am_sI (am_sI s48 55 10 (am_I s48 55 9)) 55 11 (0 : Int32)))
        )
      else
        if am_in (am_I s 55 9) 400 = true then
          if (am_I s 59 ((am_I s 55 9).toNatClampNeg)) = (10 : Int32) then
            am_lm (L_X8_next_0 ax_fuel (am_sI s 55 9 ((am_I s 55 9) + (1 : Int32)))) (fun e91 s92 =>
              if (am_I s92 55 9) < (am_I s92 55 8) then
                if am_in (am_I s92 55 9) 400 = true then
                  am_bi (f_X8_isLetter (am_I s92 59 ((am_I s92 55 9).toNatClampNeg)) (am_sI s92 55 10 (am_I s92 55 9))) (fun v96 s95 =>
                    if v96 = 0 then
                      am_bi (f_X8_isDigit (am_I s92 59 ((am_I s92 55 9).toNatClampNeg)) s95) (fun v99 s98 =>
                        if v99 = 0 then
                          am_jn (fun (e102 : Int32) s103 =>
                            some (.inl none, (am_sI (am_sI s103 55 11 e102) 55 9 ((am_I s103 55 9) + (1 : Int32))))
                          ) (fun J101 =>
                            if (am_I s92 59 ((am_I s92 55 9).toNatClampNeg)) = (59 : Int32) then
                              J101 (3 : Int32) s98
                            else
                              J101 (4 : Int32) s98
                          )
                        else
                          am_lm (L_X8_next_141 ax_fuel (am_sI s98 55 12 (0 : Int32))) (fun e105 s106 =>
                            am_jn (fun (e108 : Int32) s109 =>
                              some (.inl none, (am_sI s109 55 11 e108))
                            ) (fun J107 =>
                              if ((am_I s106 55 9) - (am_I s106 55 10)) ≤ (2 : Int32) then
                                J107 (2 : Int32) s106
                              else
                                J107 (4 : Int32) s106
                            )
                          )
                      )
                    else
                      am_lm (L_X8_next_94 ax_fuel s95) (fun e111 s112 =>
                        some (.inl none, (am_sI s112 55 11 (1 : Int32)))
                      )
                  )
                else none
              else
                some (.inl none, (am_sI (am_sI s92 55 10 (am_I s92 55 9)) 55 11 (0 : Int32)))
            )
          else
            if (am_I s 55 9) < (am_I s 55 8) then
              if am_in (am_I s 55 9) 400 = true then
                am_bi (f_X8_isLetter (am_I s 59 ((am_I s 55 9).toNatClampNeg)) (am_sI s 55 10 (am_I s 55 9))) (fun v74 s73 =>
                  if v74 = 0 then
                    am_bi (f_X8_isDigit (am_I s 59 ((am_I s 55 9).toNatClampNeg)) s73) (fun v77 s76 =>
                      if v77 = 0 then
                        am_jn (fun (e80 : Int32) s81 =>
                          some (.inl none, (am_sI (am_sI s81 55 11 e80) 55 9 ((am_I s81 55 9) + (1 : Int32))))
                        ) (fun J79 =>
                          if (am_I s 59 ((am_I s 55 9).toNatClampNeg)) = (59 : Int32) then
                            J79 (3 : Int32) s76
                          else
                            J79 (4 : Int32) s76
                        )
                      else
                        am_lm (L_X8_next_141 ax_fuel (am_sI s76 55 12 (0 : Int32))) (fun e83 s84 =>
                          am_jn (fun (e86 : Int32) s87 =>
                            some (.inl none, (am_sI s87 55 11 e86))
                          ) (fun J85 =>
                            if ((am_I s84 55 9) - (am_I s84 55 10)) ≤ (2 : Int32) then
                              J85 (2 : Int32) s84
                            else
                              J85 (4 : Int32) s84
                          )
                        )
                    )
                  else
                    am_lm (L_X8_next_94 ax_fuel s73) (fun e89 s90 =>
                      some (.inl none, (am_sI s90 55 11 (1 : Int32)))
                    )
                )
              else none
            else
              some (.inl none, (am_sI (am_sI s 55 10 (am_I s 55 9)) 55 11 (0 : Int32)))
        else none
    else none
theorem s_X8_next {N n : Nat} {d : Nat}  {s : am_S} (h : am_sh N n s)  : am_S1 (am_sh N n) (d + 1) mX8_next [.ref 55] s (f_X8_next s) := by
  intro P Q k hP
  show am_WP (d + 1) mX8_next 0 [(0, .ref 55)] [] s Q
  unfold f_X8_next at k
  refine wp_ld (v := .ref 55) dX8_next_0 rfl rfl rfl rfl ?_
  refine wq_gI dX8_next_1 rfl rfl (kk_55 h) (v := (am_I s 55 9)) rfl ?_
  refine wp_ld (v := .ref 55) dX8_next_4 rfl rfl rfl rfl ?_
  refine wq_gI dX8_next_5 rfl rfl (kk_55 h) (v := (am_I s 55 8)) rfl ?_
  refine wp_ic_ge dX8_next_8 rfl (fun c1 => have k := ok_pos c1 k; ?_) (fun c1 => have k := ok_neg c1 k; ?_)
  · refine wp_ld (v := .ref 55) dX8_next_52 rfl rfl rfl rfl ?_
    refine wp_ld (v := .ref 55) dX8_next_53 rfl rfl rfl rfl ?_
    refine wq_gI dX8_next_54 rfl rfl (kk_55 h) (v := (am_I s 55 9)) rfl ?_
    refine wp_pI dX8_next_57 rfl rfl rfl (fun h => absurd h (by decide)) (kk_55 h) ?_
    refine wp_ld (v := .ref 55) dX8_next_60 rfl rfl rfl rfl ?_
    refine wq_gI dX8_next_61 rfl rfl (kk_55 (sh_sI h)) (v := (am_I s 55 9)) rfl ?_
    refine wp_ld (v := .ref 55) dX8_next_64 rfl rfl rfl rfl ?_
    refine wq_gI dX8_next_65 rfl rfl (kk_55 (sh_sI h)) (v := (am_I s 55 8)) rfl ?_
    refine wp_ic_lt dX8_next_68 rfl (fun c2 => have k := ok_pos c2 k; ?_) (fun c2 => have k := ok_neg c2 k; ?_)
    · refine wp_ld (v := .ref 55) dX8_next_77 rfl rfl rfl rfl ?_
      refine wp_gr dX8_next_78 rfl rfl (kk_55 (sh_sI h)) (rr_55_4 (sh_sI h)) ?_
      refine wp_ld (v := .ref 55) dX8_next_81 rfl rfl rfl rfl ?_
      refine wq_gI dX8_next_82 rfl rfl (kk_55 (sh_sI h)) (v := (am_I s 55 9)) rfl ?_
      obtain ⟨g3, k⟩ := ok_g k
      refine wq_iald dX8_next_85 (kk_59 (sh_sI h)) g3 (v := (am_I s 59 ((am_I s 55 9).toNatClampNeg))) rfl ?_
      refine wp_st (ls' := [(0, .ref 55), (1, .int (am_I s 59 ((am_I s 55 9).toNatClampNeg)))]) dX8_next_86 rfl rfl rfl (Nat.le_of_ble_eq_true rfl) rfl ?_
      refine wp_ld (v := .int (am_I s 59 ((am_I s 55 9).toNatClampNeg))) dX8_next_87 rfl rfl rfl rfl ?_
      refine c_i dX8_next_88 rfl rfl rfl (am_inv_s rfl rfl rfl rfl) (s_X8_isLetter (sh_sI h)) k (fun v5 s4 h k => ?_)
      refine wp_if_eq dX8_next_91 rfl (fun c6 => have k := ok_pos c6 k; ?_) (fun c6 => have k := ok_neg c6 k; ?_)
      · refine wp_ld (v := .int (am_I s 59 ((am_I s 55 9).toNatClampNeg))) dX8_next_129 rfl rfl rfl rfl ?_
        refine c_i dX8_next_130 rfl rfl rfl (am_inv_s rfl rfl rfl rfl) (s_X8_isDigit h) k (fun v8 s7 h k => ?_)
        refine wp_if_eq dX8_next_133 rfl (fun c9 => have k := ok_pos c9 k; ?_) (fun c9 => have k := ok_neg c9 k; ?_)
        · refine wp_ld (v := .ref 55) dX8_next_237 rfl rfl rfl rfl ?_
          refine wp_ld (v := .int (am_I s 59 ((am_I s 55 9).toNatClampNeg))) dX8_next_238 rfl rfl rfl rfl ?_
          refine wp_cst (v := .int (59 : Int32)) dX8_next_239 rfl rfl ?_
          refine jn_rule k (fun J10 hJ10 k => ?_)
          have HJ10 : ∀ (e11 : Int32) (s12 : am_S), am_sh N n s12 → am_ok (J10 e11 s12) P → am_WP (d + 1) mX8_next 249 [(0, .ref 55)] [.int e11, .ref 55] s12 Q := by
            intro e11 s12 h k
            replace k := hJ10 _ _ k
            refine wp_pI dX8_next_249 rfl rfl rfl (fun h => absurd h (by decide)) (kk_55 h) ?_
            refine wp_ld (v := .ref 55) dX8_next_252 rfl rfl rfl rfl ?_
            refine wp_pu dX8_next_253 rfl rfl ?_
            refine wq_gI dX8_next_254 rfl rfl (kk_55 (sh_sI h)) (v := (am_I s12 55 9)) rfl ?_
            refine wp_cst (v := .int (1 : Int32)) dX8_next_257 rfl rfl ?_
            refine wp_pu dX8_next_258 rfl rfl ?_
            refine wp_pI dX8_next_259 rfl rfl rfl (fun h => absurd h (by decide)) (kk_55 (sh_sI h)) ?_
            exact wp_end dX8_next_262 rfl rfl (hP _ _ (ok_s k) (sh_sI (sh_sI h)))
          refine wp_ic_ne dX8_next_241 rfl (fun c13 => have k := ok_neg c13 k; ?_) (fun c13 => have k := ok_pos c13 k; ?_)
          · refine wp_cst (v := .int (4 : Int32)) dX8_next_248 rfl rfl ?_
            exact wp_sub (HJ10 _ _ h k) rfl ⟨rfl, trivial⟩
          · refine wp_cst (v := .int (3 : Int32)) dX8_next_244 rfl rfl ?_
            refine wp_goto dX8_next_245 rfl ?_
            exact wp_sub (HJ10 _ _ h k) rfl ⟨rfl, trivial⟩
        · refine wp_ld (v := .ref 55) dX8_next_136 rfl rfl rfl rfl ?_
          refine wp_cst (v := .int (0 : Int32)) dX8_next_137 rfl rfl ?_
          refine wp_pI dX8_next_138 rfl rfl rfl (fun h => absurd h (by decide)) (kk_55 h) ?_
          refine lp_m k (fun P1 k hA hB => ?_)
          refine wp_sub (q_X8_next_141 ax_fuel (sh_sI h) k (fun o s p h => hP o s (hA o s p) h) (fun e24 s25 p h => have k := hB e24 s25 p; ?_)) rfl ⟨rfl, trivial⟩
          refine wp_ld (v := .ref 55) dX8_next_212 rfl rfl rfl rfl ?_
          refine wp_ld (v := .ref 55) dX8_next_213 rfl rfl rfl rfl ?_
          refine wq_gI dX8_next_214 rfl rfl (kk_55 h) (v := (am_I s25 55 9)) rfl ?_
          refine wp_ld (v := .ref 55) dX8_next_217 rfl rfl rfl rfl ?_
          refine wq_gI dX8_next_218 rfl rfl (kk_55 h) (v := (am_I s25 55 10)) rfl ?_
          refine wp_pu dX8_next_221 rfl rfl ?_
          refine wp_cst (v := .int (2 : Int32)) dX8_next_222 rfl rfl ?_
          refine jn_rule k (fun J26 hJ26 k => ?_)
          have HJ26 : ∀ (e27 : Int32) (s28 : am_S), am_sh N n s28 → am_ok (J26 e27 s28) P → am_WP (d + 1) mX8_next 231 [] [.int e27, .ref 55] s28 Q := by
            intro e27 s28 h k
            replace k := hJ26 _ _ k
            refine wp_pI dX8_next_231 rfl rfl rfl (fun h => absurd h (by decide)) (kk_55 h) ?_
            refine wp_goto dX8_next_234 rfl ?_
            exact wp_end dX8_next_262 rfl rfl (hP _ _ (ok_s k) (sh_sI h))
          refine wp_ic_le dX8_next_223 rfl (fun c29 => have k := ok_pos c29 k; ?_) (fun c29 => have k := ok_neg c29 k; ?_)
          · refine wp_cst (v := .int (2 : Int32)) dX8_next_230 rfl rfl ?_
            exact wp_sub (HJ26 _ _ h k) rfl trivial
          · refine wp_cst (v := .int (4 : Int32)) dX8_next_226 rfl rfl ?_
            refine wp_goto dX8_next_227 rfl ?_
            exact wp_sub (HJ26 _ _ h k) rfl trivial
      · refine lp_m k (fun P1 k hA hB => ?_)
        refine wp_sub (q_X8_next_94 ax_fuel h k (fun o s p h => hP o s (hA o s p) h) (fun e35 s36 p h => have k := hB e35 s36 p; ?_)) rfl ⟨rfl, trivial⟩
        refine wp_ld (v := .ref 55) dX8_next_121 rfl rfl rfl rfl ?_
        refine wp_cst (v := .int (1 : Int32)) dX8_next_122 rfl rfl ?_
        refine wp_pI dX8_next_123 rfl rfl rfl (fun h => absurd h (by decide)) (kk_55 h) ?_
        refine wp_goto dX8_next_126 rfl ?_
        exact wp_end dX8_next_262 rfl rfl (hP _ _ (ok_s k) (sh_sI h))
    · refine wp_ld (v := .ref 55) dX8_next_71 rfl rfl rfl rfl ?_
      refine wp_cst (v := .int (0 : Int32)) dX8_next_72 rfl rfl ?_
      refine wp_pI dX8_next_73 rfl rfl rfl (fun h => absurd h (by decide)) (kk_55 (sh_sI h)) ?_
      exact wp_end dX8_next_76 rfl rfl (hP _ _ (ok_s k) (sh_sI (sh_sI h)))
  · refine wp_ld (v := .ref 55) dX8_next_11 rfl rfl rfl rfl ?_
    refine wp_gr dX8_next_12 rfl rfl (kk_55 h) (rr_55_4 h) ?_
    refine wp_ld (v := .ref 55) dX8_next_15 rfl rfl rfl rfl ?_
    refine wq_gI dX8_next_16 rfl rfl (kk_55 h) (v := (am_I s 55 9)) rfl ?_
    obtain ⟨g37, k⟩ := ok_g k
    refine wq_iald dX8_next_19 (kk_59 h) g37 (v := (am_I s 59 ((am_I s 55 9).toNatClampNeg))) rfl ?_
    refine wp_cst (v := .int (32 : Int32)) dX8_next_20 rfl rfl ?_
    refine wp_ic_eq dX8_next_22 rfl (fun c38 => have k := ok_pos c38 k; ?_) (fun c38 => have k := ok_neg c38 k; ?_)
    · refine wp_ld (v := .ref 55) dX8_next_39 rfl rfl rfl rfl ?_
      refine wp_pu dX8_next_40 rfl rfl ?_
      refine wq_gI dX8_next_41 rfl rfl (kk_55 h) (v := (am_I s 55 9)) rfl ?_
      refine wp_cst (v := .int (1 : Int32)) dX8_next_44 rfl rfl ?_
      refine wp_pu dX8_next_45 rfl rfl ?_
      refine wp_pI dX8_next_46 rfl rfl rfl (fun h => absurd h (by decide)) (kk_55 h) ?_
      refine wp_goto dX8_next_49 rfl ?_
      refine lp_m k (fun P1 k hA hB => ?_)
      refine wp_sub (q_X8_next_0 ax_fuel (sh_sI h) k (fun o s p h => hP o s (hA o s p) h) (fun e47 s48 p h => have k := hB e47 s48 p; ?_)) rfl ⟨rfl, trivial⟩
      refine wp_ld (v := .ref 55) dX8_next_52 rfl rfl rfl rfl ?_
      refine wp_ld (v := .ref 55) dX8_next_53 rfl rfl rfl rfl ?_
      refine wq_gI dX8_next_54 rfl rfl (kk_55 h) (v := (am_I s48 55 9)) rfl ?_
      refine wp_pI dX8_next_57 rfl rfl rfl (fun h => absurd h (by decide)) (kk_55 h) ?_
      refine wp_ld (v := .ref 55) dX8_next_60 rfl rfl rfl rfl ?_
      refine wq_gI dX8_next_61 rfl rfl (kk_55 (sh_sI h)) (v := (am_I s48 55 9)) rfl ?_
      refine wp_ld (v := .ref 55) dX8_next_64 rfl rfl rfl rfl ?_
      refine wq_gI dX8_next_65 rfl rfl (kk_55 (sh_sI h)) (v := (am_I s48 55 8)) rfl ?_
      refine wp_ic_lt dX8_next_68 rfl (fun c49 => have k := ok_pos c49 k; ?_) (fun c49 => have k := ok_neg c49 k; ?_)
      · refine wp_ld (v := .ref 55) dX8_next_77 rfl rfl rfl rfl ?_
        refine wp_gr dX8_next_78 rfl rfl (kk_55 (sh_sI h)) (rr_55_4 (sh_sI h)) ?_
        refine wp_ld (v := .ref 55) dX8_next_81 rfl rfl rfl rfl ?_
        refine wq_gI dX8_next_82 rfl rfl (kk_55 (sh_sI h)) (v := (am_I s48 55 9)) rfl ?_
        obtain ⟨g50, k⟩ := ok_g k
        refine wq_iald dX8_next_85 (kk_59 (sh_sI h)) g50 (v := (am_I s48 59 ((am_I s48 55 9).toNatClampNeg))) rfl ?_
        refine wp_st (ls' := [(0, .ref 55), (1, .int (am_I s48 59 ((am_I s48 55 9).toNatClampNeg)))]) dX8_next_86 rfl rfl rfl (Nat.le_of_ble_eq_true rfl) rfl ?_
        refine wp_ld (v := .int (am_I s48 59 ((am_I s48 55 9).toNatClampNeg))) dX8_next_87 rfl rfl rfl rfl ?_
        refine c_i dX8_next_88 rfl rfl rfl (am_inv_s rfl rfl rfl rfl) (s_X8_isLetter (sh_sI h)) k (fun v52 s51 h k => ?_)
        refine wp_if_eq dX8_next_91 rfl (fun c53 => have k := ok_pos c53 k; ?_) (fun c53 => have k := ok_neg c53 k; ?_)
        · refine wp_ld (v := .int (am_I s48 59 ((am_I s48 55 9).toNatClampNeg))) dX8_next_129 rfl rfl rfl rfl ?_
          refine c_i dX8_next_130 rfl rfl rfl (am_inv_s rfl rfl rfl rfl) (s_X8_isDigit h) k (fun v55 s54 h k => ?_)
          refine wp_if_eq dX8_next_133 rfl (fun c56 => have k := ok_pos c56 k; ?_) (fun c56 => have k := ok_neg c56 k; ?_)
          · refine wp_ld (v := .ref 55) dX8_next_237 rfl rfl rfl rfl ?_
            refine wp_ld (v := .int (am_I s48 59 ((am_I s48 55 9).toNatClampNeg))) dX8_next_238 rfl rfl rfl rfl ?_
            refine wp_cst (v := .int (59 : Int32)) dX8_next_239 rfl rfl ?_
            refine jn_rule k (fun J57 hJ57 k => ?_)
            have HJ57 : ∀ (e58 : Int32) (s59 : am_S), am_sh N n s59 → am_ok (J57 e58 s59) P → am_WP (d + 1) mX8_next 249 [(0, .ref 55)] [.int e58, .ref 55] s59 Q := by
              intro e58 s59 h k
              replace k := hJ57 _ _ k
              refine wp_pI dX8_next_249 rfl rfl rfl (fun h => absurd h (by decide)) (kk_55 h) ?_
              refine wp_ld (v := .ref 55) dX8_next_252 rfl rfl rfl rfl ?_
              refine wp_pu dX8_next_253 rfl rfl ?_
              refine wq_gI dX8_next_254 rfl rfl (kk_55 (sh_sI h)) (v := (am_I s59 55 9)) rfl ?_
              refine wp_cst (v := .int (1 : Int32)) dX8_next_257 rfl rfl ?_
              refine wp_pu dX8_next_258 rfl rfl ?_
              refine wp_pI dX8_next_259 rfl rfl rfl (fun h => absurd h (by decide)) (kk_55 (sh_sI h)) ?_
              exact wp_end dX8_next_262 rfl rfl (hP _ _ (ok_s k) (sh_sI (sh_sI h)))
            refine wp_ic_ne dX8_next_241 rfl (fun c60 => have k := ok_neg c60 k; ?_) (fun c60 => have k := ok_pos c60 k; ?_)
            · refine wp_cst (v := .int (4 : Int32)) dX8_next_248 rfl rfl ?_
              exact wp_sub (HJ57 _ _ h k) rfl ⟨rfl, trivial⟩
            · refine wp_cst (v := .int (3 : Int32)) dX8_next_244 rfl rfl ?_
              refine wp_goto dX8_next_245 rfl ?_
              exact wp_sub (HJ57 _ _ h k) rfl ⟨rfl, trivial⟩
          · refine wp_ld (v := .ref 55) dX8_next_136 rfl rfl rfl rfl ?_
            refine wp_cst (v := .int (0 : Int32)) dX8_next_137 rfl rfl ?_
            refine wp_pI dX8_next_138 rfl rfl rfl (fun h => absurd h (by decide)) (kk_55 h) ?_
            refine lp_m k (fun P1 k hA hB => ?_)
            refine wp_sub (q_X8_next_141 ax_fuel (sh_sI h) k (fun o s p h => hP o s (hA o s p) h) (fun e61 s62 p h => have k := hB e61 s62 p; ?_)) rfl ⟨rfl, trivial⟩
            refine wp_ld (v := .ref 55) dX8_next_212 rfl rfl rfl rfl ?_
            refine wp_ld (v := .ref 55) dX8_next_213 rfl rfl rfl rfl ?_
            refine wq_gI dX8_next_214 rfl rfl (kk_55 h) (v := (am_I s62 55 9)) rfl ?_
            refine wp_ld (v := .ref 55) dX8_next_217 rfl rfl rfl rfl ?_
            refine wq_gI dX8_next_218 rfl rfl (kk_55 h) (v := (am_I s62 55 10)) rfl ?_
            refine wp_pu dX8_next_221 rfl rfl ?_
            refine wp_cst (v := .int (2 : Int32)) dX8_next_222 rfl rfl ?_
            refine jn_rule k (fun J63 hJ63 k => ?_)
            have HJ63 : ∀ (e64 : Int32) (s65 : am_S), am_sh N n s65 → am_ok (J63 e64 s65) P → am_WP (d + 1) mX8_next 231 [] [.int e64, .ref 55] s65 Q := by
              intro e64 s65 h k
              replace k := hJ63 _ _ k
              refine wp_pI dX8_next_231 rfl rfl rfl (fun h => absurd h (by decide)) (kk_55 h) ?_
              refine wp_goto dX8_next_234 rfl ?_
              exact wp_end dX8_next_262 rfl rfl (hP _ _ (ok_s k) (sh_sI h))
            refine wp_ic_le dX8_next_223 rfl (fun c66 => have k := ok_pos c66 k; ?_) (fun c66 => have k := ok_neg c66 k; ?_)
            · refine wp_cst (v := .int (2 : Int32)) dX8_next_230 rfl rfl ?_
              exact wp_sub (HJ63 _ _ h k) rfl trivial
            · refine wp_cst (v := .int (4 : Int32)) dX8_next_226 rfl rfl ?_
              refine wp_goto dX8_next_227 rfl ?_
              exact wp_sub (HJ63 _ _ h k) rfl trivial
        · refine lp_m k (fun P1 k hA hB => ?_)
          refine wp_sub (q_X8_next_94 ax_fuel h k (fun o s p h => hP o s (hA o s p) h) (fun e67 s68 p h => have k := hB e67 s68 p; ?_)) rfl ⟨rfl, trivial⟩
          refine wp_ld (v := .ref 55) dX8_next_121 rfl rfl rfl rfl ?_
          refine wp_cst (v := .int (1 : Int32)) dX8_next_122 rfl rfl ?_
          refine wp_pI dX8_next_123 rfl rfl rfl (fun h => absurd h (by decide)) (kk_55 h) ?_
          refine wp_goto dX8_next_126 rfl ?_
          exact wp_end dX8_next_262 rfl rfl (hP _ _ (ok_s k) (sh_sI h))
      · refine wp_ld (v := .ref 55) dX8_next_71 rfl rfl rfl rfl ?_
        refine wp_cst (v := .int (0 : Int32)) dX8_next_72 rfl rfl ?_
        refine wp_pI dX8_next_73 rfl rfl rfl (fun h => absurd h (by decide)) (kk_55 (sh_sI h)) ?_
        exact wp_end dX8_next_76 rfl rfl (hP _ _ (ok_s k) (sh_sI (sh_sI h)))
    · refine wp_ld (v := .ref 55) dX8_next_25 rfl rfl rfl rfl ?_
      refine wp_gr dX8_next_26 rfl rfl (kk_55 h) (rr_55_4 h) ?_
      refine wp_ld (v := .ref 55) dX8_next_29 rfl rfl rfl rfl ?_
      refine wq_gI dX8_next_30 rfl rfl (kk_55 h) (v := (am_I s 55 9)) rfl ?_
      obtain ⟨g69, k⟩ := ok_g k
      refine wq_iald dX8_next_33 (kk_59 h) g69 (v := (am_I s 59 ((am_I s 55 9).toNatClampNeg))) rfl ?_
      refine wp_cst (v := .int (10 : Int32)) dX8_next_34 rfl rfl ?_
      refine wp_ic_ne dX8_next_36 rfl (fun c70 => have k := ok_neg c70 k; ?_) (fun c70 => have k := ok_pos c70 k; ?_)
      · refine wp_ld (v := .ref 55) dX8_next_52 rfl rfl rfl rfl ?_
        refine wp_ld (v := .ref 55) dX8_next_53 rfl rfl rfl rfl ?_
        refine wq_gI dX8_next_54 rfl rfl (kk_55 h) (v := (am_I s 55 9)) rfl ?_
        refine wp_pI dX8_next_57 rfl rfl rfl (fun h => absurd h (by decide)) (kk_55 h) ?_
        refine wp_ld (v := .ref 55) dX8_next_60 rfl rfl rfl rfl ?_
        refine wq_gI dX8_next_61 rfl rfl (kk_55 (sh_sI h)) (v := (am_I s 55 9)) rfl ?_
        refine wp_ld (v := .ref 55) dX8_next_64 rfl rfl rfl rfl ?_
        refine wq_gI dX8_next_65 rfl rfl (kk_55 (sh_sI h)) (v := (am_I s 55 8)) rfl ?_
        refine wp_ic_lt dX8_next_68 rfl (fun c71 => have k := ok_pos c71 k; ?_) (fun c71 => have k := ok_neg c71 k; ?_)
        · refine wp_ld (v := .ref 55) dX8_next_77 rfl rfl rfl rfl ?_
          refine wp_gr dX8_next_78 rfl rfl (kk_55 (sh_sI h)) (rr_55_4 (sh_sI h)) ?_
          refine wp_ld (v := .ref 55) dX8_next_81 rfl rfl rfl rfl ?_
          refine wq_gI dX8_next_82 rfl rfl (kk_55 (sh_sI h)) (v := (am_I s 55 9)) rfl ?_
          obtain ⟨g72, k⟩ := ok_g k
          refine wq_iald dX8_next_85 (kk_59 (sh_sI h)) g72 (v := (am_I s 59 ((am_I s 55 9).toNatClampNeg))) rfl ?_
          refine wp_st (ls' := [(0, .ref 55), (1, .int (am_I s 59 ((am_I s 55 9).toNatClampNeg)))]) dX8_next_86 rfl rfl rfl (Nat.le_of_ble_eq_true rfl) rfl ?_
          refine wp_ld (v := .int (am_I s 59 ((am_I s 55 9).toNatClampNeg))) dX8_next_87 rfl rfl rfl rfl ?_
          refine c_i dX8_next_88 rfl rfl rfl (am_inv_s rfl rfl rfl rfl) (s_X8_isLetter (sh_sI h)) k (fun v74 s73 h k => ?_)
          refine wp_if_eq dX8_next_91 rfl (fun c75 => have k := ok_pos c75 k; ?_) (fun c75 => have k := ok_neg c75 k; ?_)
          · refine wp_ld (v := .int (am_I s 59 ((am_I s 55 9).toNatClampNeg))) dX8_next_129 rfl rfl rfl rfl ?_
            refine c_i dX8_next_130 rfl rfl rfl (am_inv_s rfl rfl rfl rfl) (s_X8_isDigit h) k (fun v77 s76 h k => ?_)
            refine wp_if_eq dX8_next_133 rfl (fun c78 => have k := ok_pos c78 k; ?_) (fun c78 => have k := ok_neg c78 k; ?_)
            · refine wp_ld (v := .ref 55) dX8_next_237 rfl rfl rfl rfl ?_
              refine wp_ld (v := .int (am_I s 59 ((am_I s 55 9).toNatClampNeg))) dX8_next_238 rfl rfl rfl rfl ?_
              refine wp_cst (v := .int (59 : Int32)) dX8_next_239 rfl rfl ?_
              refine jn_rule k (fun J79 hJ79 k => ?_)
              have HJ79 : ∀ (e80 : Int32) (s81 : am_S), am_sh N n s81 → am_ok (J79 e80 s81) P → am_WP (d + 1) mX8_next 249 [(0, .ref 55)] [.int e80, .ref 55] s81 Q := by
                intro e80 s81 h k
                replace k := hJ79 _ _ k
                refine wp_pI dX8_next_249 rfl rfl rfl (fun h => absurd h (by decide)) (kk_55 h) ?_
                refine wp_ld (v := .ref 55) dX8_next_252 rfl rfl rfl rfl ?_
                refine wp_pu dX8_next_253 rfl rfl ?_
                refine wq_gI dX8_next_254 rfl rfl (kk_55 (sh_sI h)) (v := (am_I s81 55 9)) rfl ?_
                refine wp_cst (v := .int (1 : Int32)) dX8_next_257 rfl rfl ?_
                refine wp_pu dX8_next_258 rfl rfl ?_
                refine wp_pI dX8_next_259 rfl rfl rfl (fun h => absurd h (by decide)) (kk_55 (sh_sI h)) ?_
                exact wp_end dX8_next_262 rfl rfl (hP _ _ (ok_s k) (sh_sI (sh_sI h)))
              refine wp_ic_ne dX8_next_241 rfl (fun c82 => have k := ok_neg c82 k; ?_) (fun c82 => have k := ok_pos c82 k; ?_)
              · refine wp_cst (v := .int (4 : Int32)) dX8_next_248 rfl rfl ?_
                exact wp_sub (HJ79 _ _ h k) rfl ⟨rfl, trivial⟩
              · refine wp_cst (v := .int (3 : Int32)) dX8_next_244 rfl rfl ?_
                refine wp_goto dX8_next_245 rfl ?_
                exact wp_sub (HJ79 _ _ h k) rfl ⟨rfl, trivial⟩
            · refine wp_ld (v := .ref 55) dX8_next_136 rfl rfl rfl rfl ?_
              refine wp_cst (v := .int (0 : Int32)) dX8_next_137 rfl rfl ?_
              refine wp_pI dX8_next_138 rfl rfl rfl (fun h => absurd h (by decide)) (kk_55 h) ?_
              refine lp_m k (fun P1 k hA hB => ?_)
              refine wp_sub (q_X8_next_141 ax_fuel (sh_sI h) k (fun o s p h => hP o s (hA o s p) h) (fun e83 s84 p h => have k := hB e83 s84 p; ?_)) rfl ⟨rfl, trivial⟩
              refine wp_ld (v := .ref 55) dX8_next_212 rfl rfl rfl rfl ?_
              refine wp_ld (v := .ref 55) dX8_next_213 rfl rfl rfl rfl ?_
              refine wq_gI dX8_next_214 rfl rfl (kk_55 h) (v := (am_I s84 55 9)) rfl ?_
              refine wp_ld (v := .ref 55) dX8_next_217 rfl rfl rfl rfl ?_
              refine wq_gI dX8_next_218 rfl rfl (kk_55 h) (v := (am_I s84 55 10)) rfl ?_
              refine wp_pu dX8_next_221 rfl rfl ?_
              refine wp_cst (v := .int (2 : Int32)) dX8_next_222 rfl rfl ?_
              refine jn_rule k (fun J85 hJ85 k => ?_)
              have HJ85 : ∀ (e86 : Int32) (s87 : am_S), am_sh N n s87 → am_ok (J85 e86 s87) P → am_WP (d + 1) mX8_next 231 [] [.int e86, .ref 55] s87 Q := by
                intro e86 s87 h k
                replace k := hJ85 _ _ k
                refine wp_pI dX8_next_231 rfl rfl rfl (fun h => absurd h (by decide)) (kk_55 h) ?_
                refine wp_goto dX8_next_234 rfl ?_
                exact wp_end dX8_next_262 rfl rfl (hP _ _ (ok_s k) (sh_sI h))
              refine wp_ic_le dX8_next_223 rfl (fun c88 => have k := ok_pos c88 k; ?_) (fun c88 => have k := ok_neg c88 k; ?_)
              · refine wp_cst (v := .int (2 : Int32)) dX8_next_230 rfl rfl ?_
                exact wp_sub (HJ85 _ _ h k) rfl trivial
              · refine wp_cst (v := .int (4 : Int32)) dX8_next_226 rfl rfl ?_
                refine wp_goto dX8_next_227 rfl ?_
                exact wp_sub (HJ85 _ _ h k) rfl trivial
          · refine lp_m k (fun P1 k hA hB => ?_)
            refine wp_sub (q_X8_next_94 ax_fuel h k (fun o s p h => hP o s (hA o s p) h) (fun e89 s90 p h => have k := hB e89 s90 p; ?_)) rfl ⟨rfl, trivial⟩
            refine wp_ld (v := .ref 55) dX8_next_121 rfl rfl rfl rfl ?_
            refine wp_cst (v := .int (1 : Int32)) dX8_next_122 rfl rfl ?_
            refine wp_pI dX8_next_123 rfl rfl rfl (fun h => absurd h (by decide)) (kk_55 h) ?_
            refine wp_goto dX8_next_126 rfl ?_
            exact wp_end dX8_next_262 rfl rfl (hP _ _ (ok_s k) (sh_sI h))
        · refine wp_ld (v := .ref 55) dX8_next_71 rfl rfl rfl rfl ?_
          refine wp_cst (v := .int (0 : Int32)) dX8_next_72 rfl rfl ?_
          refine wp_pI dX8_next_73 rfl rfl rfl (fun h => absurd h (by decide)) (kk_55 (sh_sI h)) ?_
          exact wp_end dX8_next_76 rfl rfl (hP _ _ (ok_s k) (sh_sI (sh_sI h)))
      · refine wp_ld (v := .ref 55) dX8_next_39 rfl rfl rfl rfl ?_
        refine wp_pu dX8_next_40 rfl rfl ?_
        refine wq_gI dX8_next_41 rfl rfl (kk_55 h) (v := (am_I s 55 9)) rfl ?_
        refine wp_cst (v := .int (1 : Int32)) dX8_next_44 rfl rfl ?_
        refine wp_pu dX8_next_45 rfl rfl ?_
        refine wp_pI dX8_next_46 rfl rfl rfl (fun h => absurd h (by decide)) (kk_55 h) ?_
        refine wp_goto dX8_next_49 rfl ?_
        refine lp_m k (fun P1 k hA hB => ?_)
        refine wp_sub (q_X8_next_0 ax_fuel (sh_sI h) k (fun o s p h => hP o s (hA o s p) h) (fun e91 s92 p h => have k := hB e91 s92 p; ?_)) rfl ⟨rfl, trivial⟩
        refine wp_ld (v := .ref 55) dX8_next_52 rfl rfl rfl rfl ?_
        refine wp_ld (v := .ref 55) dX8_next_53 rfl rfl rfl rfl ?_
        refine wq_gI dX8_next_54 rfl rfl (kk_55 h) (v := (am_I s92 55 9)) rfl ?_
        refine wp_pI dX8_next_57 rfl rfl rfl (fun h => absurd h (by decide)) (kk_55 h) ?_
        refine wp_ld (v := .ref 55) dX8_next_60 rfl rfl rfl rfl ?_
        refine wq_gI dX8_next_61 rfl rfl (kk_55 (sh_sI h)) (v := (am_I s92 55 9)) rfl ?_
        refine wp_ld (v := .ref 55) dX8_next_64 rfl rfl rfl rfl ?_
        refine wq_gI dX8_next_65 rfl rfl (kk_55 (sh_sI h)) (v := (am_I s92 55 8)) rfl ?_
        refine wp_ic_lt dX8_next_68 rfl (fun c93 => have k := ok_pos c93 k; ?_) (fun c93 => have k := ok_neg c93 k; ?_)
        · refine wp_ld (v := .ref 55) dX8_next_77 rfl rfl rfl rfl ?_
          refine wp_gr dX8_next_78 rfl rfl (kk_55 (sh_sI h)) (rr_55_4 (sh_sI h)) ?_
          refine wp_ld (v := .ref 55) dX8_next_81 rfl rfl rfl rfl ?_
          refine wq_gI dX8_next_82 rfl rfl (kk_55 (sh_sI h)) (v := (am_I s92 55 9)) rfl ?_
          obtain ⟨g94, k⟩ := ok_g k
          refine wq_iald dX8_next_85 (kk_59 (sh_sI h)) g94 (v := (am_I s92 59 ((am_I s92 55 9).toNatClampNeg))) rfl ?_
          refine wp_st (ls' := [(0, .ref 55), (1, .int (am_I s92 59 ((am_I s92 55 9).toNatClampNeg)))]) dX8_next_86 rfl rfl rfl (Nat.le_of_ble_eq_true rfl) rfl ?_
          refine wp_ld (v := .int (am_I s92 59 ((am_I s92 55 9).toNatClampNeg))) dX8_next_87 rfl rfl rfl rfl ?_
          refine c_i dX8_next_88 rfl rfl rfl (am_inv_s rfl rfl rfl rfl) (s_X8_isLetter (sh_sI h)) k (fun v96 s95 h k => ?_)
          refine wp_if_eq dX8_next_91 rfl (fun c97 => have k := ok_pos c97 k; ?_) (fun c97 => have k := ok_neg c97 k; ?_)
          · refine wp_ld (v := .int (am_I s92 59 ((am_I s92 55 9).toNatClampNeg))) dX8_next_129 rfl rfl rfl rfl ?_
            refine c_i dX8_next_130 rfl rfl rfl (am_inv_s rfl rfl rfl rfl) (s_X8_isDigit h) k (fun v99 s98 h k => ?_)
            refine wp_if_eq dX8_next_133 rfl (fun c100 => have k := ok_pos c100 k; ?_) (fun c100 => have k := ok_neg c100 k; ?_)
            · refine wp_ld (v := .ref 55) dX8_next_237 rfl rfl rfl rfl ?_
              refine wp_ld (v := .int (am_I s92 59 ((am_I s92 55 9).toNatClampNeg))) dX8_next_238 rfl rfl rfl rfl ?_
              refine wp_cst (v := .int (59 : Int32)) dX8_next_239 rfl rfl ?_
              refine jn_rule k (fun J101 hJ101 k => ?_)
              have HJ101 : ∀ (e102 : Int32) (s103 : am_S), am_sh N n s103 → am_ok (J101 e102 s103) P → am_WP (d + 1) mX8_next 249 [(0, .ref 55)] [.int e102, .ref 55] s103 Q := by
                intro e102 s103 h k
                replace k := hJ101 _ _ k
                refine wp_pI dX8_next_249 rfl rfl rfl (fun h => absurd h (by decide)) (kk_55 h) ?_
                refine wp_ld (v := .ref 55) dX8_next_252 rfl rfl rfl rfl ?_
                refine wp_pu dX8_next_253 rfl rfl ?_
                refine wq_gI dX8_next_254 rfl rfl (kk_55 (sh_sI h)) (v := (am_I s103 55 9)) rfl ?_
                refine wp_cst (v := .int (1 : Int32)) dX8_next_257 rfl rfl ?_
                refine wp_pu dX8_next_258 rfl rfl ?_
                refine wp_pI dX8_next_259 rfl rfl rfl (fun h => absurd h (by decide)) (kk_55 (sh_sI h)) ?_
                exact wp_end dX8_next_262 rfl rfl (hP _ _ (ok_s k) (sh_sI (sh_sI h)))
              refine wp_ic_ne dX8_next_241 rfl (fun c104 => have k := ok_neg c104 k; ?_) (fun c104 => have k := ok_pos c104 k; ?_)
              · refine wp_cst (v := .int (4 : Int32)) dX8_next_248 rfl rfl ?_
                exact wp_sub (HJ101 _ _ h k) rfl ⟨rfl, trivial⟩
              · refine wp_cst (v := .int (3 : Int32)) dX8_next_244 rfl rfl ?_
                refine wp_goto dX8_next_245 rfl ?_
                exact wp_sub (HJ101 _ _ h k) rfl ⟨rfl, trivial⟩
            · refine wp_ld (v := .ref 55) dX8_next_136 rfl rfl rfl rfl ?_
              refine wp_cst (v := .int (0 : Int32)) dX8_next_137 rfl rfl ?_
              refine wp_pI dX8_next_138 rfl rfl rfl (fun h => absurd h (by decide)) (kk_55 h) ?_
              refine lp_m k (fun P1 k hA hB => ?_)
              refine wp_sub (q_X8_next_141 ax_fuel (sh_sI h) k (fun o s p h => hP o s (hA o s p) h) (fun e105 s106 p h => have k := hB e105 s106 p; ?_)) rfl ⟨rfl, trivial⟩
              refine wp_ld (v := .ref 55) dX8_next_212 rfl rfl rfl rfl ?_
              refine wp_ld (v := .ref 55) dX8_next_213 rfl rfl rfl rfl ?_
              refine wq_gI dX8_next_214 rfl rfl (kk_55 h) (v := (am_I s106 55 9)) rfl ?_
              refine wp_ld (v := .ref 55) dX8_next_217 rfl rfl rfl rfl ?_
              refine wq_gI dX8_next_218 rfl rfl (kk_55 h) (v := (am_I s106 55 10)) rfl ?_
              refine wp_pu dX8_next_221 rfl rfl ?_
              refine wp_cst (v := .int (2 : Int32)) dX8_next_222 rfl rfl ?_
              refine jn_rule k (fun J107 hJ107 k => ?_)
              have HJ107 : ∀ (e108 : Int32) (s109 : am_S), am_sh N n s109 → am_ok (J107 e108 s109) P → am_WP (d + 1) mX8_next 231 [] [.int e108, .ref 55] s109 Q := by
                intro e108 s109 h k
                replace k := hJ107 _ _ k
                refine wp_pI dX8_next_231 rfl rfl rfl (fun h => absurd h (by decide)) (kk_55 h) ?_
                refine wp_goto dX8_next_234 rfl ?_
                exact wp_end dX8_next_262 rfl rfl (hP _ _ (ok_s k) (sh_sI h))
              refine wp_ic_le dX8_next_223 rfl (fun c110 => have k := ok_pos c110 k; ?_) (fun c110 => have k := ok_neg c110 k; ?_)
              · refine wp_cst (v := .int (2 : Int32)) dX8_next_230 rfl rfl ?_
                exact wp_sub (HJ107 _ _ h k) rfl trivial
              · refine wp_cst (v := .int (4 : Int32)) dX8_next_226 rfl rfl ?_
                refine wp_goto dX8_next_227 rfl ?_
                exact wp_sub (HJ107 _ _ h k) rfl trivial
          · refine lp_m k (fun P1 k hA hB => ?_)
            refine wp_sub (q_X8_next_94 ax_fuel h k (fun o s p h => hP o s (hA o s p) h) (fun e111 s112 p h => have k := hB e111 s112 p; ?_)) rfl ⟨rfl, trivial⟩
            refine wp_ld (v := .ref 55) dX8_next_121 rfl rfl rfl rfl ?_
            refine wp_cst (v := .int (1 : Int32)) dX8_next_122 rfl rfl ?_
            refine wp_pI dX8_next_123 rfl rfl rfl (fun h => absurd h (by decide)) (kk_55 h) ?_
            refine wp_goto dX8_next_126 rfl ?_
            exact wp_end dX8_next_262 rfl rfl (hP _ _ (ok_s k) (sh_sI h))
        · refine wp_ld (v := .ref 55) dX8_next_71 rfl rfl rfl rfl ?_
          refine wp_cst (v := .int (0 : Int32)) dX8_next_72 rfl rfl ?_
          refine wp_pI dX8_next_73 rfl rfl rfl (fun h => absurd h (by decide)) (kk_55 (sh_sI h)) ?_
          exact wp_end dX8_next_76 rfl rfl (hP _ _ (ok_s k) (sh_sI (sh_sI h)))
noncomputable def f_X8_begins (x1 : Int32) (s : am_S) : am_F :=
  am_bu (f_X8_next (am_sI (am_sI (am_sI (am_sI s 55 8 x1) 55 7 (0 : Int32)) 55 9 (0 : Int32)) 55 13 (0 : Int32))) (fun s1 =>
    some (.inl none, s1)
  )
theorem s_X8_begins {N n : Nat} {d : Nat} {x1 : Int32} {s : am_S} (h : am_sh N n s)  : am_S1 (am_sh N n) (d + 2) mX8_begins [.ref 55, .int x1] s (f_X8_begins x1 s) := by
  intro P Q k hP
  show am_WP (d + 2) mX8_begins 0 [(0, .ref 55), (1, .int x1)] [] s Q
  unfold f_X8_begins at k
  refine wp_ld (v := .ref 55) dX8_begins_0 rfl rfl rfl rfl ?_
  refine wp_ld (v := .int x1) dX8_begins_1 rfl rfl rfl rfl ?_
  refine wp_pI dX8_begins_2 rfl rfl rfl (fun h => absurd h (by decide)) (kk_55 h) ?_
  refine wp_ld (v := .ref 55) dX8_begins_5 rfl rfl rfl rfl ?_
  refine wp_cst (v := .int (0 : Int32)) dX8_begins_6 rfl rfl ?_
  refine wp_pI dX8_begins_7 rfl rfl rfl (fun h => absurd h (by decide)) (kk_55 (sh_sI h)) ?_
  refine wp_ld (v := .ref 55) dX8_begins_10 rfl rfl rfl rfl ?_
  refine wp_cst (v := .int (0 : Int32)) dX8_begins_11 rfl rfl ?_
  refine wp_pI dX8_begins_12 rfl rfl rfl (fun h => absurd h (by decide)) (kk_55 (sh_sI (sh_sI h))) ?_
  refine wp_ld (v := .ref 55) dX8_begins_15 rfl rfl rfl rfl ?_
  refine wp_cst (v := .int (0 : Int32)) dX8_begins_16 rfl rfl ?_
  show am_WP (d + 2) mX8_begins 17 _ _ _ Q
  refine wp_pI dX8_begins_17 rfl rfl rfl (fun h => absurd h (by decide)) (kk_55 (sh_sI (sh_sI (sh_sI h)))) ?_
  refine wp_ld (v := .ref 55) dX8_begins_20 rfl rfl rfl rfl ?_
  refine c_u dX8_begins_21 rfl rfl rfl (am_inv_v rfl (kk_55 (sh_sI (sh_sI (sh_sI (sh_sI h))))) rfl rfl rfl) (s_X8_next (sh_sI (sh_sI (sh_sI (sh_sI h))))) k (fun s1 h k => ?_)
  exact wp_end dX8_begins_24 rfl rfl (hP _ _ (ok_s k) h)
