noncomputable def f_X8_enter (x1 : Int32) (x2 : Int32) (x3 : Int32) (s : am_S) : am_F :=
  am_bi (f_X8_isWay x1 (am_sI s 55 3 (0 : Int32))) (fun v2 s1 =>
    am_jn (fun (e4 : Unit) s5 =>
      am_bi (f_X8_fails (1 : Int32) s5) (fun v7 s6 =>
        some (.inl (some (.int v7)), s6)
      )
    ) (fun J3 =>
      if v2 = 0 then
        J3 () s1
      else
        am_bi (f_X8_isHand x3 s1) (fun v10 s9 =>
          if v10 = 0 then
            J3 () s9
          else
            am_bi (f_X8_isEars x2 s9) (fun v13 s12 =>
              if v13 = 0 then
                am_bi (f_X8_fails (2 : Int32) s12) (fun v21 s20 =>
                  some (.inl (some (.int v21)), s20)
                )
              else
                if (am_I s12 56 6) = (4 : Int32) then
                  some (.inl (some (.int (-1 : Int32))), s12)
                else
                  if am_in ((252 : Int32) + ((3 : Int32) * (am_I s12 56 6))) 264 = true then
                    if am_in (((252 : Int32) + ((3 : Int32) * (am_I s12 56 6))) + (1 : Int32)) 264 = true then
                      if am_in (((252 : Int32) + ((3 : Int32) * (am_I s12 56 6))) + (2 : Int32)) 264 = true then
                        ax_le ((am_I (am_sI (am_sI (am_sI s12 56 (((252 : Int32) + ((3 : Int32) * (am_I s12 56 6))).toNatClampNeg) x1) 56 ((((252 : Int32) + ((3 : Int32) * (am_I s12 56 6))) + (1 : Int32)).toNatClampNeg) x2) 56 ((((252 : Int32) + ((3 : Int32) * (am_I s12 56 6))) + (2 : Int32)).toNatClampNeg) x3) 56 6) + (1 : Int32)) (fun y19 =>
                          some (.inl (some (.int (y19 - (1 : Int32)))), (am_sI (am_sI (am_sI (am_sI s12 56 (((252 : Int32) + ((3 : Int32) * (am_I s12 56 6))).toNatClampNeg) x1) 56 ((((252 : Int32) + ((3 : Int32) * (am_I s12 56 6))) + (1 : Int32)).toNatClampNeg) x2) 56 ((((252 : Int32) + ((3 : Int32) * (am_I s12 56 6))) + (2 : Int32)).toNatClampNeg) x3) 56 6 y19))
                        )
                      else none
                    else none
                  else none
            )
        )
    )
  )
theorem s_X8_enter {N n : Nat} {d : Nat} {x1 : Int32} {x2 : Int32} {x3 : Int32} {s : am_S} (h : am_sh N n s)  : am_S1 (am_sh N n) (d + 2) mX8_enter [.ref 55, .int x1, .int x2, .int x3] s (f_X8_enter x1 x2 x3 s) := by
  intro P Q k hP
  show am_WP (d + 2) mX8_enter 0 [(0, .ref 55), (1, .int x1), (2, .int x2), (3, .int x3)] [] s Q
  unfold f_X8_enter at k
  refine wp_ld (v := .ref 55) dX8_enter_0 rfl rfl rfl rfl ?_
  refine wp_cst (v := .int (0 : Int32)) dX8_enter_1 rfl rfl ?_
  refine wp_pI dX8_enter_2 rfl rfl rfl (fun h => absurd h (by decide)) (kk_55 h) ?_
  refine wp_ld (v := .ref 55) dX8_enter_5 rfl rfl rfl rfl ?_
  refine wp_ld (v := .int x1) dX8_enter_6 rfl rfl rfl rfl ?_
  refine c_i dX8_enter_7 rfl rfl rfl (am_inv_v rfl (kk_55 (sh_sI h)) rfl rfl rfl) (s_X8_isWay (sh_sI h)) k (fun v2 s1 h k => ?_)
  refine jn_rule k (fun J3 hJ3 k => ?_)
  have HJ3 : ∀ (e4 : Unit) (s5 : am_S), am_sh N n s5 → am_ok (J3 e4 s5) P → am_WP (d + 2) mX8_enter 21 [(0, .ref 55)] [] s5 Q := by
    intro e4 s5 h k
    replace k := hJ3 _ _ k
    refine wp_ld (v := .ref 55) dX8_enter_21 rfl rfl rfl rfl ?_
    refine wp_cst (v := .int (1 : Int32)) dX8_enter_22 rfl rfl ?_
    refine c_i dX8_enter_23 rfl rfl rfl (am_inv_v rfl (kk_55 h) rfl rfl rfl) (s_X8_fails h) k (fun v7 s6 h k => ?_)
    exact wp_end dX8_enter_26 rfl (am_end_i rfl) (hP _ _ (ok_s k) h)
  refine wp_if_eq dX8_enter_10 rfl (fun c8 => have k := ok_pos c8 k; ?_) (fun c8 => have k := ok_neg c8 k; ?_)
  · exact wp_sub (HJ3 _ _ h k) rfl ⟨rfl, trivial⟩
  · refine wp_ld (v := .ref 55) dX8_enter_13 rfl rfl rfl rfl ?_
    refine wp_ld (v := .int x3) dX8_enter_14 rfl rfl rfl rfl ?_
    refine c_i dX8_enter_15 rfl rfl rfl (am_inv_v rfl (kk_55 h) rfl rfl rfl) (s_X8_isHand h) k (fun v10 s9 h k => ?_)
    refine wp_if_ne dX8_enter_18 rfl (fun c11 => have k := ok_neg c11 k; ?_) (fun c11 => have k := ok_pos c11 k; ?_)
    · refine wp_ld (v := .int x2) dX8_enter_27 rfl rfl rfl rfl ?_
      refine c_i dX8_enter_28 rfl rfl rfl (am_inv_s rfl rfl rfl rfl) (s_X8_isEars h) k (fun v13 s12 h k => ?_)
      refine wp_if_ne dX8_enter_31 rfl (fun c14 => have k := ok_neg c14 k; ?_) (fun c14 => have k := ok_pos c14 k; ?_)
      · refine wp_ld (v := .ref 55) dX8_enter_40 rfl rfl rfl rfl ?_
        refine wp_gr dX8_enter_41 rfl rfl (kk_55 h) (rr_55_0 h) ?_
        refine wp_cst (v := .int (6 : Int32)) dX8_enter_44 rfl rfl ?_
        refine wq_iald dX8_enter_46 (kk_56 h) (by decide) (v := (am_I s12 56 6)) rfl ?_
        refine wp_cst (v := .int (4 : Int32)) dX8_enter_47 rfl rfl ?_
        refine wp_ic_ne dX8_enter_48 rfl (fun c15 => have k := ok_neg c15 k; ?_) (fun c15 => have k := ok_pos c15 k; ?_)
        · refine wp_cst (v := .int (252 : Int32)) dX8_enter_53 rfl rfl ?_
          refine wp_cst (v := .int (3 : Int32)) dX8_enter_56 rfl rfl ?_
          refine wp_ld (v := .ref 55) dX8_enter_57 rfl rfl rfl rfl ?_
          refine wp_gr dX8_enter_58 rfl rfl (kk_55 h) (rr_55_0 h) ?_
          refine wp_cst (v := .int (6 : Int32)) dX8_enter_61 rfl rfl ?_
          refine wq_iald dX8_enter_63 (kk_56 h) (by decide) (v := (am_I s12 56 6)) rfl ?_
          refine wp_pu dX8_enter_64 rfl rfl ?_
          refine wp_pu dX8_enter_65 rfl rfl ?_
          refine wp_st (ls' := [(0, .ref 55), (1, .int x1), (2, .int x2), (3, .int x3), (4, .int ((252 : Int32) + ((3 : Int32) * (am_I s12 56 6))))]) dX8_enter_66 rfl rfl rfl (Nat.le_of_ble_eq_true rfl) rfl ?_
          refine wp_ld (v := .ref 55) dX8_enter_68 rfl rfl rfl rfl ?_
          refine wp_gr dX8_enter_69 rfl rfl (kk_55 h) (rr_55_0 h) ?_
          show am_WP (d + 2) mX8_enter 72 _ _ _ Q
          refine wp_ld (v := .int ((252 : Int32) + ((3 : Int32) * (am_I s12 56 6)))) dX8_enter_72 rfl rfl rfl rfl ?_
          refine wp_ld (v := .int x1) dX8_enter_74 rfl rfl rfl rfl ?_
          obtain ⟨g16, k⟩ := ok_g k
          refine wq_iast dX8_enter_75 (kk_56 h) g16 (j := (((252 : Int32) + ((3 : Int32) * (am_I s12 56 6))).toNatClampNeg)) rfl ?_
          refine wp_ld (v := .ref 55) dX8_enter_76 rfl rfl rfl rfl ?_
          refine wp_gr dX8_enter_77 rfl rfl (kk_55 (sh_sI h)) (rr_55_0 (sh_sI h)) ?_
          refine wp_ld (v := .int ((252 : Int32) + ((3 : Int32) * (am_I s12 56 6)))) dX8_enter_80 rfl rfl rfl rfl ?_
          refine wp_cst (v := .int (1 : Int32)) dX8_enter_82 rfl rfl ?_
          refine wp_pu dX8_enter_83 rfl rfl ?_
          refine wp_ld (v := .int x2) dX8_enter_84 rfl rfl rfl rfl ?_
          obtain ⟨g17, k⟩ := ok_g k
          refine wq_iast dX8_enter_85 (kk_56 (sh_sI h)) g17 (j := ((((252 : Int32) + ((3 : Int32) * (am_I s12 56 6))) + (1 : Int32)).toNatClampNeg)) rfl ?_
          refine wp_ld (v := .ref 55) dX8_enter_86 rfl rfl rfl rfl ?_
          refine wp_gr dX8_enter_87 rfl rfl (kk_55 (sh_sI (sh_sI h))) (rr_55_0 (sh_sI (sh_sI h))) ?_
          show am_WP (d + 2) mX8_enter 90 _ _ _ Q
          refine wp_ld (v := .int ((252 : Int32) + ((3 : Int32) * (am_I s12 56 6)))) dX8_enter_90 rfl rfl rfl rfl ?_
          refine wp_cst (v := .int (2 : Int32)) dX8_enter_92 rfl rfl ?_
          refine wp_pu dX8_enter_93 rfl rfl ?_
          refine wp_ld (v := .int x3) dX8_enter_94 rfl rfl rfl rfl ?_
          obtain ⟨g18, k⟩ := ok_g k
          refine wq_iast dX8_enter_95 (kk_56 (sh_sI (sh_sI h))) g18 (j := ((((252 : Int32) + ((3 : Int32) * (am_I s12 56 6))) + (2 : Int32)).toNatClampNeg)) rfl ?_
          refine wp_ld (v := .ref 55) dX8_enter_96 rfl rfl rfl rfl ?_
          refine wp_gr dX8_enter_97 rfl rfl (kk_55 (sh_sI (sh_sI (sh_sI h)))) (rr_55_0 (sh_sI (sh_sI (sh_sI h)))) ?_
          refine wp_cst (v := .int (6 : Int32)) dX8_enter_100 rfl rfl ?_
          refine wp_pu dX8_enter_102 rfl rfl ?_
          refine wq_iald dX8_enter_103 (kk_56 (sh_sI (sh_sI (sh_sI h)))) (by decide) (v := (am_I (am_sI (am_sI (am_sI s12 56 (((252 : Int32) + ((3 : Int32) * (am_I s12 56 6))).toNatClampNeg) x1) 56 ((((252 : Int32) + ((3 : Int32) * (am_I s12 56 6))) + (1 : Int32)).toNatClampNeg) x2) 56 ((((252 : Int32) + ((3 : Int32) * (am_I s12 56 6))) + (2 : Int32)).toNatClampNeg) x3) 56 6)) rfl ?_
          refine wp_cst (v := .int (1 : Int32)) dX8_enter_104 rfl rfl ?_
          refine wp_pu dX8_enter_105 rfl rfl ?_
          show am_WP (d + 2) mX8_enter 106 _ _ _ Q
          refine ls_i k (fun y19 _ k => ?_)
          refine wq_iast dX8_enter_106 (kk_56 (sh_sI (sh_sI (sh_sI h)))) (by decide) (j := 6) rfl ?_
          refine wp_ld (v := .ref 55) dX8_enter_107 rfl rfl rfl rfl ?_
          refine wp_gr dX8_enter_108 rfl rfl (kk_55 (sh_sI (sh_sI (sh_sI (sh_sI h))))) (rr_55_0 (sh_sI (sh_sI (sh_sI (sh_sI h))))) ?_
          refine wp_cst (v := .int (6 : Int32)) dX8_enter_111 rfl rfl ?_
          refine wq_iald dX8_enter_113 (kk_56 (sh_sI (sh_sI (sh_sI (sh_sI h))))) (by decide) (v := y19) rfl ?_
          refine wp_cst (v := .int (1 : Int32)) dX8_enter_114 rfl rfl ?_
          refine wp_pu dX8_enter_115 rfl rfl ?_
          exact wp_end dX8_enter_116 rfl (am_end_i rfl) (hP _ _ (ok_s k) (sh_sI (sh_sI (sh_sI (sh_sI h)))))
        · refine wp_cst (v := .int (-1 : Int32)) dX8_enter_51 rfl rfl ?_
          exact wp_end dX8_enter_52 rfl (am_end_i rfl) (hP _ _ (ok_s k) h)
      · refine wp_ld (v := .ref 55) dX8_enter_34 rfl rfl rfl rfl ?_
        refine wp_cst (v := .int (2 : Int32)) dX8_enter_35 rfl rfl ?_
        refine c_i dX8_enter_36 rfl rfl rfl (am_inv_v rfl (kk_55 h) rfl rfl rfl) (s_X8_fails h) k (fun v21 s20 h k => ?_)
        exact wp_end dX8_enter_39 rfl (am_end_i rfl) (hP _ _ (ok_s k) h)
    · exact wp_sub (HJ3 _ _ h k) rfl ⟨rfl, trivial⟩
noncomputable def L_X7_allEntriesThrow_99 : Nat → Int32 → Nat → Int32 → Int32 → am_S → am_FE (Unit)
  | 0, _, _, _, _, _ => none
  | m + 1, x1, a3, x4, x5, s =>
    if (am_I s a3 2) ≤ x5 then
      some (.inr ((), s))
    else
      if (4 : Int32) ≤ x5 then
        some (.inr ((), s))
      else
        if (4 : Int32) ≤ x1 then
          some (.inr ((), s))
        else
          am_bi (f_X4_get a3 x5 (0 : Int32) s) (fun v36 s35 =>
            am_bi (f_X4_get a3 x5 (1 : Int32) s35) (fun v38 s37 =>
              am_bu (f_X1_flyOut x4 v36 v38 s37) (fun s39 =>
                if am_in ((x1 * (4 : Int32)) + x5) 16 = true then
                  L_X7_allEntriesThrow_99 m x1 a3 x4 (x5 + (1 : Int32)) (am_sI s39 46 (((x1 * (4 : Int32)) + x5).toNatClampNeg) (am_I s39 41 4))
                else none
              )
            )
          )
theorem q_X7_allEntriesThrow_99 : ∀ (m : Nat) {N n : Nat} {d : Nat} {x1 : Int32} {a3 : Nat} {x4 : Int32} {x5 : Int32} {s : am_S} {P : (am_O × am_S) ⊕ (Unit × am_S) → Prop} {Q : am_O → am_S → Prop} (h : am_sh N n s) (fa3 : am_kf n a3 4) (k : am_ok (L_X7_allEntriesThrow_99 m x1 a3 x4 x5 s) P) (hP : ∀ o s, P (.inl (o, s)) → am_sh N n s → Q o s) (hX : ∀ (e : Unit) s, P (.inr (e, s)) → am_sh N n s → am_WP (d + 5) mX7_allEntriesThrow 166 [(0, .ref 0), (1, .int x1)] [] s Q), am_WP (d + 5) mX7_allEntriesThrow 99 [(0, .ref 0), (1, .int x1), (3, .ref a3), (4, .int x4), (5, .int x5)] [] s Q := by
  intro m
  induction m with
  | zero =>
    intro N n d x1 a3 x4 x5 s P Q h fa3 k hP hX
    exact (ok_no k).elim
  | succ m ih =>
    intro N n d x1 a3 x4 x5 s P Q h fa3 k hP hX
    unfold L_X7_allEntriesThrow_99 at k
    refine wp_ld (v := .int x5) dX7_allEntriesThrow_99 rfl rfl rfl rfl ?_
    refine wp_ld (v := .ref a3) dX7_allEntriesThrow_101 rfl rfl rfl rfl ?_
    refine wq_gI dX7_allEntriesThrow_102 rfl rfl (kk_f h fa3) (v := (am_I s a3 2)) rfl ?_
    refine wp_ic_ge dX7_allEntriesThrow_105 rfl (fun c32 => have k := ok_pos c32 k; ?_) (fun c32 => have k := ok_neg c32 k; ?_)
    · exact wp_sub (hX _ _ (ok_s k) h) rfl ⟨rfl, rfl, trivial⟩
    · refine wp_ld (v := .int x5) dX7_allEntriesThrow_108 rfl rfl rfl rfl ?_
      refine wp_cst (v := .int (4 : Int32)) dX7_allEntriesThrow_110 rfl rfl ?_
      refine wp_ic_ge dX7_allEntriesThrow_111 rfl (fun c33 => have k := ok_pos c33 k; ?_) (fun c33 => have k := ok_neg c33 k; ?_)
      · exact wp_sub (hX _ _ (ok_s k) h) rfl ⟨rfl, rfl, trivial⟩
      · refine wp_ld (v := .int x1) dX7_allEntriesThrow_114 rfl rfl rfl rfl ?_
        refine wp_cst (v := .int (4 : Int32)) dX7_allEntriesThrow_115 rfl rfl ?_
        refine wp_ic_ge dX7_allEntriesThrow_116 rfl (fun c34 => have k := ok_pos c34 k; ?_) (fun c34 => have k := ok_neg c34 k; ?_)
        · exact wp_sub (hX _ _ (ok_s k) h) rfl ⟨rfl, rfl, trivial⟩
        · refine wp_ld (v := .ref 0) dX7_allEntriesThrow_119 rfl rfl rfl rfl ?_
          refine wp_gr dX7_allEntriesThrow_120 rfl rfl (kk_0 h) (rr_0_6 h) ?_
          refine wp_ld (v := .int x4) dX7_allEntriesThrow_123 rfl rfl rfl rfl ?_
          refine wp_ld (v := .ref a3) dX7_allEntriesThrow_125 rfl rfl rfl rfl ?_
          refine wp_ld (v := .int x5) dX7_allEntriesThrow_126 rfl rfl rfl rfl ?_
          refine wp_cst (v := .int (0 : Int32)) dX7_allEntriesThrow_128 rfl rfl ?_
          refine c_i dX7_allEntriesThrow_129 rfl rfl rfl (am_inv_v rfl (kk_f h fa3) rfl rfl rfl) (s_X4_get h fa3) k (fun v36 s35 h k => ?_)
          refine wp_ld (v := .ref a3) dX7_allEntriesThrow_132 rfl rfl rfl rfl ?_
          refine wp_ld (v := .int x5) dX7_allEntriesThrow_133 rfl rfl rfl rfl ?_
          refine wp_cst (v := .int (1 : Int32)) dX7_allEntriesThrow_135 rfl rfl ?_
          refine c_i dX7_allEntriesThrow_136 rfl rfl rfl (am_inv_v rfl (kk_f h fa3) rfl rfl rfl) (s_X4_get h fa3) k (fun v38 s37 h k => ?_)
          refine c_u dX7_allEntriesThrow_139 rfl rfl rfl (am_inv_v rfl (kk_41 h) rfl rfl rfl) (s_X1_flyOut h) k (fun s39 h k => ?_)
          refine wp_ld (v := .ref 0) dX7_allEntriesThrow_142 rfl rfl rfl rfl ?_
          refine wp_gr dX7_allEntriesThrow_143 rfl rfl (kk_0 h) (rr_0_10 h) ?_
          refine wp_ld (v := .int x1) dX7_allEntriesThrow_146 rfl rfl rfl rfl ?_
          refine wp_cst (v := .int (4 : Int32)) dX7_allEntriesThrow_147 rfl rfl ?_
          refine wp_pu dX7_allEntriesThrow_148 rfl rfl ?_
          refine wp_ld (v := .int x5) dX7_allEntriesThrow_149 rfl rfl rfl rfl ?_
          refine wp_pu dX7_allEntriesThrow_151 rfl rfl ?_
          refine wp_ld (v := .ref 0) dX7_allEntriesThrow_152 rfl rfl rfl rfl ?_
          refine wp_gr dX7_allEntriesThrow_153 rfl rfl (kk_0 h) (rr_0_6 h) ?_
          refine wq_gI dX7_allEntriesThrow_156 rfl rfl (kk_41 h) (v := (am_I s39 41 4)) rfl ?_
          obtain ⟨g41, k⟩ := ok_g k
          refine wq_iast dX7_allEntriesThrow_159 (kk_46 h) g41 (j := (((x1 * (4 : Int32)) + x5).toNatClampNeg)) rfl ?_
          show am_WP (d + 5) mX7_allEntriesThrow 160 _ _ _ Q
          refine wp_inc (v := (x5 + (1 : Int32))) (ls' := [(0, .ref 0), (1, .int x1), (3, .ref a3), (4, .int x4), (5, .int (x5 + (1 : Int32)))]) dX7_allEntriesThrow_160 rfl (Nat.le_of_ble_eq_true rfl) rfl rfl ?_
          refine wp_goto dX7_allEntriesThrow_163 rfl ?_
          exact wp_sub (ih (sh_sI h) fa3 k hP hX) rfl ⟨rfl, rfl, rfl, rfl, rfl, trivial⟩
noncomputable def L_X7_allEntriesThrow_2 : Nat → Int32 → am_S → am_FE (Unit)
  | 0, _, _ => none
  | m + 1, x1, s =>
    if (am_I s 9 2) ≤ x1 then
      some (.inr ((), s))
    else
      am_bi (f_X4_get 9 x1 (0 : Int32) s) (fun v3 s2 =>
        am_bv (f_X5_wayAt v3 s2) (fun v5 s4 =>
          am_mv v5 (
            am_bi (f_X4_get 9 x1 (2 : Int32) s4) (fun v9 s8 =>
              am_bv (f_X5_handAt v9 s8) (fun v11 s10 =>
                am_mv v11 (
                  some (.inl (.inl (some (.int (0 : Int32))), s10))
                ) (fun t12 => if am_k0 t12 = (4, 0) ∧ t12 < 72 then
                  some (.inl (.inl (some (.int (0 : Int32))), s10))
                else none)
              )
            )
          ) (fun t6 => if am_k0 t6 = (4, 0) ∧ t6 < 72 then
            am_bi (f_X4_get 9 x1 (2 : Int32) s4) (fun v19 s18 =>
              am_bv (f_X5_handAt v19 s18) (fun v21 s20 =>
                am_mv v21 (
                  some (.inl (.inl (some (.int (0 : Int32))), s20))
                ) (fun t22 => if am_k0 t22 = (4, 0) ∧ t22 < 72 then
                  if (am_I s20 t22 2) = 0 then
                    some (.inl (.inl (some (.int (0 : Int32))), s20))
                  else
                    am_bi (f_X7_breakOf t6 s20) (fun v28 s27 =>
                      if v28 = (-1 : Int32) then
                        am_bi (f_X4_get 9 x1 (1 : Int32) s27) (fun v31 s30 =>
                          am_ll (L_X7_allEntriesThrow_99 ax_fuel x1 t22 v31 (0 : Int32) s30) (fun e42 s43 =>
                            L_X7_allEntriesThrow_2 m (x1 + (1 : Int32)) s43
                          )
                        )
                      else
                        some (.inl (.inl (some (.int (0 : Int32))), s27))
                    )
                else none)
              )
            )
          else none)
        )
      )
theorem q_X7_allEntriesThrow_2 : ∀ (m : Nat) {N n : Nat} {d : Nat} {x1 : Int32} {s : am_S} {P : (am_O × am_S) ⊕ (Unit × am_S) → Prop} {Q : am_O → am_S → Prop} (h : am_sh N n s)  (k : am_ok (L_X7_allEntriesThrow_2 m x1 s) P) (hP : ∀ o s, P (.inl (o, s)) → am_sh N n s → Q o s) (hX : ∀ (e : Unit) s, P (.inr (e, s)) → am_sh N n s → am_WP (d + 5) mX7_allEntriesThrow 172 [] [] s Q), am_WP (d + 5) mX7_allEntriesThrow 2 [(0, .ref 0), (1, .int x1)] [] s Q := by
  intro m
  induction m with
  | zero =>
    intro N n d x1 s P Q h  k hP hX
    exact (ok_no k).elim
  | succ m ih =>
    intro N n d x1 s P Q h  k hP hX
    unfold L_X7_allEntriesThrow_2 at k
    refine wp_ld (v := .int x1) dX7_allEntriesThrow_2 rfl rfl rfl rfl ?_
    refine wp_ld (v := .ref 0) dX7_allEntriesThrow_3 rfl rfl rfl rfl ?_
    refine wp_gr dX7_allEntriesThrow_4 rfl rfl (kk_0 h) (rr_0_0 h) ?_
    refine wp_gr dX7_allEntriesThrow_7 rfl rfl (kk_1 h) (rr_1_10 h) ?_
    refine wq_gI dX7_allEntriesThrow_10 rfl rfl (kk_9 h) (v := (am_I s 9 2)) rfl ?_
    refine wp_ic_ge dX7_allEntriesThrow_13 rfl (fun c1 => have k := ok_pos c1 k; ?_) (fun c1 => have k := ok_neg c1 k; ?_)
    · exact wp_sub (hX _ _ (ok_s k) h) rfl trivial
    · refine wp_ld (v := .ref 0) dX7_allEntriesThrow_16 rfl rfl rfl rfl ?_
      refine wp_gr dX7_allEntriesThrow_17 rfl rfl (kk_0 h) (rr_0_0 h) ?_
      refine wp_ld (v := .ref 0) dX7_allEntriesThrow_20 rfl rfl rfl rfl ?_
      refine wp_gr dX7_allEntriesThrow_21 rfl rfl (kk_0 h) (rr_0_0 h) ?_
      refine wp_gr dX7_allEntriesThrow_24 rfl rfl (kk_1 h) (rr_1_10 h) ?_
      refine wp_ld (v := .int x1) dX7_allEntriesThrow_27 rfl rfl rfl rfl ?_
      refine wp_cst (v := .int (0 : Int32)) dX7_allEntriesThrow_28 rfl rfl ?_
      refine c_i dX7_allEntriesThrow_29 rfl rfl rfl (am_inv_v rfl (kk_9 h) rfl rfl rfl) (s_X4_get h (kf_9 h)) k (fun v3 s2 h k => ?_)
      refine c_v dX7_allEntriesThrow_32 rfl rfl rfl (am_inv_v rfl (kk_1 h) rfl rfl rfl) (s_X5_wayAt h) k (fun v5 s4 h k => ?_)
      rcases ok_mv k with ⟨c7, k⟩ | ⟨t6, c7, k⟩
      · subst c7
        refine wp_st (ls' := [(0, .ref 0), (1, .int x1), (2, .null)]) dX7_allEntriesThrow_35 rfl rfl rfl (Nat.le_of_ble_eq_true rfl) rfl ?_
        refine wp_ld (v := .ref 0) dX7_allEntriesThrow_36 rfl rfl rfl rfl ?_
        refine wp_gr dX7_allEntriesThrow_37 rfl rfl (kk_0 h) (rr_0_0 h) ?_
        refine wp_ld (v := .ref 0) dX7_allEntriesThrow_40 rfl rfl rfl rfl ?_
        refine wp_gr dX7_allEntriesThrow_41 rfl rfl (kk_0 h) (rr_0_0 h) ?_
        refine wp_gr dX7_allEntriesThrow_44 rfl rfl (kk_1 h) (rr_1_10 h) ?_
        refine wp_ld (v := .int x1) dX7_allEntriesThrow_47 rfl rfl rfl rfl ?_
        refine wp_cst (v := .int (2 : Int32)) dX7_allEntriesThrow_48 rfl rfl ?_
        refine c_i dX7_allEntriesThrow_49 rfl rfl rfl (am_inv_v rfl (kk_9 h) rfl rfl rfl) (s_X4_get h (kf_9 h)) k (fun v9 s8 h k => ?_)
        refine c_v dX7_allEntriesThrow_52 rfl rfl rfl (am_inv_v rfl (kk_1 h) rfl rfl rfl) (s_X5_handAt h) k (fun v11 s10 h k => ?_)
        rcases ok_mv k with ⟨c13, k⟩ | ⟨t12, c13, k⟩
        · subst c13
          refine wp_st (ls' := [(0, .ref 0), (1, .int x1), (2, .null), (3, .null)]) dX7_allEntriesThrow_55 rfl rfl rfl (Nat.le_of_ble_eq_true rfl) rfl ?_
          refine wp_ld (v := .null) dX7_allEntriesThrow_56 rfl rfl rfl rfl ?_
          refine wp_jp dX7_allEntriesThrow_57 rfl rfl ?_
          refine wp_cst (v := .int (0 : Int32)) dX7_allEntriesThrow_80 rfl rfl ?_
          exact wp_end dX7_allEntriesThrow_81 rfl rfl (hP _ _ (ok_s k) h)
        · subst c13
          obtain ⟨g14, k⟩ := ok_g k
          have f15 := kk_up h g14
          refine wp_st (ls' := [(0, .ref 0), (1, .int x1), (2, .null), (3, .ref t12)]) dX7_allEntriesThrow_55 rfl rfl rfl (Nat.le_of_ble_eq_true rfl) rfl ?_
          refine wp_ld (v := .null) dX7_allEntriesThrow_56 rfl rfl rfl rfl ?_
          refine wp_jp dX7_allEntriesThrow_57 rfl rfl ?_
          refine wp_cst (v := .int (0 : Int32)) dX7_allEntriesThrow_80 rfl rfl ?_
          exact wp_end dX7_allEntriesThrow_81 rfl rfl (hP _ _ (ok_s k) h)
      · subst c7
        obtain ⟨g16, k⟩ := ok_g k
        have f17 := kk_up h g16
        refine wp_st (ls' := [(0, .ref 0), (1, .int x1), (2, .ref t6)]) dX7_allEntriesThrow_35 rfl rfl rfl (Nat.le_of_ble_eq_true rfl) rfl ?_
        refine wp_ld (v := .ref 0) dX7_allEntriesThrow_36 rfl rfl rfl rfl ?_
        refine wp_gr dX7_allEntriesThrow_37 rfl rfl (kk_0 h) (rr_0_0 h) ?_
        refine wp_ld (v := .ref 0) dX7_allEntriesThrow_40 rfl rfl rfl rfl ?_
        refine wp_gr dX7_allEntriesThrow_41 rfl rfl (kk_0 h) (rr_0_0 h) ?_
        refine wp_gr dX7_allEntriesThrow_44 rfl rfl (kk_1 h) (rr_1_10 h) ?_
        refine wp_ld (v := .int x1) dX7_allEntriesThrow_47 rfl rfl rfl rfl ?_
        refine wp_cst (v := .int (2 : Int32)) dX7_allEntriesThrow_48 rfl rfl ?_
        refine c_i dX7_allEntriesThrow_49 rfl rfl rfl (am_inv_v rfl (kk_9 h) rfl rfl rfl) (s_X4_get h (kf_9 h)) k (fun v19 s18 h k => ?_)
        refine c_v dX7_allEntriesThrow_52 rfl rfl rfl (am_inv_v rfl (kk_1 h) rfl rfl rfl) (s_X5_handAt h) k (fun v21 s20 h k => ?_)
        rcases ok_mv k with ⟨c23, k⟩ | ⟨t22, c23, k⟩
        · subst c23
          refine wp_st (ls' := [(0, .ref 0), (1, .int x1), (2, .ref t6), (3, .null)]) dX7_allEntriesThrow_55 rfl rfl rfl (Nat.le_of_ble_eq_true rfl) rfl ?_
          refine wp_ld (v := .ref t6) dX7_allEntriesThrow_56 rfl rfl rfl rfl ?_
          refine wp_jp dX7_allEntriesThrow_57 rfl rfl ?_
          refine wp_ld (v := .null) dX7_allEntriesThrow_60 rfl rfl rfl rfl ?_
          refine wp_jp dX7_allEntriesThrow_61 rfl rfl ?_
          refine wp_cst (v := .int (0 : Int32)) dX7_allEntriesThrow_80 rfl rfl ?_
          exact wp_end dX7_allEntriesThrow_81 rfl rfl (hP _ _ (ok_s k) h)
        · subst c23
          obtain ⟨g24, k⟩ := ok_g k
          have f25 := kk_up h g24
          refine wp_st (ls' := [(0, .ref 0), (1, .int x1), (2, .ref t6), (3, .ref t22)]) dX7_allEntriesThrow_55 rfl rfl rfl (Nat.le_of_ble_eq_true rfl) rfl ?_
          refine wp_ld (v := .ref t6) dX7_allEntriesThrow_56 rfl rfl rfl rfl ?_
          refine wp_jp dX7_allEntriesThrow_57 rfl rfl ?_
          refine wp_ld (v := .ref t22) dX7_allEntriesThrow_60 rfl rfl rfl rfl ?_
          refine wp_jp dX7_allEntriesThrow_61 rfl rfl ?_
          refine wp_ld (v := .ref t22) dX7_allEntriesThrow_64 rfl rfl rfl rfl ?_
          refine wq_gI dX7_allEntriesThrow_65 rfl rfl (kk_f h f25) (v := (am_I s20 t22 2)) rfl ?_
          refine wp_if_eq dX7_allEntriesThrow_68 rfl (fun c26 => have k := ok_pos c26 k; ?_) (fun c26 => have k := ok_neg c26 k; ?_)
          · refine wp_cst (v := .int (0 : Int32)) dX7_allEntriesThrow_80 rfl rfl ?_
            exact wp_end dX7_allEntriesThrow_81 rfl rfl (hP _ _ (ok_s k) h)
          · refine wp_ld (v := .ref 0) dX7_allEntriesThrow_71 rfl rfl rfl rfl ?_
            refine wp_ld (v := .ref t6) dX7_allEntriesThrow_72 rfl rfl rfl rfl ?_
            refine c_i dX7_allEntriesThrow_73 rfl rfl rfl (am_inv_v rfl (kk_0 h) rfl rfl rfl) (s_X7_breakOf h f17) k (fun v28 s27 h k => ?_)
            refine wp_cst (v := .int (-1 : Int32)) dX7_allEntriesThrow_76 rfl rfl ?_
            refine wp_ic_eq dX7_allEntriesThrow_77 rfl (fun c29 => have k := ok_pos c29 k; ?_) (fun c29 => have k := ok_neg c29 k; ?_)
            · refine wp_ld (v := .ref 0) dX7_allEntriesThrow_82 rfl rfl rfl rfl ?_
              refine wp_gr dX7_allEntriesThrow_83 rfl rfl (kk_0 h) (rr_0_0 h) ?_
              refine wp_gr dX7_allEntriesThrow_86 rfl rfl (kk_1 h) (rr_1_10 h) ?_
              refine wp_ld (v := .int x1) dX7_allEntriesThrow_89 rfl rfl rfl rfl ?_
              refine wp_cst (v := .int (1 : Int32)) dX7_allEntriesThrow_90 rfl rfl ?_
              refine c_i dX7_allEntriesThrow_91 rfl rfl rfl (am_inv_v rfl (kk_9 h) rfl rfl rfl) (s_X4_get h (kf_9 h)) k (fun v31 s30 h k => ?_)
              refine wp_st (ls' := [(0, .ref 0), (1, .int x1), (2, .ref t6), (3, .ref t22), (4, .int v31)]) dX7_allEntriesThrow_94 rfl rfl rfl (Nat.le_of_ble_eq_true rfl) rfl ?_
              refine wp_cst (v := .int (0 : Int32)) dX7_allEntriesThrow_96 rfl rfl ?_
              refine wp_st (ls' := [(0, .ref 0), (1, .int x1), (2, .ref t6), (3, .ref t22), (4, .int v31), (5, .int (0 : Int32))]) dX7_allEntriesThrow_97 rfl rfl rfl (Nat.le_of_ble_eq_true rfl) rfl ?_
              refine lp_l k (fun P1 k hA hB => ?_)
              refine wp_sub (q_X7_allEntriesThrow_99 ax_fuel h f25 k (fun o s p h => hP o s (hA o s p) h) (fun e42 s43 p h => have k := hB e42 s43 p; ?_)) rfl ⟨rfl, rfl, rfl, rfl, rfl, trivial⟩
              refine wp_inc (v := (x1 + (1 : Int32))) (ls' := [(0, .ref 0), (1, .int (x1 + (1 : Int32)))]) dX7_allEntriesThrow_166 rfl (Nat.le_of_ble_eq_true rfl) rfl rfl ?_
              refine wp_goto dX7_allEntriesThrow_169 rfl ?_
              exact wp_sub (ih h k hP hX) rfl ⟨rfl, rfl, trivial⟩
            · refine wp_cst (v := .int (0 : Int32)) dX7_allEntriesThrow_80 rfl rfl ?_
              exact wp_end dX7_allEntriesThrow_81 rfl rfl (hP _ _ (ok_s k) h)
noncomputable def f_X7_allEntriesThrow  (s : am_S) : am_F :=
  am_lm (L_X7_allEntriesThrow_2 ax_fuel (0 : Int32) s) (fun e44 s45 =>
    some (.inl (some (.int (1 : Int32))), s45)
  )
theorem s_X7_allEntriesThrow {N n : Nat} {d : Nat}  {s : am_S} (h : am_sh N n s)  : am_S1 (am_sh N n) (d + 5) mX7_allEntriesThrow [.ref 0] s (f_X7_allEntriesThrow s) := by
  intro P Q k hP
  show am_WP (d + 5) mX7_allEntriesThrow 0 [(0, .ref 0)] [] s Q
  unfold f_X7_allEntriesThrow at k
  refine wp_cst (v := .int (0 : Int32)) dX7_allEntriesThrow_0 rfl rfl ?_
  refine wp_st (ls' := [(0, .ref 0), (1, .int (0 : Int32))]) dX7_allEntriesThrow_1 rfl rfl rfl (Nat.le_of_ble_eq_true rfl) rfl ?_
  refine lp_m k (fun P1 k hA hB => ?_)
  refine wp_sub (q_X7_allEntriesThrow_2 ax_fuel h k (fun o s p h => hP o s (hA o s p) h) (fun e44 s45 p h => have k := hB e44 s45 p; ?_)) rfl ⟨rfl, rfl, trivial⟩
  refine wp_cst (v := .int (1 : Int32)) dX7_allEntriesThrow_172 rfl rfl ?_
  exact wp_end dX7_allEntriesThrow_173 rfl rfl (hP _ _ (ok_s k) h)
noncomputable def f_X7_farOf (x1 : Int32) (x2 : Int32) (s : am_S) : am_F :=
  if ((x1 * (4 : Int32)) + x2) < 0 then
    some (.inl (some (.int (0 : Int32))), s)
  else
    if (16 : Int32) ≤ ((x1 * (4 : Int32)) + x2) then
      some (.inl (some (.int (0 : Int32))), s)
    else
      if am_in ((x1 * (4 : Int32)) + x2) 16 = true then
        some (.inl (some (.int (am_I s 46 (((x1 * (4 : Int32)) + x2).toNatClampNeg)))), s)
      else none
theorem s_X7_farOf {N n : Nat} {d : Nat} {x1 : Int32} {x2 : Int32} {s : am_S} (h : am_sh N n s)  : am_S1 (am_sh N n) (d) mX7_farOf [.ref 0, .int x1, .int x2] s (f_X7_farOf x1 x2 s) := by
  intro P Q k hP
  show am_WP (d) mX7_farOf 0 [(0, .ref 0), (1, .int x1), (2, .int x2)] [] s Q
  unfold f_X7_farOf at k
  refine wp_ld (v := .int x1) dX7_farOf_0 rfl rfl rfl rfl ?_
  refine wp_cst (v := .int (4 : Int32)) dX7_farOf_1 rfl rfl ?_
  refine wp_pu dX7_farOf_2 rfl rfl ?_
  refine wp_ld (v := .int x2) dX7_farOf_3 rfl rfl rfl rfl ?_
  refine wp_pu dX7_farOf_4 rfl rfl ?_
  refine wp_st (ls' := [(0, .ref 0), (1, .int x1), (2, .int x2), (3, .int ((x1 * (4 : Int32)) + x2))]) dX7_farOf_5 rfl rfl rfl (Nat.le_of_ble_eq_true rfl) rfl ?_
  refine wp_ld (v := .int ((x1 * (4 : Int32)) + x2)) dX7_farOf_6 rfl rfl rfl rfl ?_
  refine wp_if_lt dX7_farOf_7 rfl (fun c1 => have k := ok_pos c1 k; ?_) (fun c1 => have k := ok_neg c1 k; ?_)
  · refine wp_cst (v := .int (0 : Int32)) dX7_farOf_28 rfl rfl ?_
    exact wp_end dX7_farOf_29 rfl (am_end_i rfl) (hP _ _ (ok_s k) h)
  · refine wp_ld (v := .int ((x1 * (4 : Int32)) + x2)) dX7_farOf_10 rfl rfl rfl rfl ?_
    refine wp_ld (v := .ref 0) dX7_farOf_11 rfl rfl rfl rfl ?_
    refine wp_gr dX7_farOf_12 rfl rfl (kk_0 h) (rr_0_10 h) ?_
    refine wp_alen dX7_farOf_15 (kk_46 h) (by decide) (v := (16 : Int32)) rfl ?_
    refine wp_ic_ge dX7_farOf_16 rfl (fun c2 => have k := ok_pos c2 k; ?_) (fun c2 => have k := ok_neg c2 k; ?_)
    · refine wp_cst (v := .int (0 : Int32)) dX7_farOf_28 rfl rfl ?_
      exact wp_end dX7_farOf_29 rfl (am_end_i rfl) (hP _ _ (ok_s k) h)
    · refine wp_ld (v := .ref 0) dX7_farOf_19 rfl rfl rfl rfl ?_
      refine wp_gr dX7_farOf_20 rfl rfl (kk_0 h) (rr_0_10 h) ?_
      refine wp_ld (v := .int ((x1 * (4 : Int32)) + x2)) dX7_farOf_23 rfl rfl rfl rfl ?_
      obtain ⟨g3, k⟩ := ok_g k
      refine wq_iald dX7_farOf_24 (kk_46 h) g3 (v := (am_I s 46 (((x1 * (4 : Int32)) + x2).toNatClampNeg))) rfl ?_
      refine wp_goto dX7_farOf_25 rfl ?_
      exact wp_end dX7_farOf_29 rfl (am_end_i rfl) (hP _ _ (ok_s k) h)
noncomputable def L_X7_chancesBelow_32 : Nat → Int32 → Int32 → Nat → Int32 → Int32 → am_S → am_FE (Int32)
  | 0, _, _, _, _, _, _ => none
  | m + 1, x1, x2, a3, x4, x5, s =>
    if (am_I s a3 2) ≤ x5 then
      some (.inr (x4, s))
    else
      am_bi (f_X7_farOf x1 x5 s) (fun v11 s10 =>
        if x2 ≤ v11 then
          L_X7_chancesBelow_32 m x1 x2 a3 x4 (x5 + (1 : Int32)) s10
        else
          am_bi (f_X4_get a3 x5 (2 : Int32) s10) (fun v14 s13 =>
            L_X7_chancesBelow_32 m x1 x2 a3 (x4 + v14) (x5 + (1 : Int32)) s13
          )
      )
theorem q_X7_chancesBelow_32 : ∀ (m : Nat) {N n : Nat} {d : Nat} {x1 : Int32} {x2 : Int32} {a3 : Nat} {x4 : Int32} {x5 : Int32} {s : am_S} {P : (am_O × am_S) ⊕ (Int32 × am_S) → Prop} {Q : am_O → am_S → Prop} (h : am_sh N n s) (fa3 : am_kf n a3 4) (k : am_ok (L_X7_chancesBelow_32 m x1 x2 a3 x4 x5 s) P) (hP : ∀ o s, P (.inl (o, s)) → am_sh N n s → Q o s) (hX : ∀ (e : Int32) s, P (.inr (e, s)) → am_sh N n s → am_WP (d + 1) mX7_chancesBelow 70 [(4, .int e)] [] s Q), am_WP (d + 1) mX7_chancesBelow 32 [(0, .ref 0), (1, .int x1), (2, .int x2), (3, .ref a3), (4, .int x4), (5, .int x5)] [] s Q := by
  intro m
  induction m with
  | zero =>
    intro N n d x1 x2 a3 x4 x5 s P Q h fa3 k hP hX
    exact (ok_no k).elim
  | succ m ih =>
    intro N n d x1 x2 a3 x4 x5 s P Q h fa3 k hP hX
    unfold L_X7_chancesBelow_32 at k
    refine wp_ld (v := .int x5) dX7_chancesBelow_32 rfl rfl rfl rfl ?_
    refine wp_ld (v := .ref a3) dX7_chancesBelow_34 rfl rfl rfl rfl ?_
    refine wq_gI dX7_chancesBelow_35 rfl rfl (kk_f h fa3) (v := (am_I s a3 2)) rfl ?_
    refine wp_ic_ge dX7_chancesBelow_38 rfl (fun c9 => have k := ok_pos c9 k; ?_) (fun c9 => have k := ok_neg c9 k; ?_)
    · exact wp_sub (hX _ _ (ok_s k) h) rfl ⟨rfl, trivial⟩
    · refine wp_ld (v := .ref 0) dX7_chancesBelow_41 rfl rfl rfl rfl ?_
      refine wp_ld (v := .int x1) dX7_chancesBelow_42 rfl rfl rfl rfl ?_
      refine wp_ld (v := .int x5) dX7_chancesBelow_43 rfl rfl rfl rfl ?_
      refine c_i dX7_chancesBelow_45 rfl rfl rfl (am_inv_v rfl (kk_0 h) rfl rfl rfl) (s_X7_farOf h) k (fun v11 s10 h k => ?_)
      refine wp_ld (v := .int x2) dX7_chancesBelow_48 rfl rfl rfl rfl ?_
      refine wp_ic_ge dX7_chancesBelow_49 rfl (fun c12 => have k := ok_pos c12 k; ?_) (fun c12 => have k := ok_neg c12 k; ?_)
      · refine wp_inc (v := (x5 + (1 : Int32))) (ls' := [(0, .ref 0), (1, .int x1), (2, .int x2), (3, .ref a3), (4, .int x4), (5, .int (x5 + (1 : Int32)))]) dX7_chancesBelow_64 rfl (Nat.le_of_ble_eq_true rfl) rfl rfl ?_
        refine wp_goto dX7_chancesBelow_67 rfl ?_
        exact wp_sub (ih h fa3 k hP hX) rfl ⟨rfl, rfl, rfl, rfl, rfl, rfl, trivial⟩
      · refine wp_ld (v := .int x4) dX7_chancesBelow_52 rfl rfl rfl rfl ?_
        refine wp_ld (v := .ref a3) dX7_chancesBelow_54 rfl rfl rfl rfl ?_
        refine wp_ld (v := .int x5) dX7_chancesBelow_55 rfl rfl rfl rfl ?_
        refine wp_cst (v := .int (2 : Int32)) dX7_chancesBelow_57 rfl rfl ?_
        refine c_i dX7_chancesBelow_58 rfl rfl rfl (am_inv_v rfl (kk_f h fa3) rfl rfl rfl) (s_X4_get h fa3) k (fun v14 s13 h k => ?_)
        refine wp_pu dX7_chancesBelow_61 rfl rfl ?_
        refine wp_st (ls' := [(0, .ref 0), (1, .int x1), (2, .int x2), (3, .ref a3), (4, .int (x4 + v14)), (5, .int x5)]) dX7_chancesBelow_62 rfl rfl rfl (Nat.le_of_ble_eq_true rfl) rfl ?_
        refine wp_inc (v := (x5 + (1 : Int32))) (ls' := [(0, .ref 0), (1, .int x1), (2, .int x2), (3, .ref a3), (4, .int (x4 + v14)), (5, .int (x5 + (1 : Int32)))]) dX7_chancesBelow_64 rfl (Nat.le_of_ble_eq_true rfl) rfl rfl ?_
        refine wp_goto dX7_chancesBelow_67 rfl ?_
        exact wp_sub (ih h fa3 k hP hX) rfl ⟨rfl, rfl, rfl, rfl, rfl, rfl, trivial⟩
noncomputable def f_X7_chancesBelow (x1 : Int32) (x2 : Int32) (s : am_S) : am_F :=
  am_bi (f_X4_get 9 x1 (2 : Int32) s) (fun v2 s1 =>
    am_bv (f_X5_handAt v2 s1) (fun v4 s3 =>
      am_mv v4 (
        some (.inl (some (.int (0 : Int32))), s3)
      ) (fun t5 => if am_k0 t5 = (4, 0) ∧ t5 < 72 then
        am_lm (L_X7_chancesBelow_32 ax_fuel x1 x2 t5 (0 : Int32) (0 : Int32) s3) (fun e15 s16 =>
          some (.inl (some (.int e15)), s16)
        )
      else none)
    )
  )
theorem s_X7_chancesBelow {N n : Nat} {d : Nat} {x1 : Int32} {x2 : Int32} {s : am_S} (h : am_sh N n s)  : am_S1 (am_sh N n) (d + 1) mX7_chancesBelow [.ref 0, .int x1, .int x2] s (f_X7_chancesBelow x1 x2 s) := by
  intro P Q k hP
  show am_WP (d + 1) mX7_chancesBelow 0 [(0, .ref 0), (1, .int x1), (2, .int x2)] [] s Q
  unfold f_X7_chancesBelow at k
  refine wp_ld (v := .ref 0) dX7_chancesBelow_0 rfl rfl rfl rfl ?_
  refine wp_gr dX7_chancesBelow_1 rfl rfl (kk_0 h) (rr_0_0 h) ?_
  refine wp_ld (v := .ref 0) dX7_chancesBelow_4 rfl rfl rfl rfl ?_
  refine wp_gr dX7_chancesBelow_5 rfl rfl (kk_0 h) (rr_0_0 h) ?_
  refine wp_gr dX7_chancesBelow_8 rfl rfl (kk_1 h) (rr_1_10 h) ?_
  refine wp_ld (v := .int x1) dX7_chancesBelow_11 rfl rfl rfl rfl ?_
  refine wp_cst (v := .int (2 : Int32)) dX7_chancesBelow_12 rfl rfl ?_
  refine c_i dX7_chancesBelow_13 rfl rfl rfl (am_inv_v rfl (kk_9 h) rfl rfl rfl) (s_X4_get h (kf_9 h)) k (fun v2 s1 h k => ?_)
  refine c_v dX7_chancesBelow_16 rfl rfl rfl (am_inv_v rfl (kk_1 h) rfl rfl rfl) (s_X5_handAt h) k (fun v4 s3 h k => ?_)
  rcases ok_mv k with ⟨c6, k⟩ | ⟨t5, c6, k⟩
  · subst c6
    refine wp_st (ls' := [(0, .ref 0), (1, .int x1), (2, .int x2), (3, .null)]) dX7_chancesBelow_19 rfl rfl rfl (Nat.le_of_ble_eq_true rfl) rfl ?_
    refine wp_ld (v := .null) dX7_chancesBelow_20 rfl rfl rfl rfl ?_
    refine wp_jp dX7_chancesBelow_21 rfl rfl ?_
    refine wp_cst (v := .int (0 : Int32)) dX7_chancesBelow_24 rfl rfl ?_
    exact wp_end dX7_chancesBelow_25 rfl (am_end_i rfl) (hP _ _ (ok_s k) h)
  · subst c6
    obtain ⟨g7, k⟩ := ok_g k
    have f8 := kk_up h g7
    refine wp_st (ls' := [(0, .ref 0), (1, .int x1), (2, .int x2), (3, .ref t5)]) dX7_chancesBelow_19 rfl rfl rfl (Nat.le_of_ble_eq_true rfl) rfl ?_
    refine wp_ld (v := .ref t5) dX7_chancesBelow_20 rfl rfl rfl rfl ?_
    refine wp_jp dX7_chancesBelow_21 rfl rfl ?_
    refine wp_cst (v := .int (0 : Int32)) dX7_chancesBelow_26 rfl rfl ?_
    refine wp_st (ls' := [(0, .ref 0), (1, .int x1), (2, .int x2), (3, .ref t5), (4, .int (0 : Int32))]) dX7_chancesBelow_27 rfl rfl rfl (Nat.le_of_ble_eq_true rfl) rfl ?_
    refine wp_cst (v := .int (0 : Int32)) dX7_chancesBelow_29 rfl rfl ?_
    refine wp_st (ls' := [(0, .ref 0), (1, .int x1), (2, .int x2), (3, .ref t5), (4, .int (0 : Int32)), (5, .int (0 : Int32))]) dX7_chancesBelow_30 rfl rfl rfl (Nat.le_of_ble_eq_true rfl) rfl ?_
    refine lp_m k (fun P1 k hA hB => ?_)
    refine wp_sub (q_X7_chancesBelow_32 ax_fuel h f8 k (fun o s p h => hP o s (hA o s p) h) (fun e15 s16 p h => have k := hB e15 s16 p; ?_)) rfl ⟨rfl, rfl, rfl, rfl, rfl, rfl, trivial⟩
    refine wp_ld (v := .int e15) dX7_chancesBelow_70 rfl rfl rfl rfl ?_
    exact wp_end dX7_chancesBelow_72 rfl (am_end_i rfl) (hP _ _ (ok_s k) h)
noncomputable def L_X7_rowsBelow_5 : Nat → Int32 → Int32 → Int64 → Int32 → am_S → am_FE (Int64)
  | 0, _, _, _, _, _ => none
  | m + 1, x1, x2, x3, x5, s =>
    if (am_I s 9 2) ≤ x5 then
      some (.inr (x3, s))
    else
      if x5 = x1 then
        L_X7_rowsBelow_5 m x1 x2 x3 (x5 + (1 : Int32)) s
      else
        am_bi (f_X7_chancesBelow x5 x2 s) (fun v4 s3 =>
          L_X7_rowsBelow_5 m x1 x2 (x3 * v4.toInt64) (x5 + (1 : Int32)) s3
        )
theorem q_X7_rowsBelow_5 : ∀ (m : Nat) {N n : Nat} {d : Nat} {x1 : Int32} {x2 : Int32} {x3 : Int64} {x5 : Int32} {s : am_S} {P : (am_O × am_S) ⊕ (Int64 × am_S) → Prop} {Q : am_O → am_S → Prop} (h : am_sh N n s)  (k : am_ok (L_X7_rowsBelow_5 m x1 x2 x3 x5 s) P) (hP : ∀ o s, P (.inl (o, s)) → am_sh N n s → Q o s) (hX : ∀ (e : Int64) s, P (.inr (e, s)) → am_sh N n s → am_WP (d + 2) mX7_rowsBelow 43 [(3, .long e)] [] s Q), am_WP (d + 2) mX7_rowsBelow 5 [(0, .ref 0), (1, .int x1), (2, .int x2), (3, .long x3), (5, .int x5)] [] s Q := by
  intro m
  induction m with
  | zero =>
    intro N n d x1 x2 x3 x5 s P Q h  k hP hX
    exact (ok_no k).elim
  | succ m ih =>
    intro N n d x1 x2 x3 x5 s P Q h  k hP hX
    unfold L_X7_rowsBelow_5 at k
    refine wp_ld (v := .int x5) dX7_rowsBelow_5 rfl rfl rfl rfl ?_
    refine wp_ld (v := .ref 0) dX7_rowsBelow_7 rfl rfl rfl rfl ?_
    refine wp_gr dX7_rowsBelow_8 rfl rfl (kk_0 h) (rr_0_0 h) ?_
    refine wp_gr dX7_rowsBelow_11 rfl rfl (kk_1 h) (rr_1_10 h) ?_
    refine wq_gI dX7_rowsBelow_14 rfl rfl (kk_9 h) (v := (am_I s 9 2)) rfl ?_
    refine wp_ic_ge dX7_rowsBelow_17 rfl (fun c1 => have k := ok_pos c1 k; ?_) (fun c1 => have k := ok_neg c1 k; ?_)
    · exact wp_sub (hX _ _ (ok_s k) h) rfl ⟨rfl, trivial⟩
    · refine wp_ld (v := .int x5) dX7_rowsBelow_20 rfl rfl rfl rfl ?_
      refine wp_ld (v := .int x1) dX7_rowsBelow_22 rfl rfl rfl rfl ?_
      refine wp_ic_eq dX7_rowsBelow_23 rfl (fun c2 => have k := ok_pos c2 k; ?_) (fun c2 => have k := ok_neg c2 k; ?_)
      · refine wp_inc (v := (x5 + (1 : Int32))) (ls' := [(0, .ref 0), (1, .int x1), (2, .int x2), (3, .long x3), (5, .int (x5 + (1 : Int32)))]) dX7_rowsBelow_37 rfl (Nat.le_of_ble_eq_true rfl) rfl rfl ?_
        refine wp_goto dX7_rowsBelow_40 rfl ?_
        exact wp_sub (ih h k hP hX) rfl ⟨rfl, rfl, rfl, rfl, rfl, trivial⟩
      · refine wp_ld (v := .long x3) dX7_rowsBelow_26 rfl rfl rfl rfl ?_
        refine wp_ld (v := .ref 0) dX7_rowsBelow_27 rfl rfl rfl rfl ?_
        refine wp_ld (v := .int x5) dX7_rowsBelow_28 rfl rfl rfl rfl ?_
        refine wp_ld (v := .int x2) dX7_rowsBelow_30 rfl rfl rfl rfl ?_
        refine c_i dX7_rowsBelow_31 rfl rfl rfl (am_inv_v rfl (kk_0 h) rfl rfl rfl) (s_X7_chancesBelow h) k (fun v4 s3 h k => ?_)
        refine wp_pu dX7_rowsBelow_34 rfl rfl ?_
        refine wp_pu dX7_rowsBelow_35 rfl rfl ?_
        refine wp_st (ls' := [(0, .ref 0), (1, .int x1), (2, .int x2), (3, .long (x3 * v4.toInt64)), (5, .int x5)]) dX7_rowsBelow_36 rfl rfl rfl (Nat.le_of_ble_eq_true rfl) rfl ?_
        refine wp_inc (v := (x5 + (1 : Int32))) (ls' := [(0, .ref 0), (1, .int x1), (2, .int x2), (3, .long (x3 * v4.toInt64)), (5, .int (x5 + (1 : Int32)))]) dX7_rowsBelow_37 rfl (Nat.le_of_ble_eq_true rfl) rfl rfl ?_
        refine wp_goto dX7_rowsBelow_40 rfl ?_
        exact wp_sub (ih h k hP hX) rfl ⟨rfl, rfl, rfl, rfl, rfl, trivial⟩
noncomputable def f_X7_rowsBelow (x1 : Int32) (x2 : Int32) (s : am_S) : am_F :=
  am_lm (L_X7_rowsBelow_5 ax_fuel x1 x2 (1 : Int64) (0 : Int32) s) (fun e5 s6 =>
    some (.inl (some (.long e5)), s6)
  )
theorem s_X7_rowsBelow {N n : Nat} {d : Nat} {x1 : Int32} {x2 : Int32} {s : am_S} (h : am_sh N n s)  : am_S1 (am_sh N n) (d + 2) mX7_rowsBelow [.ref 0, .int x1, .int x2] s (f_X7_rowsBelow x1 x2 s) := by
  intro P Q k hP
  show am_WP (d + 2) mX7_rowsBelow 0 [(0, .ref 0), (1, .int x1), (2, .int x2)] [] s Q
  unfold f_X7_rowsBelow at k
  refine wp_cst (v := .long (1 : Int64)) dX7_rowsBelow_0 rfl rfl ?_
  refine wp_st (ls' := [(0, .ref 0), (1, .int x1), (2, .int x2), (3, .long (1 : Int64))]) dX7_rowsBelow_1 rfl rfl rfl (Nat.le_of_ble_eq_true rfl) rfl ?_
  refine wp_cst (v := .int (0 : Int32)) dX7_rowsBelow_2 rfl rfl ?_
  refine wp_st (ls' := [(0, .ref 0), (1, .int x1), (2, .int x2), (3, .long (1 : Int64)), (5, .int (0 : Int32))]) dX7_rowsBelow_3 rfl rfl rfl (Nat.le_of_ble_eq_true rfl) rfl ?_
  refine lp_m k (fun P1 k hA hB => ?_)
  refine wp_sub (q_X7_rowsBelow_5 ax_fuel h k (fun o s p h => hP o s (hA o s p) h) (fun e5 s6 p h => have k := hB e5 s6 p; ?_)) rfl ⟨rfl, rfl, rfl, rfl, rfl, trivial⟩
  refine wp_ld (v := .long e5) dX7_rowsBelow_43 rfl rfl rfl rfl ?_
  exact wp_end dX7_rowsBelow_44 rfl (am_end_l rfl) (hP _ _ (ok_s k) h)
noncomputable def L_X7_wins_69 : Nat → Int32 → Nat → Int64 → Int32 → am_S → am_FE (Int64)
  | 0, _, _, _, _, _ => none
  | m + 1, x1, a2, x3, x5, s =>
    if (am_I s a2 2) ≤ x5 then
      some (.inr (x3, s))
    else
      am_bi (f_X4_get a2 x5 (2 : Int32) s) (fun v16 s15 =>
        am_bi (f_X7_farOf x1 x5 s15) (fun v18 s17 =>
          am_bl (f_X7_rowsBelow x1 v18 s17) (fun v20 s19 =>
            L_X7_wins_69 m x1 a2 (x3 + (v16.toInt64 * v20)) (x5 + (1 : Int32)) s19
          )
        )
      )
theorem q_X7_wins_69 : ∀ (m : Nat) {N n : Nat} {d : Nat} {x1 : Int32} {a2 : Nat} {x3 : Int64} {x5 : Int32} {s : am_S} {P : (am_O × am_S) ⊕ (Int64 × am_S) → Prop} {Q : am_O → am_S → Prop} (h : am_sh N n s) (fa2 : am_kf n a2 4) (k : am_ok (L_X7_wins_69 m x1 a2 x3 x5 s) P) (hP : ∀ o s, P (.inl (o, s)) → am_sh N n s → Q o s) (hX : ∀ (e : Int64) s, P (.inr (e, s)) → am_sh N n s → am_WP (d + 6) mX7_wins 108 [(3, .long e)] [] s Q), am_WP (d + 6) mX7_wins 69 [(0, .ref 0), (1, .int x1), (2, .ref a2), (3, .long x3), (5, .int x5)] [] s Q := by
  intro m
  induction m with
  | zero =>
    intro N n d x1 a2 x3 x5 s P Q h fa2 k hP hX
    exact (ok_no k).elim
  | succ m ih =>
    intro N n d x1 a2 x3 x5 s P Q h fa2 k hP hX
    unfold L_X7_wins_69 at k
    refine wp_ld (v := .int x5) dX7_wins_69 rfl rfl rfl rfl ?_
    refine wp_ld (v := .ref a2) dX7_wins_71 rfl rfl rfl rfl ?_
    refine wq_gI dX7_wins_72 rfl rfl (kk_f h fa2) (v := (am_I s a2 2)) rfl ?_
    refine wp_ic_ge dX7_wins_75 rfl (fun c14 => have k := ok_pos c14 k; ?_) (fun c14 => have k := ok_neg c14 k; ?_)
    · exact wp_sub (hX _ _ (ok_s k) h) rfl ⟨rfl, trivial⟩
    · refine wp_ld (v := .long x3) dX7_wins_78 rfl rfl rfl rfl ?_
      refine wp_ld (v := .ref a2) dX7_wins_79 rfl rfl rfl rfl ?_
      refine wp_ld (v := .int x5) dX7_wins_80 rfl rfl rfl rfl ?_
      refine wp_cst (v := .int (2 : Int32)) dX7_wins_82 rfl rfl ?_
      refine c_i dX7_wins_83 rfl rfl rfl (am_inv_v rfl (kk_f h fa2) rfl rfl rfl) (s_X4_get h fa2) k (fun v16 s15 h k => ?_)
      refine wp_pu dX7_wins_86 rfl rfl ?_
      refine wp_ld (v := .ref 0) dX7_wins_87 rfl rfl rfl rfl ?_
      refine wp_ld (v := .int x1) dX7_wins_88 rfl rfl rfl rfl ?_
      refine wp_ld (v := .ref 0) dX7_wins_89 rfl rfl rfl rfl ?_
      refine wp_ld (v := .int x1) dX7_wins_90 rfl rfl rfl rfl ?_
      refine wp_ld (v := .int x5) dX7_wins_91 rfl rfl rfl rfl ?_
      refine c_i dX7_wins_93 rfl rfl rfl (am_inv_v rfl (kk_0 h) rfl rfl rfl) (s_X7_farOf h) k (fun v18 s17 h k => ?_)
      refine c_l dX7_wins_96 rfl rfl rfl (am_inv_v rfl (kk_0 h) rfl rfl rfl) (s_X7_rowsBelow h) k (fun v20 s19 h k => ?_)
      refine wp_pu dX7_wins_99 rfl rfl ?_
      refine wp_pu dX7_wins_100 rfl rfl ?_
      refine wp_st (ls' := [(0, .ref 0), (1, .int x1), (2, .ref a2), (3, .long (x3 + (v16.toInt64 * v20))), (5, .int x5)]) dX7_wins_101 rfl rfl rfl (Nat.le_of_ble_eq_true rfl) rfl ?_
      refine wp_inc (v := (x5 + (1 : Int32))) (ls' := [(0, .ref 0), (1, .int x1), (2, .ref a2), (3, .long (x3 + (v16.toInt64 * v20))), (5, .int (x5 + (1 : Int32)))]) dX7_wins_102 rfl (Nat.le_of_ble_eq_true rfl) rfl rfl ?_
      refine wp_goto dX7_wins_105 rfl ?_
      exact wp_sub (ih h fa2 k hP hX) rfl ⟨rfl, rfl, rfl, rfl, rfl, trivial⟩
noncomputable def f_X7_wins (x1 : Int32) (s : am_S) : am_F :=
  if x1 < 0 then
    some (.inr 3, am_tick s)
  else
    if x1 < (am_I s 9 2) then
      am_bi (f_X7_allEntriesThrow s) (fun v4 s3 =>
        if v4 = 0 then
          some (.inl (some (.long (0 : Int64))), s3)
        else
          am_bi (f_X4_get 9 x1 (2 : Int32) s3) (fun v7 s6 =>
            am_bv (f_X5_handAt v7 s6) (fun v9 s8 =>
              am_mv v9 (
                some (.inl (some (.long (0 : Int64))), s8)
              ) (fun t10 => if am_k0 t10 = (4, 0) ∧ t10 < 72 then
                am_lm (L_X7_wins_69 ax_fuel x1 t10 (0 : Int64) (0 : Int32) s8) (fun e21 s22 =>
                  some (.inl (some (.long e21)), s22)
                )
              else none)
            )
          )
      )
    else
      some (.inr 3, am_tick s)
theorem s_X7_wins {N n : Nat} {d : Nat} {x1 : Int32} {s : am_S} (h : am_sh N n s)  : am_S1 (am_sh N n) (d + 6) mX7_wins [.ref 0, .int x1] s (f_X7_wins x1 s) := by
  intro P Q k hP
  show am_WP (d + 6) mX7_wins 0 [(0, .ref 0), (1, .int x1)] [] s Q
  unfold f_X7_wins at k
  refine wp_ld (v := .int x1) dX7_wins_0 rfl rfl rfl rfl ?_
  refine wp_if_lt dX7_wins_1 rfl (fun c1 => have k := ok_pos c1 k; ?_) (fun c1 => have k := ok_neg c1 k; ?_)
  · exact wp_thr dX7_wins_18 rfl rfl (am_thr_2 rfl rfl dX7_wins_21 dX7_wins_22 dX7_wins_25 dX7_wins_28 rfl) (hP _ _ (ok_s k) (sh_tk h))
  · refine wp_ld (v := .int x1) dX7_wins_4 rfl rfl rfl rfl ?_
    refine wp_ld (v := .ref 0) dX7_wins_5 rfl rfl rfl rfl ?_
    refine wp_gr dX7_wins_6 rfl rfl (kk_0 h) (rr_0_0 h) ?_
    refine wp_gr dX7_wins_9 rfl rfl (kk_1 h) (rr_1_10 h) ?_
    refine wq_gI dX7_wins_12 rfl rfl (kk_9 h) (v := (am_I s 9 2)) rfl ?_
    refine wp_ic_lt dX7_wins_15 rfl (fun c2 => have k := ok_pos c2 k; ?_) (fun c2 => have k := ok_neg c2 k; ?_)
    · refine wp_ld (v := .ref 0) dX7_wins_29 rfl rfl rfl rfl ?_
      refine c_i dX7_wins_30 rfl rfl rfl (am_inv_v rfl (kk_0 h) rfl rfl rfl) (s_X7_allEntriesThrow h) k (fun v4 s3 h k => ?_)
      refine wp_if_ne dX7_wins_33 rfl (fun c5 => have k := ok_neg c5 k; ?_) (fun c5 => have k := ok_pos c5 k; ?_)
      · refine wp_ld (v := .ref 0) dX7_wins_38 rfl rfl rfl rfl ?_
        refine wp_gr dX7_wins_39 rfl rfl (kk_0 h) (rr_0_0 h) ?_
        refine wp_ld (v := .ref 0) dX7_wins_42 rfl rfl rfl rfl ?_
        refine wp_gr dX7_wins_43 rfl rfl (kk_0 h) (rr_0_0 h) ?_
        refine wp_gr dX7_wins_46 rfl rfl (kk_1 h) (rr_1_10 h) ?_
        refine wp_ld (v := .int x1) dX7_wins_49 rfl rfl rfl rfl ?_
        refine wp_cst (v := .int (2 : Int32)) dX7_wins_50 rfl rfl ?_
        refine c_i dX7_wins_51 rfl rfl rfl (am_inv_v rfl (kk_9 h) rfl rfl rfl) (s_X4_get h (kf_9 h)) k (fun v7 s6 h k => ?_)
        refine c_v dX7_wins_54 rfl rfl rfl (am_inv_v rfl (kk_1 h) rfl rfl rfl) (s_X5_handAt h) k (fun v9 s8 h k => ?_)
        rcases ok_mv k with ⟨c11, k⟩ | ⟨t10, c11, k⟩
        · subst c11
          refine wp_st (ls' := [(0, .ref 0), (1, .int x1), (2, .null)]) dX7_wins_57 rfl rfl rfl (Nat.le_of_ble_eq_true rfl) rfl ?_
          refine wp_ld (v := .null) dX7_wins_58 rfl rfl rfl rfl ?_
          refine wp_jp dX7_wins_59 rfl rfl ?_
          refine wp_cst (v := .long (0 : Int64)) dX7_wins_62 rfl rfl ?_
          exact wp_end dX7_wins_63 rfl (am_end_l rfl) (hP _ _ (ok_s k) h)
        · subst c11
          obtain ⟨g12, k⟩ := ok_g k
          have f13 := kk_up h g12
          refine wp_st (ls' := [(0, .ref 0), (1, .int x1), (2, .ref t10)]) dX7_wins_57 rfl rfl rfl (Nat.le_of_ble_eq_true rfl) rfl ?_
          refine wp_ld (v := .ref t10) dX7_wins_58 rfl rfl rfl rfl ?_
          refine wp_jp dX7_wins_59 rfl rfl ?_
          refine wp_cst (v := .long (0 : Int64)) dX7_wins_64 rfl rfl ?_
          refine wp_st (ls' := [(0, .ref 0), (1, .int x1), (2, .ref t10), (3, .long (0 : Int64))]) dX7_wins_65 rfl rfl rfl (Nat.le_of_ble_eq_true rfl) rfl ?_
          refine wp_cst (v := .int (0 : Int32)) dX7_wins_66 rfl rfl ?_
          refine wp_st (ls' := [(0, .ref 0), (1, .int x1), (2, .ref t10), (3, .long (0 : Int64)), (5, .int (0 : Int32))]) dX7_wins_67 rfl rfl rfl (Nat.le_of_ble_eq_true rfl) rfl ?_
          refine lp_m k (fun P1 k hA hB => ?_)
          refine wp_sub (q_X7_wins_69 ax_fuel h f13 k (fun o s p h => hP o s (hA o s p) h) (fun e21 s22 p h => have k := hB e21 s22 p; ?_)) rfl ⟨rfl, rfl, rfl, rfl, rfl, trivial⟩
          refine wp_ld (v := .long e21) dX7_wins_108 rfl rfl rfl rfl ?_
          exact wp_end dX7_wins_109 rfl (am_end_l rfl) (hP _ _ (ok_s k) h)
      · refine wp_cst (v := .long (0 : Int64)) dX7_wins_36 rfl rfl ?_
        exact wp_end dX7_wins_37 rfl (am_end_l rfl) (hP _ _ (ok_s k) h)
    · exact wp_thr dX7_wins_18 rfl rfl (am_thr_2 rfl rfl dX7_wins_21 dX7_wins_22 dX7_wins_25 dX7_wins_28 rfl) (hP _ _ (ok_s k) (sh_tk h))
noncomputable def f_L_wins (x2 : Int32) (s : am_S) : am_F :=
  am_xl (f_X7_wins x2 s) (fun v2 s1 =>
    some (.inl (some (.int (0 : Int32))), (am_sL s1 71 0 v2))
  ) (fun e s1 =>
    if e = 3 then
      some (.inl (some (.int (1 : Int32))), s1)
    else
      none
  )
theorem s_L_wins {N : Nat} {d : Nat} {x2 : Int32} {s : am_S} (h : am_shE N s)  : am_S1 (am_shE N) (d + 7) mL_wins [.ref 0, .int x2, .ref 71] s (f_L_wins x2 s) := by
  intro P Q k hP
  show am_WP (d + 7) mL_wins 0 [(0, .ref 0), (1, .int x2), (2, .ref 71)] [] s Q
  unfold f_L_wins at k
  refine wp_ld (v := .ref 71) dL_wins_0 rfl rfl rfl rfl ?_
  refine wp_cst (v := .int (0 : Int32)) dL_wins_1 rfl rfl ?_
  refine wp_ld (v := .ref 0) dL_wins_2 rfl rfl rfl rfl ?_
  refine wp_ld (v := .int x2) dL_wins_3 rfl rfl rfl rfl ?_
  refine x_l dL_wins_4 rfl rfl rfl (am_inv_v rfl (kE_0 h) rfl rfl rfl) (sE h (fun _ h => s_X7_wins h)) k rfl (List.cons_ne_nil _ _) (fun v2 s1 h k => ?_) (fun e s1 h k => ?_)
  · refine wq_last dL_wins_7 (kE_71 h) (by decide) (j := 0) rfl ?_
    refine wp_goto dL_wins_8 rfl ?_
    refine wp_cst (v := .int (0 : Int32)) dL_wins_14 rfl rfl ?_
    exact wp_end dL_wins_15 rfl (am_end_i rfl) (hP _ _ (ok_s k) (shE_sL h))
  · by_cases c3 : e = 3
    · have k := ok_pos c3 k
      subst c3
      refine ⟨_, _, rfl, ?_⟩
      refine wp_cst (v := .int (1 : Int32)) dL_wins_12 rfl rfl ?_
      exact wp_end dL_wins_13 rfl (am_end_i rfl) (hP _ _ (ok_s k) h)
    replace k := ok_neg c3 k
    exact (ok_no k).elim
noncomputable def L_X8_lessFar_21 : Nat → Int32 → Int32 → Int32 → Int64 → Int32 → am_S → am_FE (Int64)
  | 0, _, _, _, _, _, _ => none
  | m + 1, x1, x2, x3, x4, x6, s =>
    am_bi (f_X8_throwsOf x3 s) (fun v4 s3 =>
      if v4 ≤ x6 then
        some (.inr (x4, s3))
      else
        if am_in (((4 : Int32) * x1) + x6) 16 = true then
          if x2 ≤ (am_I s3 67 ((((4 : Int32) * x1) + x6).toNatClampNeg)) then
            L_X8_lessFar_21 m x1 x2 x3 (x4 + (0 : Int64)) (x6 + (1 : Int32)) s3
          else
            am_bi (f_X8_throwAt x3 x6 s3) (fun v9 s8 =>
              if am_in (v9 + (2 : Int32)) 264 = true then
                L_X8_lessFar_21 m x1 x2 x3 (x4 + (am_I s8 56 ((v9 + (2 : Int32)).toNatClampNeg)).toInt64) (x6 + (1 : Int32)) s8
              else none
            )
        else none
    )
theorem q_X8_lessFar_21 : ∀ (m : Nat) {N n : Nat} {d : Nat} {x1 : Int32} {x2 : Int32} {x3 : Int32} {x4 : Int64} {x6 : Int32} {s : am_S} {P : (am_O × am_S) ⊕ (Int64 × am_S) → Prop} {Q : am_O → am_S → Prop} (h : am_sh N n s)  (k : am_ok (L_X8_lessFar_21 m x1 x2 x3 x4 x6 s) P) (hP : ∀ o s, P (.inl (o, s)) → am_sh N n s → Q o s) (hX : ∀ (e : Int64) s, P (.inr (e, s)) → am_sh N n s → am_WP (d + 1) mX8_lessFar 76 [(4, .long e)] [] s Q), am_WP (d + 1) mX8_lessFar 21 [(0, .ref 55), (1, .int x1), (2, .int x2), (3, .int x3), (4, .long x4), (6, .int x6)] [] s Q := by
  intro m
  induction m with
  | zero =>
    intro N n d x1 x2 x3 x4 x6 s P Q h  k hP hX
    exact (ok_no k).elim
  | succ m ih =>
    intro N n d x1 x2 x3 x4 x6 s P Q h  k hP hX
    unfold L_X8_lessFar_21 at k
    refine wp_ld (v := .int x6) dX8_lessFar_21 rfl rfl rfl rfl ?_
    refine wp_ld (v := .ref 55) dX8_lessFar_23 rfl rfl rfl rfl ?_
    refine wp_ld (v := .int x3) dX8_lessFar_24 rfl rfl rfl rfl ?_
    refine c_i dX8_lessFar_25 rfl rfl rfl (am_inv_v rfl (kk_55 h) rfl rfl rfl) (s_X8_throwsOf h) k (fun v4 s3 h k => ?_)
    refine wp_ic_ge dX8_lessFar_28 rfl (fun c5 => have k := ok_pos c5 k; ?_) (fun c5 => have k := ok_neg c5 k; ?_)
    · exact wp_sub (hX _ _ (ok_s k) h) rfl ⟨rfl, trivial⟩
    · refine wp_ld (v := .long x4) dX8_lessFar_31 rfl rfl rfl rfl ?_
      refine wp_ld (v := .ref 55) dX8_lessFar_33 rfl rfl rfl rfl ?_
      refine wp_gr dX8_lessFar_34 rfl rfl (kk_55 h) (rr_55_50 h) ?_
      refine wp_cst (v := .int (4 : Int32)) dX8_lessFar_37 rfl rfl ?_
      refine wp_ld (v := .int x1) dX8_lessFar_38 rfl rfl rfl rfl ?_
      refine wp_pu dX8_lessFar_39 rfl rfl ?_
      refine wp_ld (v := .int x6) dX8_lessFar_40 rfl rfl rfl rfl ?_
      refine wp_pu dX8_lessFar_42 rfl rfl ?_
      obtain ⟨g6, k⟩ := ok_g k
      refine wq_iald dX8_lessFar_43 (kk_67 h) g6 (v := (am_I s3 67 ((((4 : Int32) * x1) + x6).toNatClampNeg))) rfl ?_
      refine wp_ld (v := .int x2) dX8_lessFar_44 rfl rfl rfl rfl ?_
      refine wp_ic_ge dX8_lessFar_45 rfl (fun c7 => have k := ok_pos c7 k; ?_) (fun c7 => have k := ok_neg c7 k; ?_)
      · refine wp_cst (v := .long (0 : Int64)) dX8_lessFar_66 rfl rfl ?_
        refine wp_pu dX8_lessFar_67 rfl rfl ?_
        refine wp_st (ls' := [(0, .ref 55), (1, .int x1), (2, .int x2), (3, .int x3), (4, .long (x4 + (0 : Int64))), (6, .int x6)]) dX8_lessFar_68 rfl rfl rfl (Nat.le_of_ble_eq_true rfl) rfl ?_
        refine wp_inc (v := (x6 + (1 : Int32))) (ls' := [(0, .ref 55), (1, .int x1), (2, .int x2), (3, .int x3), (4, .long (x4 + (0 : Int64))), (6, .int (x6 + (1 : Int32)))]) dX8_lessFar_70 rfl (Nat.le_of_ble_eq_true rfl) rfl rfl ?_
        refine wp_goto dX8_lessFar_73 rfl ?_
        exact wp_sub (ih h k hP hX) rfl ⟨rfl, rfl, rfl, rfl, rfl, rfl, trivial⟩
      · refine wp_ld (v := .ref 55) dX8_lessFar_48 rfl rfl rfl rfl ?_
        refine wp_gr dX8_lessFar_49 rfl rfl (kk_55 h) (rr_55_0 h) ?_
        refine wp_ld (v := .ref 55) dX8_lessFar_52 rfl rfl rfl rfl ?_
        refine wp_ld (v := .int x3) dX8_lessFar_53 rfl rfl rfl rfl ?_
        refine wp_ld (v := .int x6) dX8_lessFar_54 rfl rfl rfl rfl ?_
        refine c_i dX8_lessFar_56 rfl rfl rfl (am_inv_v rfl (kk_55 h) rfl rfl rfl) (s_X8_throwAt h) k (fun v9 s8 h k => ?_)
        refine wp_cst (v := .int (2 : Int32)) dX8_lessFar_59 rfl rfl ?_
        refine wp_pu dX8_lessFar_60 rfl rfl ?_
        obtain ⟨g10, k⟩ := ok_g k
        refine wq_iald dX8_lessFar_61 (kk_56 h) g10 (v := (am_I s8 56 ((v9 + (2 : Int32)).toNatClampNeg))) rfl ?_
        refine wp_pu dX8_lessFar_62 rfl rfl ?_
        refine wp_goto dX8_lessFar_63 rfl ?_
        refine wp_pu dX8_lessFar_67 rfl rfl ?_
        refine wp_st (ls' := [(0, .ref 55), (1, .int x1), (2, .int x2), (3, .int x3), (4, .long (x4 + (am_I s8 56 ((v9 + (2 : Int32)).toNatClampNeg)).toInt64)), (6, .int x6)]) dX8_lessFar_68 rfl rfl rfl (Nat.le_of_ble_eq_true rfl) rfl ?_
        refine wp_inc (v := (x6 + (1 : Int32))) (ls' := [(0, .ref 55), (1, .int x1), (2, .int x2), (3, .int x3), (4, .long (x4 + (am_I s8 56 ((v9 + (2 : Int32)).toNatClampNeg)).toInt64)), (6, .int (x6 + (1 : Int32)))]) dX8_lessFar_70 rfl (Nat.le_of_ble_eq_true rfl) rfl rfl ?_
        refine wp_goto dX8_lessFar_73 rfl ?_
        exact wp_sub (ih h k hP hX) rfl ⟨rfl, rfl, rfl, rfl, rfl, rfl, trivial⟩
noncomputable def f_X8_lessFar (x1 : Int32) (x2 : Int32) (s : am_S) : am_F :=
  if am_in (((252 : Int32) + ((3 : Int32) * x1)) + (2 : Int32)) 264 = true then
    ax_le (am_I s 56 ((((252 : Int32) + ((3 : Int32) * x1)) + (2 : Int32)).toNatClampNeg)) (fun y2 =>
      am_lm (L_X8_lessFar_21 ax_fuel x1 x2 y2 (0 : Int64) (0 : Int32) s) (fun e11 s12 =>
        some (.inl (some (.long e11)), s12)
      )
    )
  else none
theorem s_X8_lessFar {N n : Nat} {d : Nat} {x1 : Int32} {x2 : Int32} {s : am_S} (h : am_sh N n s)  : am_S1 (am_sh N n) (d + 1) mX8_lessFar [.ref 55, .int x1, .int x2] s (f_X8_lessFar x1 x2 s) := by
  intro P Q k hP
  show am_WP (d + 1) mX8_lessFar 0 [(0, .ref 55), (1, .int x1), (2, .int x2)] [] s Q
  unfold f_X8_lessFar at k
  refine wp_ld (v := .ref 55) dX8_lessFar_0 rfl rfl rfl rfl ?_
  refine wp_gr dX8_lessFar_1 rfl rfl (kk_55 h) (rr_55_0 h) ?_
  refine wp_cst (v := .int (252 : Int32)) dX8_lessFar_4 rfl rfl ?_
  refine wp_cst (v := .int (3 : Int32)) dX8_lessFar_7 rfl rfl ?_
  refine wp_ld (v := .int x1) dX8_lessFar_8 rfl rfl rfl rfl ?_
  refine wp_pu dX8_lessFar_9 rfl rfl ?_
  refine wp_pu dX8_lessFar_10 rfl rfl ?_
  refine wp_cst (v := .int (2 : Int32)) dX8_lessFar_11 rfl rfl ?_
  refine wp_pu dX8_lessFar_12 rfl rfl ?_
  obtain ⟨g1, k⟩ := ok_g k
  refine wq_iald dX8_lessFar_13 (kk_56 h) g1 (v := (am_I s 56 ((((252 : Int32) + ((3 : Int32) * x1)) + (2 : Int32)).toNatClampNeg))) rfl ?_
  refine ls_i k (fun y2 _ k => ?_)
  refine wp_st (ls' := [(0, .ref 55), (1, .int x1), (2, .int x2), (3, .int y2)]) dX8_lessFar_14 rfl rfl rfl (Nat.le_of_ble_eq_true rfl) rfl ?_
  show am_WP (d + 1) mX8_lessFar 15 _ _ _ Q
  refine wp_cst (v := .long (0 : Int64)) dX8_lessFar_15 rfl rfl ?_
  refine wp_st (ls' := [(0, .ref 55), (1, .int x1), (2, .int x2), (3, .int y2), (4, .long (0 : Int64))]) dX8_lessFar_16 rfl rfl rfl (Nat.le_of_ble_eq_true rfl) rfl ?_
  refine wp_cst (v := .int (0 : Int32)) dX8_lessFar_18 rfl rfl ?_
  refine wp_st (ls' := [(0, .ref 55), (1, .int x1), (2, .int x2), (3, .int y2), (4, .long (0 : Int64)), (6, .int (0 : Int32))]) dX8_lessFar_19 rfl rfl rfl (Nat.le_of_ble_eq_true rfl) rfl ?_
  refine lp_m k (fun P1 k hA hB => ?_)
  refine wp_sub (q_X8_lessFar_21 ax_fuel h k (fun o s p h => hP o s (hA o s p) h) (fun e11 s12 p h => have k := hB e11 s12 p; ?_)) rfl ⟨rfl, rfl, rfl, rfl, rfl, rfl, trivial⟩
  refine wp_ld (v := .long e11) dX8_lessFar_76 rfl rfl rfl rfl ?_
  exact wp_end dX8_lessFar_78 rfl (am_end_l rfl) (hP _ _ (ok_s k) h)
noncomputable def L_X8_wins_86 : Nat → Int32 → Int32 → Int32 → Int32 → am_S → am_FE (Unit)
  | 0, _, _, _, _, _ => none
  | m + 1, x1, x2, x3, x4, s =>
    if am_in (x3 + (2 : Int32)) 264 = true then
      am_bi (f_X8_throwsOf (am_I s 56 ((x3 + (2 : Int32)).toNatClampNeg)) s) (fun v15 s14 =>
        if v15 ≤ x4 then
          some (.inr ((), s14))
        else
          if am_in (x3 + (1 : Int32)) 264 = true then
            if am_in (x3 + (2 : Int32)) 264 = true then
              am_bi (f_X8_throwAt (am_I s14 56 ((x3 + (2 : Int32)).toNatClampNeg)) x4 s14) (fun v20 s19 =>
                if am_in v20 264 = true then
                  if am_in (x3 + (2 : Int32)) 264 = true then
                    am_bi (f_X8_throwAt (am_I s19 56 ((x3 + (2 : Int32)).toNatClampNeg)) x4 s19) (fun v24 s23 =>
                      if am_in (v24 + (1 : Int32)) 264 = true then
                        am_bi (f_X8_far (am_I s14 56 ((x3 + (1 : Int32)).toNatClampNeg)) (am_I s19 56 v20.toNatClampNeg) (am_I s23 56 ((v24 + (1 : Int32)).toNatClampNeg)) (0 : Int32) s23) (fun v27 s26 =>
                          if am_in (((4 : Int32) * x2) + x4) 16 = true then
                            L_X8_wins_86 m x1 x2 x3 (x4 + (1 : Int32)) (am_sI s26 67 ((((4 : Int32) * x2) + x4).toNatClampNeg) v27)
                          else none
                        )
                      else none
                    )
                  else none
                else none
              )
            else none
          else none
      )
    else none
theorem q_X8_wins_86 : ∀ (m : Nat) {N n : Nat} {d : Nat} {x1 : Int32} {x2 : Int32} {x3 : Int32} {x4 : Int32} {s : am_S} {P : (am_O × am_S) ⊕ (Unit × am_S) → Prop} {Q : am_O → am_S → Prop} (h : am_sh N n s)  (k : am_ok (L_X8_wins_86 m x1 x2 x3 x4 s) P) (hP : ∀ o s, P (.inl (o, s)) → am_sh N n s → Q o s) (hX : ∀ (e : Unit) s, P (.inr (e, s)) → am_sh N n s → am_WP (d + 8) mX8_wins 173 [(0, .ref 55), (1, .int x1), (2, .int x2)] [] s Q), am_WP (d + 8) mX8_wins 86 [(0, .ref 55), (1, .int x1), (2, .int x2), (3, .int x3), (4, .int x4)] [] s Q := by
  intro m
  induction m with
  | zero =>
    intro N n d x1 x2 x3 x4 s P Q h  k hP hX
    exact (ok_no k).elim
  | succ m ih =>
    intro N n d x1 x2 x3 x4 s P Q h  k hP hX
    unfold L_X8_wins_86 at k
    refine wp_ld (v := .int x4) dX8_wins_86 rfl rfl rfl rfl ?_
    refine wp_ld (v := .ref 55) dX8_wins_88 rfl rfl rfl rfl ?_
    refine wp_ld (v := .ref 55) dX8_wins_89 rfl rfl rfl rfl ?_
    refine wp_gr dX8_wins_90 rfl rfl (kk_55 h) (rr_55_0 h) ?_
    refine wp_ld (v := .int x3) dX8_wins_93 rfl rfl rfl rfl ?_
    refine wp_cst (v := .int (2 : Int32)) dX8_wins_94 rfl rfl ?_
    refine wp_pu dX8_wins_95 rfl rfl ?_
    obtain ⟨g13, k⟩ := ok_g k
    refine wq_iald dX8_wins_96 (kk_56 h) g13 (v := (am_I s 56 ((x3 + (2 : Int32)).toNatClampNeg))) rfl ?_
    refine c_i dX8_wins_97 rfl rfl rfl (am_inv_v rfl (kk_55 h) rfl rfl rfl) (s_X8_throwsOf h) k (fun v15 s14 h k => ?_)
    refine wp_ic_ge dX8_wins_100 rfl (fun c16 => have k := ok_pos c16 k; ?_) (fun c16 => have k := ok_neg c16 k; ?_)
    · exact wp_sub (hX _ _ (ok_s k) h) rfl ⟨rfl, rfl, rfl, trivial⟩
    · refine wp_ld (v := .ref 55) dX8_wins_103 rfl rfl rfl rfl ?_
      refine wp_gr dX8_wins_104 rfl rfl (kk_55 h) (rr_55_50 h) ?_
      refine wp_cst (v := .int (4 : Int32)) dX8_wins_107 rfl rfl ?_
      refine wp_ld (v := .int x2) dX8_wins_108 rfl rfl rfl rfl ?_
      refine wp_pu dX8_wins_109 rfl rfl ?_
      refine wp_ld (v := .int x4) dX8_wins_110 rfl rfl rfl rfl ?_
      refine wp_pu dX8_wins_112 rfl rfl ?_
      refine wp_ld (v := .ref 55) dX8_wins_113 rfl rfl rfl rfl ?_
      refine wp_ld (v := .ref 55) dX8_wins_114 rfl rfl rfl rfl ?_
      refine wp_gr dX8_wins_115 rfl rfl (kk_55 h) (rr_55_0 h) ?_
      refine wp_ld (v := .int x3) dX8_wins_118 rfl rfl rfl rfl ?_
      show am_WP (d + 8) mX8_wins 119 _ _ _ Q
      refine wp_cst (v := .int (1 : Int32)) dX8_wins_119 rfl rfl ?_
      refine wp_pu dX8_wins_120 rfl rfl ?_
      obtain ⟨g17, k⟩ := ok_g k
      refine wq_iald dX8_wins_121 (kk_56 h) g17 (v := (am_I s14 56 ((x3 + (1 : Int32)).toNatClampNeg))) rfl ?_
      refine wp_ld (v := .ref 55) dX8_wins_122 rfl rfl rfl rfl ?_
      refine wp_gr dX8_wins_123 rfl rfl (kk_55 h) (rr_55_0 h) ?_
      refine wp_ld (v := .ref 55) dX8_wins_126 rfl rfl rfl rfl ?_
      refine wp_ld (v := .ref 55) dX8_wins_127 rfl rfl rfl rfl ?_
      refine wp_gr dX8_wins_128 rfl rfl (kk_55 h) (rr_55_0 h) ?_
      refine wp_ld (v := .int x3) dX8_wins_131 rfl rfl rfl rfl ?_
      refine wp_cst (v := .int (2 : Int32)) dX8_wins_132 rfl rfl ?_
      refine wp_pu dX8_wins_133 rfl rfl ?_
      obtain ⟨g18, k⟩ := ok_g k
      refine wq_iald dX8_wins_134 (kk_56 h) g18 (v := (am_I s14 56 ((x3 + (2 : Int32)).toNatClampNeg))) rfl ?_
      show am_WP (d + 8) mX8_wins 135 _ _ _ Q
      refine wp_ld (v := .int x4) dX8_wins_135 rfl rfl rfl rfl ?_
      refine c_i dX8_wins_137 rfl rfl rfl (am_inv_v rfl (kk_55 h) rfl rfl rfl) (s_X8_throwAt h) k (fun v20 s19 h k => ?_)
      obtain ⟨g21, k⟩ := ok_g k
      refine wq_iald dX8_wins_140 (kk_56 h) g21 (v := (am_I s19 56 v20.toNatClampNeg)) rfl ?_
      refine wp_ld (v := .ref 55) dX8_wins_141 rfl rfl rfl rfl ?_
      refine wp_gr dX8_wins_142 rfl rfl (kk_55 h) (rr_55_0 h) ?_
      refine wp_ld (v := .ref 55) dX8_wins_145 rfl rfl rfl rfl ?_
      refine wp_ld (v := .ref 55) dX8_wins_146 rfl rfl rfl rfl ?_
      refine wp_gr dX8_wins_147 rfl rfl (kk_55 h) (rr_55_0 h) ?_
      refine wp_ld (v := .int x3) dX8_wins_150 rfl rfl rfl rfl ?_
      refine wp_cst (v := .int (2 : Int32)) dX8_wins_151 rfl rfl ?_
      refine wp_pu dX8_wins_152 rfl rfl ?_
      obtain ⟨g22, k⟩ := ok_g k
      refine wq_iald dX8_wins_153 (kk_56 h) g22 (v := (am_I s19 56 ((x3 + (2 : Int32)).toNatClampNeg))) rfl ?_
      refine wp_ld (v := .int x4) dX8_wins_154 rfl rfl rfl rfl ?_
      show am_WP (d + 8) mX8_wins 156 _ _ _ Q
      refine c_i dX8_wins_156 rfl rfl rfl (am_inv_v rfl (kk_55 h) rfl rfl rfl) (s_X8_throwAt h) k (fun v24 s23 h k => ?_)
      refine wp_cst (v := .int (1 : Int32)) dX8_wins_159 rfl rfl ?_
      refine wp_pu dX8_wins_160 rfl rfl ?_
      obtain ⟨g25, k⟩ := ok_g k
      refine wq_iald dX8_wins_161 (kk_56 h) g25 (v := (am_I s23 56 ((v24 + (1 : Int32)).toNatClampNeg))) rfl ?_
      refine wp_cst (v := .int (0 : Int32)) dX8_wins_162 rfl rfl ?_
      refine c_i dX8_wins_163 rfl rfl rfl (am_inv_v rfl (kk_55 h) rfl rfl rfl) (s_X8_far h) k (fun v27 s26 h k => ?_)
      obtain ⟨g28, k⟩ := ok_g k
      refine wq_iast dX8_wins_166 (kk_67 h) g28 (j := ((((4 : Int32) * x2) + x4).toNatClampNeg)) rfl ?_
      refine wp_inc (v := (x4 + (1 : Int32))) (ls' := [(0, .ref 55), (1, .int x1), (2, .int x2), (3, .int x3), (4, .int (x4 + (1 : Int32)))]) dX8_wins_167 rfl (Nat.le_of_ble_eq_true rfl) rfl rfl ?_
      refine wp_goto dX8_wins_170 rfl ?_
      exact wp_sub (ih (sh_sI h) k hP hX) rfl ⟨rfl, rfl, rfl, rfl, rfl, trivial⟩
noncomputable def L_X8_wins_33 : Nat → Int32 → Int32 → am_S → am_FE (Unit)
  | 0, _, _, _ => none
  | m + 1, x1, x2, s =>
    if (am_I s 56 6) ≤ x2 then
      some (.inr ((), s))
    else
      if am_in ((252 : Int32) + ((3 : Int32) * x2)) 264 = true then
        am_bi (f_X8_makes (am_I s 56 (((252 : Int32) + ((3 : Int32) * x2)).toNatClampNeg)) s) (fun v7 s6 =>
          if v7 = (-1 : Int32) then
            if am_in (((252 : Int32) + ((3 : Int32) * x2)) + (2 : Int32)) 264 = true then
              am_bi (f_X8_throwsOf (am_I s6 56 ((((252 : Int32) + ((3 : Int32) * x2)) + (2 : Int32)).toNatClampNeg)) s6) (fun v11 s10 =>
                if v11 = 0 then
                  some (.inl (.inl (some (.long (0 : Int64))), s10))
                else
                  am_ll (L_X8_wins_86 ax_fuel x1 x2 ((252 : Int32) + ((3 : Int32) * x2)) (0 : Int32) s10) (fun e29 s30 =>
                    L_X8_wins_33 m x1 (x2 + (1 : Int32)) s30
                  )
              )
            else none
          else
            some (.inl (.inl (some (.long (0 : Int64))), s6))
        )
      else none
theorem q_X8_wins_33 : ∀ (m : Nat) {N n : Nat} {d : Nat} {x1 : Int32} {x2 : Int32} {s : am_S} {P : (am_O × am_S) ⊕ (Unit × am_S) → Prop} {Q : am_O → am_S → Prop} (h : am_sh N n s)  (k : am_ok (L_X8_wins_33 m x1 x2 s) P) (hP : ∀ o s, P (.inl (o, s)) → am_sh N n s → Q o s) (hX : ∀ (e : Unit) s, P (.inr (e, s)) → am_sh N n s → am_WP (d + 8) mX8_wins 179 [(0, .ref 55), (1, .int x1)] [] s Q), am_WP (d + 8) mX8_wins 33 [(0, .ref 55), (1, .int x1), (2, .int x2)] [] s Q := by
  intro m
  induction m with
  | zero =>
    intro N n d x1 x2 s P Q h  k hP hX
    exact (ok_no k).elim
  | succ m ih =>
    intro N n d x1 x2 s P Q h  k hP hX
    unfold L_X8_wins_33 at k
    refine wp_ld (v := .int x2) dX8_wins_33 rfl rfl rfl rfl ?_
    refine wp_ld (v := .ref 55) dX8_wins_34 rfl rfl rfl rfl ?_
    refine wp_gr dX8_wins_35 rfl rfl (kk_55 h) (rr_55_0 h) ?_
    refine wp_cst (v := .int (6 : Int32)) dX8_wins_38 rfl rfl ?_
    refine wq_iald dX8_wins_40 (kk_56 h) (by decide) (v := (am_I s 56 6)) rfl ?_
    refine wp_ic_ge dX8_wins_41 rfl (fun c4 => have k := ok_pos c4 k; ?_) (fun c4 => have k := ok_neg c4 k; ?_)
    · exact wp_sub (hX _ _ (ok_s k) h) rfl ⟨rfl, rfl, trivial⟩
    · refine wp_cst (v := .int (252 : Int32)) dX8_wins_44 rfl rfl ?_
      refine wp_cst (v := .int (3 : Int32)) dX8_wins_47 rfl rfl ?_
      refine wp_ld (v := .int x2) dX8_wins_48 rfl rfl rfl rfl ?_
      refine wp_pu dX8_wins_49 rfl rfl ?_
      refine wp_pu dX8_wins_50 rfl rfl ?_
      refine wp_st (ls' := [(0, .ref 55), (1, .int x1), (2, .int x2), (3, .int ((252 : Int32) + ((3 : Int32) * x2)))]) dX8_wins_51 rfl rfl rfl (Nat.le_of_ble_eq_true rfl) rfl ?_
      refine wp_ld (v := .ref 55) dX8_wins_52 rfl rfl rfl rfl ?_
      refine wp_ld (v := .ref 55) dX8_wins_53 rfl rfl rfl rfl ?_
      refine wp_gr dX8_wins_54 rfl rfl (kk_55 h) (rr_55_0 h) ?_
      refine wp_ld (v := .int ((252 : Int32) + ((3 : Int32) * x2))) dX8_wins_57 rfl rfl rfl rfl ?_
      obtain ⟨g5, k⟩ := ok_g k
      refine wq_iald dX8_wins_58 (kk_56 h) g5 (v := (am_I s 56 (((252 : Int32) + ((3 : Int32) * x2)).toNatClampNeg))) rfl ?_
      show am_WP (d + 8) mX8_wins 59 _ _ _ Q
      refine c_i dX8_wins_59 rfl rfl rfl (am_inv_v rfl (kk_55 h) rfl rfl rfl) (s_X8_makes h) k (fun v7 s6 h k => ?_)
      refine wp_cst (v := .int (-1 : Int32)) dX8_wins_62 rfl rfl ?_
      refine wp_ic_ne dX8_wins_63 rfl (fun c8 => have k := ok_neg c8 k; ?_) (fun c8 => have k := ok_pos c8 k; ?_)
      · refine wp_cst (v := .long (0 : Int64)) dX8_wins_81 rfl rfl ?_
        exact wp_end dX8_wins_82 rfl (am_end_l rfl) (hP _ _ (ok_s k) h)
      · refine wp_ld (v := .ref 55) dX8_wins_66 rfl rfl rfl rfl ?_
        refine wp_ld (v := .ref 55) dX8_wins_67 rfl rfl rfl rfl ?_
        refine wp_gr dX8_wins_68 rfl rfl (kk_55 h) (rr_55_0 h) ?_
        refine wp_ld (v := .int ((252 : Int32) + ((3 : Int32) * x2))) dX8_wins_71 rfl rfl rfl rfl ?_
        refine wp_cst (v := .int (2 : Int32)) dX8_wins_72 rfl rfl ?_
        refine wp_pu dX8_wins_73 rfl rfl ?_
        obtain ⟨g9, k⟩ := ok_g k
        refine wq_iald dX8_wins_74 (kk_56 h) g9 (v := (am_I s6 56 ((((252 : Int32) + ((3 : Int32) * x2)) + (2 : Int32)).toNatClampNeg))) rfl ?_
        refine c_i dX8_wins_75 rfl rfl rfl (am_inv_v rfl (kk_55 h) rfl rfl rfl) (s_X8_throwsOf h) k (fun v11 s10 h k => ?_)
        refine wp_if_ne dX8_wins_78 rfl (fun c12 => have k := ok_neg c12 k; ?_) (fun c12 => have k := ok_pos c12 k; ?_)
        · refine wp_cst (v := .int (0 : Int32)) dX8_wins_83 rfl rfl ?_
          refine wp_st (ls' := [(0, .ref 55), (1, .int x1), (2, .int x2), (3, .int ((252 : Int32) + ((3 : Int32) * x2))), (4, .int (0 : Int32))]) dX8_wins_84 rfl rfl rfl (Nat.le_of_ble_eq_true rfl) rfl ?_
          refine lp_l k (fun P1 k hA hB => ?_)
          refine wp_sub (q_X8_wins_86 ax_fuel h k (fun o s p h => hP o s (hA o s p) h) (fun e29 s30 p h => have k := hB e29 s30 p; ?_)) rfl ⟨rfl, rfl, rfl, rfl, rfl, trivial⟩
          refine wp_inc (v := (x2 + (1 : Int32))) (ls' := [(0, .ref 55), (1, .int x1), (2, .int (x2 + (1 : Int32)))]) dX8_wins_173 rfl (Nat.le_of_ble_eq_true rfl) rfl rfl ?_
          refine wp_goto dX8_wins_176 rfl ?_
          exact wp_sub (ih h k hP hX) rfl ⟨rfl, rfl, rfl, trivial⟩
        · refine wp_cst (v := .long (0 : Int64)) dX8_wins_81 rfl rfl ?_
          exact wp_end dX8_wins_82 rfl (am_end_l rfl) (hP _ _ (ok_s k) h)
noncomputable def L_X8_wins_232 : Nat → Int32 → Int64 → Int32 → Int32 → Int64 → Int32 → am_S → am_FE (Int64)
  | 0, _, _, _, _, _, _, _ => none
  | m + 1, x1, x2, x4, x5, x6, x8, s =>
    if (am_I s 56 6) ≤ x8 then
      some (.inr (x6, s))
    else
      if x8 = x1 then
        L_X8_wins_232 m x1 x2 x4 x5 x6 (x8 + (1 : Int32)) s
      else
        if am_in (((4 : Int32) * x1) + x5) 16 = true then
          am_bl (f_X8_lessFar x8 (am_I s 67 ((((4 : Int32) * x1) + x5).toNatClampNeg)) s) (fun v45 s44 =>
            L_X8_wins_232 m x1 x2 x4 x5 (x6 * v45) (x8 + (1 : Int32)) s44
          )
        else none
theorem q_X8_wins_232 : ∀ (m : Nat) {N n : Nat} {d : Nat} {x1 : Int32} {x2 : Int64} {x4 : Int32} {x5 : Int32} {x6 : Int64} {x8 : Int32} {s : am_S} {P : (am_O × am_S) ⊕ (Int64 × am_S) → Prop} {Q : am_O → am_S → Prop} (h : am_sh N n s)  (k : am_ok (L_X8_wins_232 m x1 x2 x4 x5 x6 x8 s) P) (hP : ∀ o s, P (.inl (o, s)) → am_sh N n s → Q o s) (hX : ∀ (e : Int64) s, P (.inr (e, s)) → am_sh N n s → am_WP (d + 8) mX8_wins 278 [(0, .ref 55), (1, .int x1), (2, .long x2), (4, .int x4), (5, .int x5), (6, .long e)] [] s Q), am_WP (d + 8) mX8_wins 232 [(0, .ref 55), (1, .int x1), (2, .long x2), (4, .int x4), (5, .int x5), (6, .long x6), (8, .int x8)] [] s Q := by
  intro m
  induction m with
  | zero =>
    intro N n d x1 x2 x4 x5 x6 x8 s P Q h  k hP hX
    exact (ok_no k).elim
  | succ m ih =>
    intro N n d x1 x2 x4 x5 x6 x8 s P Q h  k hP hX
    unfold L_X8_wins_232 at k
    refine wp_ld (v := .int x8) dX8_wins_232 rfl rfl rfl rfl ?_
    refine wp_ld (v := .ref 55) dX8_wins_234 rfl rfl rfl rfl ?_
    refine wp_gr dX8_wins_235 rfl rfl (kk_55 h) (rr_55_0 h) ?_
    refine wp_cst (v := .int (6 : Int32)) dX8_wins_238 rfl rfl ?_
    refine wq_iald dX8_wins_240 (kk_56 h) (by decide) (v := (am_I s 56 6)) rfl ?_
    refine wp_ic_ge dX8_wins_241 rfl (fun c41 => have k := ok_pos c41 k; ?_) (fun c41 => have k := ok_neg c41 k; ?_)
    · exact wp_sub (hX _ _ (ok_s k) h) rfl ⟨rfl, rfl, rfl, rfl, rfl, rfl, trivial⟩
    · refine wp_ld (v := .int x8) dX8_wins_244 rfl rfl rfl rfl ?_
      refine wp_ld (v := .int x1) dX8_wins_246 rfl rfl rfl rfl ?_
      refine wp_ic_eq dX8_wins_247 rfl (fun c42 => have k := ok_pos c42 k; ?_) (fun c42 => have k := ok_neg c42 k; ?_)
      · refine wp_inc (v := (x8 + (1 : Int32))) (ls' := [(0, .ref 55), (1, .int x1), (2, .long x2), (4, .int x4), (5, .int x5), (6, .long x6), (8, .int (x8 + (1 : Int32)))]) dX8_wins_272 rfl (Nat.le_of_ble_eq_true rfl) rfl rfl ?_
        refine wp_goto dX8_wins_275 rfl ?_
        exact wp_sub (ih h k hP hX) rfl ⟨rfl, rfl, rfl, rfl, rfl, rfl, rfl, trivial⟩
      · refine wp_ld (v := .long x6) dX8_wins_250 rfl rfl rfl rfl ?_
        refine wp_ld (v := .ref 55) dX8_wins_252 rfl rfl rfl rfl ?_
        refine wp_ld (v := .int x8) dX8_wins_253 rfl rfl rfl rfl ?_
        refine wp_ld (v := .ref 55) dX8_wins_255 rfl rfl rfl rfl ?_
        refine wp_gr dX8_wins_256 rfl rfl (kk_55 h) (rr_55_50 h) ?_
        refine wp_cst (v := .int (4 : Int32)) dX8_wins_259 rfl rfl ?_
        refine wp_ld (v := .int x1) dX8_wins_260 rfl rfl rfl rfl ?_
        refine wp_pu dX8_wins_261 rfl rfl ?_
        refine wp_ld (v := .int x5) dX8_wins_262 rfl rfl rfl rfl ?_
        refine wp_pu dX8_wins_264 rfl rfl ?_
        obtain ⟨g43, k⟩ := ok_g k
        refine wq_iald dX8_wins_265 (kk_67 h) g43 (v := (am_I s 67 ((((4 : Int32) * x1) + x5).toNatClampNeg))) rfl ?_
        show am_WP (d + 8) mX8_wins 266 _ _ _ Q
        refine c_l dX8_wins_266 rfl rfl rfl (am_inv_v rfl (kk_55 h) rfl rfl rfl) (s_X8_lessFar h) k (fun v45 s44 h k => ?_)
        refine wp_pu dX8_wins_269 rfl rfl ?_
        refine wp_st (ls' := [(0, .ref 55), (1, .int x1), (2, .long x2), (4, .int x4), (5, .int x5), (6, .long (x6 * v45)), (8, .int x8)]) dX8_wins_270 rfl rfl rfl (Nat.le_of_ble_eq_true rfl) rfl ?_
        refine wp_inc (v := (x8 + (1 : Int32))) (ls' := [(0, .ref 55), (1, .int x1), (2, .long x2), (4, .int x4), (5, .int x5), (6, .long (x6 * v45)), (8, .int (x8 + (1 : Int32)))]) dX8_wins_272 rfl (Nat.le_of_ble_eq_true rfl) rfl rfl ?_
        refine wp_goto dX8_wins_275 rfl ?_
        exact wp_sub (ih h k hP hX) rfl ⟨rfl, rfl, rfl, rfl, rfl, rfl, rfl, trivial⟩
noncomputable def L_X8_wins_200 : Nat → Int32 → Int64 → Int32 → Int32 → am_S → am_FE (Int64)
  | 0, _, _, _, _, _ => none
  | m + 1, x1, x2, x4, x5, s =>
    am_bi (f_X8_throwsOf x4 s) (fun v36 s35 =>
      if v36 ≤ x5 then
        some (.inr (x2, s35))
      else
        am_bi (f_X8_throwAt x4 x5 s35) (fun v39 s38 =>
          if am_in (v39 + (2 : Int32)) 264 = true then
            am_ll (L_X8_wins_232 ax_fuel x1 x2 x4 x5 ((am_I s38 56 ((v39 + (2 : Int32)).toNatClampNeg)).toInt64) (0 : Int32) s38) (fun e46 s47 =>
              L_X8_wins_200 m x1 (x2 + e46) x4 (x5 + (1 : Int32)) s47
            )
          else none
        )
    )
theorem q_X8_wins_200 : ∀ (m : Nat) {N n : Nat} {d : Nat} {x1 : Int32} {x2 : Int64} {x4 : Int32} {x5 : Int32} {s : am_S} {P : (am_O × am_S) ⊕ (Int64 × am_S) → Prop} {Q : am_O → am_S → Prop} (h : am_sh N n s)  (k : am_ok (L_X8_wins_200 m x1 x2 x4 x5 s) P) (hP : ∀ o s, P (.inl (o, s)) → am_sh N n s → Q o s) (hX : ∀ (e : Int64) s, P (.inr (e, s)) → am_sh N n s → am_WP (d + 8) mX8_wins 289 [(2, .long e)] [] s Q), am_WP (d + 8) mX8_wins 200 [(0, .ref 55), (1, .int x1), (2, .long x2), (4, .int x4), (5, .int x5)] [] s Q := by
  intro m
  induction m with
  | zero =>
    intro N n d x1 x2 x4 x5 s P Q h  k hP hX
    exact (ok_no k).elim
  | succ m ih =>
    intro N n d x1 x2 x4 x5 s P Q h  k hP hX
    unfold L_X8_wins_200 at k
    refine wp_ld (v := .int x5) dX8_wins_200 rfl rfl rfl rfl ?_
    refine wp_ld (v := .ref 55) dX8_wins_202 rfl rfl rfl rfl ?_
    refine wp_ld (v := .int x4) dX8_wins_203 rfl rfl rfl rfl ?_
    refine c_i dX8_wins_205 rfl rfl rfl (am_inv_v rfl (kk_55 h) rfl rfl rfl) (s_X8_throwsOf h) k (fun v36 s35 h k => ?_)
    refine wp_ic_ge dX8_wins_208 rfl (fun c37 => have k := ok_pos c37 k; ?_) (fun c37 => have k := ok_neg c37 k; ?_)
    · exact wp_sub (hX _ _ (ok_s k) h) rfl ⟨rfl, trivial⟩
    · refine wp_ld (v := .ref 55) dX8_wins_211 rfl rfl rfl rfl ?_
      refine wp_gr dX8_wins_212 rfl rfl (kk_55 h) (rr_55_0 h) ?_
      refine wp_ld (v := .ref 55) dX8_wins_215 rfl rfl rfl rfl ?_
      refine wp_ld (v := .int x4) dX8_wins_216 rfl rfl rfl rfl ?_
      refine wp_ld (v := .int x5) dX8_wins_218 rfl rfl rfl rfl ?_
      refine c_i dX8_wins_220 rfl rfl rfl (am_inv_v rfl (kk_55 h) rfl rfl rfl) (s_X8_throwAt h) k (fun v39 s38 h k => ?_)
      refine wp_cst (v := .int (2 : Int32)) dX8_wins_223 rfl rfl ?_
      refine wp_pu dX8_wins_224 rfl rfl ?_
      obtain ⟨g40, k⟩ := ok_g k
      refine wq_iald dX8_wins_225 (kk_56 h) g40 (v := (am_I s38 56 ((v39 + (2 : Int32)).toNatClampNeg))) rfl ?_
      refine wp_pu dX8_wins_226 rfl rfl ?_
      refine wp_st (ls' := [(0, .ref 55), (1, .int x1), (2, .long x2), (4, .int x4), (5, .int x5), (6, .long (am_I s38 56 ((v39 + (2 : Int32)).toNatClampNeg)).toInt64)]) dX8_wins_227 rfl rfl rfl (Nat.le_of_ble_eq_true rfl) rfl ?_
      refine wp_cst (v := .int (0 : Int32)) dX8_wins_229 rfl rfl ?_
      refine wp_st (ls' := [(0, .ref 55), (1, .int x1), (2, .long x2), (4, .int x4), (5, .int x5), (6, .long (am_I s38 56 ((v39 + (2 : Int32)).toNatClampNeg)).toInt64), (8, .int (0 : Int32))]) dX8_wins_230 rfl rfl rfl (Nat.le_of_ble_eq_true rfl) rfl ?_
      refine lp_l k (fun P1 k hA hB => ?_)
      refine wp_sub (q_X8_wins_232 ax_fuel h k (fun o s p h => hP o s (hA o s p) h) (fun e46 s47 p h => have k := hB e46 s47 p; ?_)) rfl ⟨rfl, rfl, rfl, rfl, rfl, rfl, rfl, trivial⟩
      refine wp_ld (v := .long x2) dX8_wins_278 rfl rfl rfl rfl ?_
      refine wp_ld (v := .long e46) dX8_wins_279 rfl rfl rfl rfl ?_
      refine wp_pu dX8_wins_281 rfl rfl ?_
      refine wp_st (ls' := [(0, .ref 55), (1, .int x1), (2, .long (x2 + e46)), (4, .int x4), (5, .int x5), (6, .long e46)]) dX8_wins_282 rfl rfl rfl (Nat.le_of_ble_eq_true rfl) rfl ?_
      refine wp_inc (v := (x5 + (1 : Int32))) (ls' := [(0, .ref 55), (1, .int x1), (2, .long (x2 + e46)), (4, .int x4), (5, .int (x5 + (1 : Int32))), (6, .long e46)]) dX8_wins_283 rfl (Nat.le_of_ble_eq_true rfl) rfl rfl ?_
      refine wp_goto dX8_wins_286 rfl ?_
      exact wp_sub (ih h k hP hX) rfl ⟨rfl, rfl, rfl, rfl, rfl, trivial⟩
noncomputable def f_X8_wins (x1 : Int32) (s : am_S) : am_F :=
  am_bi (f_X8_within x1.toInt64 (0 : Int64) (((am_I s 56 6) - (1 : Int32)).toInt64) (am_sI s 55 3 (0 : Int32))) (fun v2 s1 =>
    if v2 = 0 then
      am_bi (f_X8_fails (1 : Int32) s1) (fun v51 s50 =>
        some (.inl (some (.long v51.toInt64)), s50)
      )
    else
      am_lm (L_X8_wins_33 ax_fuel x1 (0 : Int32) s1) (fun e31 s32 =>
        if am_in (((252 : Int32) + ((3 : Int32) * x1)) + (2 : Int32)) 264 = true then
          ax_le (am_I s32 56 ((((252 : Int32) + ((3 : Int32) * x1)) + (2 : Int32)).toNatClampNeg)) (fun y34 =>
            am_lm (L_X8_wins_200 ax_fuel x1 (0 : Int64) y34 (0 : Int32) s32) (fun e48 s49 =>
              some (.inl (some (.long e48)), s49)
            )
          )
        else none
      )
  )
theorem s_X8_wins {N n : Nat} {d : Nat} {x1 : Int32} {s : am_S} (h : am_sh N n s)  : am_S1 (am_sh N n) (d + 8) mX8_wins [.ref 55, .int x1] s (f_X8_wins x1 s) := by
  intro P Q k hP
  show am_WP (d + 8) mX8_wins 0 [(0, .ref 55), (1, .int x1)] [] s Q
  unfold f_X8_wins at k
  refine wp_ld (v := .ref 55) dX8_wins_0 rfl rfl rfl rfl ?_
  refine wp_cst (v := .int (0 : Int32)) dX8_wins_1 rfl rfl ?_
  refine wp_pI dX8_wins_2 rfl rfl rfl (fun h => absurd h (by decide)) (kk_55 h) ?_
  refine wp_ld (v := .int x1) dX8_wins_5 rfl rfl rfl rfl ?_
  refine wp_pu dX8_wins_6 rfl rfl ?_
  refine wp_cst (v := .long (0 : Int64)) dX8_wins_7 rfl rfl ?_
  refine wp_ld (v := .ref 55) dX8_wins_8 rfl rfl rfl rfl ?_
  refine wp_gr dX8_wins_9 rfl rfl (kk_55 (sh_sI h)) (rr_55_0 (sh_sI h)) ?_
  refine wp_cst (v := .int (6 : Int32)) dX8_wins_12 rfl rfl ?_
  refine wq_iald dX8_wins_14 (kk_56 (sh_sI h)) (by decide) (v := (am_I s 56 6)) rfl ?_
  refine wp_cst (v := .int (1 : Int32)) dX8_wins_15 rfl rfl ?_
  show am_WP (d + 8) mX8_wins 16 _ _ _ Q
  refine wp_pu dX8_wins_16 rfl rfl ?_
  refine wp_pu dX8_wins_17 rfl rfl ?_
  refine c_i dX8_wins_18 rfl rfl rfl (am_inv_s rfl rfl rfl rfl) (s_X8_within (sh_sI h)) k (fun v2 s1 h k => ?_)
  refine wp_if_ne dX8_wins_21 rfl (fun c3 => have k := ok_neg c3 k; ?_) (fun c3 => have k := ok_pos c3 k; ?_)
  · refine wp_cst (v := .int (0 : Int32)) dX8_wins_31 rfl rfl ?_
    refine wp_st (ls' := [(0, .ref 55), (1, .int x1), (2, .int (0 : Int32))]) dX8_wins_32 rfl rfl rfl (Nat.le_of_ble_eq_true rfl) rfl ?_
    refine lp_m k (fun P1 k hA hB => ?_)
    refine wp_sub (q_X8_wins_33 ax_fuel h k (fun o s p h => hP o s (hA o s p) h) (fun e31 s32 p h => have k := hB e31 s32 p; ?_)) rfl ⟨rfl, rfl, rfl, trivial⟩
    refine wp_cst (v := .long (0 : Int64)) dX8_wins_179 rfl rfl ?_
    refine wp_st (ls' := [(0, .ref 55), (1, .int x1), (2, .long (0 : Int64))]) dX8_wins_180 rfl rfl rfl (Nat.le_of_ble_eq_true rfl) rfl ?_
    refine wp_ld (v := .ref 55) dX8_wins_181 rfl rfl rfl rfl ?_
    refine wp_gr dX8_wins_182 rfl rfl (kk_55 h) (rr_55_0 h) ?_
    refine wp_cst (v := .int (252 : Int32)) dX8_wins_185 rfl rfl ?_
    refine wp_cst (v := .int (3 : Int32)) dX8_wins_188 rfl rfl ?_
    refine wp_ld (v := .int x1) dX8_wins_189 rfl rfl rfl rfl ?_
    refine wp_pu dX8_wins_190 rfl rfl ?_
    refine wp_pu dX8_wins_191 rfl rfl ?_
    refine wp_cst (v := .int (2 : Int32)) dX8_wins_192 rfl rfl ?_
    refine wp_pu dX8_wins_193 rfl rfl ?_
    show am_WP (d + 8) mX8_wins 194 _ _ _ Q
    obtain ⟨g33, k⟩ := ok_g k
    refine wq_iald dX8_wins_194 (kk_56 h) g33 (v := (am_I s32 56 ((((252 : Int32) + ((3 : Int32) * x1)) + (2 : Int32)).toNatClampNeg))) rfl ?_
    refine ls_i k (fun y34 _ k => ?_)
    refine wp_st (ls' := [(0, .ref 55), (1, .int x1), (2, .long (0 : Int64)), (4, .int y34)]) dX8_wins_195 rfl rfl rfl (Nat.le_of_ble_eq_true rfl) rfl ?_
    refine wp_cst (v := .int (0 : Int32)) dX8_wins_197 rfl rfl ?_
    refine wp_st (ls' := [(0, .ref 55), (1, .int x1), (2, .long (0 : Int64)), (4, .int y34), (5, .int (0 : Int32))]) dX8_wins_198 rfl rfl rfl (Nat.le_of_ble_eq_true rfl) rfl ?_
    refine lp_m k (fun P1 k hA hB => ?_)
    refine wp_sub (q_X8_wins_200 ax_fuel h k (fun o s p h => hP o s (hA o s p) h) (fun e48 s49 p h => have k := hB e48 s49 p; ?_)) rfl ⟨rfl, rfl, rfl, rfl, rfl, trivial⟩
    refine wp_ld (v := .long e48) dX8_wins_289 rfl rfl rfl rfl ?_
    exact wp_end dX8_wins_290 rfl (am_end_l rfl) (hP _ _ (ok_s k) h)
  · refine wp_ld (v := .ref 55) dX8_wins_24 rfl rfl rfl rfl ?_
    refine wp_cst (v := .int (1 : Int32)) dX8_wins_25 rfl rfl ?_
    refine c_i dX8_wins_26 rfl rfl rfl (am_inv_v rfl (kk_55 h) rfl rfl rfl) (s_X8_fails h) k (fun v51 s50 h k => ?_)
    refine wp_pu dX8_wins_29 rfl rfl ?_
    exact wp_end dX8_wins_30 rfl (am_end_l rfl) (hP _ _ (ok_s k) h)
noncomputable def L_X8_hours_35 : Nat → Int32 → Int32 → Int32 → Int64 → Int32 → am_S → am_FE (Unit)
  | 0, _, _, _, _, _, _ => none
  | m + 1, x2, x3, x4, x5, x7, s =>
    if (18 : Int32) < x7 then
      some (.inr ((), s))
    else
      am_jn (fun (e9 : Int32) s10 =>
        am_bl (f_X8_reachOf e9 x3 x4 s10) (fun v12 s11 =>
          if x5 ≤ v12 then
            L_X8_hours_35 m x2 x3 x4 x5 (x7 + (1 : Int32)) s11
          else
            some (.inl (.inl (some (.int x7)), s11))
        )
      ) (fun J8 =>
        if 0 ≤ x2 then
          J8 (am_max (0 : Int32) ((am_abs x2) - (x7 / (2 : Int32)))) s
        else
          J8 (-(am_max (0 : Int32) ((am_abs x2) - (x7 / (2 : Int32))))) s
      )
theorem q_X8_hours_35 : ∀ (m : Nat) {N n : Nat} {d : Nat} {x2 : Int32} {x3 : Int32} {x4 : Int32} {x5 : Int64} {x7 : Int32} {s : am_S} {P : (am_O × am_S) ⊕ (Unit × am_S) → Prop} {Q : am_O → am_S → Prop} (h : am_sh N n s)  (k : am_ok (L_X8_hours_35 m x2 x3 x4 x5 x7 s) P) (hP : ∀ o s, P (.inl (o, s)) → am_sh N n s → Q o s) (hX : ∀ (e : Unit) s, P (.inr (e, s)) → am_sh N n s → am_WP (d + 9) mX8_hours 91 [] [] s Q), am_WP (d + 9) mX8_hours 35 [(0, .ref 55), (2, .int x2), (3, .int x3), (4, .int x4), (5, .long x5), (7, .int x7)] [] s Q := by
  intro m
  induction m with
  | zero =>
    intro N n d x2 x3 x4 x5 x7 s P Q h  k hP hX
    exact (ok_no k).elim
  | succ m ih =>
    intro N n d x2 x3 x4 x5 x7 s P Q h  k hP hX
    unfold L_X8_hours_35 at k
    refine wp_ld (v := .int x7) dX8_hours_35 rfl rfl rfl rfl ?_
    refine wp_cst (v := .int (18 : Int32)) dX8_hours_37 rfl rfl ?_
    refine wp_ic_gt dX8_hours_39 rfl (fun c7 => have k := ok_pos c7 k; ?_) (fun c7 => have k := ok_neg c7 k; ?_)
    · exact wp_sub (hX _ _ (ok_s k) h) rfl trivial
    · refine wp_cst (v := .int (0 : Int32)) dX8_hours_42 rfl rfl ?_
      refine wp_ld (v := .int x2) dX8_hours_43 rfl rfl rfl rfl ?_
      refine wp_mem (st' := .int (am_abs x2) :: [.int (0 : Int32)]) dX8_hours_44 rfl rfl rfl rfl ?_
      refine wp_ld (v := .int x7) dX8_hours_47 rfl rfl rfl rfl ?_
      refine wp_cst (v := .int (2 : Int32)) dX8_hours_49 rfl rfl ?_
      refine wp_div dX8_hours_50 (by decide) ?_
      refine wp_pu dX8_hours_51 rfl rfl ?_
      refine wp_mem (st' := .int (am_max (0 : Int32) ((am_abs x2) - (x7 / (2 : Int32)))) :: []) dX8_hours_52 rfl rfl rfl rfl ?_
      refine wp_st (ls' := [(0, .ref 55), (2, .int x2), (3, .int x3), (4, .int x4), (5, .long x5), (7, .int x7), (8, .int (am_max (0 : Int32) ((am_abs x2) - (x7 / (2 : Int32)))))]) dX8_hours_55 rfl rfl rfl (Nat.le_of_ble_eq_true rfl) rfl ?_
      refine wp_ld (v := .ref 55) dX8_hours_57 rfl rfl rfl rfl ?_
      refine wp_ld (v := .int x2) dX8_hours_58 rfl rfl rfl rfl ?_
      show am_WP (d + 9) mX8_hours 59 _ _ _ Q
      refine jn_rule k (fun J8 hJ8 k => ?_)
      have HJ8 : ∀ (e9 : Int32) (s10 : am_S), am_sh N n s10 → am_ok (J8 e9 s10) P → am_WP (d + 9) mX8_hours 70 [(0, .ref 55), (2, .int x2), (3, .int x3), (4, .int x4), (5, .long x5), (7, .int x7)] [.int e9, .ref 55] s10 Q := by
        intro e9 s10 h k
        replace k := hJ8 _ _ k
        refine wp_ld (v := .int x3) dX8_hours_70 rfl rfl rfl rfl ?_
        refine wp_ld (v := .int x4) dX8_hours_71 rfl rfl rfl rfl ?_
        refine c_l dX8_hours_73 rfl rfl rfl (am_inv_v rfl (kk_55 h) rfl rfl rfl) (s_X8_reachOf h) k (fun v12 s11 h k => ?_)
        refine wp_ld (v := .long x5) dX8_hours_76 rfl rfl rfl rfl ?_
        refine wl_ge dX8_hours_78 dX8_hours_79 rfl (fun c13 => have k := ok_pos c13 k; ?_) (fun c13 => have k := ok_neg c13 k; ?_)
        · refine wp_inc (v := (x7 + (1 : Int32))) (ls' := [(0, .ref 55), (2, .int x2), (3, .int x3), (4, .int x4), (5, .long x5), (7, .int (x7 + (1 : Int32)))]) dX8_hours_85 rfl (Nat.le_of_ble_eq_true rfl) rfl rfl ?_
          refine wp_goto dX8_hours_88 rfl ?_
          exact wp_sub (ih h k hP hX) rfl ⟨rfl, rfl, rfl, rfl, rfl, rfl, trivial⟩
        · refine wp_ld (v := .int x7) dX8_hours_82 rfl rfl rfl rfl ?_
          exact wp_end dX8_hours_84 rfl (am_end_i rfl) (hP _ _ (ok_s k) h)
      refine wp_if_ge dX8_hours_59 rfl (fun c14 => have k := ok_pos c14 k; ?_) (fun c14 => have k := ok_neg c14 k; ?_)
      · refine wp_ld (v := .int (am_max (0 : Int32) ((am_abs x2) - (x7 / (2 : Int32))))) dX8_hours_68 rfl rfl rfl rfl ?_
        exact wp_sub (HJ8 _ _ h k) rfl ⟨rfl, rfl, rfl, rfl, rfl, rfl, trivial⟩
      · refine wp_ld (v := .int (am_max (0 : Int32) ((am_abs x2) - (x7 / (2 : Int32))))) dX8_hours_62 rfl rfl rfl rfl ?_
        refine wp_pu dX8_hours_64 rfl rfl ?_
        refine wp_goto dX8_hours_65 rfl ?_
        exact wp_sub (HJ8 _ _ h k) rfl ⟨rfl, rfl, rfl, rfl, rfl, rfl, trivial⟩
noncomputable def f_X8_hours (x1 : Int32) (x2 : Int32) (x3 : Int32) (x4 : Int32) (x5 : Int64) (s : am_S) : am_F :=
  am_bi (f_X8_handFault x1 x3 s) (fun v2 s1 =>
    if v2 ≤ 0 then
      am_bi (f_X8_isEars x2 (am_sI s1 55 3 v2)) (fun v5 s4 =>
        if v5 = 0 then
          am_bi (f_X8_fails (3 : Int32) s4) (fun v18 s17 =>
            some (.inl (some (.int v18)), s17)
          )
        else
          am_lm (L_X8_hours_35 ax_fuel x2 x3 x4 x5 (0 : Int32) s4) (fun e15 s16 =>
            some (.inl (some (.int (-1 : Int32))), s16)
          )
      )
    else
      some (.inl (some (.int (0 : Int32))), (am_sI s1 55 3 v2))
  )
theorem s_X8_hours {N n : Nat} {d : Nat} {x1 : Int32} {x2 : Int32} {x3 : Int32} {x4 : Int32} {x5 : Int64} {s : am_S} (h : am_sh N n s)  : am_S1 (am_sh N n) (d + 9) mX8_hours [.ref 55, .int x1, .int x2, .int x3, .int x4, .long x5] s (f_X8_hours x1 x2 x3 x4 x5 s) := by
  intro P Q k hP
  show am_WP (d + 9) mX8_hours 0 [(0, .ref 55), (1, .int x1), (2, .int x2), (3, .int x3), (4, .int x4), (5, .long x5)] [] s Q
  unfold f_X8_hours at k
  refine wp_ld (v := .ref 55) dX8_hours_0 rfl rfl rfl rfl ?_
  refine wp_ld (v := .ref 55) dX8_hours_1 rfl rfl rfl rfl ?_
  refine wp_ld (v := .int x1) dX8_hours_2 rfl rfl rfl rfl ?_
  refine wp_ld (v := .int x3) dX8_hours_3 rfl rfl rfl rfl ?_
  refine c_i dX8_hours_4 rfl rfl rfl (am_inv_v rfl (kk_55 h) rfl rfl rfl) (s_X8_handFault h) k (fun v2 s1 h k => ?_)
  refine wp_pI dX8_hours_7 rfl rfl rfl (fun h => absurd h (by decide)) (kk_55 h) ?_
  refine wp_ld (v := .ref 55) dX8_hours_10 rfl rfl rfl rfl ?_
  refine wq_gI dX8_hours_11 rfl rfl (kk_55 (sh_sI h)) (v := v2) rfl ?_
  refine wp_if_le dX8_hours_14 rfl (fun c3 => have k := ok_pos c3 k; ?_) (fun c3 => have k := ok_neg c3 k; ?_)
  · refine wp_ld (v := .int x2) dX8_hours_19 rfl rfl rfl rfl ?_
    refine c_i dX8_hours_20 rfl rfl rfl (am_inv_s rfl rfl rfl rfl) (s_X8_isEars (sh_sI h)) k (fun v5 s4 h k => ?_)
    refine wp_if_ne dX8_hours_23 rfl (fun c6 => have k := ok_neg c6 k; ?_) (fun c6 => have k := ok_pos c6 k; ?_)
    · refine wp_cst (v := .int (0 : Int32)) dX8_hours_32 rfl rfl ?_
      refine wp_st (ls' := [(0, .ref 55), (1, .int x1), (2, .int x2), (3, .int x3), (4, .int x4), (5, .long x5), (7, .int (0 : Int32))]) dX8_hours_33 rfl rfl rfl (Nat.le_of_ble_eq_true rfl) rfl ?_
      refine lp_m k (fun P1 k hA hB => ?_)
      refine wp_sub (q_X8_hours_35 ax_fuel h k (fun o s p h => hP o s (hA o s p) h) (fun e15 s16 p h => have k := hB e15 s16 p; ?_)) rfl ⟨rfl, rfl, rfl, rfl, rfl, rfl, trivial⟩
      refine wp_cst (v := .int (-1 : Int32)) dX8_hours_91 rfl rfl ?_
      exact wp_end dX8_hours_92 rfl (am_end_i rfl) (hP _ _ (ok_s k) h)
    · refine wp_ld (v := .ref 55) dX8_hours_26 rfl rfl rfl rfl ?_
      refine wp_cst (v := .int (3 : Int32)) dX8_hours_27 rfl rfl ?_
      refine c_i dX8_hours_28 rfl rfl rfl (am_inv_v rfl (kk_55 h) rfl rfl rfl) (s_X8_fails h) k (fun v18 s17 h k => ?_)
      exact wp_end dX8_hours_31 rfl (am_end_i rfl) (hP _ _ (ok_s k) h)
  · refine wp_cst (v := .int (0 : Int32)) dX8_hours_17 rfl rfl ?_
    exact wp_end dX8_hours_18 rfl (am_end_i rfl) (hP _ _ (ok_s k) (sh_sI h))
noncomputable def L_X7_seen_33 : Nat → Int32 → Int32 → Int32 → Int32 → Int32 → Int32 → am_S → am_FE (Int32)
  | 0, _, _, _, _, _, _, _ => none
  | m + 1, x2, x3, x4, x5, x6, x7, s =>
    if (9 : Int32) < x7 then
      some (.inr (x6, s))
    else
      am_bu (f_X1_flyOut x7 x2 x3 s) (fun s14 =>
        if (am_I s14 41 4) = x4 then
          if (am_I s14 41 11) = x5 then
            L_X7_seen_33 m x2 x3 x4 x5 (x6 ||| ((1 : Int32) <<< ((x7 + (9 : Int32)) &&& 31))) (x7 + (1 : Int32)) s14
          else
            L_X7_seen_33 m x2 x3 x4 x5 x6 (x7 + (1 : Int32)) s14
        else
          L_X7_seen_33 m x2 x3 x4 x5 x6 (x7 + (1 : Int32)) s14
      )
theorem q_X7_seen_33 : ∀ (m : Nat) {N n : Nat} {d : Nat} {x2 : Int32} {x3 : Int32} {x4 : Int32} {x5 : Int32} {x6 : Int32} {x7 : Int32} {s : am_S} {P : (am_O × am_S) ⊕ (Int32 × am_S) → Prop} {Q : am_O → am_S → Prop} (h : am_sh N n s)  (k : am_ok (L_X7_seen_33 m x2 x3 x4 x5 x6 x7 s) P) (hP : ∀ o s, P (.inl (o, s)) → am_sh N n s → Q o s) (hX : ∀ (e : Int32) s, P (.inr (e, s)) → am_sh N n s → am_WP (d + 6) mX7_seen 93 [(6, .int e)] [] s Q), am_WP (d + 6) mX7_seen 33 [(0, .ref 0), (2, .int x2), (3, .int x3), (4, .int x4), (5, .int x5), (6, .int x6), (7, .int x7)] [] s Q := by
  intro m
  induction m with
  | zero =>
    intro N n d x2 x3 x4 x5 x6 x7 s P Q h  k hP hX
    exact (ok_no k).elim
  | succ m ih =>
    intro N n d x2 x3 x4 x5 x6 x7 s P Q h  k hP hX
    unfold L_X7_seen_33 at k
    refine wp_ld (v := .int x7) dX7_seen_33 rfl rfl rfl rfl ?_
    refine wp_cst (v := .int (9 : Int32)) dX7_seen_35 rfl rfl ?_
    refine wp_ic_gt dX7_seen_37 rfl (fun c13 => have k := ok_pos c13 k; ?_) (fun c13 => have k := ok_neg c13 k; ?_)
    · exact wp_sub (hX _ _ (ok_s k) h) rfl ⟨rfl, trivial⟩
    · refine wp_ld (v := .ref 0) dX7_seen_40 rfl rfl rfl rfl ?_
      refine wp_gr dX7_seen_41 rfl rfl (kk_0 h) (rr_0_6 h) ?_
      refine wp_ld (v := .int x7) dX7_seen_44 rfl rfl rfl rfl ?_
      refine wp_ld (v := .int x2) dX7_seen_46 rfl rfl rfl rfl ?_
      refine wp_ld (v := .int x3) dX7_seen_47 rfl rfl rfl rfl ?_
      refine c_u dX7_seen_48 rfl rfl rfl (am_inv_v rfl (kk_41 h) rfl rfl rfl) (s_X1_flyOut h) k (fun s14 h k => ?_)
      refine wp_ld (v := .ref 0) dX7_seen_51 rfl rfl rfl rfl ?_
      refine wp_gr dX7_seen_52 rfl rfl (kk_0 h) (rr_0_6 h) ?_
      refine wq_gI dX7_seen_55 rfl rfl (kk_41 h) (v := (am_I s14 41 4)) rfl ?_
      refine wp_ld (v := .int x4) dX7_seen_58 rfl rfl rfl rfl ?_
      refine wp_ic_ne dX7_seen_60 rfl (fun c16 => have k := ok_neg c16 k; ?_) (fun c16 => have k := ok_pos c16 k; ?_)
      · refine wp_inc (v := (x7 + (1 : Int32))) (ls' := [(0, .ref 0), (2, .int x2), (3, .int x3), (4, .int x4), (5, .int x5), (6, .int x6), (7, .int (x7 + (1 : Int32)))]) dX7_seen_87 rfl (Nat.le_of_ble_eq_true rfl) rfl rfl ?_
        refine wp_goto dX7_seen_90 rfl ?_
        exact wp_sub (ih h k hP hX) rfl ⟨rfl, rfl, rfl, rfl, rfl, rfl, rfl, trivial⟩
      · refine wp_ld (v := .ref 0) dX7_seen_63 rfl rfl rfl rfl ?_
        refine wp_gr dX7_seen_64 rfl rfl (kk_0 h) (rr_0_6 h) ?_
        refine wq_gI dX7_seen_67 rfl rfl (kk_41 h) (v := (am_I s14 41 11)) rfl ?_
        refine wp_ld (v := .int x5) dX7_seen_70 rfl rfl rfl rfl ?_
        refine wp_ic_ne dX7_seen_72 rfl (fun c17 => have k := ok_neg c17 k; ?_) (fun c17 => have k := ok_pos c17 k; ?_)
        · refine wp_inc (v := (x7 + (1 : Int32))) (ls' := [(0, .ref 0), (2, .int x2), (3, .int x3), (4, .int x4), (5, .int x5), (6, .int x6), (7, .int (x7 + (1 : Int32)))]) dX7_seen_87 rfl (Nat.le_of_ble_eq_true rfl) rfl rfl ?_
          refine wp_goto dX7_seen_90 rfl ?_
          exact wp_sub (ih h k hP hX) rfl ⟨rfl, rfl, rfl, rfl, rfl, rfl, rfl, trivial⟩
        · refine wp_ld (v := .int x6) dX7_seen_75 rfl rfl rfl rfl ?_
          refine wp_cst (v := .int (1 : Int32)) dX7_seen_77 rfl rfl ?_
          refine wp_ld (v := .int x7) dX7_seen_78 rfl rfl rfl rfl ?_
          refine wp_cst (v := .int (9 : Int32)) dX7_seen_80 rfl rfl ?_
          refine wp_pu dX7_seen_82 rfl rfl ?_
          refine wp_pu dX7_seen_83 rfl rfl ?_
          refine wp_pu dX7_seen_84 rfl rfl ?_
          refine wp_st (ls' := [(0, .ref 0), (2, .int x2), (3, .int x3), (4, .int x4), (5, .int x5), (6, .int (x6 ||| ((1 : Int32) <<< ((x7 + (9 : Int32)) &&& 31)))), (7, .int x7)]) dX7_seen_85 rfl rfl rfl (Nat.le_of_ble_eq_true rfl) rfl ?_
          refine wp_inc (v := (x7 + (1 : Int32))) (ls' := [(0, .ref 0), (2, .int x2), (3, .int x3), (4, .int x4), (5, .int x5), (6, .int (x6 ||| ((1 : Int32) <<< ((x7 + (9 : Int32)) &&& 31)))), (7, .int (x7 + (1 : Int32)))]) dX7_seen_87 rfl (Nat.le_of_ble_eq_true rfl) rfl rfl ?_
          refine wp_goto dX7_seen_90 rfl ?_
          exact wp_sub (ih h k hP hX) rfl ⟨rfl, rfl, rfl, rfl, rfl, rfl, rfl, trivial⟩
noncomputable def f_X7_seen (x1 : Int32) (x2 : Int32) (x3 : Int32) (x4 : Int32) (x5 : Int32) (s : am_S) : am_F :=
  am_tv (f_X7_needWay x1 s) (fun v2 s1 =>
    am_mv v2 none (fun t3 => if am_k0 t3 = (4, 0) ∧ t3 < 72 then
      am_tu (f_X7_needMake t3 s1) (fun s7 =>
        am_tu (f_X7_needWithin x2 (10 : Int32) (999 : Int32) s7) (fun s9 =>
          am_tu (f_X7_needWithin x3 (-16 : Int32) (16 : Int32) s9) (fun s11 =>
            am_lm (L_X7_seen_33 ax_fuel x2 x3 x4 x5 (0 : Int32) (-9 : Int32) s11) (fun e18 s19 =>
              some (.inl (some (.int e18)), s19)
            )
          )
        )
      )
    else none)
  )
theorem s_X7_seen {N n : Nat} {d : Nat} {x1 : Int32} {x2 : Int32} {x3 : Int32} {x4 : Int32} {x5 : Int32} {s : am_S} (h : am_sh N n s)  : am_S1 (am_sh N n) (d + 6) mX7_seen [.ref 0, .int x1, .int x2, .int x3, .int x4, .int x5] s (f_X7_seen x1 x2 x3 x4 x5 s) := by
  intro P Q k hP
  show am_WP (d + 6) mX7_seen 0 [(0, .ref 0), (1, .int x1), (2, .int x2), (3, .int x3), (4, .int x4), (5, .int x5)] [] s Q
  unfold f_X7_seen at k
  refine wp_ld (v := .ref 0) dX7_seen_0 rfl rfl rfl rfl ?_
  refine wp_ld (v := .ref 0) dX7_seen_1 rfl rfl rfl rfl ?_
  refine wp_ld (v := .int x1) dX7_seen_2 rfl rfl rfl rfl ?_
  refine t_v dX7_seen_3 rfl rfl rfl (am_inv_v rfl (kk_0 h) rfl rfl rfl) (s_X7_needWay h) k rfl rfl hP (fun v2 s1 h k => ?_)
  obtain ⟨t3, c4, k⟩ := ok_mn k
  subst c4
  obtain ⟨g5, k⟩ := ok_g k
  have f6 := kk_up h g5
  refine t_u dX7_seen_6 rfl rfl rfl (am_inv_v rfl (kk_0 h) rfl rfl rfl) (s_X7_needMake h f6) k rfl rfl hP (fun s7 h k => ?_)
  refine wp_ld (v := .int x2) dX7_seen_9 rfl rfl rfl rfl ?_
  refine wp_cst (v := .int (10 : Int32)) dX7_seen_10 rfl rfl ?_
  refine wp_cst (v := .int (999 : Int32)) dX7_seen_12 rfl rfl ?_
  refine t_u dX7_seen_15 rfl rfl rfl (am_inv_s rfl rfl rfl rfl) (s_X7_needWithin h) k rfl rfl hP (fun s9 h k => ?_)
  refine wp_ld (v := .int x3) dX7_seen_18 rfl rfl rfl rfl ?_
  refine wp_cst (v := .int (-16 : Int32)) dX7_seen_19 rfl rfl ?_
  refine wp_cst (v := .int (16 : Int32)) dX7_seen_21 rfl rfl ?_
  refine t_u dX7_seen_23 rfl rfl rfl (am_inv_s rfl rfl rfl rfl) (s_X7_needWithin h) k rfl rfl hP (fun s11 h k => ?_)
  refine wp_cst (v := .int (0 : Int32)) dX7_seen_26 rfl rfl ?_
  refine wp_st (ls' := [(0, .ref 0), (1, .int x1), (2, .int x2), (3, .int x3), (4, .int x4), (5, .int x5), (6, .int (0 : Int32))]) dX7_seen_27 rfl rfl rfl (Nat.le_of_ble_eq_true rfl) rfl ?_
  refine wp_cst (v := .int (-9 : Int32)) dX7_seen_29 rfl rfl ?_
  refine wp_st (ls' := [(0, .ref 0), (1, .int x1), (2, .int x2), (3, .int x3), (4, .int x4), (5, .int x5), (6, .int (0 : Int32)), (7, .int (-9 : Int32))]) dX7_seen_31 rfl rfl rfl (Nat.le_of_ble_eq_true rfl) rfl ?_
  refine lp_m k (fun P1 k hA hB => ?_)
  refine wp_sub (q_X7_seen_33 ax_fuel h k (fun o s p h => hP o s (hA o s p) h) (fun e18 s19 p h => have k := hB e18 s19 p; ?_)) rfl ⟨rfl, rfl, rfl, rfl, rfl, rfl, rfl, trivial⟩
  refine wp_ld (v := .int e18) dX7_seen_93 rfl rfl rfl rfl ?_
  exact wp_end dX7_seen_95 rfl (am_end_i rfl) (hP _ _ (ok_s k) h)
noncomputable def f_L_seen (x2 : Int32) (x3 : Int32) (x4 : Int32) (x5 : Int32) (x6 : Int32) (s : am_S) : am_F :=
  am_xi (f_X7_seen x2 x3 x4 x5 x6 s) (fun v2 s1 =>
    some (.inl (some (.int (0 : Int32))), (am_sL s1 71 0 v2.toInt64))
  ) (fun e s1 =>
    if e = 3 then
      some (.inl (some (.int (1 : Int32))), s1)
    else
      if e = 1 then
        some (.inl (some (.int (2 : Int32))), s1)
      else
        if e = 0 then
          some (.inl (some (.int (3 : Int32))), s1)
        else
          none
  )
theorem s_L_seen {N : Nat} {d : Nat} {x2 : Int32} {x3 : Int32} {x4 : Int32} {x5 : Int32} {x6 : Int32} {s : am_S} (h : am_shE N s)  : am_S1 (am_shE N) (d + 7) mL_seen [.ref 0, .int x2, .int x3, .int x4, .int x5, .int x6, .ref 71] s (f_L_seen x2 x3 x4 x5 x6 s) := by
  intro P Q k hP
  show am_WP (d + 7) mL_seen 0 [(0, .ref 0), (1, .int x2), (2, .int x3), (3, .int x4), (4, .int x5), (5, .int x6), (6, .ref 71)] [] s Q
  unfold f_L_seen at k
  refine wp_ld (v := .ref 71) dL_seen_0 rfl rfl rfl rfl ?_
  refine wp_cst (v := .int (0 : Int32)) dL_seen_2 rfl rfl ?_
  refine wp_ld (v := .ref 0) dL_seen_3 rfl rfl rfl rfl ?_
  refine wp_ld (v := .int x2) dL_seen_4 rfl rfl rfl rfl ?_
  refine wp_ld (v := .int x3) dL_seen_5 rfl rfl rfl rfl ?_
  refine wp_ld (v := .int x4) dL_seen_6 rfl rfl rfl rfl ?_
  refine wp_ld (v := .int x5) dL_seen_7 rfl rfl rfl rfl ?_
  refine wp_ld (v := .int x6) dL_seen_9 rfl rfl rfl rfl ?_
  refine x_i dL_seen_11 rfl rfl rfl (am_inv_v rfl (kE_0 h) rfl rfl rfl) (sE h (fun _ h => s_X7_seen h)) k rfl (List.cons_ne_nil _ _) (fun v2 s1 h k => ?_) (fun e s1 h k => ?_)
  · refine wp_pu dL_seen_14 rfl rfl ?_
    refine wq_last dL_seen_15 (kE_71 h) (by decide) (j := 0) rfl ?_
    refine wp_goto dL_seen_16 rfl ?_
    refine wp_cst (v := .int (0 : Int32)) dL_seen_31 rfl rfl ?_
    exact wp_end dL_seen_32 rfl (am_end_i rfl) (hP _ _ (ok_s k) (shE_sL h))
  · by_cases c3 : e = 3
    · have k := ok_pos c3 k
      subst c3
      refine ⟨_, _, rfl, ?_⟩
      refine wp_cst (v := .int (1 : Int32)) dL_seen_21 rfl rfl ?_
      exact wp_end dL_seen_22 rfl (am_end_i rfl) (hP _ _ (ok_s k) h)
    replace k := ok_neg c3 k
    by_cases c4 : e = 1
    · have k := ok_pos c4 k
      subst c4
      refine ⟨_, _, rfl, ?_⟩
      refine wp_cst (v := .int (2 : Int32)) dL_seen_25 rfl rfl ?_
      exact wp_end dL_seen_26 rfl (am_end_i rfl) (hP _ _ (ok_s k) h)
    replace k := ok_neg c4 k
    by_cases c5 : e = 0
    · have k := ok_pos c5 k
      subst c5
      refine ⟨_, _, rfl, ?_⟩
      refine wp_cst (v := .int (3 : Int32)) dL_seen_29 rfl rfl ?_
      exact wp_end dL_seen_30 rfl (am_end_i rfl) (hP _ _ (ok_s k) h)
    replace k := ok_neg c5 k
    exact (ok_no k).elim
