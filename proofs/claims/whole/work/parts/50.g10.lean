noncomputable def L_X8_findChange_55 : Nat → Int32 → Int32 → Int32 → Int32 → Int32 → Int32 → Int32 → Int32 → Int32 → am_S → am_FE (Unit)
  | 0, _, _, _, _, _, _, _, _, _, _ => none
  | m + 1, x1, x2, x3, x4, x5, x6, x7, x8, x9, s =>
    if (18 : Int32) ≤ x9 then
      some (.inr ((), s))
    else
      if am_in x6 264 = true then
        if am_in (x6 + (1 : Int32)) 264 = true then
          if am_in x6 264 = true then
            am_jn (fun (e13 : Unit) s14 =>
              am_bi (f_X8_makes x1 s14) (fun v16 s15 =>
                if v16 = (-1 : Int32) then
                  am_bl (f_X8_reachOf x2 x3 x4 s15) (fun v19 s18 =>
                    am_jn (fun (e21 : Unit) s22 =>
                      if am_in x6 264 = true then
                        if am_in (x6 + (1 : Int32)) 264 = true then
                          ax_le (((100 : Int32) * (am_I s22 56 x6.toNatClampNeg)) + (am_I s22 56 ((x6 + (1 : Int32)).toNatClampNeg))) (fun y25 =>
                            L_X8_findChange_55 m x1 x2 x3 x4 x5 x6 x7 x8 (x9 + (1 : Int32)) (am_sL (am_sI (am_sI s22 55 47 x5) 55 48 y25) 55 49 v19)
                          )
                        else none
                      else none
                    ) (fun J20 =>
                      if (am_I s18 55 47) = (-1 : Int32) then
                        J20 () s18
                      else
                        if (am_L s18 55 49) < v19 then
                          J20 () s18
                        else
                          L_X8_findChange_55 m x1 x2 x3 x4 x5 x6 x7 x8 (x9 + (1 : Int32)) s18
                    )
                  )
                else
                  L_X8_findChange_55 m x1 x2 x3 x4 x5 x6 x7 x8 (x9 + (1 : Int32)) s15
              )
            ) (fun J12 =>
              if (am_I (am_sI (am_sI s 56 (x6.toNatClampNeg) (x9 / (6 : Int32))) 56 ((x6 + (1 : Int32)).toNatClampNeg) ((x9 - x9 / (6 : Int32) * (6 : Int32)) + (1 : Int32))) 56 x6.toNatClampNeg) = x7 then
                if am_in (x6 + (1 : Int32)) 264 = true then
                  if (am_I (am_sI (am_sI s 56 (x6.toNatClampNeg) (x9 / (6 : Int32))) 56 ((x6 + (1 : Int32)).toNatClampNeg) ((x9 - x9 / (6 : Int32) * (6 : Int32)) + (1 : Int32))) 56 ((x6 + (1 : Int32)).toNatClampNeg)) = x8 then
                    L_X8_findChange_55 m x1 x2 x3 x4 x5 x6 x7 x8 (x9 + (1 : Int32)) (am_sI (am_sI s 56 (x6.toNatClampNeg) (x9 / (6 : Int32))) 56 ((x6 + (1 : Int32)).toNatClampNeg) ((x9 - x9 / (6 : Int32) * (6 : Int32)) + (1 : Int32)))
                  else
                    J12 () (am_sI (am_sI s 56 (x6.toNatClampNeg) (x9 / (6 : Int32))) 56 ((x6 + (1 : Int32)).toNatClampNeg) ((x9 - x9 / (6 : Int32) * (6 : Int32)) + (1 : Int32)))
                else none
              else
                J12 () (am_sI (am_sI s 56 (x6.toNatClampNeg) (x9 / (6 : Int32))) 56 ((x6 + (1 : Int32)).toNatClampNeg) ((x9 - x9 / (6 : Int32) * (6 : Int32)) + (1 : Int32)))
            )
          else none
        else none
      else none
theorem q_X8_findChange_55 : ∀ (m : Nat) {N n : Nat} {d : Nat} {x1 : Int32} {x2 : Int32} {x3 : Int32} {x4 : Int32} {x5 : Int32} {x6 : Int32} {x7 : Int32} {x8 : Int32} {x9 : Int32} {s : am_S} {P : (am_O × am_S) ⊕ (Unit × am_S) → Prop} {Q : am_O → am_S → Prop} (h : am_sh N n s)  (k : am_ok (L_X8_findChange_55 m x1 x2 x3 x4 x5 x6 x7 x8 x9 s) P) (hP : ∀ o s, P (.inl (o, s)) → am_sh N n s → Q o s) (hX : ∀ (e : Unit) s, P (.inr (e, s)) → am_sh N n s → am_WP (d + 9) mX8_findChange 201 [(0, .ref 55), (1, .int x1), (2, .int x2), (3, .int x3), (4, .int x4), (5, .int x5), (6, .int x6), (7, .int x7), (8, .int x8)] [] s Q), am_WP (d + 9) mX8_findChange 55 [(0, .ref 55), (1, .int x1), (2, .int x2), (3, .int x3), (4, .int x4), (5, .int x5), (6, .int x6), (7, .int x7), (8, .int x8), (9, .int x9)] [] s Q := by
  intro m
  induction m with
  | zero =>
    intro N n d x1 x2 x3 x4 x5 x6 x7 x8 x9 s P Q h  k hP hX
    exact (ok_no k).elim
  | succ m ih =>
    intro N n d x1 x2 x3 x4 x5 x6 x7 x8 x9 s P Q h  k hP hX
    unfold L_X8_findChange_55 at k
    refine wp_ld (v := .int x9) dX8_findChange_55 rfl rfl rfl rfl ?_
    refine wp_cst (v := .int (18 : Int32)) dX8_findChange_57 rfl rfl ?_
    refine wp_ic_ge dX8_findChange_59 rfl (fun c8 => have k := ok_pos c8 k; ?_) (fun c8 => have k := ok_neg c8 k; ?_)
    · exact wp_sub (hX _ _ (ok_s k) h) rfl ⟨rfl, rfl, rfl, rfl, rfl, rfl, rfl, rfl, rfl, trivial⟩
    · refine wp_ld (v := .ref 55) dX8_findChange_62 rfl rfl rfl rfl ?_
      refine wp_gr dX8_findChange_63 rfl rfl (kk_55 h) (rr_55_0 h) ?_
      refine wp_ld (v := .int x6) dX8_findChange_66 rfl rfl rfl rfl ?_
      refine wp_ld (v := .int x9) dX8_findChange_68 rfl rfl rfl rfl ?_
      refine wp_cst (v := .int (6 : Int32)) dX8_findChange_70 rfl rfl ?_
      refine wp_div dX8_findChange_72 (by decide) ?_
      obtain ⟨g9, k⟩ := ok_g k
      refine wq_iast dX8_findChange_73 (kk_56 h) g9 (j := (x6.toNatClampNeg)) rfl ?_
      refine wp_ld (v := .ref 55) dX8_findChange_74 rfl rfl rfl rfl ?_
      refine wp_gr dX8_findChange_75 rfl rfl (kk_55 (sh_sI h)) (rr_55_0 (sh_sI h)) ?_
      refine wp_ld (v := .int x6) dX8_findChange_78 rfl rfl rfl rfl ?_
      refine wp_cst (v := .int (1 : Int32)) dX8_findChange_80 rfl rfl ?_
      show am_WP (d + 9) mX8_findChange 81 _ _ _ Q
      refine wp_pu dX8_findChange_81 rfl rfl ?_
      refine wp_ld (v := .int x9) dX8_findChange_82 rfl rfl rfl rfl ?_
      refine wp_cst (v := .int (6 : Int32)) dX8_findChange_84 rfl rfl ?_
      refine wp_rem dX8_findChange_86 (by decide) ?_
      refine wp_cst (v := .int (1 : Int32)) dX8_findChange_87 rfl rfl ?_
      refine wp_pu dX8_findChange_88 rfl rfl ?_
      obtain ⟨g10, k⟩ := ok_g k
      refine wq_iast dX8_findChange_89 (kk_56 (sh_sI h)) g10 (j := ((x6 + (1 : Int32)).toNatClampNeg)) rfl ?_
      refine wp_ld (v := .ref 55) dX8_findChange_90 rfl rfl rfl rfl ?_
      refine wp_gr dX8_findChange_91 rfl rfl (kk_55 (sh_sI (sh_sI h))) (rr_55_0 (sh_sI (sh_sI h))) ?_
      refine wp_ld (v := .int x6) dX8_findChange_94 rfl rfl rfl rfl ?_
      obtain ⟨g11, k⟩ := ok_g k
      refine wq_iald dX8_findChange_96 (kk_56 (sh_sI (sh_sI h))) g11 (v := (am_I (am_sI (am_sI s 56 (x6.toNatClampNeg) (x9 / (6 : Int32))) 56 ((x6 + (1 : Int32)).toNatClampNeg) ((x9 - x9 / (6 : Int32) * (6 : Int32)) + (1 : Int32))) 56 x6.toNatClampNeg)) rfl ?_
      refine wp_ld (v := .int x7) dX8_findChange_97 rfl rfl rfl rfl ?_
      show am_WP (d + 9) mX8_findChange 99 _ _ _ Q
      refine jn_rule k (fun J12 hJ12 k => ?_)
      have HJ12 : ∀ (e13 : Unit) (s14 : am_S), am_sh N n s14 → am_ok (J12 e13 s14) P → am_WP (d + 9) mX8_findChange 116 [(0, .ref 55), (1, .int x1), (2, .int x2), (3, .int x3), (4, .int x4), (5, .int x5), (6, .int x6), (7, .int x7), (8, .int x8), (9, .int x9)] [] s14 Q := by
        intro e13 s14 h k
        replace k := hJ12 _ _ k
        refine wp_ld (v := .ref 55) dX8_findChange_116 rfl rfl rfl rfl ?_
        refine wp_ld (v := .int x1) dX8_findChange_117 rfl rfl rfl rfl ?_
        refine c_i dX8_findChange_118 rfl rfl rfl (am_inv_v rfl (kk_55 h) rfl rfl rfl) (s_X8_makes h) k (fun v16 s15 h k => ?_)
        refine wp_cst (v := .int (-1 : Int32)) dX8_findChange_121 rfl rfl ?_
        refine wp_ic_eq dX8_findChange_122 rfl (fun c17 => have k := ok_pos c17 k; ?_) (fun c17 => have k := ok_neg c17 k; ?_)
        · refine wp_ld (v := .ref 55) dX8_findChange_128 rfl rfl rfl rfl ?_
          refine wp_ld (v := .int x2) dX8_findChange_129 rfl rfl rfl rfl ?_
          refine wp_ld (v := .int x3) dX8_findChange_130 rfl rfl rfl rfl ?_
          refine wp_ld (v := .int x4) dX8_findChange_131 rfl rfl rfl rfl ?_
          refine c_l dX8_findChange_133 rfl rfl rfl (am_inv_v rfl (kk_55 h) rfl rfl rfl) (s_X8_reachOf h) k (fun v19 s18 h k => ?_)
          refine wp_st (ls' := [(0, .ref 55), (1, .int x1), (2, .int x2), (3, .int x3), (4, .int x4), (5, .int x5), (6, .int x6), (7, .int x7), (8, .int x8), (9, .int x9), (10, .long v19)]) dX8_findChange_136 rfl rfl rfl (Nat.le_of_ble_eq_true rfl) rfl ?_
          refine wp_ld (v := .ref 55) dX8_findChange_138 rfl rfl rfl rfl ?_
          refine wq_gI dX8_findChange_139 rfl rfl (kk_55 h) (v := (am_I s18 55 47)) rfl ?_
          refine wp_cst (v := .int (-1 : Int32)) dX8_findChange_142 rfl rfl ?_
          refine jn_rule k (fun J20 hJ20 k => ?_)
          have HJ20 : ∀ (e21 : Unit) (s22 : am_S), am_sh N n s22 → am_ok (J20 e21 s22) P → am_WP (d + 9) mX8_findChange 159 [(0, .ref 55), (1, .int x1), (2, .int x2), (3, .int x3), (4, .int x4), (5, .int x5), (6, .int x6), (7, .int x7), (8, .int x8), (9, .int x9), (10, .long v19)] [] s22 Q := by
            intro e21 s22 h k
            replace k := hJ20 _ _ k
            refine wp_ld (v := .ref 55) dX8_findChange_159 rfl rfl rfl rfl ?_
            refine wp_ld (v := .int x5) dX8_findChange_160 rfl rfl rfl rfl ?_
            refine wp_pI dX8_findChange_162 rfl rfl rfl (fun h => absurd h (by decide)) (kk_55 h) ?_
            refine wp_ld (v := .ref 55) dX8_findChange_165 rfl rfl rfl rfl ?_
            refine wp_cst (v := .int (100 : Int32)) dX8_findChange_166 rfl rfl ?_
            refine wp_ld (v := .ref 55) dX8_findChange_168 rfl rfl rfl rfl ?_
            refine wp_gr dX8_findChange_169 rfl rfl (kk_55 (sh_sI h)) (rr_55_0 (sh_sI h)) ?_
            refine wp_ld (v := .int x6) dX8_findChange_172 rfl rfl rfl rfl ?_
            obtain ⟨g23, k⟩ := ok_g k
            refine wq_iald dX8_findChange_174 (kk_56 (sh_sI h)) g23 (v := (am_I s22 56 x6.toNatClampNeg)) rfl ?_
            refine wp_pu dX8_findChange_175 rfl rfl ?_
            refine wp_ld (v := .ref 55) dX8_findChange_176 rfl rfl rfl rfl ?_
            show am_WP (d + 9) mX8_findChange 177 _ _ _ Q
            refine wp_gr dX8_findChange_177 rfl rfl (kk_55 (sh_sI h)) (rr_55_0 (sh_sI h)) ?_
            refine wp_ld (v := .int x6) dX8_findChange_180 rfl rfl rfl rfl ?_
            refine wp_cst (v := .int (1 : Int32)) dX8_findChange_182 rfl rfl ?_
            refine wp_pu dX8_findChange_183 rfl rfl ?_
            obtain ⟨g24, k⟩ := ok_g k
            refine wq_iald dX8_findChange_184 (kk_56 (sh_sI h)) g24 (v := (am_I s22 56 ((x6 + (1 : Int32)).toNatClampNeg))) rfl ?_
            refine wp_pu dX8_findChange_185 rfl rfl ?_
            refine ls_i k (fun y25 _ k => ?_)
            refine wp_pI dX8_findChange_186 rfl rfl rfl (fun h => absurd h (by decide)) (kk_55 (sh_sI h)) ?_
            refine wp_ld (v := .ref 55) dX8_findChange_189 rfl rfl rfl rfl ?_
            refine wp_ld (v := .long v19) dX8_findChange_190 rfl rfl rfl rfl ?_
            refine wp_pL dX8_findChange_192 rfl rfl rfl (kk_55 (sh_sI (sh_sI h))) ?_
            refine wp_inc (v := (x9 + (1 : Int32))) (ls' := [(0, .ref 55), (1, .int x1), (2, .int x2), (3, .int x3), (4, .int x4), (5, .int x5), (6, .int x6), (7, .int x7), (8, .int x8), (9, .int (x9 + (1 : Int32))), (10, .long v19)]) dX8_findChange_195 rfl (Nat.le_of_ble_eq_true rfl) rfl rfl ?_
            refine wp_goto dX8_findChange_198 rfl ?_
            exact wp_sub (ih (sh_sL (sh_sI (sh_sI h))) k hP hX) rfl ⟨rfl, rfl, rfl, rfl, rfl, rfl, rfl, rfl, rfl, rfl, trivial⟩
          refine wp_ic_eq dX8_findChange_143 rfl (fun c26 => have k := ok_pos c26 k; ?_) (fun c26 => have k := ok_neg c26 k; ?_)
          · exact wp_sub (HJ20 _ _ h k) rfl ⟨rfl, rfl, rfl, rfl, rfl, rfl, rfl, rfl, rfl, rfl, rfl, trivial⟩
          · refine wp_ld (v := .long v19) dX8_findChange_146 rfl rfl rfl rfl ?_
            refine wp_ld (v := .ref 55) dX8_findChange_148 rfl rfl rfl rfl ?_
            refine wq_gL dX8_findChange_149 rfl rfl (kk_55 h) (l := (am_L s18 55 49)) rfl ?_
            refine wl_gt dX8_findChange_152 dX8_findChange_153 rfl (fun c27 => have k := ok_pos c27 k; ?_) (fun c27 => have k := ok_neg c27 k; ?_)
            · exact wp_sub (HJ20 _ _ h k) rfl ⟨rfl, rfl, rfl, rfl, rfl, rfl, rfl, rfl, rfl, rfl, rfl, trivial⟩
            · refine wp_goto dX8_findChange_156 rfl ?_
              refine wp_inc (v := (x9 + (1 : Int32))) (ls' := [(0, .ref 55), (1, .int x1), (2, .int x2), (3, .int x3), (4, .int x4), (5, .int x5), (6, .int x6), (7, .int x7), (8, .int x8), (9, .int (x9 + (1 : Int32))), (10, .long v19)]) dX8_findChange_195 rfl (Nat.le_of_ble_eq_true rfl) rfl rfl ?_
              refine wp_goto dX8_findChange_198 rfl ?_
              exact wp_sub (ih h k hP hX) rfl ⟨rfl, rfl, rfl, rfl, rfl, rfl, rfl, rfl, rfl, rfl, trivial⟩
        · refine wp_goto dX8_findChange_125 rfl ?_
          refine wp_inc (v := (x9 + (1 : Int32))) (ls' := [(0, .ref 55), (1, .int x1), (2, .int x2), (3, .int x3), (4, .int x4), (5, .int x5), (6, .int x6), (7, .int x7), (8, .int x8), (9, .int (x9 + (1 : Int32)))]) dX8_findChange_195 rfl (Nat.le_of_ble_eq_true rfl) rfl rfl ?_
          refine wp_goto dX8_findChange_198 rfl ?_
          exact wp_sub (ih h k hP hX) rfl ⟨rfl, rfl, rfl, rfl, rfl, rfl, rfl, rfl, rfl, rfl, trivial⟩
      refine wp_ic_ne dX8_findChange_99 rfl (fun c28 => have k := ok_neg c28 k; ?_) (fun c28 => have k := ok_pos c28 k; ?_)
      · exact wp_sub (HJ12 _ _ (sh_sI (sh_sI h)) k) rfl ⟨rfl, rfl, rfl, rfl, rfl, rfl, rfl, rfl, rfl, rfl, trivial⟩
      · refine wp_ld (v := .ref 55) dX8_findChange_102 rfl rfl rfl rfl ?_
        refine wp_gr dX8_findChange_103 rfl rfl (kk_55 (sh_sI (sh_sI h))) (rr_55_0 (sh_sI (sh_sI h))) ?_
        refine wp_ld (v := .int x6) dX8_findChange_106 rfl rfl rfl rfl ?_
        refine wp_cst (v := .int (1 : Int32)) dX8_findChange_108 rfl rfl ?_
        refine wp_pu dX8_findChange_109 rfl rfl ?_
        obtain ⟨g29, k⟩ := ok_g k
        refine wq_iald dX8_findChange_110 (kk_56 (sh_sI (sh_sI h))) g29 (v := (am_I (am_sI (am_sI s 56 (x6.toNatClampNeg) (x9 / (6 : Int32))) 56 ((x6 + (1 : Int32)).toNatClampNeg) ((x9 - x9 / (6 : Int32) * (6 : Int32)) + (1 : Int32))) 56 ((x6 + (1 : Int32)).toNatClampNeg))) rfl ?_
        refine wp_ld (v := .int x8) dX8_findChange_111 rfl rfl rfl rfl ?_
        refine wp_ic_eq dX8_findChange_113 rfl (fun c30 => have k := ok_pos c30 k; ?_) (fun c30 => have k := ok_neg c30 k; ?_)
        · refine wp_inc (v := (x9 + (1 : Int32))) (ls' := [(0, .ref 55), (1, .int x1), (2, .int x2), (3, .int x3), (4, .int x4), (5, .int x5), (6, .int x6), (7, .int x7), (8, .int x8), (9, .int (x9 + (1 : Int32)))]) dX8_findChange_195 rfl (Nat.le_of_ble_eq_true rfl) rfl rfl ?_
          refine wp_goto dX8_findChange_198 rfl ?_
          exact wp_sub (ih (sh_sI (sh_sI h)) k hP hX) rfl ⟨rfl, rfl, rfl, rfl, rfl, rfl, rfl, rfl, rfl, rfl, trivial⟩
        · exact wp_sub (HJ12 _ _ (sh_sI (sh_sI h)) k) rfl ⟨rfl, rfl, rfl, rfl, rfl, rfl, rfl, rfl, rfl, rfl, trivial⟩
noncomputable def L_X8_findChange_13 : Nat → Int32 → Int32 → Int32 → Int32 → Int32 → am_S → am_FE (Unit)
  | 0, _, _, _, _, _, _ => none
  | m + 1, x1, x2, x3, x4, x5, s =>
    am_bi (f_X8_foldsOf x1 s) (fun v2 s1 =>
      if v2 ≤ x5 then
        some (.inr ((), s1))
      else
        am_bi (f_X8_foldAt x1 x5 s1) (fun v5 s4 =>
          if am_in v5 264 = true then
            if am_in (v5 + (1 : Int32)) 264 = true then
              am_ll (L_X8_findChange_55 ax_fuel x1 x2 x3 x4 x5 v5 (am_I s4 56 v5.toNatClampNeg) (am_I s4 56 ((v5 + (1 : Int32)).toNatClampNeg)) (0 : Int32) s4) (fun e31 s32 =>
                if am_in v5 264 = true then
                  if am_in (v5 + (1 : Int32)) 264 = true then
                    L_X8_findChange_13 m x1 x2 x3 x4 (x5 + (1 : Int32)) (am_sI (am_sI s32 56 (v5.toNatClampNeg) (am_I s4 56 v5.toNatClampNeg)) 56 ((v5 + (1 : Int32)).toNatClampNeg) (am_I s4 56 ((v5 + (1 : Int32)).toNatClampNeg)))
                  else none
                else none
              )
            else none
          else none
        )
    )
theorem q_X8_findChange_13 : ∀ (m : Nat) {N n : Nat} {d : Nat} {x1 : Int32} {x2 : Int32} {x3 : Int32} {x4 : Int32} {x5 : Int32} {s : am_S} {P : (am_O × am_S) ⊕ (Unit × am_S) → Prop} {Q : am_O → am_S → Prop} (h : am_sh N n s)  (k : am_ok (L_X8_findChange_13 m x1 x2 x3 x4 x5 s) P) (hP : ∀ o s, P (.inl (o, s)) → am_sh N n s → Q o s) (hX : ∀ (e : Unit) s, P (.inr (e, s)) → am_sh N n s → am_WP (d + 9) mX8_findChange 227 [] [] s Q), am_WP (d + 9) mX8_findChange 13 [(0, .ref 55), (1, .int x1), (2, .int x2), (3, .int x3), (4, .int x4), (5, .int x5)] [] s Q := by
  intro m
  induction m with
  | zero =>
    intro N n d x1 x2 x3 x4 x5 s P Q h  k hP hX
    exact (ok_no k).elim
  | succ m ih =>
    intro N n d x1 x2 x3 x4 x5 s P Q h  k hP hX
    unfold L_X8_findChange_13 at k
    refine wp_ld (v := .int x5) dX8_findChange_13 rfl rfl rfl rfl ?_
    refine wp_ld (v := .ref 55) dX8_findChange_15 rfl rfl rfl rfl ?_
    refine wp_ld (v := .int x1) dX8_findChange_16 rfl rfl rfl rfl ?_
    refine c_i dX8_findChange_17 rfl rfl rfl (am_inv_v rfl (kk_55 h) rfl rfl rfl) (s_X8_foldsOf h) k (fun v2 s1 h k => ?_)
    refine wp_ic_ge dX8_findChange_20 rfl (fun c3 => have k := ok_pos c3 k; ?_) (fun c3 => have k := ok_neg c3 k; ?_)
    · exact wp_sub (hX _ _ (ok_s k) h) rfl trivial
    · refine wp_ld (v := .ref 55) dX8_findChange_23 rfl rfl rfl rfl ?_
      refine wp_ld (v := .int x1) dX8_findChange_24 rfl rfl rfl rfl ?_
      refine wp_ld (v := .int x5) dX8_findChange_25 rfl rfl rfl rfl ?_
      refine c_i dX8_findChange_27 rfl rfl rfl (am_inv_v rfl (kk_55 h) rfl rfl rfl) (s_X8_foldAt h) k (fun v5 s4 h k => ?_)
      refine wp_st (ls' := [(0, .ref 55), (1, .int x1), (2, .int x2), (3, .int x3), (4, .int x4), (5, .int x5), (6, .int v5)]) dX8_findChange_30 rfl rfl rfl (Nat.le_of_ble_eq_true rfl) rfl ?_
      refine wp_ld (v := .ref 55) dX8_findChange_32 rfl rfl rfl rfl ?_
      refine wp_gr dX8_findChange_33 rfl rfl (kk_55 h) (rr_55_0 h) ?_
      refine wp_ld (v := .int v5) dX8_findChange_36 rfl rfl rfl rfl ?_
      obtain ⟨g6, k⟩ := ok_g k
      refine wq_iald dX8_findChange_38 (kk_56 h) g6 (v := (am_I s4 56 v5.toNatClampNeg)) rfl ?_
      refine wp_st (ls' := [(0, .ref 55), (1, .int x1), (2, .int x2), (3, .int x3), (4, .int x4), (5, .int x5), (6, .int v5), (7, .int (am_I s4 56 v5.toNatClampNeg))]) dX8_findChange_39 rfl rfl rfl (Nat.le_of_ble_eq_true rfl) rfl ?_
      refine wp_ld (v := .ref 55) dX8_findChange_41 rfl rfl rfl rfl ?_
      refine wp_gr dX8_findChange_42 rfl rfl (kk_55 h) (rr_55_0 h) ?_
      refine wp_ld (v := .int v5) dX8_findChange_45 rfl rfl rfl rfl ?_
      refine wp_cst (v := .int (1 : Int32)) dX8_findChange_47 rfl rfl ?_
      refine wp_pu dX8_findChange_48 rfl rfl ?_
      show am_WP (d + 9) mX8_findChange 49 _ _ _ Q
      obtain ⟨g7, k⟩ := ok_g k
      refine wq_iald dX8_findChange_49 (kk_56 h) g7 (v := (am_I s4 56 ((v5 + (1 : Int32)).toNatClampNeg))) rfl ?_
      refine wp_st (ls' := [(0, .ref 55), (1, .int x1), (2, .int x2), (3, .int x3), (4, .int x4), (5, .int x5), (6, .int v5), (7, .int (am_I s4 56 v5.toNatClampNeg)), (8, .int (am_I s4 56 ((v5 + (1 : Int32)).toNatClampNeg)))]) dX8_findChange_50 rfl rfl rfl (Nat.le_of_ble_eq_true rfl) rfl ?_
      refine wp_cst (v := .int (0 : Int32)) dX8_findChange_52 rfl rfl ?_
      refine wp_st (ls' := [(0, .ref 55), (1, .int x1), (2, .int x2), (3, .int x3), (4, .int x4), (5, .int x5), (6, .int v5), (7, .int (am_I s4 56 v5.toNatClampNeg)), (8, .int (am_I s4 56 ((v5 + (1 : Int32)).toNatClampNeg))), (9, .int (0 : Int32))]) dX8_findChange_53 rfl rfl rfl (Nat.le_of_ble_eq_true rfl) rfl ?_
      refine lp_l k (fun P1 k hA hB => ?_)
      refine wp_sub (q_X8_findChange_55 ax_fuel h k (fun o s p h => hP o s (hA o s p) h) (fun e31 s32 p h => have k := hB e31 s32 p; ?_)) rfl ⟨rfl, rfl, rfl, rfl, rfl, rfl, rfl, rfl, rfl, rfl, trivial⟩
      refine wp_ld (v := .ref 55) dX8_findChange_201 rfl rfl rfl rfl ?_
      refine wp_gr dX8_findChange_202 rfl rfl (kk_55 h) (rr_55_0 h) ?_
      refine wp_ld (v := .int v5) dX8_findChange_205 rfl rfl rfl rfl ?_
      refine wp_ld (v := .int (am_I s4 56 v5.toNatClampNeg)) dX8_findChange_207 rfl rfl rfl rfl ?_
      obtain ⟨g33, k⟩ := ok_g k
      refine wq_iast dX8_findChange_209 (kk_56 h) g33 (j := (v5.toNatClampNeg)) rfl ?_
      refine wp_ld (v := .ref 55) dX8_findChange_210 rfl rfl rfl rfl ?_
      refine wp_gr dX8_findChange_211 rfl rfl (kk_55 (sh_sI h)) (rr_55_0 (sh_sI h)) ?_
      refine wp_ld (v := .int v5) dX8_findChange_214 rfl rfl rfl rfl ?_
      refine wp_cst (v := .int (1 : Int32)) dX8_findChange_216 rfl rfl ?_
      refine wp_pu dX8_findChange_217 rfl rfl ?_
      refine wp_ld (v := .int (am_I s4 56 ((v5 + (1 : Int32)).toNatClampNeg))) dX8_findChange_218 rfl rfl rfl rfl ?_
      show am_WP (d + 9) mX8_findChange 220 _ _ _ Q
      obtain ⟨g34, k⟩ := ok_g k
      refine wq_iast dX8_findChange_220 (kk_56 (sh_sI h)) g34 (j := ((v5 + (1 : Int32)).toNatClampNeg)) rfl ?_
      refine wp_inc (v := (x5 + (1 : Int32))) (ls' := [(0, .ref 55), (1, .int x1), (2, .int x2), (3, .int x3), (4, .int x4), (5, .int (x5 + (1 : Int32))), (6, .int v5), (7, .int (am_I s4 56 v5.toNatClampNeg)), (8, .int (am_I s4 56 ((v5 + (1 : Int32)).toNatClampNeg)))]) dX8_findChange_221 rfl (Nat.le_of_ble_eq_true rfl) rfl rfl ?_
      refine wp_goto dX8_findChange_224 rfl ?_
      exact wp_sub (ih (sh_sI (sh_sI h)) k hP hX) rfl ⟨rfl, rfl, rfl, rfl, rfl, rfl, trivial⟩
noncomputable def f_X8_findChange (x1 : Int32) (x2 : Int32) (x3 : Int32) (x4 : Int32) (s : am_S) : am_F :=
  am_lm (L_X8_findChange_13 ax_fuel x1 x2 x3 x4 (0 : Int32) (am_sL (am_sI s 55 47 (-1 : Int32)) 55 49 (0 : Int64))) (fun e35 s36 =>
    some (.inl none, s36)
  )
theorem s_X8_findChange {N n : Nat} {d : Nat} {x1 : Int32} {x2 : Int32} {x3 : Int32} {x4 : Int32} {s : am_S} (h : am_sh N n s)  : am_S1 (am_sh N n) (d + 9) mX8_findChange [.ref 55, .int x1, .int x2, .int x3, .int x4] s (f_X8_findChange x1 x2 x3 x4 s) := by
  intro P Q k hP
  show am_WP (d + 9) mX8_findChange 0 [(0, .ref 55), (1, .int x1), (2, .int x2), (3, .int x3), (4, .int x4)] [] s Q
  unfold f_X8_findChange at k
  refine wp_ld (v := .ref 55) dX8_findChange_0 rfl rfl rfl rfl ?_
  refine wp_cst (v := .int (-1 : Int32)) dX8_findChange_1 rfl rfl ?_
  refine wp_pI dX8_findChange_2 rfl rfl rfl (fun h => absurd h (by decide)) (kk_55 h) ?_
  refine wp_ld (v := .ref 55) dX8_findChange_5 rfl rfl rfl rfl ?_
  refine wp_cst (v := .long (0 : Int64)) dX8_findChange_6 rfl rfl ?_
  refine wp_pL dX8_findChange_7 rfl rfl rfl (kk_55 (sh_sI h)) ?_
  refine wp_cst (v := .int (0 : Int32)) dX8_findChange_10 rfl rfl ?_
  refine wp_st (ls' := [(0, .ref 55), (1, .int x1), (2, .int x2), (3, .int x3), (4, .int x4), (5, .int (0 : Int32))]) dX8_findChange_11 rfl rfl rfl (Nat.le_of_ble_eq_true rfl) rfl ?_
  refine lp_m k (fun P1 k hA hB => ?_)
  refine wp_sub (q_X8_findChange_13 ax_fuel (sh_sL (sh_sI h)) k (fun o s p h => hP o s (hA o s p) h) (fun e35 s36 p h => have k := hB e35 s36 p; ?_)) rfl ⟨rfl, rfl, rfl, rfl, rfl, rfl, trivial⟩
  exact wp_end dX8_findChange_227 rfl rfl (hP _ _ (ok_s k) h)
noncomputable def f_X8_change (x1 : Int32) (x2 : Int32) (x3 : Int32) (x4 : Int32) (x5 : Int32) (s : am_S) : am_F :=
  am_bi (f_X8_handFault x1 x3 s) (fun v2 s1 =>
    if v2 ≤ 0 then
      am_bi (f_X8_isEars x2 (am_sI s1 55 3 v2)) (fun v5 s4 =>
        am_jn (fun (e7 : Unit) s8 =>
          am_bi (f_X8_fails (3 : Int32) s8) (fun v10 s9 =>
            some (.inl (some (.long v10.toInt64)), s9)
          )
        ) (fun J6 =>
          if v5 = 0 then
            J6 () s4
          else
            am_bi (f_X8_within x5.toInt64 (0 : Int64) (2 : Int64) s4) (fun v13 s12 =>
              if v13 = 0 then
                J6 () s12
              else
                am_bu (f_X8_findChange x1 x2 x3 x4 s12) (fun s15 =>
                  if (am_I s15 55 47) = (-1 : Int32) then
                    some (.inl (some (.long (-1 : Int64))), s15)
                  else
                    if x5 = 0 then
                      some (.inl (some (.long (am_I s15 55 47).toInt64)), s15)
                    else
                      if x5 = (1 : Int32) then
                        some (.inl (some (.long (am_I s15 55 48).toInt64)), s15)
                      else
                        some (.inl (some (.long (am_L s15 55 49))), s15)
                )
            )
        )
      )
    else
      some (.inl (some (.long (0 : Int64))), (am_sI s1 55 3 v2))
  )
theorem s_X8_change {N n : Nat} {d : Nat} {x1 : Int32} {x2 : Int32} {x3 : Int32} {x4 : Int32} {x5 : Int32} {s : am_S} (h : am_sh N n s)  : am_S1 (am_sh N n) (d + 10) mX8_change [.ref 55, .int x1, .int x2, .int x3, .int x4, .int x5] s (f_X8_change x1 x2 x3 x4 x5 s) := by
  intro P Q k hP
  show am_WP (d + 10) mX8_change 0 [(0, .ref 55), (1, .int x1), (2, .int x2), (3, .int x3), (4, .int x4), (5, .int x5)] [] s Q
  unfold f_X8_change at k
  refine wp_ld (v := .ref 55) dX8_change_0 rfl rfl rfl rfl ?_
  refine wp_ld (v := .ref 55) dX8_change_1 rfl rfl rfl rfl ?_
  refine wp_ld (v := .int x1) dX8_change_2 rfl rfl rfl rfl ?_
  refine wp_ld (v := .int x3) dX8_change_3 rfl rfl rfl rfl ?_
  refine c_i dX8_change_4 rfl rfl rfl (am_inv_v rfl (kk_55 h) rfl rfl rfl) (s_X8_handFault h) k (fun v2 s1 h k => ?_)
  refine wp_pI dX8_change_7 rfl rfl rfl (fun h => absurd h (by decide)) (kk_55 h) ?_
  refine wp_ld (v := .ref 55) dX8_change_10 rfl rfl rfl rfl ?_
  refine wq_gI dX8_change_11 rfl rfl (kk_55 (sh_sI h)) (v := v2) rfl ?_
  refine wp_if_le dX8_change_14 rfl (fun c3 => have k := ok_pos c3 k; ?_) (fun c3 => have k := ok_neg c3 k; ?_)
  · refine wp_ld (v := .int x2) dX8_change_19 rfl rfl rfl rfl ?_
    refine c_i dX8_change_20 rfl rfl rfl (am_inv_s rfl rfl rfl rfl) (s_X8_isEars (sh_sI h)) k (fun v5 s4 h k => ?_)
    refine jn_rule k (fun J6 hJ6 k => ?_)
    have HJ6 : ∀ (e7 : Unit) (s8 : am_S), am_sh N n s8 → am_ok (J6 e7 s8) P → am_WP (d + 10) mX8_change 39 [(0, .ref 55)] [] s8 Q := by
      intro e7 s8 h k
      replace k := hJ6 _ _ k
      refine wp_ld (v := .ref 55) dX8_change_39 rfl rfl rfl rfl ?_
      refine wp_cst (v := .int (3 : Int32)) dX8_change_40 rfl rfl ?_
      refine c_i dX8_change_41 rfl rfl rfl (am_inv_v rfl (kk_55 h) rfl rfl rfl) (s_X8_fails h) k (fun v10 s9 h k => ?_)
      refine wp_pu dX8_change_44 rfl rfl ?_
      exact wp_end dX8_change_45 rfl (am_end_l rfl) (hP _ _ (ok_s k) h)
    refine wp_if_eq dX8_change_23 rfl (fun c11 => have k := ok_pos c11 k; ?_) (fun c11 => have k := ok_neg c11 k; ?_)
    · exact wp_sub (HJ6 _ _ h k) rfl ⟨rfl, trivial⟩
    · refine wp_ld (v := .int x5) dX8_change_26 rfl rfl rfl rfl ?_
      refine wp_pu dX8_change_28 rfl rfl ?_
      refine wp_cst (v := .long (0 : Int64)) dX8_change_29 rfl rfl ?_
      refine wp_cst (v := .long (2 : Int64)) dX8_change_30 rfl rfl ?_
      refine c_i dX8_change_33 rfl rfl rfl (am_inv_s rfl rfl rfl rfl) (s_X8_within h) k (fun v13 s12 h k => ?_)
      refine wp_if_ne dX8_change_36 rfl (fun c14 => have k := ok_neg c14 k; ?_) (fun c14 => have k := ok_pos c14 k; ?_)
      · refine wp_ld (v := .ref 55) dX8_change_46 rfl rfl rfl rfl ?_
        refine wp_ld (v := .int x1) dX8_change_47 rfl rfl rfl rfl ?_
        refine wp_ld (v := .int x2) dX8_change_48 rfl rfl rfl rfl ?_
        refine wp_ld (v := .int x3) dX8_change_49 rfl rfl rfl rfl ?_
        refine wp_ld (v := .int x4) dX8_change_50 rfl rfl rfl rfl ?_
        refine c_u dX8_change_52 rfl rfl rfl (am_inv_v rfl (kk_55 h) rfl rfl rfl) (s_X8_findChange h) k (fun s15 h k => ?_)
        refine wp_ld (v := .ref 55) dX8_change_55 rfl rfl rfl rfl ?_
        refine wq_gI dX8_change_56 rfl rfl (kk_55 h) (v := (am_I s15 55 47)) rfl ?_
        refine wp_cst (v := .int (-1 : Int32)) dX8_change_59 rfl rfl ?_
        refine wp_ic_ne dX8_change_60 rfl (fun c17 => have k := ok_neg c17 k; ?_) (fun c17 => have k := ok_pos c17 k; ?_)
        · refine wp_ld (v := .int x5) dX8_change_69 rfl rfl rfl rfl ?_
          refine wp_if_ne dX8_change_71 rfl (fun c18 => have k := ok_neg c18 k; ?_) (fun c18 => have k := ok_pos c18 k; ?_)
          · refine wp_ld (v := .int x5) dX8_change_82 rfl rfl rfl rfl ?_
            refine wp_cst (v := .int (1 : Int32)) dX8_change_84 rfl rfl ?_
            refine wp_ic_ne dX8_change_85 rfl (fun c19 => have k := ok_neg c19 k; ?_) (fun c19 => have k := ok_pos c19 k; ?_)
            · refine wp_ld (v := .ref 55) dX8_change_96 rfl rfl rfl rfl ?_
              refine wq_gL dX8_change_97 rfl rfl (kk_55 h) (l := (am_L s15 55 49)) rfl ?_
              exact wp_end dX8_change_100 rfl (am_end_l rfl) (hP _ _ (ok_s k) h)
            · refine wp_ld (v := .ref 55) dX8_change_88 rfl rfl rfl rfl ?_
              refine wq_gI dX8_change_89 rfl rfl (kk_55 h) (v := (am_I s15 55 48)) rfl ?_
              refine wp_pu dX8_change_92 rfl rfl ?_
              refine wp_goto dX8_change_93 rfl ?_
              exact wp_end dX8_change_100 rfl (am_end_l rfl) (hP _ _ (ok_s k) h)
          · refine wp_ld (v := .ref 55) dX8_change_74 rfl rfl rfl rfl ?_
            refine wq_gI dX8_change_75 rfl rfl (kk_55 h) (v := (am_I s15 55 47)) rfl ?_
            refine wp_pu dX8_change_78 rfl rfl ?_
            refine wp_goto dX8_change_79 rfl ?_
            exact wp_end dX8_change_100 rfl (am_end_l rfl) (hP _ _ (ok_s k) h)
        · refine wp_cst (v := .long (-1 : Int64)) dX8_change_63 rfl rfl ?_
          refine wp_goto dX8_change_66 rfl ?_
          exact wp_end dX8_change_100 rfl (am_end_l rfl) (hP _ _ (ok_s k) h)
      · exact wp_sub (HJ6 _ _ h k) rfl ⟨rfl, trivial⟩
  · refine wp_cst (v := .long (0 : Int64)) dX8_change_17 rfl rfl ?_
    exact wp_end dX8_change_18 rfl (am_end_l rfl) (hP _ _ (ok_s k) (sh_sI h))
noncomputable def L_X7_mend_38 : Nat → Int32 → Int32 → Nat → Nat → Int64 → Int32 → am_S → am_FE (Int32)
  | 0, _, _, _, _, _, _, _ => none
  | m + 1, x2, x4, a5, a6, x7, x9, s =>
    if (4 : Int32) ≤ x9 then
      some (.inr (x9, s))
    else
      am_bu (f_X7_findBestChange a5 a6 x2 x4 s) (fun s20 =>
        if (am_I s20 45 0) = (-1 : Int32) then
          some (.inr (x9, s20))
        else
          if x7 < (am_L s20 45 3) then
            am_bu (f_X4_putFold a5 (am_I s20 45 0) (am_I s20 45 1) (am_I s20 45 2) s20) (fun s24 =>
              L_X7_mend_38 m x2 x4 a5 a6 (am_L s20 45 3) (x9 + (1 : Int32)) s24
            )
          else
            some (.inr (x9, s20))
      )
theorem q_X7_mend_38 : ∀ (m : Nat) {N n : Nat} {d : Nat} {x2 : Int32} {x4 : Int32} {a5 : Nat} {a6 : Nat} {x7 : Int64} {x9 : Int32} {s : am_S} {P : (am_O × am_S) ⊕ (Int32 × am_S) → Prop} {Q : am_O → am_S → Prop} (h : am_sh N n s) (fa5 : am_kf n a5 4) (fa6 : am_kf n a6 4) (k : am_ok (L_X7_mend_38 m x2 x4 a5 a6 x7 x9 s) P) (hP : ∀ o s, P (.inl (o, s)) → am_sh N n s → Q o s) (hX : ∀ (e : Int32) s, P (.inr (e, s)) → am_sh N n s → am_WP (d + 6) mX7_mend 123 [(9, .int e)] [] s Q), am_WP (d + 6) mX7_mend 38 [(0, .ref 0), (2, .int x2), (4, .int x4), (5, .ref a5), (6, .ref a6), (7, .long x7), (9, .int x9)] [] s Q := by
  intro m
  induction m with
  | zero =>
    intro N n d x2 x4 a5 a6 x7 x9 s P Q h fa5 fa6 k hP hX
    exact (ok_no k).elim
  | succ m ih =>
    intro N n d x2 x4 a5 a6 x7 x9 s P Q h fa5 fa6 k hP hX
    unfold L_X7_mend_38 at k
    refine wp_ld (v := .int x9) dX7_mend_38 rfl rfl rfl rfl ?_
    refine wp_cst (v := .int (4 : Int32)) dX7_mend_40 rfl rfl ?_
    refine wp_ic_ge dX7_mend_41 rfl (fun c19 => have k := ok_pos c19 k; ?_) (fun c19 => have k := ok_neg c19 k; ?_)
    · exact wp_sub (hX _ _ (ok_s k) h) rfl ⟨rfl, trivial⟩
    · refine wp_ld (v := .ref 0) dX7_mend_44 rfl rfl rfl rfl ?_
      refine wp_ld (v := .ref a5) dX7_mend_45 rfl rfl rfl rfl ?_
      refine wp_ld (v := .ref a6) dX7_mend_47 rfl rfl rfl rfl ?_
      refine wp_ld (v := .int x2) dX7_mend_49 rfl rfl rfl rfl ?_
      refine wp_ld (v := .int x4) dX7_mend_50 rfl rfl rfl rfl ?_
      refine c_u dX7_mend_52 rfl rfl rfl (am_inv_v rfl (kk_0 h) rfl rfl rfl) (s_X7_findBestChange h fa5 fa6) k (fun s20 h k => ?_)
      refine wp_ld (v := .ref 0) dX7_mend_55 rfl rfl rfl rfl ?_
      refine wp_gr dX7_mend_56 rfl rfl (kk_0 h) (rr_0_9 h) ?_
      refine wq_gI dX7_mend_59 rfl rfl (kk_45 h) (v := (am_I s20 45 0)) rfl ?_
      refine wp_cst (v := .int (-1 : Int32)) dX7_mend_62 rfl rfl ?_
      refine wp_ic_eq dX7_mend_63 rfl (fun c22 => have k := ok_pos c22 k; ?_) (fun c22 => have k := ok_neg c22 k; ?_)
      · exact wp_sub (hX _ _ (ok_s k) h) rfl ⟨rfl, trivial⟩
      · refine wp_ld (v := .ref 0) dX7_mend_66 rfl rfl rfl rfl ?_
        refine wp_gr dX7_mend_67 rfl rfl (kk_0 h) (rr_0_9 h) ?_
        refine wq_gL dX7_mend_70 rfl rfl (kk_45 h) (l := (am_L s20 45 3)) rfl ?_
        refine wp_ld (v := .long x7) dX7_mend_73 rfl rfl rfl rfl ?_
        refine wl_gt dX7_mend_75 dX7_mend_76 rfl (fun c23 => have k := ok_pos c23 k; ?_) (fun c23 => have k := ok_neg c23 k; ?_)
        · refine wp_ld (v := .ref 0) dX7_mend_82 rfl rfl rfl rfl ?_
          refine wp_gr dX7_mend_83 rfl rfl (kk_0 h) (rr_0_9 h) ?_
          refine wq_gL dX7_mend_86 rfl rfl (kk_45 h) (l := (am_L s20 45 3)) rfl ?_
          refine wp_st (ls' := [(0, .ref 0), (2, .int x2), (4, .int x4), (5, .ref a5), (6, .ref a6), (7, .long (am_L s20 45 3)), (9, .int x9)]) dX7_mend_89 rfl rfl rfl (Nat.le_of_ble_eq_true rfl) rfl ?_
          refine wp_ld (v := .ref a5) dX7_mend_91 rfl rfl rfl rfl ?_
          refine wp_ld (v := .ref 0) dX7_mend_93 rfl rfl rfl rfl ?_
          refine wp_gr dX7_mend_94 rfl rfl (kk_0 h) (rr_0_9 h) ?_
          refine wq_gI dX7_mend_97 rfl rfl (kk_45 h) (v := (am_I s20 45 0)) rfl ?_
          refine wp_ld (v := .ref 0) dX7_mend_100 rfl rfl rfl rfl ?_
          refine wp_gr dX7_mend_101 rfl rfl (kk_0 h) (rr_0_9 h) ?_
          refine wq_gI dX7_mend_104 rfl rfl (kk_45 h) (v := (am_I s20 45 1)) rfl ?_
          show am_WP (d + 6) mX7_mend 107 _ _ _ Q
          refine wp_ld (v := .ref 0) dX7_mend_107 rfl rfl rfl rfl ?_
          refine wp_gr dX7_mend_108 rfl rfl (kk_0 h) (rr_0_9 h) ?_
          refine wq_gI dX7_mend_111 rfl rfl (kk_45 h) (v := (am_I s20 45 2)) rfl ?_
          refine c_u dX7_mend_114 rfl rfl rfl (am_inv_v rfl (kk_f h fa5) rfl rfl rfl) (s_X4_putFold h fa5) k (fun s24 h k => ?_)
          refine wp_inc (v := (x9 + (1 : Int32))) (ls' := [(0, .ref 0), (2, .int x2), (4, .int x4), (5, .ref a5), (6, .ref a6), (7, .long (am_L s20 45 3)), (9, .int (x9 + (1 : Int32)))]) dX7_mend_117 rfl (Nat.le_of_ble_eq_true rfl) rfl rfl ?_
          refine wp_goto dX7_mend_120 rfl ?_
          exact wp_sub (ih h fa5 fa6 k hP hX) rfl ⟨rfl, rfl, rfl, rfl, rfl, rfl, rfl, trivial⟩
        · refine wp_goto dX7_mend_79 rfl ?_
          exact wp_sub (hX _ _ (ok_s k) h) rfl ⟨rfl, trivial⟩
noncomputable def f_X7_mend (x1 : Int32) (x2 : Int32) (x3 : Int32) (x4 : Int32) (s : am_S) : am_F :=
  am_tv (f_X7_needWay x1 s) (fun v2 s1 =>
    am_mv v2 none (fun t3 => if am_k0 t3 = (4, 0) ∧ t3 < 72 then
      am_tv (f_X7_needHand x3 s1) (fun v8 s7 =>
        am_mv v8 none (fun t9 => if am_k0 t9 = (4, 0) ∧ t9 < 72 then
          am_tu (f_X7_needMake t3 s7) (fun s13 =>
            am_tu (f_X7_needEars x2 s13) (fun s15 =>
              am_bl (f_X7_reachOf t9 x2 x4 s15) (fun v18 s17 =>
                am_lm (L_X7_mend_38 ax_fuel x2 x4 t3 t9 v18 (0 : Int32) s17) (fun e26 s27 =>
                  some (.inl (some (.int e26)), s27)
                )
              )
            )
          )
        else none)
      )
    else none)
  )
theorem s_X7_mend {N n : Nat} {d : Nat} {x1 : Int32} {x2 : Int32} {x3 : Int32} {x4 : Int32} {s : am_S} (h : am_sh N n s)  : am_S1 (am_sh N n) (d + 6) mX7_mend [.ref 0, .int x1, .int x2, .int x3, .int x4] s (f_X7_mend x1 x2 x3 x4 s) := by
  intro P Q k hP
  show am_WP (d + 6) mX7_mend 0 [(0, .ref 0), (1, .int x1), (2, .int x2), (3, .int x3), (4, .int x4)] [] s Q
  unfold f_X7_mend at k
  refine wp_ld (v := .ref 0) dX7_mend_0 rfl rfl rfl rfl ?_
  refine wp_ld (v := .int x1) dX7_mend_1 rfl rfl rfl rfl ?_
  refine t_v dX7_mend_2 rfl rfl rfl (am_inv_v rfl (kk_0 h) rfl rfl rfl) (s_X7_needWay h) k rfl rfl hP (fun v2 s1 h k => ?_)
  obtain ⟨t3, c4, k⟩ := ok_mn k
  subst c4
  obtain ⟨g5, k⟩ := ok_g k
  have f6 := kk_up h g5
  refine wp_st (ls' := [(0, .ref 0), (1, .int x1), (2, .int x2), (3, .int x3), (4, .int x4), (5, .ref t3)]) dX7_mend_5 rfl rfl rfl (Nat.le_of_ble_eq_true rfl) rfl ?_
  refine wp_ld (v := .ref 0) dX7_mend_7 rfl rfl rfl rfl ?_
  refine wp_ld (v := .int x3) dX7_mend_8 rfl rfl rfl rfl ?_
  refine t_v dX7_mend_9 rfl rfl rfl (am_inv_v rfl (kk_0 h) rfl rfl rfl) (s_X7_needHand h) k rfl rfl hP (fun v8 s7 h k => ?_)
  obtain ⟨t9, c10, k⟩ := ok_mn k
  subst c10
  obtain ⟨g11, k⟩ := ok_g k
  have f12 := kk_up h g11
  refine wp_st (ls' := [(0, .ref 0), (1, .int x1), (2, .int x2), (3, .int x3), (4, .int x4), (5, .ref t3), (6, .ref t9)]) dX7_mend_12 rfl rfl rfl (Nat.le_of_ble_eq_true rfl) rfl ?_
  refine wp_ld (v := .ref 0) dX7_mend_14 rfl rfl rfl rfl ?_
  refine wp_ld (v := .ref t3) dX7_mend_15 rfl rfl rfl rfl ?_
  refine t_u dX7_mend_17 rfl rfl rfl (am_inv_v rfl (kk_0 h) rfl rfl rfl) (s_X7_needMake h f6) k rfl rfl hP (fun s13 h k => ?_)
  refine wp_ld (v := .int x2) dX7_mend_20 rfl rfl rfl rfl ?_
  refine t_u dX7_mend_21 rfl rfl rfl (am_inv_s rfl rfl rfl rfl) (s_X7_needEars h) k rfl rfl hP (fun s15 h k => ?_)
  refine wp_ld (v := .ref 0) dX7_mend_24 rfl rfl rfl rfl ?_
  refine wp_ld (v := .ref t9) dX7_mend_25 rfl rfl rfl rfl ?_
  refine wp_ld (v := .int x2) dX7_mend_27 rfl rfl rfl rfl ?_
  refine wp_ld (v := .int x4) dX7_mend_28 rfl rfl rfl rfl ?_
  refine c_l dX7_mend_30 rfl rfl rfl (am_inv_v rfl (kk_0 h) rfl rfl rfl) (s_X7_reachOf h f12) k (fun v18 s17 h k => ?_)
  refine wp_st (ls' := [(0, .ref 0), (1, .int x1), (2, .int x2), (3, .int x3), (4, .int x4), (5, .ref t3), (6, .ref t9), (7, .long v18)]) dX7_mend_33 rfl rfl rfl (Nat.le_of_ble_eq_true rfl) rfl ?_
  refine wp_cst (v := .int (0 : Int32)) dX7_mend_35 rfl rfl ?_
  refine wp_st (ls' := [(0, .ref 0), (1, .int x1), (2, .int x2), (3, .int x3), (4, .int x4), (5, .ref t3), (6, .ref t9), (7, .long v18), (9, .int (0 : Int32))]) dX7_mend_36 rfl rfl rfl (Nat.le_of_ble_eq_true rfl) rfl ?_
  refine lp_m k (fun P1 k hA hB => ?_)
  refine wp_sub (q_X7_mend_38 ax_fuel h f6 f12 k (fun o s p h => hP o s (hA o s p) h) (fun e26 s27 p h => have k := hB e26 s27 p; ?_)) rfl ⟨rfl, rfl, rfl, rfl, rfl, rfl, rfl, trivial⟩
  refine wp_ld (v := .int e26) dX7_mend_123 rfl rfl rfl rfl ?_
  exact wp_end dX7_mend_125 rfl (am_end_i rfl) (hP _ _ (ok_s k) h)
noncomputable def f_L_mend (x2 : Int32) (x3 : Int32) (x4 : Int32) (x5 : Int32) (s : am_S) : am_F :=
  am_xi (f_X7_mend x2 x3 x4 x5 s) (fun v2 s1 =>
    some (.inl (some (.int (0 : Int32))), (am_sL s1 71 0 v2.toInt64))
  ) (fun e s1 =>
    if e = 3 then
      some (.inl (some (.int (1 : Int32))), s1)
    else
      if e = 1 then
        some (.inl (some (.int (2 : Int32))), s1)
      else
        if e = 0 then
          some (.inl (some (.int (3 : Int32))), s1)
        else
          none
  )
theorem s_L_mend {N : Nat} {d : Nat} {x2 : Int32} {x3 : Int32} {x4 : Int32} {x5 : Int32} {s : am_S} (h : am_shE N s)  : am_S1 (am_shE N) (d + 7) mL_mend [.ref 0, .int x2, .int x3, .int x4, .int x5, .ref 71] s (f_L_mend x2 x3 x4 x5 s) := by
  intro P Q k hP
  show am_WP (d + 7) mL_mend 0 [(0, .ref 0), (1, .int x2), (2, .int x3), (3, .int x4), (4, .int x5), (5, .ref 71)] [] s Q
  unfold f_L_mend at k
  refine wp_ld (v := .ref 71) dL_mend_0 rfl rfl rfl rfl ?_
  refine wp_cst (v := .int (0 : Int32)) dL_mend_2 rfl rfl ?_
  refine wp_ld (v := .ref 0) dL_mend_3 rfl rfl rfl rfl ?_
  refine wp_ld (v := .int x2) dL_mend_4 rfl rfl rfl rfl ?_
  refine wp_ld (v := .int x3) dL_mend_5 rfl rfl rfl rfl ?_
  refine wp_ld (v := .int x4) dL_mend_6 rfl rfl rfl rfl ?_
  refine wp_ld (v := .int x5) dL_mend_7 rfl rfl rfl rfl ?_
  refine x_i dL_mend_9 rfl rfl rfl (am_inv_v rfl (kE_0 h) rfl rfl rfl) (sE h (fun _ h => s_X7_mend h)) k rfl (List.cons_ne_nil _ _) (fun v2 s1 h k => ?_) (fun e s1 h k => ?_)
  · refine wp_pu dL_mend_12 rfl rfl ?_
    refine wq_last dL_mend_13 (kE_71 h) (by decide) (j := 0) rfl ?_
    refine wp_goto dL_mend_14 rfl ?_
    refine wp_cst (v := .int (0 : Int32)) dL_mend_29 rfl rfl ?_
    exact wp_end dL_mend_30 rfl (am_end_i rfl) (hP _ _ (ok_s k) (shE_sL h))
  · by_cases c3 : e = 3
    · have k := ok_pos c3 k
      subst c3
      refine ⟨_, _, rfl, ?_⟩
      refine wp_cst (v := .int (1 : Int32)) dL_mend_19 rfl rfl ?_
      exact wp_end dL_mend_20 rfl (am_end_i rfl) (hP _ _ (ok_s k) h)
    replace k := ok_neg c3 k
    by_cases c4 : e = 1
    · have k := ok_pos c4 k
      subst c4
      refine ⟨_, _, rfl, ?_⟩
      refine wp_cst (v := .int (2 : Int32)) dL_mend_23 rfl rfl ?_
      exact wp_end dL_mend_24 rfl (am_end_i rfl) (hP _ _ (ok_s k) h)
    replace k := ok_neg c4 k
    by_cases c5 : e = 0
    · have k := ok_pos c5 k
      subst c5
      refine ⟨_, _, rfl, ?_⟩
      refine wp_cst (v := .int (3 : Int32)) dL_mend_27 rfl rfl ?_
      exact wp_end dL_mend_28 rfl (am_end_i rfl) (hP _ _ (ok_s k) h)
    replace k := ok_neg c5 k
    exact (ok_no k).elim
noncomputable def L_X8_mend_48 : Nat → Int32 → Int32 → Int32 → Int32 → Int64 → Int32 → Int32 → am_S → am_FE (Int32)
  | 0, _, _, _, _, _, _, _, _ => none
  | m + 1, x1, x2, x3, x4, x5, x7, x8, s =>
    if x8 = 0 then
      some (.inr (x7, s))
    else
      if (4 : Int32) ≤ x7 then
        some (.inr (x7, s))
      else
        am_bu (f_X8_findChange x1 x2 x3 x4 s) (fun s11 =>
          am_jn (fun (e14 : Int32) s15 =>
            if e14 = 0 then
              L_X8_mend_48 m x1 x2 x3 x4 x5 x7 e14 s15
            else
              am_bi (f_X8_foldAt x1 (am_I s15 55 47) s15) (fun v18 s17 =>
                if am_in v18 264 = true then
                  am_bi (f_X8_foldAt x1 (am_I s17 55 47) (am_sI s17 56 (v18.toNatClampNeg) ((am_I s17 55 48) / (100 : Int32)))) (fun v21 s20 =>
                    if am_in (v21 + (1 : Int32)) 264 = true then
                      L_X8_mend_48 m x1 x2 x3 x4 (am_L s20 55 49) (x7 + (1 : Int32)) e14 (am_sI s20 56 ((v21 + (1 : Int32)).toNatClampNeg) ((am_I s20 55 48) - (am_I s20 55 48) / (100 : Int32) * (100 : Int32)))
                    else none
                  )
                else none
              )
          ) (fun J13 =>
            am_jn (fun (e24 : Unit) s25 =>
              J13 (0 : Int32) s25
            ) (fun J23 =>
              if (am_I s11 55 47) = (-1 : Int32) then
                J23 () s11
              else
                if (am_L s11 55 49) ≤ x5 then
                  J23 () s11
                else
                  J13 (1 : Int32) s11
            )
          )
        )
theorem q_X8_mend_48 : ∀ (m : Nat) {N n : Nat} {d : Nat} {x1 : Int32} {x2 : Int32} {x3 : Int32} {x4 : Int32} {x5 : Int64} {x7 : Int32} {x8 : Int32} {s : am_S} {P : (am_O × am_S) ⊕ (Int32 × am_S) → Prop} {Q : am_O → am_S → Prop} (h : am_sh N n s)  (k : am_ok (L_X8_mend_48 m x1 x2 x3 x4 x5 x7 x8 s) P) (hP : ∀ o s, P (.inl (o, s)) → am_sh N n s → Q o s) (hX : ∀ (e : Int32) s, P (.inr (e, s)) → am_sh N n s → am_WP (d + 10) mX8_mend 157 [(7, .int e)] [] s Q), am_WP (d + 10) mX8_mend 48 [(0, .ref 55), (1, .int x1), (2, .int x2), (3, .int x3), (4, .int x4), (5, .long x5), (7, .int x7), (8, .int x8)] [] s Q := by
  intro m
  induction m with
  | zero =>
    intro N n d x1 x2 x3 x4 x5 x7 x8 s P Q h  k hP hX
    exact (ok_no k).elim
  | succ m ih =>
    intro N n d x1 x2 x3 x4 x5 x7 x8 s P Q h  k hP hX
    unfold L_X8_mend_48 at k
    refine wp_ld (v := .int x8) dX8_mend_48 rfl rfl rfl rfl ?_
    refine wp_if_eq dX8_mend_50 rfl (fun c9 => have k := ok_pos c9 k; ?_) (fun c9 => have k := ok_neg c9 k; ?_)
    · exact wp_sub (hX _ _ (ok_s k) h) rfl ⟨rfl, trivial⟩
    · refine wp_ld (v := .int x7) dX8_mend_53 rfl rfl rfl rfl ?_
      refine wp_cst (v := .int (4 : Int32)) dX8_mend_55 rfl rfl ?_
      refine wp_ic_ge dX8_mend_56 rfl (fun c10 => have k := ok_pos c10 k; ?_) (fun c10 => have k := ok_neg c10 k; ?_)
      · exact wp_sub (hX _ _ (ok_s k) h) rfl ⟨rfl, trivial⟩
      · refine wp_ld (v := .ref 55) dX8_mend_59 rfl rfl rfl rfl ?_
        refine wp_ld (v := .int x1) dX8_mend_60 rfl rfl rfl rfl ?_
        refine wp_ld (v := .int x2) dX8_mend_61 rfl rfl rfl rfl ?_
        refine wp_ld (v := .int x3) dX8_mend_62 rfl rfl rfl rfl ?_
        refine wp_ld (v := .int x4) dX8_mend_63 rfl rfl rfl rfl ?_
        refine c_u dX8_mend_65 rfl rfl rfl (am_inv_v rfl (kk_55 h) rfl rfl rfl) (s_X8_findChange h) k (fun s11 h k => ?_)
        refine wp_ld (v := .ref 55) dX8_mend_68 rfl rfl rfl rfl ?_
        refine wq_gI dX8_mend_69 rfl rfl (kk_55 h) (v := (am_I s11 55 47)) rfl ?_
        refine wp_cst (v := .int (-1 : Int32)) dX8_mend_72 rfl rfl ?_
        refine jn_rule k (fun J13 hJ13 k => ?_)
        have HJ13 : ∀ (e14 : Int32) (s15 : am_S), am_sh N n s15 → am_ok (J13 e14 s15) P → am_WP (d + 10) mX8_mend 91 [(0, .ref 55), (1, .int x1), (2, .int x2), (3, .int x3), (4, .int x4), (5, .long x5), (7, .int x7)] [.int e14] s15 Q := by
          intro e14 s15 h k
          replace k := hJ13 _ _ k
          refine wp_st (ls' := [(0, .ref 55), (1, .int x1), (2, .int x2), (3, .int x3), (4, .int x4), (5, .long x5), (7, .int x7), (8, .int e14)]) dX8_mend_91 rfl rfl rfl (Nat.le_of_ble_eq_true rfl) rfl ?_
          refine wp_ld (v := .int e14) dX8_mend_93 rfl rfl rfl rfl ?_
          refine wp_if_ne dX8_mend_95 rfl (fun c16 => have k := ok_neg c16 k; ?_) (fun c16 => have k := ok_pos c16 k; ?_)
          · refine wp_ld (v := .ref 55) dX8_mend_101 rfl rfl rfl rfl ?_
            refine wp_gr dX8_mend_102 rfl rfl (kk_55 h) (rr_55_0 h) ?_
            refine wp_ld (v := .ref 55) dX8_mend_105 rfl rfl rfl rfl ?_
            refine wp_ld (v := .int x1) dX8_mend_106 rfl rfl rfl rfl ?_
            refine wp_ld (v := .ref 55) dX8_mend_107 rfl rfl rfl rfl ?_
            refine wq_gI dX8_mend_108 rfl rfl (kk_55 h) (v := (am_I s15 55 47)) rfl ?_
            refine c_i dX8_mend_111 rfl rfl rfl (am_inv_v rfl (kk_55 h) rfl rfl rfl) (s_X8_foldAt h) k (fun v18 s17 h k => ?_)
            refine wp_ld (v := .ref 55) dX8_mend_114 rfl rfl rfl rfl ?_
            refine wq_gI dX8_mend_115 rfl rfl (kk_55 h) (v := (am_I s17 55 48)) rfl ?_
            refine wp_cst (v := .int (100 : Int32)) dX8_mend_118 rfl rfl ?_
            refine wp_div dX8_mend_120 (by decide) ?_
            obtain ⟨g19, k⟩ := ok_g k
            refine wq_iast dX8_mend_121 (kk_56 h) g19 (j := (v18.toNatClampNeg)) rfl ?_
            refine wp_ld (v := .ref 55) dX8_mend_122 rfl rfl rfl rfl ?_
            refine wp_gr dX8_mend_123 rfl rfl (kk_55 (sh_sI h)) (rr_55_0 (sh_sI h)) ?_
            refine wp_ld (v := .ref 55) dX8_mend_126 rfl rfl rfl rfl ?_
            refine wp_ld (v := .int x1) dX8_mend_127 rfl rfl rfl rfl ?_
            refine wp_ld (v := .ref 55) dX8_mend_128 rfl rfl rfl rfl ?_
            refine wq_gI dX8_mend_129 rfl rfl (kk_55 (sh_sI h)) (v := (am_I s17 55 47)) rfl ?_
            show am_WP (d + 10) mX8_mend 132 _ _ _ Q
            refine c_i dX8_mend_132 rfl rfl rfl (am_inv_v rfl (kk_55 (sh_sI h)) rfl rfl rfl) (s_X8_foldAt (sh_sI h)) k (fun v21 s20 h k => ?_)
            refine wp_cst (v := .int (1 : Int32)) dX8_mend_135 rfl rfl ?_
            refine wp_pu dX8_mend_136 rfl rfl ?_
            refine wp_ld (v := .ref 55) dX8_mend_137 rfl rfl rfl rfl ?_
            refine wq_gI dX8_mend_138 rfl rfl (kk_55 h) (v := (am_I s20 55 48)) rfl ?_
            refine wp_cst (v := .int (100 : Int32)) dX8_mend_141 rfl rfl ?_
            refine wp_rem dX8_mend_143 (by decide) ?_
            obtain ⟨g22, k⟩ := ok_g k
            refine wq_iast dX8_mend_144 (kk_56 h) g22 (j := ((v21 + (1 : Int32)).toNatClampNeg)) rfl ?_
            refine wp_ld (v := .ref 55) dX8_mend_145 rfl rfl rfl rfl ?_
            refine wq_gL dX8_mend_146 rfl rfl (kk_55 (sh_sI h)) (l := (am_L s20 55 49)) rfl ?_
            refine wp_st (ls' := [(0, .ref 55), (1, .int x1), (2, .int x2), (3, .int x3), (4, .int x4), (5, .long (am_L s20 55 49)), (7, .int x7), (8, .int e14)]) dX8_mend_149 rfl rfl rfl (Nat.le_of_ble_eq_true rfl) rfl ?_
            refine wp_inc (v := (x7 + (1 : Int32))) (ls' := [(0, .ref 55), (1, .int x1), (2, .int x2), (3, .int x3), (4, .int x4), (5, .long (am_L s20 55 49)), (7, .int (x7 + (1 : Int32))), (8, .int e14)]) dX8_mend_151 rfl (Nat.le_of_ble_eq_true rfl) rfl rfl ?_
            show am_WP (d + 10) mX8_mend 154 _ _ _ Q
            refine wp_goto dX8_mend_154 rfl ?_
            exact wp_sub (ih (sh_sI h) k hP hX) rfl ⟨rfl, rfl, rfl, rfl, rfl, rfl, rfl, rfl, trivial⟩
          · refine wp_goto dX8_mend_98 rfl ?_
            exact wp_sub (ih h k hP hX) rfl ⟨rfl, rfl, rfl, rfl, rfl, rfl, rfl, rfl, trivial⟩
        refine jn_rule k (fun J23 hJ23 k => ?_)
        have HJ23 : ∀ (e24 : Unit) (s25 : am_S), am_sh N n s25 → am_ok (J23 e24 s25) P → am_WP (d + 10) mX8_mend 90 [(0, .ref 55), (1, .int x1), (2, .int x2), (3, .int x3), (4, .int x4), (5, .long x5), (7, .int x7)] [] s25 Q := by
          intro e24 s25 h k
          replace k := hJ23 _ _ k
          refine wp_cst (v := .int (0 : Int32)) dX8_mend_90 rfl rfl ?_
          exact wp_sub (HJ13 _ _ h k) rfl ⟨rfl, rfl, rfl, rfl, rfl, rfl, rfl, trivial⟩
        refine wp_ic_eq dX8_mend_73 rfl (fun c26 => have k := ok_pos c26 k; ?_) (fun c26 => have k := ok_neg c26 k; ?_)
        · exact wp_sub (HJ23 _ _ h k) rfl ⟨rfl, rfl, rfl, rfl, rfl, rfl, rfl, trivial⟩
        · refine wp_ld (v := .ref 55) dX8_mend_76 rfl rfl rfl rfl ?_
          refine wq_gL dX8_mend_77 rfl rfl (kk_55 h) (l := (am_L s11 55 49)) rfl ?_
          refine wp_ld (v := .long x5) dX8_mend_80 rfl rfl rfl rfl ?_
          refine wl_le dX8_mend_82 dX8_mend_83 rfl (fun c27 => have k := ok_pos c27 k; ?_) (fun c27 => have k := ok_neg c27 k; ?_)
          · exact wp_sub (HJ23 _ _ h k) rfl ⟨rfl, rfl, rfl, rfl, rfl, rfl, rfl, trivial⟩
          · refine wp_cst (v := .int (1 : Int32)) dX8_mend_86 rfl rfl ?_
            refine wp_goto dX8_mend_87 rfl ?_
            exact wp_sub (HJ13 _ _ h k) rfl ⟨rfl, rfl, rfl, rfl, rfl, rfl, rfl, trivial⟩
noncomputable def f_X8_mend (x1 : Int32) (x2 : Int32) (x3 : Int32) (x4 : Int32) (s : am_S) : am_F :=
  am_bi (f_X8_handFault x1 x3 s) (fun v2 s1 =>
    if v2 ≤ 0 then
      am_bi (f_X8_isEars x2 (am_sI s1 55 3 v2)) (fun v5 s4 =>
        if v5 = 0 then
          am_bi (f_X8_fails (3 : Int32) s4) (fun v31 s30 =>
            some (.inl (some (.int v31)), s30)
          )
        else
          am_bl (f_X8_reachOf x2 x3 x4 s4) (fun v8 s7 =>
            am_lm (L_X8_mend_48 ax_fuel x1 x2 x3 x4 v8 (0 : Int32) (1 : Int32) s7) (fun e28 s29 =>
              some (.inl (some (.int e28)), s29)
            )
          )
      )
    else
      some (.inl (some (.int (0 : Int32))), (am_sI s1 55 3 v2))
  )
theorem s_X8_mend {N n : Nat} {d : Nat} {x1 : Int32} {x2 : Int32} {x3 : Int32} {x4 : Int32} {s : am_S} (h : am_sh N n s)  : am_S1 (am_sh N n) (d + 10) mX8_mend [.ref 55, .int x1, .int x2, .int x3, .int x4] s (f_X8_mend x1 x2 x3 x4 s) := by
  intro P Q k hP
  show am_WP (d + 10) mX8_mend 0 [(0, .ref 55), (1, .int x1), (2, .int x2), (3, .int x3), (4, .int x4)] [] s Q
  unfold f_X8_mend at k
  refine wp_ld (v := .ref 55) dX8_mend_0 rfl rfl rfl rfl ?_
  refine wp_ld (v := .ref 55) dX8_mend_1 rfl rfl rfl rfl ?_
  refine wp_ld (v := .int x1) dX8_mend_2 rfl rfl rfl rfl ?_
  refine wp_ld (v := .int x3) dX8_mend_3 rfl rfl rfl rfl ?_
  refine c_i dX8_mend_4 rfl rfl rfl (am_inv_v rfl (kk_55 h) rfl rfl rfl) (s_X8_handFault h) k (fun v2 s1 h k => ?_)
  refine wp_pI dX8_mend_7 rfl rfl rfl (fun h => absurd h (by decide)) (kk_55 h) ?_
  refine wp_ld (v := .ref 55) dX8_mend_10 rfl rfl rfl rfl ?_
  refine wq_gI dX8_mend_11 rfl rfl (kk_55 (sh_sI h)) (v := v2) rfl ?_
  refine wp_if_le dX8_mend_14 rfl (fun c3 => have k := ok_pos c3 k; ?_) (fun c3 => have k := ok_neg c3 k; ?_)
  · refine wp_ld (v := .int x2) dX8_mend_19 rfl rfl rfl rfl ?_
    refine c_i dX8_mend_20 rfl rfl rfl (am_inv_s rfl rfl rfl rfl) (s_X8_isEars (sh_sI h)) k (fun v5 s4 h k => ?_)
    refine wp_if_ne dX8_mend_23 rfl (fun c6 => have k := ok_neg c6 k; ?_) (fun c6 => have k := ok_pos c6 k; ?_)
    · refine wp_ld (v := .ref 55) dX8_mend_32 rfl rfl rfl rfl ?_
      refine wp_ld (v := .int x2) dX8_mend_33 rfl rfl rfl rfl ?_
      refine wp_ld (v := .int x3) dX8_mend_34 rfl rfl rfl rfl ?_
      refine wp_ld (v := .int x4) dX8_mend_35 rfl rfl rfl rfl ?_
      refine c_l dX8_mend_37 rfl rfl rfl (am_inv_v rfl (kk_55 h) rfl rfl rfl) (s_X8_reachOf h) k (fun v8 s7 h k => ?_)
      refine wp_st (ls' := [(0, .ref 55), (1, .int x1), (2, .int x2), (3, .int x3), (4, .int x4), (5, .long v8)]) dX8_mend_40 rfl rfl rfl (Nat.le_of_ble_eq_true rfl) rfl ?_
      refine wp_cst (v := .int (0 : Int32)) dX8_mend_42 rfl rfl ?_
      refine wp_st (ls' := [(0, .ref 55), (1, .int x1), (2, .int x2), (3, .int x3), (4, .int x4), (5, .long v8), (7, .int (0 : Int32))]) dX8_mend_43 rfl rfl rfl (Nat.le_of_ble_eq_true rfl) rfl ?_
      refine wp_cst (v := .int (1 : Int32)) dX8_mend_45 rfl rfl ?_
      refine wp_st (ls' := [(0, .ref 55), (1, .int x1), (2, .int x2), (3, .int x3), (4, .int x4), (5, .long v8), (7, .int (0 : Int32)), (8, .int (1 : Int32))]) dX8_mend_46 rfl rfl rfl (Nat.le_of_ble_eq_true rfl) rfl ?_
      refine lp_m k (fun P1 k hA hB => ?_)
      refine wp_sub (q_X8_mend_48 ax_fuel h k (fun o s p h => hP o s (hA o s p) h) (fun e28 s29 p h => have k := hB e28 s29 p; ?_)) rfl ⟨rfl, rfl, rfl, rfl, rfl, rfl, rfl, rfl, trivial⟩
      refine wp_ld (v := .int e28) dX8_mend_157 rfl rfl rfl rfl ?_
      exact wp_end dX8_mend_159 rfl (am_end_i rfl) (hP _ _ (ok_s k) h)
    · refine wp_ld (v := .ref 55) dX8_mend_26 rfl rfl rfl rfl ?_
      refine wp_cst (v := .int (3 : Int32)) dX8_mend_27 rfl rfl ?_
      refine c_i dX8_mend_28 rfl rfl rfl (am_inv_v rfl (kk_55 h) rfl rfl rfl) (s_X8_fails h) k (fun v31 s30 h k => ?_)
      exact wp_end dX8_mend_31 rfl (am_end_i rfl) (hP _ _ (ok_s k) h)
  · refine wp_cst (v := .int (0 : Int32)) dX8_mend_17 rfl rfl ?_
    exact wp_end dX8_mend_18 rfl (am_end_i rfl) (hP _ _ (ok_s k) (sh_sI h))
noncomputable def f_X8_isHoop (x1 : Int32) (x2 : Int32) (x3 : Int32) (s : am_S) : am_F :=
  am_bi (f_X8_within x1.toInt64 (1 : Int64) (99999 : Int64) s) (fun v2 s1 =>
    if v2 = 0 then
      some (.inl (some (.int (0 : Int32))), s1)
    else
      am_bi (f_X8_within x2.toInt64 (0 : Int64) (9999 : Int64) s1) (fun v5 s4 =>
        if v5 = 0 then
          some (.inl (some (.int (0 : Int32))), s4)
        else
          am_bi (f_X8_within x3.toInt64 x2.toInt64 (9999 : Int64) s4) (fun v8 s7 =>
            if v8 = 0 then
              some (.inl (some (.int (0 : Int32))), s7)
            else
              some (.inl (some (.int (1 : Int32))), s7)
          )
      )
  )
theorem s_X8_isHoop {N n : Nat} {d : Nat} {x1 : Int32} {x2 : Int32} {x3 : Int32} {s : am_S} (h : am_sh N n s)  : am_S1 (am_sh N n) (d + 1) mX8_isHoop [.int x1, .int x2, .int x3] s (f_X8_isHoop x1 x2 x3 s) := by
  intro P Q k hP
  show am_WP (d + 1) mX8_isHoop 0 [(0, .int x1), (1, .int x2), (2, .int x3)] [] s Q
  unfold f_X8_isHoop at k
  refine wp_ld (v := .int x1) dX8_isHoop_0 rfl rfl rfl rfl ?_
  refine wp_pu dX8_isHoop_1 rfl rfl ?_
  refine wp_cst (v := .long (1 : Int64)) dX8_isHoop_2 rfl rfl ?_
  refine wp_cst (v := .long (99999 : Int64)) dX8_isHoop_3 rfl rfl ?_
  refine c_i dX8_isHoop_6 rfl rfl rfl (am_inv_s rfl rfl rfl rfl) (s_X8_within h) k (fun v2 s1 h k => ?_)
  refine wp_if_eq dX8_isHoop_9 rfl (fun c3 => have k := ok_pos c3 k; ?_) (fun c3 => have k := ok_neg c3 k; ?_)
  · refine wp_cst (v := .int (0 : Int32)) dX8_isHoop_41 rfl rfl ?_
    exact wp_end dX8_isHoop_42 rfl rfl (hP _ _ (ok_s k) h)
  · refine wp_ld (v := .int x2) dX8_isHoop_12 rfl rfl rfl rfl ?_
    refine wp_pu dX8_isHoop_13 rfl rfl ?_
    refine wp_cst (v := .long (0 : Int64)) dX8_isHoop_14 rfl rfl ?_
    refine wp_cst (v := .long (9999 : Int64)) dX8_isHoop_15 rfl rfl ?_
    refine c_i dX8_isHoop_18 rfl rfl rfl (am_inv_s rfl rfl rfl rfl) (s_X8_within h) k (fun v5 s4 h k => ?_)
    refine wp_if_eq dX8_isHoop_21 rfl (fun c6 => have k := ok_pos c6 k; ?_) (fun c6 => have k := ok_neg c6 k; ?_)
    · refine wp_cst (v := .int (0 : Int32)) dX8_isHoop_41 rfl rfl ?_
      exact wp_end dX8_isHoop_42 rfl rfl (hP _ _ (ok_s k) h)
    · refine wp_ld (v := .int x3) dX8_isHoop_24 rfl rfl rfl rfl ?_
      refine wp_pu dX8_isHoop_25 rfl rfl ?_
      refine wp_ld (v := .int x2) dX8_isHoop_26 rfl rfl rfl rfl ?_
      refine wp_pu dX8_isHoop_27 rfl rfl ?_
      refine wp_cst (v := .long (9999 : Int64)) dX8_isHoop_28 rfl rfl ?_
      refine c_i dX8_isHoop_31 rfl rfl rfl (am_inv_s rfl rfl rfl rfl) (s_X8_within h) k (fun v8 s7 h k => ?_)
      refine wp_if_eq dX8_isHoop_34 rfl (fun c9 => have k := ok_pos c9 k; ?_) (fun c9 => have k := ok_neg c9 k; ?_)
      · refine wp_cst (v := .int (0 : Int32)) dX8_isHoop_41 rfl rfl ?_
        exact wp_end dX8_isHoop_42 rfl rfl (hP _ _ (ok_s k) h)
      · refine wp_cst (v := .int (1 : Int32)) dX8_isHoop_37 rfl rfl ?_
        refine wp_goto dX8_isHoop_38 rfl ?_
        exact wp_end dX8_isHoop_42 rfl rfl (hP _ _ (ok_s k) h)
noncomputable def f_X8_goesThrough (x1 : Int32) (x2 : Int32) (x3 : Int32) (x4 : Int32) (x5 : Int32) (x6 : Int32) (s : am_S) : am_F :=
  am_bu (f_X8_flies x1 x2 x3 (200 : Int32) (am_sI (am_sI (am_sI s 55 42 x4) 55 43 x5) 55 44 x6)) (fun s1 =>
    if (am_I s1 55 45) = 0 ∨ (am_I s1 55 45) = 1 then
      some (.inl (some (.int (am_I s1 55 45))), (am_sI s1 55 42 (0 : Int32)))
    else none
  )
theorem s_X8_goesThrough {N n : Nat} {d : Nat} {x1 : Int32} {x2 : Int32} {x3 : Int32} {x4 : Int32} {x5 : Int32} {x6 : Int32} {s : am_S} (h : am_sh N n s)  : am_S1 (am_sh N n) (d + 7) mX8_goesThrough [.ref 55, .int x1, .int x2, .int x3, .int x4, .int x5, .int x6] s (f_X8_goesThrough x1 x2 x3 x4 x5 x6 s) := by
  intro P Q k hP
  show am_WP (d + 7) mX8_goesThrough 0 [(0, .ref 55), (1, .int x1), (2, .int x2), (3, .int x3), (4, .int x4), (5, .int x5), (6, .int x6)] [] s Q
  unfold f_X8_goesThrough at k
  refine wp_ld (v := .ref 55) dX8_goesThrough_0 rfl rfl rfl rfl ?_
  refine wp_ld (v := .int x4) dX8_goesThrough_1 rfl rfl rfl rfl ?_
  refine wp_pI dX8_goesThrough_3 rfl rfl rfl (fun h => absurd h (by decide)) (kk_55 h) ?_
  refine wp_ld (v := .ref 55) dX8_goesThrough_6 rfl rfl rfl rfl ?_
  refine wp_ld (v := .int x5) dX8_goesThrough_7 rfl rfl rfl rfl ?_
  refine wp_pI dX8_goesThrough_9 rfl rfl rfl (fun h => absurd h (by decide)) (kk_55 (sh_sI h)) ?_
  refine wp_ld (v := .ref 55) dX8_goesThrough_12 rfl rfl rfl rfl ?_
  refine wp_ld (v := .int x6) dX8_goesThrough_13 rfl rfl rfl rfl ?_
  refine wp_pI dX8_goesThrough_15 rfl rfl rfl (fun h => absurd h (by decide)) (kk_55 (sh_sI (sh_sI h))) ?_
  refine wp_ld (v := .ref 55) dX8_goesThrough_18 rfl rfl rfl rfl ?_
  refine wp_ld (v := .int x1) dX8_goesThrough_19 rfl rfl rfl rfl ?_
  show am_WP (d + 7) mX8_goesThrough 20 _ _ _ Q
  refine wp_ld (v := .int x2) dX8_goesThrough_20 rfl rfl rfl rfl ?_
  refine wp_ld (v := .int x3) dX8_goesThrough_21 rfl rfl rfl rfl ?_
  refine wp_cst (v := .int (200 : Int32)) dX8_goesThrough_22 rfl rfl ?_
  refine c_u dX8_goesThrough_25 rfl rfl rfl (am_inv_v rfl (kk_55 (sh_sI (sh_sI (sh_sI h)))) rfl rfl rfl) (s_X8_flies (sh_sI (sh_sI (sh_sI h)))) k (fun s1 h k => ?_)
  refine wp_ld (v := .ref 55) dX8_goesThrough_28 rfl rfl rfl rfl ?_
  refine wp_cst (v := .int (0 : Int32)) dX8_goesThrough_29 rfl rfl ?_
  refine wp_pI dX8_goesThrough_30 rfl rfl rfl (fun h => absurd h (by decide)) (kk_55 h) ?_
  refine wp_ld (v := .ref 55) dX8_goesThrough_33 rfl rfl rfl rfl ?_
  refine wq_gI dX8_goesThrough_34 rfl rfl (kk_55 (sh_sI h)) (v := (am_I s1 55 45)) rfl ?_
  obtain ⟨g3, k⟩ := ok_g k
  exact wp_end dX8_goesThrough_37 rfl (am_end_b rfl g3) (hP _ _ (ok_s k) (sh_sI h))
noncomputable def f_X8_hoop (x1 : Int32) (x2 : Int32) (x3 : Int32) (x4 : Int32) (x5 : Int32) (x6 : Int32) (x7 : Int32) (s : am_S) : am_F :=
  am_bi (f_X8_wayFault x1 s) (fun v2 s1 =>
    am_jn (fun (e4 : Unit) s5 =>
      if (am_I s5 55 3) = 0 then
        am_bi (f_X8_goesThrough x2 x3 x4 x5 x6 x7 s5) (fun v8 s7 =>
          if v8 = 0 then
            some (.inl (some (.int (0 : Int32))), s7)
          else
            some (.inl (some (.int (1 : Int32))), s7)
        )
      else
        some (.inl (some (.int (0 : Int32))), s5)
    ) (fun J3 =>
      if v2 = 0 then
        am_bi (f_X8_isEars x2 (am_sI s1 55 3 v2)) (fun v12 s11 =>
          am_jn (fun (e14 : Unit) s15 =>
            J3 () (am_sI s15 55 3 (3 : Int32))
          ) (fun J13 =>
            if v12 = 0 then
              J13 () s11
            else
              am_bi (f_X8_isSpeed x3 s11) (fun v18 s17 =>
                if v18 = 0 then
                  J13 () s17
                else
                  am_bi (f_X8_isSlant x4 s17) (fun v21 s20 =>
                    if v21 = 0 then
                      J13 () s20
                    else
                      am_bi (f_X8_isHoop x5 x6 x7 s20) (fun v24 s23 =>
                        if v24 = 0 then
                          J13 () s23
                        else
                          J3 () s23
                      )
                  )
              )
          )
        )
      else
        J3 () (am_sI s1 55 3 v2)
    )
  )
theorem s_X8_hoop {N n : Nat} {d : Nat} {x1 : Int32} {x2 : Int32} {x3 : Int32} {x4 : Int32} {x5 : Int32} {x6 : Int32} {x7 : Int32} {s : am_S} (h : am_sh N n s)  : am_S1 (am_sh N n) (d + 8) mX8_hoop [.ref 55, .int x1, .int x2, .int x3, .int x4, .int x5, .int x6, .int x7] s (f_X8_hoop x1 x2 x3 x4 x5 x6 x7 s) := by
  intro P Q k hP
  show am_WP (d + 8) mX8_hoop 0 [(0, .ref 55), (1, .int x1), (2, .int x2), (3, .int x3), (4, .int x4), (5, .int x5), (6, .int x6), (7, .int x7)] [] s Q
  unfold f_X8_hoop at k
  refine wp_ld (v := .ref 55) dX8_hoop_0 rfl rfl rfl rfl ?_
  refine wp_ld (v := .ref 55) dX8_hoop_1 rfl rfl rfl rfl ?_
  refine wp_ld (v := .int x1) dX8_hoop_2 rfl rfl rfl rfl ?_
  refine c_i dX8_hoop_3 rfl rfl rfl (am_inv_v rfl (kk_55 h) rfl rfl rfl) (s_X8_wayFault h) k (fun v2 s1 h k => ?_)
  refine wp_pI dX8_hoop_6 rfl rfl rfl (fun h => absurd h (by decide)) (kk_55 h) ?_
  refine wp_ld (v := .ref 55) dX8_hoop_9 rfl rfl rfl rfl ?_
  refine wq_gI dX8_hoop_10 rfl rfl (kk_55 (sh_sI h)) (v := v2) rfl ?_
  refine jn_rule k (fun J3 hJ3 k => ?_)
  have HJ3 : ∀ (e4 : Unit) (s5 : am_S), am_sh N n s5 → am_ok (J3 e4 s5) P → am_WP (d + 8) mX8_hoop 55 [(0, .ref 55), (2, .int x2), (3, .int x3), (4, .int x4), (5, .int x5), (6, .int x6), (7, .int x7)] [] s5 Q := by
    intro e4 s5 h k
    replace k := hJ3 _ _ k
    refine wp_ld (v := .ref 55) dX8_hoop_55 rfl rfl rfl rfl ?_
    refine wq_gI dX8_hoop_56 rfl rfl (kk_55 h) (v := (am_I s5 55 3)) rfl ?_
    refine wp_if_ne dX8_hoop_59 rfl (fun c6 => have k := ok_neg c6 k; ?_) (fun c6 => have k := ok_pos c6 k; ?_)
    · refine wp_cst (v := .int (0 : Int32)) dX8_hoop_83 rfl rfl ?_
      exact wp_end dX8_hoop_84 rfl rfl (hP _ _ (ok_s k) h)
    · refine wp_ld (v := .ref 55) dX8_hoop_62 rfl rfl rfl rfl ?_
      refine wp_ld (v := .int x2) dX8_hoop_63 rfl rfl rfl rfl ?_
      refine wp_ld (v := .int x3) dX8_hoop_64 rfl rfl rfl rfl ?_
      refine wp_ld (v := .int x4) dX8_hoop_65 rfl rfl rfl rfl ?_
      refine wp_ld (v := .int x5) dX8_hoop_67 rfl rfl rfl rfl ?_
      refine wp_ld (v := .int x6) dX8_hoop_69 rfl rfl rfl rfl ?_
      refine wp_ld (v := .int x7) dX8_hoop_71 rfl rfl rfl rfl ?_
      refine c_i dX8_hoop_73 rfl rfl rfl (am_inv_v rfl (kk_55 h) rfl rfl rfl) (s_X8_goesThrough h) k (fun v8 s7 h k => ?_)
      refine wp_if_eq dX8_hoop_76 rfl (fun c9 => have k := ok_pos c9 k; ?_) (fun c9 => have k := ok_neg c9 k; ?_)
      · refine wp_cst (v := .int (0 : Int32)) dX8_hoop_83 rfl rfl ?_
        exact wp_end dX8_hoop_84 rfl rfl (hP _ _ (ok_s k) h)
      · refine wp_cst (v := .int (1 : Int32)) dX8_hoop_79 rfl rfl ?_
        refine wp_goto dX8_hoop_80 rfl ?_
        exact wp_end dX8_hoop_84 rfl rfl (hP _ _ (ok_s k) h)
  refine wp_if_ne dX8_hoop_13 rfl (fun c10 => have k := ok_neg c10 k; ?_) (fun c10 => have k := ok_pos c10 k; ?_)
  · exact wp_sub (HJ3 _ _ (sh_sI h) k) rfl ⟨rfl, rfl, rfl, rfl, rfl, rfl, rfl, trivial⟩
  · refine wp_ld (v := .int x2) dX8_hoop_16 rfl rfl rfl rfl ?_
    refine c_i dX8_hoop_17 rfl rfl rfl (am_inv_s rfl rfl rfl rfl) (s_X8_isEars (sh_sI h)) k (fun v12 s11 h k => ?_)
    refine jn_rule k (fun J13 hJ13 k => ?_)
    have HJ13 : ∀ (e14 : Unit) (s15 : am_S), am_sh N n s15 → am_ok (J13 e14 s15) P → am_WP (d + 8) mX8_hoop 50 [(0, .ref 55), (2, .int x2), (3, .int x3), (4, .int x4), (5, .int x5), (6, .int x6), (7, .int x7)] [] s15 Q := by
      intro e14 s15 h k
      replace k := hJ13 _ _ k
      refine wp_ld (v := .ref 55) dX8_hoop_50 rfl rfl rfl rfl ?_
      refine wp_cst (v := .int (3 : Int32)) dX8_hoop_51 rfl rfl ?_
      refine wp_pI dX8_hoop_52 rfl rfl rfl (fun h => absurd h (by decide)) (kk_55 h) ?_
      exact wp_sub (HJ3 _ _ (sh_sI h) k) rfl ⟨rfl, rfl, rfl, rfl, rfl, rfl, rfl, trivial⟩
    refine wp_if_eq dX8_hoop_20 rfl (fun c16 => have k := ok_pos c16 k; ?_) (fun c16 => have k := ok_neg c16 k; ?_)
    · exact wp_sub (HJ13 _ _ h k) rfl ⟨rfl, rfl, rfl, rfl, rfl, rfl, rfl, trivial⟩
    · refine wp_ld (v := .int x3) dX8_hoop_23 rfl rfl rfl rfl ?_
      refine c_i dX8_hoop_24 rfl rfl rfl (am_inv_s rfl rfl rfl rfl) (s_X8_isSpeed h) k (fun v18 s17 h k => ?_)
      refine wp_if_eq dX8_hoop_27 rfl (fun c19 => have k := ok_pos c19 k; ?_) (fun c19 => have k := ok_neg c19 k; ?_)
      · exact wp_sub (HJ13 _ _ h k) rfl ⟨rfl, rfl, rfl, rfl, rfl, rfl, rfl, trivial⟩
      · refine wp_ld (v := .int x4) dX8_hoop_30 rfl rfl rfl rfl ?_
        refine c_i dX8_hoop_32 rfl rfl rfl (am_inv_s rfl rfl rfl rfl) (s_X8_isSlant h) k (fun v21 s20 h k => ?_)
        refine wp_if_eq dX8_hoop_35 rfl (fun c22 => have k := ok_pos c22 k; ?_) (fun c22 => have k := ok_neg c22 k; ?_)
        · exact wp_sub (HJ13 _ _ h k) rfl ⟨rfl, rfl, rfl, rfl, rfl, rfl, rfl, trivial⟩
        · refine wp_ld (v := .int x5) dX8_hoop_38 rfl rfl rfl rfl ?_
          refine wp_ld (v := .int x6) dX8_hoop_40 rfl rfl rfl rfl ?_
          refine wp_ld (v := .int x7) dX8_hoop_42 rfl rfl rfl rfl ?_
          refine c_i dX8_hoop_44 rfl rfl rfl (am_inv_s rfl rfl rfl rfl) (s_X8_isHoop h) k (fun v24 s23 h k => ?_)
          refine wp_if_ne dX8_hoop_47 rfl (fun c25 => have k := ok_neg c25 k; ?_) (fun c25 => have k := ok_pos c25 k; ?_)
          · exact wp_sub (HJ3 _ _ h k) rfl ⟨rfl, rfl, rfl, rfl, rfl, rfl, rfl, trivial⟩
          · exact wp_sub (HJ13 _ _ h k) rfl ⟨rfl, rfl, rfl, rfl, rfl, rfl, rfl, trivial⟩
noncomputable def L_X7_power_5 : Nat → Int64 → Int32 → Int64 → Int32 → am_S → am_FE (Int64)
  | 0, _, _, _, _, _ => none
  | m + 1, x0, x2, x3, x5, s =>
    if x2 ≤ x5 then
      some (.inr (x3, s))
    else
      L_X7_power_5 m x0 x2 (x3 * x0) (x5 + (1 : Int32)) s
theorem q_X7_power_5 : ∀ (m : Nat) {N n : Nat} {d : Nat} {x0 : Int64} {x2 : Int32} {x3 : Int64} {x5 : Int32} {s : am_S} {P : (am_O × am_S) ⊕ (Int64 × am_S) → Prop} {Q : am_O → am_S → Prop} (h : am_sh N n s)  (k : am_ok (L_X7_power_5 m x0 x2 x3 x5 s) P) (hP : ∀ o s, P (.inl (o, s)) → am_sh N n s → Q o s) (hX : ∀ (e : Int64) s, P (.inr (e, s)) → am_sh N n s → am_WP (d) mX7_power 21 [(3, .long e)] [] s Q), am_WP (d) mX7_power 5 [(0, .long x0), (2, .int x2), (3, .long x3), (5, .int x5)] [] s Q := by
  intro m
  induction m with
  | zero =>
    intro N n d x0 x2 x3 x5 s P Q h  k hP hX
    exact (ok_no k).elim
  | succ m ih =>
    intro N n d x0 x2 x3 x5 s P Q h  k hP hX
    unfold L_X7_power_5 at k
    refine wp_ld (v := .int x5) dX7_power_5 rfl rfl rfl rfl ?_
    refine wp_ld (v := .int x2) dX7_power_7 rfl rfl rfl rfl ?_
    refine wp_ic_ge dX7_power_8 rfl (fun c1 => have k := ok_pos c1 k; ?_) (fun c1 => have k := ok_neg c1 k; ?_)
    · exact wp_sub (hX _ _ (ok_s k) h) rfl ⟨rfl, trivial⟩
    · refine wp_ld (v := .long x3) dX7_power_11 rfl rfl rfl rfl ?_
      refine wp_ld (v := .long x0) dX7_power_12 rfl rfl rfl rfl ?_
      refine wp_pu dX7_power_13 rfl rfl ?_
      refine wp_st (ls' := [(0, .long x0), (2, .int x2), (3, .long (x3 * x0)), (5, .int x5)]) dX7_power_14 rfl rfl rfl (Nat.le_of_ble_eq_true rfl) rfl ?_
      refine wp_inc (v := (x5 + (1 : Int32))) (ls' := [(0, .long x0), (2, .int x2), (3, .long (x3 * x0)), (5, .int (x5 + (1 : Int32)))]) dX7_power_15 rfl (Nat.le_of_ble_eq_true rfl) rfl rfl ?_
      refine wp_goto dX7_power_18 rfl ?_
      exact wp_sub (ih h k hP hX) rfl ⟨rfl, rfl, rfl, rfl, trivial⟩
noncomputable def f_X7_power (x1 : Int64) (x2 : Int32) (s : am_S) : am_F :=
  am_lm (L_X7_power_5 ax_fuel x1 x2 (1 : Int64) (0 : Int32) s) (fun e2 s3 =>
    some (.inl (some (.long e2)), s3)
  )
theorem s_X7_power {N n : Nat} {d : Nat} {x1 : Int64} {x2 : Int32} {s : am_S} (h : am_sh N n s)  : am_S1 (am_sh N n) (d) mX7_power [.long x1, .int x2] s (f_X7_power x1 x2 s) := by
  intro P Q k hP
  show am_WP (d) mX7_power 0 [(0, .long x1), (2, .int x2)] [] s Q
  unfold f_X7_power at k
  refine wp_cst (v := .long (1 : Int64)) dX7_power_0 rfl rfl ?_
  refine wp_st (ls' := [(0, .long x1), (2, .int x2), (3, .long (1 : Int64))]) dX7_power_1 rfl rfl rfl (Nat.le_of_ble_eq_true rfl) rfl ?_
  refine wp_cst (v := .int (0 : Int32)) dX7_power_2 rfl rfl ?_
  refine wp_st (ls' := [(0, .long x1), (2, .int x2), (3, .long (1 : Int64)), (5, .int (0 : Int32))]) dX7_power_3 rfl rfl rfl (Nat.le_of_ble_eq_true rfl) rfl ?_
  refine lp_m k (fun P1 k hA hB => ?_)
  refine wp_sub (q_X7_power_5 ax_fuel h k (fun o s p h => hP o s (hA o s p) h) (fun e2 s3 p h => have k := hB e2 s3 p; ?_)) rfl ⟨rfl, rfl, rfl, rfl, trivial⟩
  refine wp_ld (v := .long e2) dX7_power_21 rfl rfl rfl rfl ?_
  exact wp_end dX7_power_22 rfl (am_end_l rfl) (hP _ _ (ok_s k) h)
noncomputable def L_X7_odds_49 : Nat → Int32 → Int32 → Int32 → Int32 → Int32 → Nat → Int64 → Int64 → Int32 → am_S → am_FE ((Int64 × Int64))
  | 0, _, _, _, _, _, _, _, _, _, _ => none
  | m + 1, x2, x4, x5, x6, x7, a9, x10, x12, x14, s =>
    if (am_I s a9 2) ≤ x14 then
      some (.inr ((x10, x12), s))
    else
      am_bi (f_X4_get a9 x14 (2 : Int32) s) (fun v23 s22 =>
        am_bi (f_X4_get a9 x14 (0 : Int32) s22) (fun v25 s24 =>
          am_bi (f_X4_get a9 x14 (1 : Int32) s24) (fun v27 s26 =>
            am_bu (f_X1_begin x2 v25 v27 s26) (fun s28 =>
              am_bi (f_X1_goesThrough x5 x6 x7 s28) (fun v31 s30 =>
                if v31 = 0 then
                  L_X7_odds_49 m x2 x4 x5 x6 x7 a9 (x10 + v23.toInt64) (x12 + v23.toInt64) (x14 + (1 : Int32)) s30
                else
                  L_X7_odds_49 m x2 x4 x5 x6 x7 a9 (x10 + v23.toInt64) x12 (x14 + (1 : Int32)) s30
              )
            )
          )
        )
      )
theorem q_X7_odds_49 : ∀ (m : Nat) {N n : Nat} {d : Nat} {x2 : Int32} {x4 : Int32} {x5 : Int32} {x6 : Int32} {x7 : Int32} {a9 : Nat} {x10 : Int64} {x12 : Int64} {x14 : Int32} {s : am_S} {P : (am_O × am_S) ⊕ ((Int64 × Int64) × am_S) → Prop} {Q : am_O → am_S → Prop} (h : am_sh N n s) (fa9 : am_kf n a9 4) (k : am_ok (L_X7_odds_49 m x2 x4 x5 x6 x7 a9 x10 x12 x14 s) P) (hP : ∀ o s, P (.inl (o, s)) → am_sh N n s → Q o s) (hX : ∀ (e : (Int64 × Int64)) s, P (.inr (e, s)) → am_sh N n s → am_WP (d + 6) mX7_odds 131 [(4, .int x4), (10, .long e.1), (12, .long e.2)] [] s Q), am_WP (d + 6) mX7_odds 49 [(0, .ref 0), (2, .int x2), (4, .int x4), (5, .int x5), (6, .int x6), (7, .int x7), (9, .ref a9), (10, .long x10), (12, .long x12), (14, .int x14)] [] s Q := by
  intro m
  induction m with
  | zero =>
    intro N n d x2 x4 x5 x6 x7 a9 x10 x12 x14 s P Q h fa9 k hP hX
    exact (ok_no k).elim
  | succ m ih =>
    intro N n d x2 x4 x5 x6 x7 a9 x10 x12 x14 s P Q h fa9 k hP hX
    unfold L_X7_odds_49 at k
    refine wp_ld (v := .int x14) dX7_odds_49 rfl rfl rfl rfl ?_
    refine wp_ld (v := .ref a9) dX7_odds_51 rfl rfl rfl rfl ?_
    refine wq_gI dX7_odds_53 rfl rfl (kk_f h fa9) (v := (am_I s a9 2)) rfl ?_
    refine wp_ic_ge dX7_odds_56 rfl (fun c21 => have k := ok_pos c21 k; ?_) (fun c21 => have k := ok_neg c21 k; ?_)
    · exact wp_sub (hX _ _ (ok_s k) h) rfl ⟨rfl, rfl, rfl, trivial⟩
    · refine wp_ld (v := .ref a9) dX7_odds_59 rfl rfl rfl rfl ?_
      refine wp_ld (v := .int x14) dX7_odds_61 rfl rfl rfl rfl ?_
      refine wp_cst (v := .int (2 : Int32)) dX7_odds_63 rfl rfl ?_
      refine c_i dX7_odds_64 rfl rfl rfl (am_inv_v rfl (kk_f h fa9) rfl rfl rfl) (s_X4_get h fa9) k (fun v23 s22 h k => ?_)
      refine wp_st (ls' := [(0, .ref 0), (2, .int x2), (4, .int x4), (5, .int x5), (6, .int x6), (7, .int x7), (9, .ref a9), (10, .long x10), (12, .long x12), (14, .int x14), (15, .int v23)]) dX7_odds_67 rfl rfl rfl (Nat.le_of_ble_eq_true rfl) rfl ?_
      refine wp_ld (v := .long x10) dX7_odds_69 rfl rfl rfl rfl ?_
      refine wp_ld (v := .int v23) dX7_odds_71 rfl rfl rfl rfl ?_
      refine wp_pu dX7_odds_73 rfl rfl ?_
      refine wp_pu dX7_odds_74 rfl rfl ?_
      refine wp_st (ls' := [(0, .ref 0), (2, .int x2), (4, .int x4), (5, .int x5), (6, .int x6), (7, .int x7), (9, .ref a9), (10, .long (x10 + v23.toInt64)), (12, .long x12), (14, .int x14), (15, .int v23)]) dX7_odds_75 rfl rfl rfl (Nat.le_of_ble_eq_true rfl) rfl ?_
      refine wp_ld (v := .ref 0) dX7_odds_77 rfl rfl rfl rfl ?_
      refine wp_gr dX7_odds_78 rfl rfl (kk_0 h) (rr_0_6 h) ?_
      refine wp_ld (v := .int x2) dX7_odds_81 rfl rfl rfl rfl ?_
      refine wp_ld (v := .ref a9) dX7_odds_82 rfl rfl rfl rfl ?_
      refine wp_ld (v := .int x14) dX7_odds_84 rfl rfl rfl rfl ?_
      show am_WP (d + 6) mX7_odds 86 _ _ _ Q
      refine wp_cst (v := .int (0 : Int32)) dX7_odds_86 rfl rfl ?_
      refine c_i dX7_odds_87 rfl rfl rfl (am_inv_v rfl (kk_f h fa9) rfl rfl rfl) (s_X4_get h fa9) k (fun v25 s24 h k => ?_)
      refine wp_ld (v := .ref a9) dX7_odds_90 rfl rfl rfl rfl ?_
      refine wp_ld (v := .int x14) dX7_odds_92 rfl rfl rfl rfl ?_
      refine wp_cst (v := .int (1 : Int32)) dX7_odds_94 rfl rfl ?_
      refine c_i dX7_odds_95 rfl rfl rfl (am_inv_v rfl (kk_f h fa9) rfl rfl rfl) (s_X4_get h fa9) k (fun v27 s26 h k => ?_)
      refine c_u dX7_odds_98 rfl rfl rfl (am_inv_v rfl (kk_41 h) rfl rfl rfl) (s_X1_begin h) k (fun s28 h k => ?_)
      refine wp_ld (v := .ref 0) dX7_odds_101 rfl rfl rfl rfl ?_
      refine wp_gr dX7_odds_102 rfl rfl (kk_0 h) (rr_0_6 h) ?_
      refine wp_ld (v := .int x5) dX7_odds_105 rfl rfl rfl rfl ?_
      refine wp_ld (v := .int x6) dX7_odds_107 rfl rfl rfl rfl ?_
      refine wp_ld (v := .int x7) dX7_odds_109 rfl rfl rfl rfl ?_
      refine c_i dX7_odds_111 rfl rfl rfl (am_inv_v rfl (kk_41 h) rfl rfl rfl) (s_X1_goesThrough h) k (fun v31 s30 h k => ?_)
      refine wp_if_ne dX7_odds_114 rfl (fun c32 => have k := ok_neg c32 k; ?_) (fun c32 => have k := ok_pos c32 k; ?_)
      · refine wp_inc (v := (x14 + (1 : Int32))) (ls' := [(0, .ref 0), (2, .int x2), (4, .int x4), (5, .int x5), (6, .int x6), (7, .int x7), (9, .ref a9), (10, .long (x10 + v23.toInt64)), (12, .long x12), (14, .int (x14 + (1 : Int32))), (15, .int v23)]) dX7_odds_125 rfl (Nat.le_of_ble_eq_true rfl) rfl rfl ?_
        refine wp_goto dX7_odds_128 rfl ?_
        exact wp_sub (ih h fa9 k hP hX) rfl ⟨rfl, rfl, rfl, rfl, rfl, rfl, rfl, rfl, rfl, rfl, trivial⟩
      · refine wp_ld (v := .long x12) dX7_odds_117 rfl rfl rfl rfl ?_
        refine wp_ld (v := .int v23) dX7_odds_119 rfl rfl rfl rfl ?_
        refine wp_pu dX7_odds_121 rfl rfl ?_
        refine wp_pu dX7_odds_122 rfl rfl ?_
        refine wp_st (ls' := [(0, .ref 0), (2, .int x2), (4, .int x4), (5, .int x5), (6, .int x6), (7, .int x7), (9, .ref a9), (10, .long (x10 + v23.toInt64)), (12, .long (x12 + v23.toInt64)), (14, .int x14), (15, .int v23)]) dX7_odds_123 rfl rfl rfl (Nat.le_of_ble_eq_true rfl) rfl ?_
        refine wp_inc (v := (x14 + (1 : Int32))) (ls' := [(0, .ref 0), (2, .int x2), (4, .int x4), (5, .int x5), (6, .int x6), (7, .int x7), (9, .ref a9), (10, .long (x10 + v23.toInt64)), (12, .long (x12 + v23.toInt64)), (14, .int (x14 + (1 : Int32))), (15, .int v23)]) dX7_odds_125 rfl (Nat.le_of_ble_eq_true rfl) rfl rfl ?_
        refine wp_goto dX7_odds_128 rfl ?_
        exact wp_sub (ih h fa9 k hP hX) rfl ⟨rfl, rfl, rfl, rfl, rfl, rfl, rfl, rfl, rfl, rfl, trivial⟩
noncomputable def f_X7_odds (x1 : Int32) (x2 : Int32) (x3 : Int32) (x4 : Int32) (x5 : Int32) (x6 : Int32) (x7 : Int32) (s : am_S) : am_F :=
  am_tv (f_X7_needWay x1 s) (fun v2 s1 =>
    am_mv v2 none (fun t3 => if am_k0 t3 = (4, 0) ∧ t3 < 72 then
      am_tv (f_X7_needHand x3 s1) (fun v8 s7 =>
        am_mv v8 none (fun t9 => if am_k0 t9 = (4, 0) ∧ t9 < 72 then
          am_tu (f_X7_needMake t3 s7) (fun s13 =>
            am_tu (f_X7_needEars x2 s13) (fun s15 =>
              am_tu (f_X7_needWithin x4 (1 : Int32) (4 : Int32) s15) (fun s17 =>
                am_tu (f_X7_needHoop x5 x6 x7 s17) (fun s19 =>
                  am_lm (L_X7_odds_49 ax_fuel x2 x4 x5 x6 x7 t9 (0 : Int64) (0 : Int64) (0 : Int32) s19) (fun e33 s34 =>
                    am_bl (f_X7_power e33.1 x4 s34) (fun v36 s35 =>
                      am_bl (f_X7_power e33.2 x4 s35) (fun v38 s37 =>
                        some (.inl (some (.long (v36 - v38))), s37)
                      )
                    )
                  )
                )
              )
            )
          )
        else none)
      )
    else none)
  )
theorem s_X7_odds {N n : Nat} {d : Nat} {x1 : Int32} {x2 : Int32} {x3 : Int32} {x4 : Int32} {x5 : Int32} {x6 : Int32} {x7 : Int32} {s : am_S} (h : am_sh N n s)  : am_S1 (am_sh N n) (d + 6) mX7_odds [.ref 0, .int x1, .int x2, .int x3, .int x4, .int x5, .int x6, .int x7] s (f_X7_odds x1 x2 x3 x4 x5 x6 x7 s) := by
  intro P Q k hP
  show am_WP (d + 6) mX7_odds 0 [(0, .ref 0), (1, .int x1), (2, .int x2), (3, .int x3), (4, .int x4), (5, .int x5), (6, .int x6), (7, .int x7)] [] s Q
  unfold f_X7_odds at k
  refine wp_ld (v := .ref 0) dX7_odds_0 rfl rfl rfl rfl ?_
  refine wp_ld (v := .int x1) dX7_odds_1 rfl rfl rfl rfl ?_
  refine t_v dX7_odds_2 rfl rfl rfl (am_inv_v rfl (kk_0 h) rfl rfl rfl) (s_X7_needWay h) k rfl rfl hP (fun v2 s1 h k => ?_)
  obtain ⟨t3, c4, k⟩ := ok_mn k
  subst c4
  obtain ⟨g5, k⟩ := ok_g k
  have f6 := kk_up h g5
  refine wp_st (ls' := [(0, .ref 0), (1, .int x1), (2, .int x2), (3, .int x3), (4, .int x4), (5, .int x5), (6, .int x6), (7, .int x7), (8, .ref t3)]) dX7_odds_5 rfl rfl rfl (Nat.le_of_ble_eq_true rfl) rfl ?_
  refine wp_ld (v := .ref 0) dX7_odds_7 rfl rfl rfl rfl ?_
  refine wp_ld (v := .int x3) dX7_odds_8 rfl rfl rfl rfl ?_
  refine t_v dX7_odds_9 rfl rfl rfl (am_inv_v rfl (kk_0 h) rfl rfl rfl) (s_X7_needHand h) k rfl rfl hP (fun v8 s7 h k => ?_)
  obtain ⟨t9, c10, k⟩ := ok_mn k
  subst c10
  obtain ⟨g11, k⟩ := ok_g k
  have f12 := kk_up h g11
  refine wp_st (ls' := [(0, .ref 0), (1, .int x1), (2, .int x2), (3, .int x3), (4, .int x4), (5, .int x5), (6, .int x6), (7, .int x7), (8, .ref t3), (9, .ref t9)]) dX7_odds_12 rfl rfl rfl (Nat.le_of_ble_eq_true rfl) rfl ?_
  refine wp_ld (v := .ref 0) dX7_odds_14 rfl rfl rfl rfl ?_
  refine wp_ld (v := .ref t3) dX7_odds_15 rfl rfl rfl rfl ?_
  refine t_u dX7_odds_17 rfl rfl rfl (am_inv_v rfl (kk_0 h) rfl rfl rfl) (s_X7_needMake h f6) k rfl rfl hP (fun s13 h k => ?_)
  refine wp_ld (v := .int x2) dX7_odds_20 rfl rfl rfl rfl ?_
  refine t_u dX7_odds_21 rfl rfl rfl (am_inv_s rfl rfl rfl rfl) (s_X7_needEars h) k rfl rfl hP (fun s15 h k => ?_)
  refine wp_ld (v := .int x4) dX7_odds_24 rfl rfl rfl rfl ?_
  refine wp_cst (v := .int (1 : Int32)) dX7_odds_26 rfl rfl ?_
  refine wp_cst (v := .int (4 : Int32)) dX7_odds_27 rfl rfl ?_
  refine t_u dX7_odds_28 rfl rfl rfl (am_inv_s rfl rfl rfl rfl) (s_X7_needWithin h) k rfl rfl hP (fun s17 h k => ?_)
  refine wp_ld (v := .int x5) dX7_odds_31 rfl rfl rfl rfl ?_
  refine wp_ld (v := .int x6) dX7_odds_33 rfl rfl rfl rfl ?_
  refine wp_ld (v := .int x7) dX7_odds_35 rfl rfl rfl rfl ?_
  refine t_u dX7_odds_37 rfl rfl rfl (am_inv_s rfl rfl rfl rfl) (s_X7_needHoop h) k rfl rfl hP (fun s19 h k => ?_)
  refine wp_cst (v := .long (0 : Int64)) dX7_odds_40 rfl rfl ?_
  refine wp_st (ls' := [(0, .ref 0), (1, .int x1), (2, .int x2), (3, .int x3), (4, .int x4), (5, .int x5), (6, .int x6), (7, .int x7), (8, .ref t3), (9, .ref t9), (10, .long (0 : Int64))]) dX7_odds_41 rfl rfl rfl (Nat.le_of_ble_eq_true rfl) rfl ?_
  refine wp_cst (v := .long (0 : Int64)) dX7_odds_43 rfl rfl ?_
  refine wp_st (ls' := [(0, .ref 0), (1, .int x1), (2, .int x2), (3, .int x3), (4, .int x4), (5, .int x5), (6, .int x6), (7, .int x7), (8, .ref t3), (9, .ref t9), (10, .long (0 : Int64)), (12, .long (0 : Int64))]) dX7_odds_44 rfl rfl rfl (Nat.le_of_ble_eq_true rfl) rfl ?_
  refine wp_cst (v := .int (0 : Int32)) dX7_odds_46 rfl rfl ?_
  refine wp_st (ls' := [(0, .ref 0), (1, .int x1), (2, .int x2), (3, .int x3), (4, .int x4), (5, .int x5), (6, .int x6), (7, .int x7), (8, .ref t3), (9, .ref t9), (10, .long (0 : Int64)), (12, .long (0 : Int64)), (14, .int (0 : Int32))]) dX7_odds_47 rfl rfl rfl (Nat.le_of_ble_eq_true rfl) rfl ?_
  refine lp_m k (fun P1 k hA hB => ?_)
  refine wp_sub (q_X7_odds_49 ax_fuel h f12 k (fun o s p h => hP o s (hA o s p) h) (fun e33 s34 p h => have k := hB e33 s34 p; ?_)) rfl ⟨rfl, rfl, rfl, rfl, rfl, rfl, rfl, rfl, rfl, rfl, trivial⟩
  refine wp_ld (v := .long e33.1) dX7_odds_131 rfl rfl rfl rfl ?_
  refine wp_ld (v := .int x4) dX7_odds_133 rfl rfl rfl rfl ?_
  refine c_l dX7_odds_135 rfl rfl rfl (am_inv_s rfl rfl rfl rfl) (s_X7_power h) k (fun v36 s35 h k => ?_)
  refine wp_ld (v := .long e33.2) dX7_odds_138 rfl rfl rfl rfl ?_
  refine wp_ld (v := .int x4) dX7_odds_140 rfl rfl rfl rfl ?_
  refine c_l dX7_odds_142 rfl rfl rfl (am_inv_s rfl rfl rfl rfl) (s_X7_power h) k (fun v38 s37 h k => ?_)
  refine wp_pu dX7_odds_145 rfl rfl ?_
  exact wp_end dX7_odds_146 rfl (am_end_l rfl) (hP _ _ (ok_s k) h)
noncomputable def f_L_odds (x2 : Int32) (x3 : Int32) (x4 : Int32) (x5 : Int32) (x6 : Int32) (x7 : Int32) (x8 : Int32) (s : am_S) : am_F :=
  am_xl (f_X7_odds x2 x3 x4 x5 x6 x7 x8 s) (fun v2 s1 =>
    some (.inl (some (.int (0 : Int32))), (am_sL s1 71 0 v2))
  ) (fun e s1 =>
    if e = 3 then
      some (.inl (some (.int (1 : Int32))), s1)
    else
      if e = 1 then
        some (.inl (some (.int (2 : Int32))), s1)
      else
        if e = 0 then
          some (.inl (some (.int (3 : Int32))), s1)
        else
          none
  )
theorem s_L_odds {N : Nat} {d : Nat} {x2 : Int32} {x3 : Int32} {x4 : Int32} {x5 : Int32} {x6 : Int32} {x7 : Int32} {x8 : Int32} {s : am_S} (h : am_shE N s)  : am_S1 (am_shE N) (d + 7) mL_odds [.ref 0, .int x2, .int x3, .int x4, .int x5, .int x6, .int x7, .int x8, .ref 71] s (f_L_odds x2 x3 x4 x5 x6 x7 x8 s) := by
  intro P Q k hP
  show am_WP (d + 7) mL_odds 0 [(0, .ref 0), (1, .int x2), (2, .int x3), (3, .int x4), (4, .int x5), (5, .int x6), (6, .int x7), (7, .int x8), (8, .ref 71)] [] s Q
  unfold f_L_odds at k
  refine wp_ld (v := .ref 71) dL_odds_0 rfl rfl rfl rfl ?_
  refine wp_cst (v := .int (0 : Int32)) dL_odds_2 rfl rfl ?_
  refine wp_ld (v := .ref 0) dL_odds_3 rfl rfl rfl rfl ?_
  refine wp_ld (v := .int x2) dL_odds_4 rfl rfl rfl rfl ?_
  refine wp_ld (v := .int x3) dL_odds_5 rfl rfl rfl rfl ?_
  refine wp_ld (v := .int x4) dL_odds_6 rfl rfl rfl rfl ?_
  refine wp_ld (v := .int x5) dL_odds_7 rfl rfl rfl rfl ?_
  refine wp_ld (v := .int x6) dL_odds_9 rfl rfl rfl rfl ?_
  refine wp_ld (v := .int x7) dL_odds_11 rfl rfl rfl rfl ?_
  refine wp_ld (v := .int x8) dL_odds_13 rfl rfl rfl rfl ?_
  refine x_l dL_odds_15 rfl rfl rfl (am_inv_v rfl (kE_0 h) rfl rfl rfl) (sE h (fun _ h => s_X7_odds h)) k rfl (List.cons_ne_nil _ _) (fun v2 s1 h k => ?_) (fun e s1 h k => ?_)
  · refine wq_last dL_odds_18 (kE_71 h) (by decide) (j := 0) rfl ?_
    refine wp_goto dL_odds_19 rfl ?_
    refine wp_cst (v := .int (0 : Int32)) dL_odds_34 rfl rfl ?_
    exact wp_end dL_odds_35 rfl (am_end_i rfl) (hP _ _ (ok_s k) (shE_sL h))
  · by_cases c3 : e = 3
    · have k := ok_pos c3 k
      subst c3
      refine ⟨_, _, rfl, ?_⟩
      refine wp_cst (v := .int (1 : Int32)) dL_odds_24 rfl rfl ?_
      exact wp_end dL_odds_25 rfl (am_end_i rfl) (hP _ _ (ok_s k) h)
    replace k := ok_neg c3 k
    by_cases c4 : e = 1
    · have k := ok_pos c4 k
      subst c4
      refine ⟨_, _, rfl, ?_⟩
      refine wp_cst (v := .int (2 : Int32)) dL_odds_28 rfl rfl ?_
      exact wp_end dL_odds_29 rfl (am_end_i rfl) (hP _ _ (ok_s k) h)
    replace k := ok_neg c4 k
    by_cases c5 : e = 0
    · have k := ok_pos c5 k
      subst c5
      refine ⟨_, _, rfl, ?_⟩
      refine wp_cst (v := .int (3 : Int32)) dL_odds_32 rfl rfl ?_
      exact wp_end dL_odds_33 rfl (am_end_i rfl) (hP _ _ (ok_s k) h)
    replace k := ok_neg c5 k
    exact (ok_no k).elim
noncomputable def L_X8_odds_67 : Nat → Int32 → Int32 → Int32 → Int32 → Int32 → Int32 → Int64 → Int64 → Int32 → am_S → am_FE ((Int64 × Int64))
  | 0, _, _, _, _, _, _, _, _, _, _ => none
  | m + 1, x2, x3, x4, x5, x6, x7, x8, x10, x12, s =>
    am_bi (f_X8_throwsOf x3 s) (fun v19 s18 =>
      if v19 ≤ x12 then
        some (.inr ((x8, x10), s18))
      else
        am_bi (f_X8_throwAt x3 x12 s18) (fun v22 s21 =>
          if am_in (v22 + (2 : Int32)) 264 = true then
            if am_in v22 264 = true then
              if am_in (v22 + (1 : Int32)) 264 = true then
                am_bi (f_X8_goesThrough x2 (am_I s21 56 v22.toNatClampNeg) (am_I s21 56 ((v22 + (1 : Int32)).toNatClampNeg)) x5 x6 x7 s21) (fun v27 s26 =>
                  if v27 = 0 then
                    if am_in (v22 + (2 : Int32)) 264 = true then
                      L_X8_odds_67 m x2 x3 x4 x5 x6 x7 (x8 + (am_I s21 56 ((v22 + (2 : Int32)).toNatClampNeg)).toInt64) (x10 + (am_I s26 56 ((v22 + (2 : Int32)).toNatClampNeg)).toInt64) (x12 + (1 : Int32)) s26
                    else none
                  else
                    L_X8_odds_67 m x2 x3 x4 x5 x6 x7 (x8 + (am_I s21 56 ((v22 + (2 : Int32)).toNatClampNeg)).toInt64) (x10 + (0 : Int64)) (x12 + (1 : Int32)) s26
                )
              else none
            else none
          else none
        )
    )
theorem q_X8_odds_67 : ∀ (m : Nat) {N n : Nat} {d : Nat} {x2 : Int32} {x3 : Int32} {x4 : Int32} {x5 : Int32} {x6 : Int32} {x7 : Int32} {x8 : Int64} {x10 : Int64} {x12 : Int32} {s : am_S} {P : (am_O × am_S) ⊕ ((Int64 × Int64) × am_S) → Prop} {Q : am_O → am_S → Prop} (h : am_sh N n s)  (k : am_ok (L_X8_odds_67 m x2 x3 x4 x5 x6 x7 x8 x10 x12 s) P) (hP : ∀ o s, P (.inl (o, s)) → am_sh N n s → Q o s) (hX : ∀ (e : (Int64 × Int64)) s, P (.inr (e, s)) → am_sh N n s → am_WP (d + 8) mX8_odds 156 [(4, .int x4), (8, .long e.1), (10, .long e.2)] [] s Q), am_WP (d + 8) mX8_odds 67 [(0, .ref 55), (2, .int x2), (3, .int x3), (4, .int x4), (5, .int x5), (6, .int x6), (7, .int x7), (8, .long x8), (10, .long x10), (12, .int x12)] [] s Q := by
  intro m
  induction m with
  | zero =>
    intro N n d x2 x3 x4 x5 x6 x7 x8 x10 x12 s P Q h  k hP hX
    exact (ok_no k).elim
  | succ m ih =>
    intro N n d x2 x3 x4 x5 x6 x7 x8 x10 x12 s P Q h  k hP hX
    unfold L_X8_odds_67 at k
    refine wp_ld (v := .int x12) dX8_odds_67 rfl rfl rfl rfl ?_
    refine wp_ld (v := .ref 55) dX8_odds_69 rfl rfl rfl rfl ?_
    refine wp_ld (v := .int x3) dX8_odds_70 rfl rfl rfl rfl ?_
    refine c_i dX8_odds_71 rfl rfl rfl (am_inv_v rfl (kk_55 h) rfl rfl rfl) (s_X8_throwsOf h) k (fun v19 s18 h k => ?_)
    refine wp_ic_ge dX8_odds_74 rfl (fun c20 => have k := ok_pos c20 k; ?_) (fun c20 => have k := ok_neg c20 k; ?_)
    · exact wp_sub (hX _ _ (ok_s k) h) rfl ⟨rfl, rfl, rfl, trivial⟩
    · refine wp_ld (v := .ref 55) dX8_odds_77 rfl rfl rfl rfl ?_
      refine wp_ld (v := .int x3) dX8_odds_78 rfl rfl rfl rfl ?_
      refine wp_ld (v := .int x12) dX8_odds_79 rfl rfl rfl rfl ?_
      refine c_i dX8_odds_81 rfl rfl rfl (am_inv_v rfl (kk_55 h) rfl rfl rfl) (s_X8_throwAt h) k (fun v22 s21 h k => ?_)
      refine wp_st (ls' := [(0, .ref 55), (2, .int x2), (3, .int x3), (4, .int x4), (5, .int x5), (6, .int x6), (7, .int x7), (8, .long x8), (10, .long x10), (12, .int x12), (13, .int v22)]) dX8_odds_84 rfl rfl rfl (Nat.le_of_ble_eq_true rfl) rfl ?_
      refine wp_ld (v := .long x8) dX8_odds_86 rfl rfl rfl rfl ?_
      refine wp_ld (v := .ref 55) dX8_odds_88 rfl rfl rfl rfl ?_
      refine wp_gr dX8_odds_89 rfl rfl (kk_55 h) (rr_55_0 h) ?_
      refine wp_ld (v := .int v22) dX8_odds_92 rfl rfl rfl rfl ?_
      refine wp_cst (v := .int (2 : Int32)) dX8_odds_94 rfl rfl ?_
      refine wp_pu dX8_odds_95 rfl rfl ?_
      obtain ⟨g23, k⟩ := ok_g k
      refine wq_iald dX8_odds_96 (kk_56 h) g23 (v := (am_I s21 56 ((v22 + (2 : Int32)).toNatClampNeg))) rfl ?_
      refine wp_pu dX8_odds_97 rfl rfl ?_
      refine wp_pu dX8_odds_98 rfl rfl ?_
      refine wp_st (ls' := [(0, .ref 55), (2, .int x2), (3, .int x3), (4, .int x4), (5, .int x5), (6, .int x6), (7, .int x7), (8, .long (x8 + (am_I s21 56 ((v22 + (2 : Int32)).toNatClampNeg)).toInt64)), (10, .long x10), (12, .int x12), (13, .int v22)]) dX8_odds_99 rfl rfl rfl (Nat.le_of_ble_eq_true rfl) rfl ?_
      show am_WP (d + 8) mX8_odds 101 _ _ _ Q
      refine wp_ld (v := .long x10) dX8_odds_101 rfl rfl rfl rfl ?_
      refine wp_ld (v := .ref 55) dX8_odds_103 rfl rfl rfl rfl ?_
      refine wp_ld (v := .int x2) dX8_odds_104 rfl rfl rfl rfl ?_
      refine wp_ld (v := .ref 55) dX8_odds_105 rfl rfl rfl rfl ?_
      refine wp_gr dX8_odds_106 rfl rfl (kk_55 h) (rr_55_0 h) ?_
      refine wp_ld (v := .int v22) dX8_odds_109 rfl rfl rfl rfl ?_
      obtain ⟨g24, k⟩ := ok_g k
      refine wq_iald dX8_odds_111 (kk_56 h) g24 (v := (am_I s21 56 v22.toNatClampNeg)) rfl ?_
      refine wp_ld (v := .ref 55) dX8_odds_112 rfl rfl rfl rfl ?_
      refine wp_gr dX8_odds_113 rfl rfl (kk_55 h) (rr_55_0 h) ?_
      refine wp_ld (v := .int v22) dX8_odds_116 rfl rfl rfl rfl ?_
      refine wp_cst (v := .int (1 : Int32)) dX8_odds_118 rfl rfl ?_
      refine wp_pu dX8_odds_119 rfl rfl ?_
      show am_WP (d + 8) mX8_odds 120 _ _ _ Q
      obtain ⟨g25, k⟩ := ok_g k
      refine wq_iald dX8_odds_120 (kk_56 h) g25 (v := (am_I s21 56 ((v22 + (1 : Int32)).toNatClampNeg))) rfl ?_
      refine wp_ld (v := .int x5) dX8_odds_121 rfl rfl rfl rfl ?_
      refine wp_ld (v := .int x6) dX8_odds_123 rfl rfl rfl rfl ?_
      refine wp_ld (v := .int x7) dX8_odds_125 rfl rfl rfl rfl ?_
      refine c_i dX8_odds_127 rfl rfl rfl (am_inv_v rfl (kk_55 h) rfl rfl rfl) (s_X8_goesThrough h) k (fun v27 s26 h k => ?_)
      refine wp_if_eq dX8_odds_130 rfl (fun c28 => have k := ok_pos c28 k; ?_) (fun c28 => have k := ok_neg c28 k; ?_)
      · refine wp_ld (v := .ref 55) dX8_odds_137 rfl rfl rfl rfl ?_
        refine wp_gr dX8_odds_138 rfl rfl (kk_55 h) (rr_55_0 h) ?_
        refine wp_ld (v := .int v22) dX8_odds_141 rfl rfl rfl rfl ?_
        refine wp_cst (v := .int (2 : Int32)) dX8_odds_143 rfl rfl ?_
        refine wp_pu dX8_odds_144 rfl rfl ?_
        obtain ⟨g29, k⟩ := ok_g k
        refine wq_iald dX8_odds_145 (kk_56 h) g29 (v := (am_I s26 56 ((v22 + (2 : Int32)).toNatClampNeg))) rfl ?_
        refine wp_pu dX8_odds_146 rfl rfl ?_
        refine wp_pu dX8_odds_147 rfl rfl ?_
        refine wp_st (ls' := [(0, .ref 55), (2, .int x2), (3, .int x3), (4, .int x4), (5, .int x5), (6, .int x6), (7, .int x7), (8, .long (x8 + (am_I s21 56 ((v22 + (2 : Int32)).toNatClampNeg)).toInt64)), (10, .long (x10 + (am_I s26 56 ((v22 + (2 : Int32)).toNatClampNeg)).toInt64)), (12, .int x12), (13, .int v22)]) dX8_odds_148 rfl rfl rfl (Nat.le_of_ble_eq_true rfl) rfl ?_
        refine wp_inc (v := (x12 + (1 : Int32))) (ls' := [(0, .ref 55), (2, .int x2), (3, .int x3), (4, .int x4), (5, .int x5), (6, .int x6), (7, .int x7), (8, .long (x8 + (am_I s21 56 ((v22 + (2 : Int32)).toNatClampNeg)).toInt64)), (10, .long (x10 + (am_I s26 56 ((v22 + (2 : Int32)).toNatClampNeg)).toInt64)), (12, .int (x12 + (1 : Int32))), (13, .int v22)]) dX8_odds_150 rfl (Nat.le_of_ble_eq_true rfl) rfl rfl ?_
        refine wp_goto dX8_odds_153 rfl ?_
        exact wp_sub (ih h k hP hX) rfl ⟨rfl, rfl, rfl, rfl, rfl, rfl, rfl, rfl, rfl, rfl, trivial⟩
      · refine wp_cst (v := .long (0 : Int64)) dX8_odds_133 rfl rfl ?_
        refine wp_goto dX8_odds_134 rfl ?_
        refine wp_pu dX8_odds_147 rfl rfl ?_
        refine wp_st (ls' := [(0, .ref 55), (2, .int x2), (3, .int x3), (4, .int x4), (5, .int x5), (6, .int x6), (7, .int x7), (8, .long (x8 + (am_I s21 56 ((v22 + (2 : Int32)).toNatClampNeg)).toInt64)), (10, .long (x10 + (0 : Int64))), (12, .int x12), (13, .int v22)]) dX8_odds_148 rfl rfl rfl (Nat.le_of_ble_eq_true rfl) rfl ?_
        refine wp_inc (v := (x12 + (1 : Int32))) (ls' := [(0, .ref 55), (2, .int x2), (3, .int x3), (4, .int x4), (5, .int x5), (6, .int x6), (7, .int x7), (8, .long (x8 + (am_I s21 56 ((v22 + (2 : Int32)).toNatClampNeg)).toInt64)), (10, .long (x10 + (0 : Int64))), (12, .int (x12 + (1 : Int32))), (13, .int v22)]) dX8_odds_150 rfl (Nat.le_of_ble_eq_true rfl) rfl rfl ?_
        refine wp_goto dX8_odds_153 rfl ?_
        exact wp_sub (ih h k hP hX) rfl ⟨rfl, rfl, rfl, rfl, rfl, rfl, rfl, rfl, rfl, rfl, trivial⟩
noncomputable def L_X8_odds_165 : Nat → Int32 → Int64 → Int64 → Int64 → Int64 → Int32 → am_S → am_FE ((Int64 × Int64))
  | 0, _, _, _, _, _, _, _ => none
  | m + 1, x4, x8, x10, x12, x14, x16, s =>
    if x4 ≤ x16 then
      some (.inr ((x12, x14), s))
    else
      L_X8_odds_165 m x4 x8 x10 (x12 * x8) (x14 * x10) (x16 + (1 : Int32)) s
theorem q_X8_odds_165 : ∀ (m : Nat) {N n : Nat} {d : Nat} {x4 : Int32} {x8 : Int64} {x10 : Int64} {x12 : Int64} {x14 : Int64} {x16 : Int32} {s : am_S} {P : (am_O × am_S) ⊕ ((Int64 × Int64) × am_S) → Prop} {Q : am_O → am_S → Prop} (h : am_sh N n s)  (k : am_ok (L_X8_odds_165 m x4 x8 x10 x12 x14 x16 s) P) (hP : ∀ o s, P (.inl (o, s)) → am_sh N n s → Q o s) (hX : ∀ (e : (Int64 × Int64)) s, P (.inr (e, s)) → am_sh N n s → am_WP (d + 8) mX8_odds 192 [(12, .long e.1), (14, .long e.2)] [] s Q), am_WP (d + 8) mX8_odds 165 [(4, .int x4), (8, .long x8), (10, .long x10), (12, .long x12), (14, .long x14), (16, .int x16)] [] s Q := by
  intro m
  induction m with
  | zero =>
    intro N n d x4 x8 x10 x12 x14 x16 s P Q h  k hP hX
    exact (ok_no k).elim
  | succ m ih =>
    intro N n d x4 x8 x10 x12 x14 x16 s P Q h  k hP hX
    unfold L_X8_odds_165 at k
    refine wp_ld (v := .int x16) dX8_odds_165 rfl rfl rfl rfl ?_
    refine wp_ld (v := .int x4) dX8_odds_167 rfl rfl rfl rfl ?_
    refine wp_ic_ge dX8_odds_169 rfl (fun c32 => have k := ok_pos c32 k; ?_) (fun c32 => have k := ok_neg c32 k; ?_)
    · exact wp_sub (hX _ _ (ok_s k) h) rfl ⟨rfl, rfl, trivial⟩
    · refine wp_ld (v := .long x12) dX8_odds_172 rfl rfl rfl rfl ?_
      refine wp_ld (v := .long x8) dX8_odds_174 rfl rfl rfl rfl ?_
      refine wp_pu dX8_odds_176 rfl rfl ?_
      refine wp_st (ls' := [(4, .int x4), (8, .long x8), (10, .long x10), (12, .long (x12 * x8)), (14, .long x14), (16, .int x16)]) dX8_odds_177 rfl rfl rfl (Nat.le_of_ble_eq_true rfl) rfl ?_
      refine wp_ld (v := .long x14) dX8_odds_179 rfl rfl rfl rfl ?_
      refine wp_ld (v := .long x10) dX8_odds_181 rfl rfl rfl rfl ?_
      refine wp_pu dX8_odds_183 rfl rfl ?_
      refine wp_st (ls' := [(4, .int x4), (8, .long x8), (10, .long x10), (12, .long (x12 * x8)), (14, .long (x14 * x10)), (16, .int x16)]) dX8_odds_184 rfl rfl rfl (Nat.le_of_ble_eq_true rfl) rfl ?_
      refine wp_inc (v := (x16 + (1 : Int32))) (ls' := [(4, .int x4), (8, .long x8), (10, .long x10), (12, .long (x12 * x8)), (14, .long (x14 * x10)), (16, .int (x16 + (1 : Int32)))]) dX8_odds_186 rfl (Nat.le_of_ble_eq_true rfl) rfl rfl ?_
      refine wp_goto dX8_odds_189 rfl ?_
      exact wp_sub (ih h k hP hX) rfl ⟨rfl, rfl, rfl, rfl, rfl, rfl, trivial⟩
noncomputable def f_X8_odds (x1 : Int32) (x2 : Int32) (x3 : Int32) (x4 : Int32) (x5 : Int32) (x6 : Int32) (x7 : Int32) (s : am_S) : am_F :=
  am_bi (f_X8_handFault x1 x3 s) (fun v2 s1 =>
    if v2 ≤ 0 then
      am_bi (f_X8_isEars x2 (am_sI s1 55 3 v2)) (fun v5 s4 =>
        am_jn (fun (e7 : Unit) s8 =>
          am_bi (f_X8_fails (3 : Int32) s8) (fun v10 s9 =>
            some (.inl (some (.long v10.toInt64)), s9)
          )
        ) (fun J6 =>
          if v5 = 0 then
            J6 () s4
          else
            am_bi (f_X8_within x4.toInt64 (1 : Int64) (4 : Int64) s4) (fun v13 s12 =>
              if v13 = 0 then
                J6 () s12
              else
                am_bi (f_X8_isHoop x5 x6 x7 s12) (fun v16 s15 =>
                  if v16 = 0 then
                    J6 () s15
                  else
                    am_lm (L_X8_odds_67 ax_fuel x2 x3 x4 x5 x6 x7 (0 : Int64) (0 : Int64) (0 : Int32) s15) (fun e30 s31 =>
                      am_lm (L_X8_odds_165 ax_fuel x4 e30.1 e30.2 (1 : Int64) (1 : Int64) (0 : Int32) s31) (fun e33 s34 =>
                        some (.inl (some (.long (e33.1 - e33.2))), s34)
                      )
                    )
                )
            )
        )
      )
    else
      some (.inl (some (.long (0 : Int64))), (am_sI s1 55 3 v2))
  )
theorem s_X8_odds {N n : Nat} {d : Nat} {x1 : Int32} {x2 : Int32} {x3 : Int32} {x4 : Int32} {x5 : Int32} {x6 : Int32} {x7 : Int32} {s : am_S} (h : am_sh N n s)  : am_S1 (am_sh N n) (d + 8) mX8_odds [.ref 55, .int x1, .int x2, .int x3, .int x4, .int x5, .int x6, .int x7] s (f_X8_odds x1 x2 x3 x4 x5 x6 x7 s) := by
  intro P Q k hP
  show am_WP (d + 8) mX8_odds 0 [(0, .ref 55), (1, .int x1), (2, .int x2), (3, .int x3), (4, .int x4), (5, .int x5), (6, .int x6), (7, .int x7)] [] s Q
  unfold f_X8_odds at k
  refine wp_ld (v := .ref 55) dX8_odds_0 rfl rfl rfl rfl ?_
  refine wp_ld (v := .ref 55) dX8_odds_1 rfl rfl rfl rfl ?_
  refine wp_ld (v := .int x1) dX8_odds_2 rfl rfl rfl rfl ?_
  refine wp_ld (v := .int x3) dX8_odds_3 rfl rfl rfl rfl ?_
  refine c_i dX8_odds_4 rfl rfl rfl (am_inv_v rfl (kk_55 h) rfl rfl rfl) (s_X8_handFault h) k (fun v2 s1 h k => ?_)
  refine wp_pI dX8_odds_7 rfl rfl rfl (fun h => absurd h (by decide)) (kk_55 h) ?_
  refine wp_ld (v := .ref 55) dX8_odds_10 rfl rfl rfl rfl ?_
  refine wq_gI dX8_odds_11 rfl rfl (kk_55 (sh_sI h)) (v := v2) rfl ?_
  refine wp_if_le dX8_odds_14 rfl (fun c3 => have k := ok_pos c3 k; ?_) (fun c3 => have k := ok_neg c3 k; ?_)
  · refine wp_ld (v := .int x2) dX8_odds_19 rfl rfl rfl rfl ?_
    refine c_i dX8_odds_20 rfl rfl rfl (am_inv_s rfl rfl rfl rfl) (s_X8_isEars (sh_sI h)) k (fun v5 s4 h k => ?_)
    refine jn_rule k (fun J6 hJ6 k => ?_)
    have HJ6 : ∀ (e7 : Unit) (s8 : am_S), am_sh N n s8 → am_ok (J6 e7 s8) P → am_WP (d + 8) mX8_odds 51 [(0, .ref 55)] [] s8 Q := by
      intro e7 s8 h k
      replace k := hJ6 _ _ k
      refine wp_ld (v := .ref 55) dX8_odds_51 rfl rfl rfl rfl ?_
      refine wp_cst (v := .int (3 : Int32)) dX8_odds_52 rfl rfl ?_
      refine c_i dX8_odds_53 rfl rfl rfl (am_inv_v rfl (kk_55 h) rfl rfl rfl) (s_X8_fails h) k (fun v10 s9 h k => ?_)
      refine wp_pu dX8_odds_56 rfl rfl ?_
      exact wp_end dX8_odds_57 rfl (am_end_l rfl) (hP _ _ (ok_s k) h)
    refine wp_if_eq dX8_odds_23 rfl (fun c11 => have k := ok_pos c11 k; ?_) (fun c11 => have k := ok_neg c11 k; ?_)
    · exact wp_sub (HJ6 _ _ h k) rfl ⟨rfl, trivial⟩
    · refine wp_ld (v := .int x4) dX8_odds_26 rfl rfl rfl rfl ?_
      refine wp_pu dX8_odds_28 rfl rfl ?_
      refine wp_cst (v := .long (1 : Int64)) dX8_odds_29 rfl rfl ?_
      refine wp_cst (v := .long (4 : Int64)) dX8_odds_30 rfl rfl ?_
      refine c_i dX8_odds_33 rfl rfl rfl (am_inv_s rfl rfl rfl rfl) (s_X8_within h) k (fun v13 s12 h k => ?_)
      refine wp_if_eq dX8_odds_36 rfl (fun c14 => have k := ok_pos c14 k; ?_) (fun c14 => have k := ok_neg c14 k; ?_)
      · exact wp_sub (HJ6 _ _ h k) rfl ⟨rfl, trivial⟩
      · refine wp_ld (v := .int x5) dX8_odds_39 rfl rfl rfl rfl ?_
        refine wp_ld (v := .int x6) dX8_odds_41 rfl rfl rfl rfl ?_
        refine wp_ld (v := .int x7) dX8_odds_43 rfl rfl rfl rfl ?_
        refine c_i dX8_odds_45 rfl rfl rfl (am_inv_s rfl rfl rfl rfl) (s_X8_isHoop h) k (fun v16 s15 h k => ?_)
        refine wp_if_ne dX8_odds_48 rfl (fun c17 => have k := ok_neg c17 k; ?_) (fun c17 => have k := ok_pos c17 k; ?_)
        · refine wp_cst (v := .long (0 : Int64)) dX8_odds_58 rfl rfl ?_
          refine wp_st (ls' := [(0, .ref 55), (1, .int x1), (2, .int x2), (3, .int x3), (4, .int x4), (5, .int x5), (6, .int x6), (7, .int x7), (8, .long (0 : Int64))]) dX8_odds_59 rfl rfl rfl (Nat.le_of_ble_eq_true rfl) rfl ?_
          refine wp_cst (v := .long (0 : Int64)) dX8_odds_61 rfl rfl ?_
          refine wp_st (ls' := [(0, .ref 55), (1, .int x1), (2, .int x2), (3, .int x3), (4, .int x4), (5, .int x5), (6, .int x6), (7, .int x7), (8, .long (0 : Int64)), (10, .long (0 : Int64))]) dX8_odds_62 rfl rfl rfl (Nat.le_of_ble_eq_true rfl) rfl ?_
          refine wp_cst (v := .int (0 : Int32)) dX8_odds_64 rfl rfl ?_
          refine wp_st (ls' := [(0, .ref 55), (1, .int x1), (2, .int x2), (3, .int x3), (4, .int x4), (5, .int x5), (6, .int x6), (7, .int x7), (8, .long (0 : Int64)), (10, .long (0 : Int64)), (12, .int (0 : Int32))]) dX8_odds_65 rfl rfl rfl (Nat.le_of_ble_eq_true rfl) rfl ?_
          refine lp_m k (fun P1 k hA hB => ?_)
          refine wp_sub (q_X8_odds_67 ax_fuel h k (fun o s p h => hP o s (hA o s p) h) (fun e30 s31 p h => have k := hB e30 s31 p; ?_)) rfl ⟨rfl, rfl, rfl, rfl, rfl, rfl, rfl, rfl, rfl, rfl, trivial⟩
          refine wp_cst (v := .long (1 : Int64)) dX8_odds_156 rfl rfl ?_
          refine wp_st (ls' := [(4, .int x4), (8, .long e30.1), (10, .long e30.2), (12, .long (1 : Int64))]) dX8_odds_157 rfl rfl rfl (Nat.le_of_ble_eq_true rfl) rfl ?_
          refine wp_cst (v := .long (1 : Int64)) dX8_odds_159 rfl rfl ?_
          refine wp_st (ls' := [(4, .int x4), (8, .long e30.1), (10, .long e30.2), (12, .long (1 : Int64)), (14, .long (1 : Int64))]) dX8_odds_160 rfl rfl rfl (Nat.le_of_ble_eq_true rfl) rfl ?_
          refine wp_cst (v := .int (0 : Int32)) dX8_odds_162 rfl rfl ?_
          refine wp_st (ls' := [(4, .int x4), (8, .long e30.1), (10, .long e30.2), (12, .long (1 : Int64)), (14, .long (1 : Int64)), (16, .int (0 : Int32))]) dX8_odds_163 rfl rfl rfl (Nat.le_of_ble_eq_true rfl) rfl ?_
          refine lp_m k (fun P1 k hA hB => ?_)
          refine wp_sub (q_X8_odds_165 ax_fuel h k (fun o s p h => hP o s (hA o s p) h) (fun e33 s34 p h => have k := hB e33 s34 p; ?_)) rfl ⟨rfl, rfl, rfl, rfl, rfl, rfl, trivial⟩
          refine wp_ld (v := .long e33.1) dX8_odds_192 rfl rfl rfl rfl ?_
          refine wp_ld (v := .long e33.2) dX8_odds_194 rfl rfl rfl rfl ?_
          refine wp_pu dX8_odds_196 rfl rfl ?_
          exact wp_end dX8_odds_197 rfl (am_end_l rfl) (hP _ _ (ok_s k) h)
        · exact wp_sub (HJ6 _ _ h k) rfl ⟨rfl, trivial⟩
  · refine wp_cst (v := .long (0 : Int64)) dX8_odds_17 rfl rfl ?_
    exact wp_end dX8_odds_18 rfl (am_end_l rfl) (hP _ _ (ok_s k) (sh_sI h))
