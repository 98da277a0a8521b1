noncomputable def L_X8_flat_37 : Nat → Int32 → Int32 → am_S → am_FE (Unit)
  | 0, _, _, _ => none
  | m + 1, x1, x2, s =>
    if (am_I s 55 22) ≤ x2 then
      some (.inr ((), s))
    else
      if am_in (am_I s 55 20) 288 = true then
        if am_in (am_I s 55 20) 288 = true then
          L_X8_flat_37 m x1 (x2 + (1 : Int32)) (am_sI (am_sI (am_sI s 62 ((am_I s 55 20).toNatClampNeg) x1) 63 ((am_I s 55 20).toNatClampNeg) x2) 55 20 ((am_I s 55 20) + (1 : Int32)))
        else none
      else none
theorem q_X8_flat_37 : ∀ (m : Nat) {N n : Nat} {d : Nat} {x1 : Int32} {x2 : Int32} {s : am_S} {P : (am_O × am_S) ⊕ (Unit × am_S) → Prop} {Q : am_O → am_S → Prop} (h : am_sh N n s)  (k : am_ok (L_X8_flat_37 m x1 x2 s) P) (hP : ∀ o s, P (.inl (o, s)) → am_sh N n s → Q o s) (hX : ∀ (e : Unit) s, P (.inr (e, s)) → am_sh N n s → am_WP (d) mX8_flat 81 [(0, .ref 55), (1, .int x1)] [] s Q), am_WP (d) mX8_flat 37 [(0, .ref 55), (1, .int x1), (2, .int x2)] [] s Q := by
  intro m
  induction m with
  | zero =>
    intro N n d x1 x2 s P Q h  k hP hX
    exact (ok_no k).elim
  | succ m ih =>
    intro N n d x1 x2 s P Q h  k hP hX
    unfold L_X8_flat_37 at k
    refine wp_ld (v := .int x2) dX8_flat_37 rfl rfl rfl rfl ?_
    refine wp_ld (v := .ref 55) dX8_flat_38 rfl rfl rfl rfl ?_
    refine wq_gI dX8_flat_39 rfl rfl (kk_55 h) (v := (am_I s 55 22)) rfl ?_
    refine wp_ic_ge dX8_flat_42 rfl (fun c2 => have k := ok_pos c2 k; ?_) (fun c2 => have k := ok_neg c2 k; ?_)
    · exact wp_sub (hX _ _ (ok_s k) h) rfl ⟨rfl, rfl, trivial⟩
    · refine wp_ld (v := .ref 55) dX8_flat_45 rfl rfl rfl rfl ?_
      refine wp_gr dX8_flat_46 rfl rfl (kk_55 h) (rr_55_17 h) ?_
      refine wp_ld (v := .ref 55) dX8_flat_49 rfl rfl rfl rfl ?_
      refine wq_gI dX8_flat_50 rfl rfl (kk_55 h) (v := (am_I s 55 20)) rfl ?_
      refine wp_ld (v := .int x1) dX8_flat_53 rfl rfl rfl rfl ?_
      obtain ⟨g3, k⟩ := ok_g k
      refine wq_iast dX8_flat_54 (kk_62 h) g3 (j := ((am_I s 55 20).toNatClampNeg)) rfl ?_
      refine wp_ld (v := .ref 55) dX8_flat_55 rfl rfl rfl rfl ?_
      refine wp_gr dX8_flat_56 rfl rfl (kk_55 (sh_sI h)) (rr_55_18 (sh_sI h)) ?_
      refine wp_ld (v := .ref 55) dX8_flat_59 rfl rfl rfl rfl ?_
      refine wq_gI dX8_flat_60 rfl rfl (kk_55 (sh_sI h)) (v := (am_I s 55 20)) rfl ?_
      refine wp_ld (v := .int x2) dX8_flat_63 rfl rfl rfl rfl ?_
      show am_WP (d) mX8_flat 64 _ _ _ Q
      obtain ⟨g4, k⟩ := ok_g k
      refine wq_iast dX8_flat_64 (kk_63 (sh_sI h)) g4 (j := ((am_I s 55 20).toNatClampNeg)) rfl ?_
      refine wp_ld (v := .ref 55) dX8_flat_65 rfl rfl rfl rfl ?_
      refine wp_pu dX8_flat_66 rfl rfl ?_
      refine wq_gI dX8_flat_67 rfl rfl (kk_55 (sh_sI (sh_sI h))) (v := (am_I s 55 20)) rfl ?_
      refine wp_cst (v := .int (1 : Int32)) dX8_flat_70 rfl rfl ?_
      refine wp_pu dX8_flat_71 rfl rfl ?_
      refine wp_pI dX8_flat_72 rfl rfl rfl (fun h => absurd h (by decide)) (kk_55 (sh_sI (sh_sI h))) ?_
      refine wp_inc (v := (x2 + (1 : Int32))) (ls' := [(0, .ref 55), (1, .int x1), (2, .int (x2 + (1 : Int32)))]) dX8_flat_75 rfl (Nat.le_of_ble_eq_true rfl) rfl rfl ?_
      refine wp_goto dX8_flat_78 rfl ?_
      exact wp_sub (ih (sh_sI (sh_sI (sh_sI h))) k hP hX) rfl ⟨rfl, rfl, rfl, trivial⟩
noncomputable def L_X8_flat_27 : Nat → Int32 → am_S → am_FE (Unit)
  | 0, _, _ => none
  | m + 1, x1, s =>
    if (am_I s 55 21) ≤ x1 then
      some (.inr ((), s))
    else
      am_ll (L_X8_flat_37 ax_fuel x1 (0 : Int32) s) (fun e5 s6 =>
        L_X8_flat_27 m (x1 + (1 : Int32)) s6
      )
theorem q_X8_flat_27 : ∀ (m : Nat) {N n : Nat} {d : Nat} {x1 : Int32} {s : am_S} {P : (am_O × am_S) ⊕ (Unit × am_S) → Prop} {Q : am_O → am_S → Prop} (h : am_sh N n s)  (k : am_ok (L_X8_flat_27 m x1 s) P) (hP : ∀ o s, P (.inl (o, s)) → am_sh N n s → Q o s) (hX : ∀ (e : Unit) s, P (.inr (e, s)) → am_sh N n s → am_WP (d) mX8_flat 87 [] [] s Q), am_WP (d) mX8_flat 27 [(0, .ref 55), (1, .int x1)] [] s Q := by
  intro m
  induction m with
  | zero =>
    intro N n d x1 s P Q h  k hP hX
    exact (ok_no k).elim
  | succ m ih =>
    intro N n d x1 s P Q h  k hP hX
    unfold L_X8_flat_27 at k
    refine wp_ld (v := .int x1) dX8_flat_27 rfl rfl rfl rfl ?_
    refine wp_ld (v := .ref 55) dX8_flat_28 rfl rfl rfl rfl ?_
    refine wq_gI dX8_flat_29 rfl rfl (kk_55 h) (v := (am_I s 55 21)) rfl ?_
    refine wp_ic_ge dX8_flat_32 rfl (fun c1 => have k := ok_pos c1 k; ?_) (fun c1 => have k := ok_neg c1 k; ?_)
    · exact wp_sub (hX _ _ (ok_s k) h) rfl trivial
    · refine wp_cst (v := .int (0 : Int32)) dX8_flat_35 rfl rfl ?_
      refine wp_st (ls' := [(0, .ref 55), (1, .int x1), (2, .int (0 : Int32))]) dX8_flat_36 rfl rfl rfl (Nat.le_of_ble_eq_true rfl) rfl ?_
      refine lp_l k (fun P1 k hA hB => ?_)
      refine wp_sub (q_X8_flat_37 ax_fuel h k (fun o s p h => hP o s (hA o s p) h) (fun e5 s6 p h => have k := hB e5 s6 p; ?_)) rfl ⟨rfl, rfl, rfl, trivial⟩
      refine wp_inc (v := (x1 + (1 : Int32))) (ls' := [(0, .ref 55), (1, .int (x1 + (1 : Int32)))]) dX8_flat_81 rfl (Nat.le_of_ble_eq_true rfl) rfl rfl ?_
      refine wp_goto dX8_flat_84 rfl ?_
      exact wp_sub (ih h k hP hX) rfl ⟨rfl, rfl, trivial⟩
noncomputable def f_X8_flat  (s : am_S) : am_F :=
  am_lm (L_X8_flat_27 ax_fuel (0 : Int32) (am_sI (am_sI (am_sI s 55 21 (am_I s 56 0)) 55 22 (am_I s 56 1)) 55 20 (0 : Int32))) (fun e7 s8 =>
    some (.inl none, s8)
  )
theorem s_X8_flat {N n : Nat} {d : Nat}  {s : am_S} (h : am_sh N n s)  : am_S1 (am_sh N n) (d) mX8_flat [.ref 55] s (f_X8_flat s) := by
  intro P Q k hP
  show am_WP (d) mX8_flat 0 [(0, .ref 55)] [] s Q
  unfold f_X8_flat at k
  refine wp_ld (v := .ref 55) dX8_flat_0 rfl rfl rfl rfl ?_
  refine wp_ld (v := .ref 55) dX8_flat_1 rfl rfl rfl rfl ?_
  refine wp_gr dX8_flat_2 rfl rfl (kk_55 h) (rr_55_0 h) ?_
  refine wp_cst (v := .int (0 : Int32)) dX8_flat_5 rfl rfl ?_
  refine wq_iald dX8_flat_6 (kk_56 h) (by decide) (v := (am_I s 56 0)) rfl ?_
  refine wp_pI dX8_flat_7 rfl rfl rfl (fun h => absurd h (by decide)) (kk_55 h) ?_
  refine wp_ld (v := .ref 55) dX8_flat_10 rfl rfl rfl rfl ?_
  refine wp_ld (v := .ref 55) dX8_flat_11 rfl rfl rfl rfl ?_
  refine wp_gr dX8_flat_12 rfl rfl (kk_55 (sh_sI h)) (rr_55_0 (sh_sI h)) ?_
  refine wp_cst (v := .int (1 : Int32)) dX8_flat_15 rfl rfl ?_
  refine wq_iald dX8_flat_16 (kk_56 (sh_sI h)) (by decide) (v := (am_I s 56 1)) rfl ?_
  show am_WP (d) mX8_flat 17 _ _ _ Q
  refine wp_pI dX8_flat_17 rfl rfl rfl (fun h => absurd h (by decide)) (kk_55 (sh_sI h)) ?_
  refine wp_ld (v := .ref 55) dX8_flat_20 rfl rfl rfl rfl ?_
  refine wp_cst (v := .int (0 : Int32)) dX8_flat_21 rfl rfl ?_
  refine wp_pI dX8_flat_22 rfl rfl rfl (fun h => absurd h (by decide)) (kk_55 (sh_sI (sh_sI h))) ?_
  refine wp_cst (v := .int (0 : Int32)) dX8_flat_25 rfl rfl ?_
  refine wp_st (ls' := [(0, .ref 55), (1, .int (0 : Int32))]) dX8_flat_26 rfl rfl rfl (Nat.le_of_ble_eq_true rfl) rfl ?_
  refine lp_m k (fun P1 k hA hB => ?_)
  refine wp_sub (q_X8_flat_27 ax_fuel (sh_sI (sh_sI (sh_sI h))) k (fun o s p h => hP o s (hA o s p) h) (fun e7 s8 p h => have k := hB e7 s8 p; ?_)) rfl ⟨rfl, rfl, trivial⟩
  exact wp_end dX8_flat_87 rfl rfl (hP _ _ (ok_s k) h)
noncomputable def L_X8_nose_2 : Nat → Int32 → Int32 → am_S → am_FE (Unit)
  | 0, _, _, _ => none
  | m + 1, x1, x2, s =>
    if (am_I s 55 20) ≤ x2 then
      some (.inr ((), s))
    else
      if am_in x2 288 = true then
        am_jn (fun (e4 : Int32) s5 =>
          if am_in x2 288 = true then
            L_X8_nose_2 m x1 (x2 + (1 : Int32)) (am_sI s5 62 (x2.toNatClampNeg) e4)
          else none
        ) (fun J3 =>
          if x1 ≤ (am_I s 62 x2.toNatClampNeg) then
            if am_in x2 288 = true then
              J3 ((am_I s 62 x2.toNatClampNeg) - x1) s
            else none
          else
            if am_in x2 288 = true then
              J3 ((x1 - (1 : Int32)) - (am_I s 62 x2.toNatClampNeg)) s
            else none
        )
      else none
theorem q_X8_nose_2 : ∀ (m : Nat) {N n : Nat} {d : Nat} {x1 : Int32} {x2 : Int32} {s : am_S} {P : (am_O × am_S) ⊕ (Unit × am_S) → Prop} {Q : am_O → am_S → Prop} (h : am_sh N n s)  (k : am_ok (L_X8_nose_2 m x1 x2 s) P) (hP : ∀ o s, P (.inl (o, s)) → am_sh N n s → Q o s) (hX : ∀ (e : Unit) s, P (.inr (e, s)) → am_sh N n s → am_WP (d) mX8_nose 53 [(0, .ref 55), (1, .int x1)] [] s Q), am_WP (d) mX8_nose 2 [(0, .ref 55), (1, .int x1), (2, .int x2)] [] s Q := by
  intro m
  induction m with
  | zero =>
    intro N n d x1 x2 s P Q h  k hP hX
    exact (ok_no k).elim
  | succ m ih =>
    intro N n d x1 x2 s P Q h  k hP hX
    unfold L_X8_nose_2 at k
    refine wp_ld (v := .int x2) dX8_nose_2 rfl rfl rfl rfl ?_
    refine wp_ld (v := .ref 55) dX8_nose_3 rfl rfl rfl rfl ?_
    refine wq_gI dX8_nose_4 rfl rfl (kk_55 h) (v := (am_I s 55 20)) rfl ?_
    refine wp_ic_ge dX8_nose_7 rfl (fun c1 => have k := ok_pos c1 k; ?_) (fun c1 => have k := ok_neg c1 k; ?_)
    · exact wp_sub (hX _ _ (ok_s k) h) rfl ⟨rfl, rfl, trivial⟩
    · refine wp_ld (v := .ref 55) dX8_nose_10 rfl rfl rfl rfl ?_
      refine wp_gr dX8_nose_11 rfl rfl (kk_55 h) (rr_55_17 h) ?_
      refine wp_ld (v := .int x2) dX8_nose_14 rfl rfl rfl rfl ?_
      refine wp_ld (v := .ref 55) dX8_nose_15 rfl rfl rfl rfl ?_
      refine wp_gr dX8_nose_16 rfl rfl (kk_55 h) (rr_55_17 h) ?_
      refine wp_ld (v := .int x2) dX8_nose_19 rfl rfl rfl rfl ?_
      obtain ⟨g2, k⟩ := ok_g k
      refine wq_iald dX8_nose_20 (kk_62 h) g2 (v := (am_I s 62 x2.toNatClampNeg)) rfl ?_
      refine wp_ld (v := .int x1) dX8_nose_21 rfl rfl rfl rfl ?_
      refine jn_rule k (fun J3 hJ3 k => ?_)
      have HJ3 : ∀ (e4 : Int32) (s5 : am_S), am_sh N n s5 → am_ok (J3 e4 s5) P → am_WP (d) mX8_nose 46 [(0, .ref 55), (1, .int x1), (2, .int x2)] [.int e4, .int x2, .ref 62] s5 Q := by
        intro e4 s5 h k
        replace k := hJ3 _ _ k
        obtain ⟨g6, k⟩ := ok_g k
        refine wq_iast dX8_nose_46 (kk_62 h) g6 (j := (x2.toNatClampNeg)) rfl ?_
        refine wp_inc (v := (x2 + (1 : Int32))) (ls' := [(0, .ref 55), (1, .int x1), (2, .int (x2 + (1 : Int32)))]) dX8_nose_47 rfl (Nat.le_of_ble_eq_true rfl) rfl rfl ?_
        refine wp_goto dX8_nose_50 rfl ?_
        exact wp_sub (ih (sh_sI h) k hP hX) rfl ⟨rfl, rfl, rfl, trivial⟩
      refine wp_ic_ge dX8_nose_22 rfl (fun c7 => have k := ok_pos c7 k; ?_) (fun c7 => have k := ok_neg c7 k; ?_)
      · refine wp_ld (v := .ref 55) dX8_nose_38 rfl rfl rfl rfl ?_
        refine wp_gr dX8_nose_39 rfl rfl (kk_55 h) (rr_55_17 h) ?_
        refine wp_ld (v := .int x2) dX8_nose_42 rfl rfl rfl rfl ?_
        obtain ⟨g8, k⟩ := ok_g k
        refine wq_iald dX8_nose_43 (kk_62 h) g8 (v := (am_I s 62 x2.toNatClampNeg)) rfl ?_
        refine wp_ld (v := .int x1) dX8_nose_44 rfl rfl rfl rfl ?_
        refine wp_pu dX8_nose_45 rfl rfl ?_
        exact wp_sub (HJ3 _ _ h k) rfl ⟨rfl, rfl, rfl, trivial⟩
      · refine wp_ld (v := .int x1) dX8_nose_25 rfl rfl rfl rfl ?_
        refine wp_cst (v := .int (1 : Int32)) dX8_nose_26 rfl rfl ?_
        refine wp_pu dX8_nose_27 rfl rfl ?_
        refine wp_ld (v := .ref 55) dX8_nose_28 rfl rfl rfl rfl ?_
        refine wp_gr dX8_nose_29 rfl rfl (kk_55 h) (rr_55_17 h) ?_
        refine wp_ld (v := .int x2) dX8_nose_32 rfl rfl rfl rfl ?_
        obtain ⟨g9, k⟩ := ok_g k
        refine wq_iald dX8_nose_33 (kk_62 h) g9 (v := (am_I s 62 x2.toNatClampNeg)) rfl ?_
        refine wp_pu dX8_nose_34 rfl rfl ?_
        refine wp_goto dX8_nose_35 rfl ?_
        exact wp_sub (HJ3 _ _ h k) rfl ⟨rfl, rfl, rfl, trivial⟩
noncomputable def f_X8_nose (x1 : Int32) (s : am_S) : am_F :=
  am_lm (L_X8_nose_2 ax_fuel x1 (0 : Int32) s) (fun e10 s11 =>
    some (.inl none, (am_sI s11 55 21 ((am_I s11 55 21) - x1)))
  )
theorem s_X8_nose {N n : Nat} {d : Nat} {x1 : Int32} {s : am_S} (h : am_sh N n s)  : am_S1 (am_sh N n) (d) mX8_nose [.ref 55, .int x1] s (f_X8_nose x1 s) := by
  intro P Q k hP
  show am_WP (d) mX8_nose 0 [(0, .ref 55), (1, .int x1)] [] s Q
  unfold f_X8_nose at k
  refine wp_cst (v := .int (0 : Int32)) dX8_nose_0 rfl rfl ?_
  refine wp_st (ls' := [(0, .ref 55), (1, .int x1), (2, .int (0 : Int32))]) dX8_nose_1 rfl rfl rfl (Nat.le_of_ble_eq_true rfl) rfl ?_
  refine lp_m k (fun P1 k hA hB => ?_)
  refine wp_sub (q_X8_nose_2 ax_fuel h k (fun o s p h => hP o s (hA o s p) h) (fun e10 s11 p h => have k := hB e10 s11 p; ?_)) rfl ⟨rfl, rfl, rfl, trivial⟩
  refine wp_ld (v := .ref 55) dX8_nose_53 rfl rfl rfl rfl ?_
  refine wp_pu dX8_nose_54 rfl rfl ?_
  refine wq_gI dX8_nose_55 rfl rfl (kk_55 h) (v := (am_I s11 55 21)) rfl ?_
  refine wp_ld (v := .int x1) dX8_nose_58 rfl rfl rfl rfl ?_
  refine wp_pu dX8_nose_59 rfl rfl ?_
  refine wp_pI dX8_nose_60 rfl rfl rfl (fun h => absurd h (by decide)) (kk_55 h) ?_
  exact wp_end dX8_nose_63 rfl rfl (hP _ _ (ok_s k) (sh_sI h))
noncomputable def L_X8_side_9 : Nat → Int32 → Int32 → am_S → am_FE (Unit)
  | 0, _, _, _ => none
  | m + 1, x2, x3, s =>
    if (am_I s 55 20) ≤ x3 then
      some (.inr ((), s))
    else
      if am_in x3 288 = true then
        am_jn (fun (e4 : Int32) s5 =>
          if am_in x3 288 = true then
            L_X8_side_9 m x2 (x3 + (1 : Int32)) (am_sI s5 63 (x3.toNatClampNeg) e4)
          else none
        ) (fun J3 =>
          if x2 ≤ (am_I s 63 x3.toNatClampNeg) then
            if am_in x3 288 = true then
              J3 ((((2 : Int32) * x2) - (1 : Int32)) - (am_I s 63 x3.toNatClampNeg)) s
            else none
          else
            if am_in x3 288 = true then
              J3 (am_I s 63 x3.toNatClampNeg) s
            else none
        )
      else none
theorem q_X8_side_9 : ∀ (m : Nat) {N n : Nat} {d : Nat} {x2 : Int32} {x3 : Int32} {s : am_S} {P : (am_O × am_S) ⊕ (Unit × am_S) → Prop} {Q : am_O → am_S → Prop} (h : am_sh N n s)  (k : am_ok (L_X8_side_9 m x2 x3 s) P) (hP : ∀ o s, P (.inl (o, s)) → am_sh N n s → Q o s) (hX : ∀ (e : Unit) s, P (.inr (e, s)) → am_sh N n s → am_WP (d) mX8_side 60 [(0, .ref 55), (2, .int x2)] [] s Q), am_WP (d) mX8_side 9 [(0, .ref 55), (2, .int x2), (3, .int x3)] [] s Q := by
  intro m
  induction m with
  | zero =>
    intro N n d x2 x3 s P Q h  k hP hX
    exact (ok_no k).elim
  | succ m ih =>
    intro N n d x2 x3 s P Q h  k hP hX
    unfold L_X8_side_9 at k
    refine wp_ld (v := .int x3) dX8_side_9 rfl rfl rfl rfl ?_
    refine wp_ld (v := .ref 55) dX8_side_10 rfl rfl rfl rfl ?_
    refine wq_gI dX8_side_11 rfl rfl (kk_55 h) (v := (am_I s 55 20)) rfl ?_
    refine wp_ic_ge dX8_side_14 rfl (fun c1 => have k := ok_pos c1 k; ?_) (fun c1 => have k := ok_neg c1 k; ?_)
    · exact wp_sub (hX _ _ (ok_s k) h) rfl ⟨rfl, rfl, trivial⟩
    · refine wp_ld (v := .ref 55) dX8_side_17 rfl rfl rfl rfl ?_
      refine wp_gr dX8_side_18 rfl rfl (kk_55 h) (rr_55_18 h) ?_
      refine wp_ld (v := .int x3) dX8_side_21 rfl rfl rfl rfl ?_
      refine wp_ld (v := .ref 55) dX8_side_22 rfl rfl rfl rfl ?_
      refine wp_gr dX8_side_23 rfl rfl (kk_55 h) (rr_55_18 h) ?_
      refine wp_ld (v := .int x3) dX8_side_26 rfl rfl rfl rfl ?_
      obtain ⟨g2, k⟩ := ok_g k
      refine wq_iald dX8_side_27 (kk_63 h) g2 (v := (am_I s 63 x3.toNatClampNeg)) rfl ?_
      refine wp_ld (v := .int x2) dX8_side_28 rfl rfl rfl rfl ?_
      refine jn_rule k (fun J3 hJ3 k => ?_)
      have HJ3 : ∀ (e4 : Int32) (s5 : am_S), am_sh N n s5 → am_ok (J3 e4 s5) P → am_WP (d) mX8_side 53 [(0, .ref 55), (2, .int x2), (3, .int x3)] [.int e4, .int x3, .ref 63] s5 Q := by
        intro e4 s5 h k
        replace k := hJ3 _ _ k
        obtain ⟨g6, k⟩ := ok_g k
        refine wq_iast dX8_side_53 (kk_63 h) g6 (j := (x3.toNatClampNeg)) rfl ?_
        refine wp_inc (v := (x3 + (1 : Int32))) (ls' := [(0, .ref 55), (2, .int x2), (3, .int (x3 + (1 : Int32)))]) dX8_side_54 rfl (Nat.le_of_ble_eq_true rfl) rfl rfl ?_
        refine wp_goto dX8_side_57 rfl ?_
        exact wp_sub (ih (sh_sI h) k hP hX) rfl ⟨rfl, rfl, rfl, trivial⟩
      refine wp_ic_ge dX8_side_29 rfl (fun c7 => have k := ok_pos c7 k; ?_) (fun c7 => have k := ok_neg c7 k; ?_)
      · refine wp_cst (v := .int (2 : Int32)) dX8_side_41 rfl rfl ?_
        refine wp_ld (v := .int x2) dX8_side_42 rfl rfl rfl rfl ?_
        refine wp_pu dX8_side_43 rfl rfl ?_
        refine wp_cst (v := .int (1 : Int32)) dX8_side_44 rfl rfl ?_
        refine wp_pu dX8_side_45 rfl rfl ?_
        refine wp_ld (v := .ref 55) dX8_side_46 rfl rfl rfl rfl ?_
        refine wp_gr dX8_side_47 rfl rfl (kk_55 h) (rr_55_18 h) ?_
        refine wp_ld (v := .int x3) dX8_side_50 rfl rfl rfl rfl ?_
        obtain ⟨g8, k⟩ := ok_g k
        refine wq_iald dX8_side_51 (kk_63 h) g8 (v := (am_I s 63 x3.toNatClampNeg)) rfl ?_
        refine wp_pu dX8_side_52 rfl rfl ?_
        exact wp_sub (HJ3 _ _ h k) rfl ⟨rfl, rfl, rfl, trivial⟩
      · refine wp_ld (v := .ref 55) dX8_side_32 rfl rfl rfl rfl ?_
        refine wp_gr dX8_side_33 rfl rfl (kk_55 h) (rr_55_18 h) ?_
        refine wp_ld (v := .int x3) dX8_side_36 rfl rfl rfl rfl ?_
        obtain ⟨g9, k⟩ := ok_g k
        refine wq_iald dX8_side_37 (kk_63 h) g9 (v := (am_I s 63 x3.toNatClampNeg)) rfl ?_
        refine wp_goto dX8_side_38 rfl ?_
        exact wp_sub (HJ3 _ _ h k) rfl ⟨rfl, rfl, rfl, trivial⟩
noncomputable def f_X8_side (x1 : Int32) (s : am_S) : am_F :=
  am_lm (L_X8_side_9 ax_fuel ((am_I s 55 22) - x1) (0 : Int32) s) (fun e10 s11 =>
    some (.inl none, (am_sI s11 55 22 ((am_I s 55 22) - x1)))
  )
theorem s_X8_side {N n : Nat} {d : Nat} {x1 : Int32} {s : am_S} (h : am_sh N n s)  : am_S1 (am_sh N n) (d) mX8_side [.ref 55, .int x1] s (f_X8_side x1 s) := by
  intro P Q k hP
  show am_WP (d) mX8_side 0 [(0, .ref 55), (1, .int x1)] [] s Q
  unfold f_X8_side at k
  refine wp_ld (v := .ref 55) dX8_side_0 rfl rfl rfl rfl ?_
  refine wq_gI dX8_side_1 rfl rfl (kk_55 h) (v := (am_I s 55 22)) rfl ?_
  refine wp_ld (v := .int x1) dX8_side_4 rfl rfl rfl rfl ?_
  refine wp_pu dX8_side_5 rfl rfl ?_
  refine wp_st (ls' := [(0, .ref 55), (1, .int x1), (2, .int ((am_I s 55 22) - x1))]) dX8_side_6 rfl rfl rfl (Nat.le_of_ble_eq_true rfl) rfl ?_
  refine wp_cst (v := .int (0 : Int32)) dX8_side_7 rfl rfl ?_
  refine wp_st (ls' := [(0, .ref 55), (1, .int x1), (2, .int ((am_I s 55 22) - x1)), (3, .int (0 : Int32))]) dX8_side_8 rfl rfl rfl (Nat.le_of_ble_eq_true rfl) rfl ?_
  refine lp_m k (fun P1 k hA hB => ?_)
  refine wp_sub (q_X8_side_9 ax_fuel h k (fun o s p h => hP o s (hA o s p) h) (fun e10 s11 p h => have k := hB e10 s11 p; ?_)) rfl ⟨rfl, rfl, rfl, trivial⟩
  refine wp_ld (v := .ref 55) dX8_side_60 rfl rfl rfl rfl ?_
  refine wp_ld (v := .int ((am_I s 55 22) - x1)) dX8_side_61 rfl rfl rfl rfl ?_
  refine wp_pI dX8_side_62 rfl rfl rfl (fun h => absurd h (by decide)) (kk_55 h) ?_
  exact wp_end dX8_side_65 rfl rfl (hP _ _ (ok_s k) (sh_sI h))
noncomputable def L_X8_corner_2 : Nat → Int32 → Int32 → am_S → am_FE (Unit)
  | 0, _, _, _ => none
  | m + 1, x1, x2, s =>
    if (am_I s 55 20) ≤ x2 then
      some (.inr ((), s))
    else
      if am_in x2 288 = true then
        if am_in x2 288 = true then
          if ((am_I s 62 x2.toNatClampNeg) + (((am_I s 55 22) - (1 : Int32)) - (am_I s 63 x2.toNatClampNeg))) < (x1 - (1 : Int32)) then
            ax_le ((x1 - (1 : Int32)) - (((am_I s 55 22) - (1 : Int32)) - (am_I s 63 x2.toNatClampNeg))) (fun y5 =>
              if am_in x2 288 = true then
                if am_in x2 288 = true then
                  L_X8_corner_2 m x1 (x2 + (1 : Int32)) (am_sI (am_sI s 62 (x2.toNatClampNeg) y5) 63 (x2.toNatClampNeg) (((am_I s 55 22) - x1) + (am_I s 62 x2.toNatClampNeg)))
                else none
              else none
            )
          else
            L_X8_corner_2 m x1 (x2 + (1 : Int32)) s
        else none
      else none
theorem q_X8_corner_2 : ∀ (m : Nat) {N n : Nat} {d : Nat} {x1 : Int32} {x2 : Int32} {s : am_S} {P : (am_O × am_S) ⊕ (Unit × am_S) → Prop} {Q : am_O → am_S → Prop} (h : am_sh N n s)  (k : am_ok (L_X8_corner_2 m x1 x2 s) P) (hP : ∀ o s, P (.inl (o, s)) → am_sh N n s → Q o s) (hX : ∀ (e : Unit) s, P (.inr (e, s)) → am_sh N n s → am_WP (d) mX8_corner 77 [] [] s Q), am_WP (d) mX8_corner 2 [(0, .ref 55), (1, .int x1), (2, .int x2)] [] s Q := by
  intro m
  induction m with
  | zero =>
    intro N n d x1 x2 s P Q h  k hP hX
    exact (ok_no k).elim
  | succ m ih =>
    intro N n d x1 x2 s P Q h  k hP hX
    unfold L_X8_corner_2 at k
    refine wp_ld (v := .int x2) dX8_corner_2 rfl rfl rfl rfl ?_
    refine wp_ld (v := .ref 55) dX8_corner_3 rfl rfl rfl rfl ?_
    refine wq_gI dX8_corner_4 rfl rfl (kk_55 h) (v := (am_I s 55 20)) rfl ?_
    refine wp_ic_ge dX8_corner_7 rfl (fun c1 => have k := ok_pos c1 k; ?_) (fun c1 => have k := ok_neg c1 k; ?_)
    · exact wp_sub (hX _ _ (ok_s k) h) rfl trivial
    · refine wp_ld (v := .ref 55) dX8_corner_10 rfl rfl rfl rfl ?_
      refine wp_gr dX8_corner_11 rfl rfl (kk_55 h) (rr_55_17 h) ?_
      refine wp_ld (v := .int x2) dX8_corner_14 rfl rfl rfl rfl ?_
      obtain ⟨g2, k⟩ := ok_g k
      refine wq_iald dX8_corner_15 (kk_62 h) g2 (v := (am_I s 62 x2.toNatClampNeg)) rfl ?_
      refine wp_st (ls' := [(0, .ref 55), (1, .int x1), (2, .int x2), (3, .int (am_I s 62 x2.toNatClampNeg))]) dX8_corner_16 rfl rfl rfl (Nat.le_of_ble_eq_true rfl) rfl ?_
      refine wp_ld (v := .ref 55) dX8_corner_17 rfl rfl rfl rfl ?_
      refine wq_gI dX8_corner_18 rfl rfl (kk_55 h) (v := (am_I s 55 22)) rfl ?_
      refine wp_cst (v := .int (1 : Int32)) dX8_corner_21 rfl rfl ?_
      refine wp_pu dX8_corner_22 rfl rfl ?_
      refine wp_ld (v := .ref 55) dX8_corner_23 rfl rfl rfl rfl ?_
      refine wp_gr dX8_corner_24 rfl rfl (kk_55 h) (rr_55_18 h) ?_
      show am_WP (d) mX8_corner 27 _ _ _ Q
      refine wp_ld (v := .int x2) dX8_corner_27 rfl rfl rfl rfl ?_
      obtain ⟨g3, k⟩ := ok_g k
      refine wq_iald dX8_corner_28 (kk_63 h) g3 (v := (am_I s 63 x2.toNatClampNeg)) rfl ?_
      refine wp_pu dX8_corner_29 rfl rfl ?_
      refine wp_st (ls' := [(0, .ref 55), (1, .int x1), (2, .int x2), (3, .int (am_I s 62 x2.toNatClampNeg)), (4, .int (((am_I s 55 22) - (1 : Int32)) - (am_I s 63 x2.toNatClampNeg)))]) dX8_corner_30 rfl rfl rfl (Nat.le_of_ble_eq_true rfl) rfl ?_
      refine wp_ld (v := .int (am_I s 62 x2.toNatClampNeg)) dX8_corner_32 rfl rfl rfl rfl ?_
      refine wp_ld (v := .int (((am_I s 55 22) - (1 : Int32)) - (am_I s 63 x2.toNatClampNeg))) dX8_corner_33 rfl rfl rfl rfl ?_
      refine wp_pu dX8_corner_35 rfl rfl ?_
      refine wp_ld (v := .int x1) dX8_corner_36 rfl rfl rfl rfl ?_
      refine wp_cst (v := .int (1 : Int32)) dX8_corner_37 rfl rfl ?_
      refine wp_pu dX8_corner_38 rfl rfl ?_
      refine wp_ic_lt dX8_corner_39 rfl (fun c4 => have k := ok_pos c4 k; ?_) (fun c4 => have k := ok_neg c4 k; ?_)
      · refine wp_ld (v := .ref 55) dX8_corner_45 rfl rfl rfl rfl ?_
        refine wp_gr dX8_corner_46 rfl rfl (kk_55 h) (rr_55_17 h) ?_
        refine wp_ld (v := .int x2) dX8_corner_49 rfl rfl rfl rfl ?_
        refine wp_ld (v := .int x1) dX8_corner_50 rfl rfl rfl rfl ?_
        refine wp_cst (v := .int (1 : Int32)) dX8_corner_51 rfl rfl ?_
        refine wp_pu dX8_corner_52 rfl rfl ?_
        refine wp_ld (v := .int (((am_I s 55 22) - (1 : Int32)) - (am_I s 63 x2.toNatClampNeg))) dX8_corner_53 rfl rfl rfl rfl ?_
        refine wp_pu dX8_corner_55 rfl rfl ?_
        refine ls_i k (fun y5 _ k => ?_)
        obtain ⟨g6, k⟩ := ok_g k
        refine wq_iast dX8_corner_56 (kk_62 h) g6 (j := (x2.toNatClampNeg)) rfl ?_
        refine wp_ld (v := .ref 55) dX8_corner_57 rfl rfl rfl rfl ?_
        refine wp_gr dX8_corner_58 rfl rfl (kk_55 (sh_sI h)) (rr_55_18 (sh_sI h)) ?_
        show am_WP (d) mX8_corner 61 _ _ _ Q
        refine wp_ld (v := .int x2) dX8_corner_61 rfl rfl rfl rfl ?_
        refine wp_ld (v := .ref 55) dX8_corner_62 rfl rfl rfl rfl ?_
        refine wq_gI dX8_corner_63 rfl rfl (kk_55 (sh_sI h)) (v := (am_I s 55 22)) rfl ?_
        refine wp_ld (v := .int x1) dX8_corner_66 rfl rfl rfl rfl ?_
        refine wp_pu dX8_corner_67 rfl rfl ?_
        refine wp_ld (v := .int (am_I s 62 x2.toNatClampNeg)) dX8_corner_68 rfl rfl rfl rfl ?_
        refine wp_pu dX8_corner_69 rfl rfl ?_
        obtain ⟨g7, k⟩ := ok_g k
        refine wq_iast dX8_corner_70 (kk_63 (sh_sI h)) g7 (j := (x2.toNatClampNeg)) rfl ?_
        refine wp_inc (v := (x2 + (1 : Int32))) (ls' := [(0, .ref 55), (1, .int x1), (2, .int (x2 + (1 : Int32))), (3, .int (am_I s 62 x2.toNatClampNeg)), (4, .int (((am_I s 55 22) - (1 : Int32)) - (am_I s 63 x2.toNatClampNeg)))]) dX8_corner_71 rfl (Nat.le_of_ble_eq_true rfl) rfl rfl ?_
        refine wp_goto dX8_corner_74 rfl ?_
        exact wp_sub (ih (sh_sI (sh_sI h)) k hP hX) rfl ⟨rfl, rfl, rfl, trivial⟩
      · refine wp_goto dX8_corner_42 rfl ?_
        refine wp_inc (v := (x2 + (1 : Int32))) (ls' := [(0, .ref 55), (1, .int x1), (2, .int (x2 + (1 : Int32))), (3, .int (am_I s 62 x2.toNatClampNeg)), (4, .int (((am_I s 55 22) - (1 : Int32)) - (am_I s 63 x2.toNatClampNeg)))]) dX8_corner_71 rfl (Nat.le_of_ble_eq_true rfl) rfl rfl ?_
        refine wp_goto dX8_corner_74 rfl ?_
        exact wp_sub (ih h k hP hX) rfl ⟨rfl, rfl, rfl, trivial⟩
noncomputable def f_X8_corner (x1 : Int32) (s : am_S) : am_F :=
  am_lm (L_X8_corner_2 ax_fuel x1 (0 : Int32) s) (fun e8 s9 =>
    some (.inl none, s9)
  )
theorem s_X8_corner {N n : Nat} {d : Nat} {x1 : Int32} {s : am_S} (h : am_sh N n s)  : am_S1 (am_sh N n) (d) mX8_corner [.ref 55, .int x1] s (f_X8_corner x1 s) := by
  intro P Q k hP
  show am_WP (d) mX8_corner 0 [(0, .ref 55), (1, .int x1)] [] s Q
  unfold f_X8_corner at k
  refine wp_cst (v := .int (0 : Int32)) dX8_corner_0 rfl rfl ?_
  refine wp_st (ls' := [(0, .ref 55), (1, .int x1), (2, .int (0 : Int32))]) dX8_corner_1 rfl rfl rfl (Nat.le_of_ble_eq_true rfl) rfl ?_
  refine lp_m k (fun P1 k hA hB => ?_)
  refine wp_sub (q_X8_corner_2 ax_fuel h k (fun o s p h => hP o s (hA o s p) h) (fun e8 s9 p h => have k := hB e8 s9 p; ?_)) rfl ⟨rfl, rfl, rfl, trivial⟩
  exact wp_end dX8_corner_77 rfl rfl (hP _ _ (ok_s k) h)
noncomputable def L_X8_count_2 : Nat → Int32 → am_S → am_FE (Unit)
  | 0, _, _ => none
  | m + 1, x1, s =>
    if (288 : Int32) ≤ x1 then
      some (.inr ((), s))
    else
      if am_in x1 288 = true then
        L_X8_count_2 m (x1 + (1 : Int32)) (am_sI s 64 (x1.toNatClampNeg) (0 : Int32))
      else none
theorem q_X8_count_2 : ∀ (m : Nat) {N n : Nat} {d : Nat} {x1 : Int32} {s : am_S} {P : (am_O × am_S) ⊕ (Unit × am_S) → Prop} {Q : am_O → am_S → Prop} (h : am_sh N n s)  (k : am_ok (L_X8_count_2 m x1 s) P) (hP : ∀ o s, P (.inl (o, s)) → am_sh N n s → Q o s) (hX : ∀ (e : Unit) s, P (.inr (e, s)) → am_sh N n s → am_WP (d) mX8_count 24 [(0, .ref 55)] [] s Q), am_WP (d) mX8_count 2 [(0, .ref 55), (1, .int x1)] [] s Q := by
  intro m
  induction m with
  | zero =>
    intro N n d x1 s P Q h  k hP hX
    exact (ok_no k).elim
  | succ m ih =>
    intro N n d x1 s P Q h  k hP hX
    unfold L_X8_count_2 at k
    refine wp_ld (v := .int x1) dX8_count_2 rfl rfl rfl rfl ?_
    refine wp_ld (v := .ref 55) dX8_count_3 rfl rfl rfl rfl ?_
    refine wp_gr dX8_count_4 rfl rfl (kk_55 h) (rr_55_19 h) ?_
    refine wp_alen dX8_count_7 (kk_64 h) (by decide) (v := (288 : Int32)) rfl ?_
    refine wp_ic_ge dX8_count_8 rfl (fun c1 => have k := ok_pos c1 k; ?_) (fun c1 => have k := ok_neg c1 k; ?_)
    · exact wp_sub (hX _ _ (ok_s k) h) rfl ⟨rfl, trivial⟩
    · refine wp_ld (v := .ref 55) dX8_count_11 rfl rfl rfl rfl ?_
      refine wp_gr dX8_count_12 rfl rfl (kk_55 h) (rr_55_19 h) ?_
      refine wp_ld (v := .int x1) dX8_count_15 rfl rfl rfl rfl ?_
      refine wp_cst (v := .int (0 : Int32)) dX8_count_16 rfl rfl ?_
      obtain ⟨g2, k⟩ := ok_g k
      refine wq_iast dX8_count_17 (kk_64 h) g2 (j := (x1.toNatClampNeg)) rfl ?_
      refine wp_inc (v := (x1 + (1 : Int32))) (ls' := [(0, .ref 55), (1, .int (x1 + (1 : Int32)))]) dX8_count_18 rfl (Nat.le_of_ble_eq_true rfl) rfl rfl ?_
      refine wp_goto dX8_count_21 rfl ?_
      exact wp_sub (ih (sh_sI h) k hP hX) rfl ⟨rfl, rfl, trivial⟩
noncomputable def L_X8_count_26 : Nat → Int32 → am_S → am_FE (Unit)
  | 0, _, _ => none
  | m + 1, x1, s =>
    if (am_I s 55 20) ≤ x1 then
      some (.inr ((), s))
    else
      if am_in x1 288 = true then
        if am_in x1 288 = true then
          if am_in (((12 : Int32) * (am_I s 62 x1.toNatClampNeg)) + (am_I s 63 x1.toNatClampNeg)) 288 = true then
            ax_le ((am_I s 64 ((((12 : Int32) * (am_I s 62 x1.toNatClampNeg)) + (am_I s 63 x1.toNatClampNeg)).toNatClampNeg)) + (1 : Int32)) (fun y9 =>
              if am_in (((12 : Int32) * (am_I s 62 x1.toNatClampNeg)) + (am_I s 63 x1.toNatClampNeg)) 288 = true then
                L_X8_count_26 m (x1 + (1 : Int32)) (am_sI s 64 ((((12 : Int32) * (am_I s 62 x1.toNatClampNeg)) + (am_I s 63 x1.toNatClampNeg)).toNatClampNeg) y9)
              else none
            )
          else none
        else none
      else none
theorem q_X8_count_26 : ∀ (m : Nat) {N n : Nat} {d : Nat} {x1 : Int32} {s : am_S} {P : (am_O × am_S) ⊕ (Unit × am_S) → Prop} {Q : am_O → am_S → Prop} (h : am_sh N n s)  (k : am_ok (L_X8_count_26 m x1 s) P) (hP : ∀ o s, P (.inl (o, s)) → am_sh N n s → Q o s) (hX : ∀ (e : Unit) s, P (.inr (e, s)) → am_sh N n s → am_WP (d) mX8_count 65 [] [] s Q), am_WP (d) mX8_count 26 [(0, .ref 55), (1, .int x1)] [] s Q := by
  intro m
  induction m with
  | zero =>
    intro N n d x1 s P Q h  k hP hX
    exact (ok_no k).elim
  | succ m ih =>
    intro N n d x1 s P Q h  k hP hX
    unfold L_X8_count_26 at k
    refine wp_ld (v := .int x1) dX8_count_26 rfl rfl rfl rfl ?_
    refine wp_ld (v := .ref 55) dX8_count_27 rfl rfl rfl rfl ?_
    refine wq_gI dX8_count_28 rfl rfl (kk_55 h) (v := (am_I s 55 20)) rfl ?_
    refine wp_ic_ge dX8_count_31 rfl (fun c5 => have k := ok_pos c5 k; ?_) (fun c5 => have k := ok_neg c5 k; ?_)
    · exact wp_sub (hX _ _ (ok_s k) h) rfl trivial
    · refine wp_ld (v := .ref 55) dX8_count_34 rfl rfl rfl rfl ?_
      refine wp_gr dX8_count_35 rfl rfl (kk_55 h) (rr_55_19 h) ?_
      refine wp_cst (v := .int (12 : Int32)) dX8_count_38 rfl rfl ?_
      refine wp_ld (v := .ref 55) dX8_count_40 rfl rfl rfl rfl ?_
      refine wp_gr dX8_count_41 rfl rfl (kk_55 h) (rr_55_17 h) ?_
      refine wp_ld (v := .int x1) dX8_count_44 rfl rfl rfl rfl ?_
      obtain ⟨g6, k⟩ := ok_g k
      refine wq_iald dX8_count_45 (kk_62 h) g6 (v := (am_I s 62 x1.toNatClampNeg)) rfl ?_
      refine wp_pu dX8_count_46 rfl rfl ?_
      refine wp_ld (v := .ref 55) dX8_count_47 rfl rfl rfl rfl ?_
      refine wp_gr dX8_count_48 rfl rfl (kk_55 h) (rr_55_18 h) ?_
      refine wp_ld (v := .int x1) dX8_count_51 rfl rfl rfl rfl ?_
      show am_WP (d) mX8_count 52 _ _ _ Q
      obtain ⟨g7, k⟩ := ok_g k
      refine wq_iald dX8_count_52 (kk_63 h) g7 (v := (am_I s 63 x1.toNatClampNeg)) rfl ?_
      refine wp_pu dX8_count_53 rfl rfl ?_
      refine wp_pu dX8_count_54 rfl rfl ?_
      obtain ⟨g8, k⟩ := ok_g k
      refine wq_iald dX8_count_55 (kk_64 h) g8 (v := (am_I s 64 ((((12 : Int32) * (am_I s 62 x1.toNatClampNeg)) + (am_I s 63 x1.toNatClampNeg)).toNatClampNeg))) rfl ?_
      refine wp_cst (v := .int (1 : Int32)) dX8_count_56 rfl rfl ?_
      refine wp_pu dX8_count_57 rfl rfl ?_
      refine ls_i k (fun y9 _ k => ?_)
      obtain ⟨g10, k⟩ := ok_g k
      refine wq_iast dX8_count_58 (kk_64 h) g10 (j := ((((12 : Int32) * (am_I s 62 x1.toNatClampNeg)) + (am_I s 63 x1.toNatClampNeg)).toNatClampNeg)) rfl ?_
      refine wp_inc (v := (x1 + (1 : Int32))) (ls' := [(0, .ref 55), (1, .int (x1 + (1 : Int32)))]) dX8_count_59 rfl (Nat.le_of_ble_eq_true rfl) rfl rfl ?_
      refine wp_goto dX8_count_62 rfl ?_
      exact wp_sub (ih (sh_sI h) k hP hX) rfl ⟨rfl, rfl, trivial⟩
noncomputable def f_X8_count  (s : am_S) : am_F :=
  am_lm (L_X8_count_2 ax_fuel (0 : Int32) s) (fun e3 s4 =>
    am_lm (L_X8_count_26 ax_fuel (0 : Int32) s4) (fun e11 s12 =>
      some (.inl none, s12)
    )
  )
theorem s_X8_count {N n : Nat} {d : Nat}  {s : am_S} (h : am_sh N n s)  : am_S1 (am_sh N n) (d) mX8_count [.ref 55] s (f_X8_count s) := by
  intro P Q k hP
  show am_WP (d) mX8_count 0 [(0, .ref 55)] [] s Q
  unfold f_X8_count at k
  refine wp_cst (v := .int (0 : Int32)) dX8_count_0 rfl rfl ?_
  refine wp_st (ls' := [(0, .ref 55), (1, .int (0 : Int32))]) dX8_count_1 rfl rfl rfl (Nat.le_of_ble_eq_true rfl) rfl ?_
  refine lp_m k (fun P1 k hA hB => ?_)
  refine wp_sub (q_X8_count_2 ax_fuel h k (fun o s p h => hP o s (hA o s p) h) (fun e3 s4 p h => have k := hB e3 s4 p; ?_)) rfl ⟨rfl, rfl, trivial⟩
  refine wp_cst (v := .int (0 : Int32)) dX8_count_24 rfl rfl ?_
  refine wp_st (ls' := [(0, .ref 55), (1, .int (0 : Int32))]) dX8_count_25 rfl rfl rfl (Nat.le_of_ble_eq_true rfl) rfl ?_
  refine lp_m k (fun P1 k hA hB => ?_)
  refine wp_sub (q_X8_count_26 ax_fuel h k (fun o s p h => hP o s (hA o s p) h) (fun e11 s12 p h => have k := hB e11 s12 p; ?_)) rfl ⟨rfl, rfl, trivial⟩
  exact wp_end dX8_count_65 rfl rfl (hP _ _ (ok_s k) h)
noncomputable def L_X8_folds_100 : Nat → Int32 → am_S → am_FE (Unit)
  | 0, _, _ => none
  | m + 1, x4, s =>
    if (288 : Int32) ≤ x4 then
      some (.inr ((), s))
    else
      if am_in x4 288 = true then
        if (am_I s 64 x4.toNatClampNeg) ≤ (32 : Int32) then
          L_X8_folds_100 m (x4 + (1 : Int32)) s
        else
          some (.inl (.inl (some (.int (0 : Int32))), s))
      else none
theorem q_X8_folds_100 : ∀ (m : Nat) {N n : Nat} {d : Nat} {x4 : Int32} {s : am_S} {P : (am_O × am_S) ⊕ (Unit × am_S) → Prop} {Q : am_O → am_S → Prop} (h : am_sh N n s)  (k : am_ok (L_X8_folds_100 m x4 s) P) (hP : ∀ o s, P (.inl (o, s)) → am_sh N n s → Q o s) (hX : ∀ (e : Unit) s, P (.inr (e, s)) → am_sh N n s → am_WP (d + 1) mX8_folds 130 [] [] s Q), am_WP (d + 1) mX8_folds 100 [(0, .ref 55), (4, .int x4)] [] s Q := by
  intro m
  induction m with
  | zero =>
    intro N n d x4 s P Q h  k hP hX
    exact (ok_no k).elim
  | succ m ih =>
    intro N n d x4 s P Q h  k hP hX
    unfold L_X8_folds_100 at k
    refine wp_ld (v := .int x4) dX8_folds_100 rfl rfl rfl rfl ?_
    refine wp_ld (v := .ref 55) dX8_folds_102 rfl rfl rfl rfl ?_
    refine wp_gr dX8_folds_103 rfl rfl (kk_55 h) (rr_55_19 h) ?_
    refine wp_alen dX8_folds_106 (kk_64 h) (by decide) (v := (288 : Int32)) rfl ?_
    refine wp_ic_ge dX8_folds_107 rfl (fun c15 => have k := ok_pos c15 k; ?_) (fun c15 => have k := ok_neg c15 k; ?_)
    · exact wp_sub (hX _ _ (ok_s k) h) rfl trivial
    · refine wp_ld (v := .ref 55) dX8_folds_110 rfl rfl rfl rfl ?_
      refine wp_gr dX8_folds_111 rfl rfl (kk_55 h) (rr_55_19 h) ?_
      refine wp_ld (v := .int x4) dX8_folds_114 rfl rfl rfl rfl ?_
      obtain ⟨g16, k⟩ := ok_g k
      refine wq_iald dX8_folds_116 (kk_64 h) g16 (v := (am_I s 64 x4.toNatClampNeg)) rfl ?_
      refine wp_cst (v := .int (32 : Int32)) dX8_folds_117 rfl rfl ?_
      refine wp_ic_le dX8_folds_119 rfl (fun c17 => have k := ok_pos c17 k; ?_) (fun c17 => have k := ok_neg c17 k; ?_)
      · refine wp_inc (v := (x4 + (1 : Int32))) (ls' := [(0, .ref 55), (4, .int (x4 + (1 : Int32)))]) dX8_folds_124 rfl (Nat.le_of_ble_eq_true rfl) rfl rfl ?_
        refine wp_goto dX8_folds_127 rfl ?_
        exact wp_sub (ih h k hP hX) rfl ⟨rfl, rfl, trivial⟩
      · refine wp_cst (v := .int (0 : Int32)) dX8_folds_122 rfl rfl ?_
        exact wp_end dX8_folds_123 rfl rfl (hP _ _ (ok_s k) h)
noncomputable def f_X8_folds (x1 : Int32) (x2 : Int32) (s : am_S) : am_F :=
  am_jn (fun (e2 : Int32) s3 =>
    am_jn (fun (e5 : Int64) s6 =>
      am_bi (f_X8_within x2.toInt64 e5 e2.toInt64 s6) (fun v8 s7 =>
        if v8 = 0 then
          some (.inl (some (.int (0 : Int32))), s7)
        else
          am_jn (fun (e11 : Unit) s12 =>
            am_bu (f_X8_count s12) (fun s13 =>
              am_lm (L_X8_folds_100 ax_fuel (0 : Int32) s13) (fun e18 s19 =>
                some (.inl (some (.int (1 : Int32))), s19)
              )
            )
          ) (fun J10 =>
            if x1 = 0 then
              am_bu (f_X8_nose x2 s7) (fun s26 =>
                J10 () s26
              )
            else
              if x1 = (1 : Int32) then
                am_bu (f_X8_side x2 s7) (fun s24 =>
                  J10 () s24
                )
              else
                am_bu (f_X8_corner x2 s7) (fun s22 =>
                  J10 () s22
                )
          )
      )
    ) (fun J4 =>
      if x1 = (2 : Int32) then
        J4 (2 : Int64) s3
      else
        J4 (1 : Int64) s3
    )
  ) (fun J1 =>
    if x1 = 0 then
      J1 ((am_I s 55 21) / (2 : Int32)) s
    else
      if x1 = (1 : Int32) then
        J1 ((am_I s 55 22) / (2 : Int32)) s
      else
        J1 (am_min (am_I s 55 21) (am_I s 55 22)) s
  )
theorem s_X8_folds {N n : Nat} {d : Nat} {x1 : Int32} {x2 : Int32} {s : am_S} (h : am_sh N n s)  : am_S1 (am_sh N n) (d + 1) mX8_folds [.ref 55, .int x1, .int x2] s (f_X8_folds x1 x2 s) := by
  intro P Q k hP
  show am_WP (d + 1) mX8_folds 0 [(0, .ref 55), (1, .int x1), (2, .int x2)] [] s Q
  unfold f_X8_folds at k
  refine wp_ld (v := .int x1) dX8_folds_0 rfl rfl rfl rfl ?_
  refine jn_rule k (fun J1 hJ1 k => ?_)
  have HJ1 : ∀ (e2 : Int32) (s3 : am_S), am_sh N n s3 → am_ok (J1 e2 s3) P → am_WP (d + 1) mX8_folds 38 [(0, .ref 55), (1, .int x1), (2, .int x2)] [.int e2] s3 Q := by
    intro e2 s3 h k
    replace k := hJ1 _ _ k
    refine wp_st (ls' := [(0, .ref 55), (1, .int x1), (2, .int x2), (3, .int e2)]) dX8_folds_38 rfl rfl rfl (Nat.le_of_ble_eq_true rfl) rfl ?_
    refine wp_ld (v := .int x2) dX8_folds_39 rfl rfl rfl rfl ?_
    refine wp_pu dX8_folds_40 rfl rfl ?_
    refine wp_ld (v := .int x1) dX8_folds_41 rfl rfl rfl rfl ?_
    refine wp_cst (v := .int (2 : Int32)) dX8_folds_42 rfl rfl ?_
    refine jn_rule k (fun J4 hJ4 k => ?_)
    have HJ4 : ∀ (e5 : Int64) (s6 : am_S), am_sh N n s6 → am_ok (J4 e5 s6) P → am_WP (d + 1) mX8_folds 53 [(0, .ref 55), (1, .int x1), (2, .int x2), (3, .int e2)] [.long e5, .long x2.toInt64] s6 Q := by
      intro e5 s6 h k
      replace k := hJ4 _ _ k
      refine wp_ld (v := .int e2) dX8_folds_53 rfl rfl rfl rfl ?_
      refine wp_pu dX8_folds_54 rfl rfl ?_
      refine c_i dX8_folds_55 rfl rfl rfl (am_inv_s rfl rfl rfl rfl) (s_X8_within h) k (fun v8 s7 h k => ?_)
      refine wp_if_ne dX8_folds_58 rfl (fun c9 => have k := ok_neg c9 k; ?_) (fun c9 => have k := ok_pos c9 k; ?_)
      · refine wp_ld (v := .int x1) dX8_folds_63 rfl rfl rfl rfl ?_
        refine jn_rule k (fun J10 hJ10 k => ?_)
        have HJ10 : ∀ (e11 : Unit) (s12 : am_S), am_sh N n s12 → am_ok (J10 e11 s12) P → am_WP (d + 1) mX8_folds 93 [(0, .ref 55)] [] s12 Q := by
          intro e11 s12 h k
          replace k := hJ10 _ _ k
          refine wp_ld (v := .ref 55) dX8_folds_93 rfl rfl rfl rfl ?_
          refine c_u dX8_folds_94 rfl rfl rfl (am_inv_v rfl (kk_55 h) rfl rfl rfl) (s_X8_count h) k (fun s13 h k => ?_)
          refine wp_cst (v := .int (0 : Int32)) dX8_folds_97 rfl rfl ?_
          refine wp_st (ls' := [(0, .ref 55), (4, .int (0 : Int32))]) dX8_folds_98 rfl rfl rfl (Nat.le_of_ble_eq_true rfl) rfl ?_
          refine lp_m k (fun P1 k hA hB => ?_)
          refine wp_sub (q_X8_folds_100 ax_fuel h k (fun o s p h => hP o s (hA o s p) h) (fun e18 s19 p h => have k := hB e18 s19 p; ?_)) rfl ⟨rfl, rfl, trivial⟩
          refine wp_cst (v := .int (1 : Int32)) dX8_folds_130 rfl rfl ?_
          exact wp_end dX8_folds_131 rfl rfl (hP _ _ (ok_s k) h)
        refine wp_if_ne dX8_folds_64 rfl (fun c20 => have k := ok_neg c20 k; ?_) (fun c20 => have k := ok_pos c20 k; ?_)
        · refine wp_ld (v := .int x1) dX8_folds_75 rfl rfl rfl rfl ?_
          refine wp_cst (v := .int (1 : Int32)) dX8_folds_76 rfl rfl ?_
          refine wp_ic_ne dX8_folds_77 rfl (fun c21 => have k := ok_neg c21 k; ?_) (fun c21 => have k := ok_pos c21 k; ?_)
          · refine wp_ld (v := .ref 55) dX8_folds_88 rfl rfl rfl rfl ?_
            refine wp_ld (v := .int x2) dX8_folds_89 rfl rfl rfl rfl ?_
            refine c_u dX8_folds_90 rfl rfl rfl (am_inv_v rfl (kk_55 h) rfl rfl rfl) (s_X8_corner h) k (fun s22 h k => ?_)
            exact wp_sub (HJ10 _ _ h k) rfl ⟨rfl, trivial⟩
          · refine wp_ld (v := .ref 55) dX8_folds_80 rfl rfl rfl rfl ?_
            refine wp_ld (v := .int x2) dX8_folds_81 rfl rfl rfl rfl ?_
            refine c_u dX8_folds_82 rfl rfl rfl (am_inv_v rfl (kk_55 h) rfl rfl rfl) (s_X8_side h) k (fun s24 h k => ?_)
            refine wp_goto dX8_folds_85 rfl ?_
            exact wp_sub (HJ10 _ _ h k) rfl ⟨rfl, trivial⟩
        · refine wp_ld (v := .ref 55) dX8_folds_67 rfl rfl rfl rfl ?_
          refine wp_ld (v := .int x2) dX8_folds_68 rfl rfl rfl rfl ?_
          refine c_u dX8_folds_69 rfl rfl rfl (am_inv_v rfl (kk_55 h) rfl rfl rfl) (s_X8_nose h) k (fun s26 h k => ?_)
          refine wp_goto dX8_folds_72 rfl ?_
          exact wp_sub (HJ10 _ _ h k) rfl ⟨rfl, trivial⟩
      · refine wp_cst (v := .int (0 : Int32)) dX8_folds_61 rfl rfl ?_
        exact wp_end dX8_folds_62 rfl rfl (hP _ _ (ok_s k) h)
    refine wp_ic_ne dX8_folds_43 rfl (fun c28 => have k := ok_neg c28 k; ?_) (fun c28 => have k := ok_pos c28 k; ?_)
    · refine wp_cst (v := .long (1 : Int64)) dX8_folds_52 rfl rfl ?_
      exact wp_sub (HJ4 _ _ h k) rfl ⟨rfl, rfl, rfl, rfl, trivial⟩
    · refine wp_cst (v := .long (2 : Int64)) dX8_folds_46 rfl rfl ?_
      refine wp_goto dX8_folds_49 rfl ?_
      exact wp_sub (HJ4 _ _ h k) rfl ⟨rfl, rfl, rfl, rfl, trivial⟩
  refine wp_if_ne dX8_folds_1 rfl (fun c29 => have k := ok_neg c29 k; ?_) (fun c29 => have k := ok_pos c29 k; ?_)
  · refine wp_ld (v := .int x1) dX8_folds_13 rfl rfl rfl rfl ?_
    refine wp_cst (v := .int (1 : Int32)) dX8_folds_14 rfl rfl ?_
    refine wp_ic_ne dX8_folds_15 rfl (fun c30 => have k := ok_neg c30 k; ?_) (fun c30 => have k := ok_pos c30 k; ?_)
    · refine wp_ld (v := .ref 55) dX8_folds_27 rfl rfl rfl rfl ?_
      refine wq_gI dX8_folds_28 rfl rfl (kk_55 h) (v := (am_I s 55 21)) rfl ?_
      refine wp_ld (v := .ref 55) dX8_folds_31 rfl rfl rfl rfl ?_
      refine wq_gI dX8_folds_32 rfl rfl (kk_55 h) (v := (am_I s 55 22)) rfl ?_
      refine wp_mem (st' := .int (am_min (am_I s 55 21) (am_I s 55 22)) :: []) dX8_folds_35 rfl rfl rfl rfl ?_
      exact wp_sub (HJ1 _ _ h k) rfl ⟨rfl, rfl, rfl, trivial⟩
    · refine wp_ld (v := .ref 55) dX8_folds_18 rfl rfl rfl rfl ?_
      refine wq_gI dX8_folds_19 rfl rfl (kk_55 h) (v := (am_I s 55 22)) rfl ?_
      refine wp_cst (v := .int (2 : Int32)) dX8_folds_22 rfl rfl ?_
      refine wp_div dX8_folds_23 (by decide) ?_
      refine wp_goto dX8_folds_24 rfl ?_
      exact wp_sub (HJ1 _ _ h k) rfl ⟨rfl, rfl, rfl, trivial⟩
  · refine wp_ld (v := .ref 55) dX8_folds_4 rfl rfl rfl rfl ?_
    refine wq_gI dX8_folds_5 rfl rfl (kk_55 h) (v := (am_I s 55 21)) rfl ?_
    refine wp_cst (v := .int (2 : Int32)) dX8_folds_8 rfl rfl ?_
    refine wp_div dX8_folds_9 (by decide) ?_
    refine wp_goto dX8_folds_10 rfl ?_
    exact wp_sub (HJ1 _ _ h k) rfl ⟨rfl, rfl, rfl, trivial⟩
noncomputable def L_X8_measure_29 : Nat → Int32 → am_S → am_FE (Unit)
  | 0, _, _ => none
  | m + 1, x1, s =>
    if (288 : Int32) ≤ x1 then
      some (.inr ((), s))
    else
      if am_in x1 288 = true then
        if (am_I s 64 x1.toNatClampNeg) = 0 then
          L_X8_measure_29 m (x1 + (1 : Int32)) s
        else
          if am_in x1 288 = true then
            ax_le ((am_I s 55 25) + ((((2 : Int32) * (x1 / (12 : Int32))) + (1 : Int32)) * (am_I s 64 x1.toNatClampNeg))) (fun y7 =>
              L_X8_measure_29 m (x1 + (1 : Int32)) (am_sI (am_sI (am_sI s 55 23 ((am_I s 55 23) + (1 : Int32))) 55 26 ((am_I s 55 26) + (((2 : Int32) * (x1 / (12 : Int32))) + (1 : Int32)))) 55 25 y7)
            )
          else none
      else none
theorem q_X8_measure_29 : ∀ (m : Nat) {N n : Nat} {d : Nat} {x1 : Int32} {s : am_S} {P : (am_O × am_S) ⊕ (Unit × am_S) → Prop} {Q : am_O → am_S → Prop} (h : am_sh N n s)  (k : am_ok (L_X8_measure_29 m x1 s) P) (hP : ∀ o s, P (.inl (o, s)) → am_sh N n s → Q o s) (hX : ∀ (e : Unit) s, P (.inr (e, s)) → am_sh N n s → am_WP (d + 1) mX8_measure 102 [(0, .ref 55)] [] s Q), am_WP (d + 1) mX8_measure 29 [(0, .ref 55), (1, .int x1)] [] s Q := by
  intro m
  induction m with
  | zero =>
    intro N n d x1 s P Q h  k hP hX
    exact (ok_no k).elim
  | succ m ih =>
    intro N n d x1 s P Q h  k hP hX
    unfold L_X8_measure_29 at k
    refine wp_ld (v := .int x1) dX8_measure_29 rfl rfl rfl rfl ?_
    refine wp_ld (v := .ref 55) dX8_measure_30 rfl rfl rfl rfl ?_
    refine wp_gr dX8_measure_31 rfl rfl (kk_55 h) (rr_55_19 h) ?_
    refine wp_alen dX8_measure_34 (kk_64 h) (by decide) (v := (288 : Int32)) rfl ?_
    refine wp_ic_ge dX8_measure_35 rfl (fun c3 => have k := ok_pos c3 k; ?_) (fun c3 => have k := ok_neg c3 k; ?_)
    · exact wp_sub (hX _ _ (ok_s k) h) rfl ⟨rfl, trivial⟩
    · refine wp_ld (v := .ref 55) dX8_measure_38 rfl rfl rfl rfl ?_
      refine wp_gr dX8_measure_39 rfl rfl (kk_55 h) (rr_55_19 h) ?_
      refine wp_ld (v := .int x1) dX8_measure_42 rfl rfl rfl rfl ?_
      obtain ⟨g4, k⟩ := ok_g k
      refine wq_iald dX8_measure_43 (kk_64 h) g4 (v := (am_I s 64 x1.toNatClampNeg)) rfl ?_
      refine wp_if_ne dX8_measure_44 rfl (fun c5 => have k := ok_neg c5 k; ?_) (fun c5 => have k := ok_pos c5 k; ?_)
      · refine wp_cst (v := .int (2 : Int32)) dX8_measure_50 rfl rfl ?_
        refine wp_ld (v := .int x1) dX8_measure_51 rfl rfl rfl rfl ?_
        refine wp_cst (v := .int (12 : Int32)) dX8_measure_52 rfl rfl ?_
        refine wp_div dX8_measure_54 (by decide) ?_
        refine wp_pu dX8_measure_55 rfl rfl ?_
        refine wp_cst (v := .int (1 : Int32)) dX8_measure_56 rfl rfl ?_
        refine wp_pu dX8_measure_57 rfl rfl ?_
        refine wp_st (ls' := [(0, .ref 55), (1, .int x1), (2, .int (((2 : Int32) * (x1 / (12 : Int32))) + (1 : Int32)))]) dX8_measure_58 rfl rfl rfl (Nat.le_of_ble_eq_true rfl) rfl ?_
        refine wp_ld (v := .ref 55) dX8_measure_59 rfl rfl rfl rfl ?_
        refine wp_pu dX8_measure_60 rfl rfl ?_
        refine wq_gI dX8_measure_61 rfl rfl (kk_55 h) (v := (am_I s 55 23)) rfl ?_
        show am_WP (d + 1) mX8_measure 64 _ _ _ Q
        refine wp_cst (v := .int (1 : Int32)) dX8_measure_64 rfl rfl ?_
        refine wp_pu dX8_measure_65 rfl rfl ?_
        refine wp_pI dX8_measure_66 rfl rfl rfl (fun h => absurd h (by decide)) (kk_55 h) ?_
        refine wp_ld (v := .ref 55) dX8_measure_69 rfl rfl rfl rfl ?_
        refine wp_pu dX8_measure_70 rfl rfl ?_
        refine wq_gI dX8_measure_71 rfl rfl (kk_55 (sh_sI h)) (v := (am_I s 55 26)) rfl ?_
        refine wp_ld (v := .int (((2 : Int32) * (x1 / (12 : Int32))) + (1 : Int32))) dX8_measure_74 rfl rfl rfl rfl ?_
        refine wp_pu dX8_measure_75 rfl rfl ?_
        refine wp_pI dX8_measure_76 rfl rfl rfl (fun h => absurd h (by decide)) (kk_55 (sh_sI h)) ?_
        refine wp_ld (v := .ref 55) dX8_measure_79 rfl rfl rfl rfl ?_
        refine wp_pu dX8_measure_80 rfl rfl ?_
        refine wq_gI dX8_measure_81 rfl rfl (kk_55 (sh_sI (sh_sI h))) (v := (am_I s 55 25)) rfl ?_
        show am_WP (d + 1) mX8_measure 84 _ _ _ Q
        refine wp_ld (v := .int (((2 : Int32) * (x1 / (12 : Int32))) + (1 : Int32))) dX8_measure_84 rfl rfl rfl rfl ?_
        refine wp_ld (v := .ref 55) dX8_measure_85 rfl rfl rfl rfl ?_
        refine wp_gr dX8_measure_86 rfl rfl (kk_55 (sh_sI (sh_sI h))) (rr_55_19 (sh_sI (sh_sI h))) ?_
        refine wp_ld (v := .int x1) dX8_measure_89 rfl rfl rfl rfl ?_
        obtain ⟨g6, k⟩ := ok_g k
        refine wq_iald dX8_measure_90 (kk_64 (sh_sI (sh_sI h))) g6 (v := (am_I s 64 x1.toNatClampNeg)) rfl ?_
        refine wp_pu dX8_measure_91 rfl rfl ?_
        refine wp_pu dX8_measure_92 rfl rfl ?_
        refine ls_i k (fun y7 _ k => ?_)
        refine wp_pI dX8_measure_93 rfl rfl rfl (fun h => absurd h (by decide)) (kk_55 (sh_sI (sh_sI h))) ?_
        refine wp_inc (v := (x1 + (1 : Int32))) (ls' := [(0, .ref 55), (1, .int (x1 + (1 : Int32))), (2, .int (((2 : Int32) * (x1 / (12 : Int32))) + (1 : Int32)))]) dX8_measure_96 rfl (Nat.le_of_ble_eq_true rfl) rfl rfl ?_
        refine wp_goto dX8_measure_99 rfl ?_
        exact wp_sub (ih (sh_sI (sh_sI (sh_sI h))) k hP hX) rfl ⟨rfl, rfl, trivial⟩
      · refine wp_goto dX8_measure_47 rfl ?_
        refine wp_inc (v := (x1 + (1 : Int32))) (ls' := [(0, .ref 55), (1, .int (x1 + (1 : Int32)))]) dX8_measure_96 rfl (Nat.le_of_ble_eq_true rfl) rfl rfl ?_
        refine wp_goto dX8_measure_99 rfl ?_
        exact wp_sub (ih h k hP hX) rfl ⟨rfl, rfl, trivial⟩
noncomputable def f_X8_measure  (s : am_S) : am_F :=
  am_bu (f_X8_count s) (fun s1 =>
    am_lm (L_X8_measure_29 ax_fuel (0 : Int32) (am_sI (am_sI (am_sI (am_sI s1 55 23 (0 : Int32)) 55 24 (am_I s1 55 20)) 55 25 (0 : Int32)) 55 26 (0 : Int32))) (fun e8 s9 =>
      if ¬ ((am_I s9 55 23).toInt64 * (am_I s9 55 24).toInt64) = 0 then
        ax_le (((10 : Int64) * (((am_I s9 55 26).toInt64 * (am_I s9 55 24).toInt64) - ((am_I s9 55 25).toInt64 * (am_I s9 55 23).toInt64))) / ((am_I s9 55 23).toInt64 * (am_I s9 55 24).toInt64)).toInt32 (fun y11 =>
          some (.inl none, (am_sI s9 55 27 y11))
        )
      else none
    )
  )
theorem s_X8_measure {N n : Nat} {d : Nat}  {s : am_S} (h : am_sh N n s)  : am_S1 (am_sh N n) (d + 1) mX8_measure [.ref 55] s (f_X8_measure s) := by
  intro P Q k hP
  show am_WP (d + 1) mX8_measure 0 [(0, .ref 55)] [] s Q
  unfold f_X8_measure at k
  refine wp_ld (v := .ref 55) dX8_measure_0 rfl rfl rfl rfl ?_
  refine c_u dX8_measure_1 rfl rfl rfl (am_inv_v rfl (kk_55 h) rfl rfl rfl) (s_X8_count h) k (fun s1 h k => ?_)
  refine wp_ld (v := .ref 55) dX8_measure_4 rfl rfl rfl rfl ?_
  refine wp_cst (v := .int (0 : Int32)) dX8_measure_5 rfl rfl ?_
  refine wp_pI dX8_measure_6 rfl rfl rfl (fun h => absurd h (by decide)) (kk_55 h) ?_
  refine wp_ld (v := .ref 55) dX8_measure_9 rfl rfl rfl rfl ?_
  refine wp_ld (v := .ref 55) dX8_measure_10 rfl rfl rfl rfl ?_
  refine wq_gI dX8_measure_11 rfl rfl (kk_55 (sh_sI h)) (v := (am_I s1 55 20)) rfl ?_
  refine wp_pI dX8_measure_14 rfl rfl rfl (fun h => absurd h (by decide)) (kk_55 (sh_sI h)) ?_
  refine wp_ld (v := .ref 55) dX8_measure_17 rfl rfl rfl rfl ?_
  refine wp_cst (v := .int (0 : Int32)) dX8_measure_18 rfl rfl ?_
  refine wp_pI dX8_measure_19 rfl rfl rfl (fun h => absurd h (by decide)) (kk_55 (sh_sI (sh_sI h))) ?_
  refine wp_ld (v := .ref 55) dX8_measure_22 rfl rfl rfl rfl ?_
  show am_WP (d + 1) mX8_measure 23 _ _ _ Q
  refine wp_cst (v := .int (0 : Int32)) dX8_measure_23 rfl rfl ?_
  refine wp_pI dX8_measure_24 rfl rfl rfl (fun h => absurd h (by decide)) (kk_55 (sh_sI (sh_sI (sh_sI h)))) ?_
  refine wp_cst (v := .int (0 : Int32)) dX8_measure_27 rfl rfl ?_
  refine wp_st (ls' := [(0, .ref 55), (1, .int (0 : Int32))]) dX8_measure_28 rfl rfl rfl (Nat.le_of_ble_eq_true rfl) rfl ?_
  refine lp_m k (fun P1 k hA hB => ?_)
  refine wp_sub (q_X8_measure_29 ax_fuel (sh_sI (sh_sI (sh_sI (sh_sI h)))) k (fun o s p h => hP o s (hA o s p) h) (fun e8 s9 p h => have k := hB e8 s9 p; ?_)) rfl ⟨rfl, rfl, trivial⟩
  refine wp_ld (v := .ref 55) dX8_measure_102 rfl rfl rfl rfl ?_
  refine wp_cst (v := .long (10 : Int64)) dX8_measure_103 rfl rfl ?_
  refine wp_ld (v := .ref 55) dX8_measure_106 rfl rfl rfl rfl ?_
  refine wq_gI dX8_measure_107 rfl rfl (kk_55 h) (v := (am_I s9 55 26)) rfl ?_
  refine wp_pu dX8_measure_110 rfl rfl ?_
  refine wp_ld (v := .ref 55) dX8_measure_111 rfl rfl rfl rfl ?_
  refine wq_gI dX8_measure_112 rfl rfl (kk_55 h) (v := (am_I s9 55 24)) rfl ?_
  refine wp_pu dX8_measure_115 rfl rfl ?_
  refine wp_pu dX8_measure_116 rfl rfl ?_
  refine wp_ld (v := .ref 55) dX8_measure_117 rfl rfl rfl rfl ?_
  refine wq_gI dX8_measure_118 rfl rfl (kk_55 h) (v := (am_I s9 55 25)) rfl ?_
  show am_WP (d + 1) mX8_measure 121 _ _ _ Q
  refine wp_pu dX8_measure_121 rfl rfl ?_
  refine wp_ld (v := .ref 55) dX8_measure_122 rfl rfl rfl rfl ?_
  refine wq_gI dX8_measure_123 rfl rfl (kk_55 h) (v := (am_I s9 55 23)) rfl ?_
  refine wp_pu dX8_measure_126 rfl rfl ?_
  refine wp_pu dX8_measure_127 rfl rfl ?_
  refine wp_pu dX8_measure_128 rfl rfl ?_
  refine wp_pu dX8_measure_129 rfl rfl ?_
  refine wp_ld (v := .ref 55) dX8_measure_130 rfl rfl rfl rfl ?_
  refine wq_gI dX8_measure_131 rfl rfl (kk_55 h) (v := (am_I s9 55 23)) rfl ?_
  refine wp_pu dX8_measure_134 rfl rfl ?_
  refine wp_ld (v := .ref 55) dX8_measure_135 rfl rfl rfl rfl ?_
  refine wq_gI dX8_measure_136 rfl rfl (kk_55 h) (v := (am_I s9 55 24)) rfl ?_
  show am_WP (d + 1) mX8_measure 139 _ _ _ Q
  refine wp_pu dX8_measure_139 rfl rfl ?_
  refine wp_pu dX8_measure_140 rfl rfl ?_
  obtain ⟨g10, k⟩ := ok_g k
  refine wp_ldiv dX8_measure_141 g10 ?_
  refine wp_pu dX8_measure_142 rfl rfl ?_
  refine ls_i k (fun y11 _ k => ?_)
  refine wp_pI dX8_measure_143 rfl rfl rfl (fun h => absurd h (by decide)) (kk_55 h) ?_
  exact wp_end dX8_measure_146 rfl rfl (hP _ _ (ok_s k) (sh_sI h))
noncomputable def L_X8_makes_6 : Nat → Int32 → Int32 → am_S → am_FE (Unit)
  | 0, _, _, _ => none
  | m + 1, x1, x2, s =>
    am_bi (f_X8_foldsOf x1 s) (fun v4 s3 =>
      if v4 ≤ x2 then
        some (.inr ((), s3))
      else
        am_bi (f_X8_foldAt x1 x2 s3) (fun v7 s6 =>
          if am_in v7 264 = true then
            am_bi (f_X8_foldAt x1 x2 s6) (fun v10 s9 =>
              if am_in (v10 + (1 : Int32)) 264 = true then
                am_bi (f_X8_folds (am_I s6 56 v7.toNatClampNeg) (am_I s9 56 ((v10 + (1 : Int32)).toNatClampNeg)) s9) (fun v13 s12 =>
                  if v13 = 0 then
                    some (.inl (.inl (some (.int x2)), s12))
                  else
                    L_X8_makes_6 m x1 (x2 + (1 : Int32)) s12
                )
              else none
            )
          else none
        )
    )
theorem q_X8_makes_6 : ∀ (m : Nat) {N n : Nat} {d : Nat} {x1 : Int32} {x2 : Int32} {s : am_S} {P : (am_O × am_S) ⊕ (Unit × am_S) → Prop} {Q : am_O → am_S → Prop} (h : am_sh N n s)  (k : am_ok (L_X8_makes_6 m x1 x2 s) P) (hP : ∀ o s, P (.inl (o, s)) → am_sh N n s → Q o s) (hX : ∀ (e : Unit) s, P (.inr (e, s)) → am_sh N n s → am_WP (d + 2) mX8_makes 54 [(0, .ref 55)] [] s Q), am_WP (d + 2) mX8_makes 6 [(0, .ref 55), (1, .int x1), (2, .int x2)] [] s Q := by
  intro m
  induction m with
  | zero =>
    intro N n d x1 x2 s P Q h  k hP hX
    exact (ok_no k).elim
  | succ m ih =>
    intro N n d x1 x2 s P Q h  k hP hX
    unfold L_X8_makes_6 at k
    refine wp_ld (v := .int x2) dX8_makes_6 rfl rfl rfl rfl ?_
    refine wp_ld (v := .ref 55) dX8_makes_7 rfl rfl rfl rfl ?_
    refine wp_ld (v := .int x1) dX8_makes_8 rfl rfl rfl rfl ?_
    refine c_i dX8_makes_9 rfl rfl rfl (am_inv_v rfl (kk_55 h) rfl rfl rfl) (s_X8_foldsOf h) k (fun v4 s3 h k => ?_)
    refine wp_ic_ge dX8_makes_12 rfl (fun c5 => have k := ok_pos c5 k; ?_) (fun c5 => have k := ok_neg c5 k; ?_)
    · exact wp_sub (hX _ _ (ok_s k) h) rfl ⟨rfl, trivial⟩
    · refine wp_ld (v := .ref 55) dX8_makes_15 rfl rfl rfl rfl ?_
      refine wp_ld (v := .ref 55) dX8_makes_16 rfl rfl rfl rfl ?_
      refine wp_gr dX8_makes_17 rfl rfl (kk_55 h) (rr_55_0 h) ?_
      refine wp_ld (v := .ref 55) dX8_makes_20 rfl rfl rfl rfl ?_
      refine wp_ld (v := .int x1) dX8_makes_21 rfl rfl rfl rfl ?_
      refine wp_ld (v := .int x2) dX8_makes_22 rfl rfl rfl rfl ?_
      refine c_i dX8_makes_23 rfl rfl rfl (am_inv_v rfl (kk_55 h) rfl rfl rfl) (s_X8_foldAt h) k (fun v7 s6 h k => ?_)
      obtain ⟨g8, k⟩ := ok_g k
      refine wq_iald dX8_makes_26 (kk_56 h) g8 (v := (am_I s6 56 v7.toNatClampNeg)) rfl ?_
      refine wp_ld (v := .ref 55) dX8_makes_27 rfl rfl rfl rfl ?_
      refine wp_gr dX8_makes_28 rfl rfl (kk_55 h) (rr_55_0 h) ?_
      refine wp_ld (v := .ref 55) dX8_makes_31 rfl rfl rfl rfl ?_
      refine wp_ld (v := .int x1) dX8_makes_32 rfl rfl rfl rfl ?_
      refine wp_ld (v := .int x2) dX8_makes_33 rfl rfl rfl rfl ?_
      refine c_i dX8_makes_34 rfl rfl rfl (am_inv_v rfl (kk_55 h) rfl rfl rfl) (s_X8_foldAt h) k (fun v10 s9 h k => ?_)
      refine wp_cst (v := .int (1 : Int32)) dX8_makes_37 rfl rfl ?_
      refine wp_pu dX8_makes_38 rfl rfl ?_
      obtain ⟨g11, k⟩ := ok_g k
      refine wq_iald dX8_makes_39 (kk_56 h) g11 (v := (am_I s9 56 ((v10 + (1 : Int32)).toNatClampNeg))) rfl ?_
      refine c_i dX8_makes_40 rfl rfl rfl (am_inv_v rfl (kk_55 h) rfl rfl rfl) (s_X8_folds h) k (fun v13 s12 h k => ?_)
      refine wp_if_ne dX8_makes_43 rfl (fun c14 => have k := ok_neg c14 k; ?_) (fun c14 => have k := ok_pos c14 k; ?_)
      · refine wp_inc (v := (x2 + (1 : Int32))) (ls' := [(0, .ref 55), (1, .int x1), (2, .int (x2 + (1 : Int32)))]) dX8_makes_48 rfl (Nat.le_of_ble_eq_true rfl) rfl rfl ?_
        refine wp_goto dX8_makes_51 rfl ?_
        exact wp_sub (ih h k hP hX) rfl ⟨rfl, rfl, rfl, trivial⟩
      · refine wp_ld (v := .int x2) dX8_makes_46 rfl rfl rfl rfl ?_
        exact wp_end dX8_makes_47 rfl (am_end_i rfl) (hP _ _ (ok_s k) h)
noncomputable def f_X8_makes (x1 : Int32) (s : am_S) : am_F :=
  am_bu (f_X8_flat s) (fun s1 =>
    am_lm (L_X8_makes_6 ax_fuel x1 (0 : Int32) s1) (fun e15 s16 =>
      am_bu (f_X8_measure s16) (fun s17 =>
        some (.inl (some (.int (-1 : Int32))), s17)
      )
    )
  )
theorem s_X8_makes {N n : Nat} {d : Nat} {x1 : Int32} {s : am_S} (h : am_sh N n s)  : am_S1 (am_sh N n) (d + 2) mX8_makes [.ref 55, .int x1] s (f_X8_makes x1 s) := by
  intro P Q k hP
  show am_WP (d + 2) mX8_makes 0 [(0, .ref 55), (1, .int x1)] [] s Q
  unfold f_X8_makes at k
  refine wp_ld (v := .ref 55) dX8_makes_0 rfl rfl rfl rfl ?_
  refine c_u dX8_makes_1 rfl rfl rfl (am_inv_v rfl (kk_55 h) rfl rfl rfl) (s_X8_flat h) k (fun s1 h k => ?_)
  refine wp_cst (v := .int (0 : Int32)) dX8_makes_4 rfl rfl ?_
  refine wp_st (ls' := [(0, .ref 55), (1, .int x1), (2, .int (0 : Int32))]) dX8_makes_5 rfl rfl rfl (Nat.le_of_ble_eq_true rfl) rfl ?_
  refine lp_m k (fun P1 k hA hB => ?_)
  refine wp_sub (q_X8_makes_6 ax_fuel h k (fun o s p h => hP o s (hA o s p) h) (fun e15 s16 p h => have k := hB e15 s16 p; ?_)) rfl ⟨rfl, rfl, rfl, trivial⟩
  refine wp_ld (v := .ref 55) dX8_makes_54 rfl rfl rfl rfl ?_
  refine c_u dX8_makes_55 rfl rfl rfl (am_inv_v rfl (kk_55 h) rfl rfl rfl) (s_X8_measure h) k (fun s17 h k => ?_)
  refine wp_cst (v := .int (-1 : Int32)) dX8_makes_58 rfl rfl ?_
  exact wp_end dX8_makes_59 rfl (am_end_i rfl) (hP _ _ (ok_s k) h)
noncomputable def f_X8_breaks (x1 : Int32) (s : am_S) : am_F :=
  am_bi (f_X8_isWay x1 (am_sI s 55 3 (0 : Int32))) (fun v2 s1 =>
    if v2 = 0 then
      am_bi (f_X8_fails (1 : Int32) s1) (fun v5 s4 =>
        some (.inl (some (.int v5)), s4)
      )
    else
      am_bi (f_X8_makes x1 s1) (fun v7 s6 =>
        some (.inl (some (.int v7)), s6)
      )
  )
theorem s_X8_breaks {N n : Nat} {d : Nat} {x1 : Int32} {s : am_S} (h : am_sh N n s)  : am_S1 (am_sh N n) (d + 3) mX8_breaks [.ref 55, .int x1] s (f_X8_breaks x1 s) := by
  intro P Q k hP
  show am_WP (d + 3) mX8_breaks 0 [(0, .ref 55), (1, .int x1)] [] s Q
  unfold f_X8_breaks at k
  refine wp_ld (v := .ref 55) dX8_breaks_0 rfl rfl rfl rfl ?_
  refine wp_cst (v := .int (0 : Int32)) dX8_breaks_1 rfl rfl ?_
  refine wp_pI dX8_breaks_2 rfl rfl rfl (fun h => absurd h (by decide)) (kk_55 h) ?_
  refine wp_ld (v := .ref 55) dX8_breaks_5 rfl rfl rfl rfl ?_
  refine wp_ld (v := .int x1) dX8_breaks_6 rfl rfl rfl rfl ?_
  refine c_i dX8_breaks_7 rfl rfl rfl (am_inv_v rfl (kk_55 (sh_sI h)) rfl rfl rfl) (s_X8_isWay (sh_sI h)) k (fun v2 s1 h k => ?_)
  refine wp_if_eq dX8_breaks_10 rfl (fun c3 => have k := ok_pos c3 k; ?_) (fun c3 => have k := ok_neg c3 k; ?_)
  · refine wp_ld (v := .ref 55) dX8_breaks_21 rfl rfl rfl rfl ?_
    refine wp_cst (v := .int (1 : Int32)) dX8_breaks_22 rfl rfl ?_
    refine c_i dX8_breaks_23 rfl rfl rfl (am_inv_v rfl (kk_55 h) rfl rfl rfl) (s_X8_fails h) k (fun v5 s4 h k => ?_)
    exact wp_end dX8_breaks_26 rfl (am_end_i rfl) (hP _ _ (ok_s k) h)
  · refine wp_ld (v := .ref 55) dX8_breaks_13 rfl rfl rfl rfl ?_
    refine wp_ld (v := .int x1) dX8_breaks_14 rfl rfl rfl rfl ?_
    refine c_i dX8_breaks_15 rfl rfl rfl (am_inv_v rfl (kk_55 h) rfl rfl rfl) (s_X8_makes h) k (fun v7 s6 h k => ?_)
    refine wp_goto dX8_breaks_18 rfl ?_
    exact wp_end dX8_breaks_26 rfl (am_end_i rfl) (hP _ _ (ok_s k) h)
noncomputable def f_X7_make (x1 : Int32) (x2 : Int32) (s : am_S) : am_F :=
  am_tv (f_X7_needWay x1 s) (fun v2 s1 =>
    am_mv v2 none (fun t3 => if am_k0 t3 = (4, 0) ∧ t3 < 72 then
      am_tu (f_X7_needMake t3 s1) (fun s7 =>
        am_tu (f_X7_needWithin x2 (0 : Int32) (6 : Int32) s7) (fun s9 =>
          if x2 = (0 : Int32) then
            some (.inl (some (.int (am_I s9 37 2))), s9)
          else if x2 = (1 : Int32) then
            some (.inl (some (.int (am_I s9 37 3))), s9)
          else if x2 = (2 : Int32) then
            some (.inl (some (.int (am_I s9 37 4))), s9)
          else if x2 = (3 : Int32) then
            some (.inl (some (.int (am_I s9 37 5))), s9)
          else if x2 = (4 : Int32) then
            some (.inl (some (.int (am_I s9 37 6))), s9)
          else if x2 = (5 : Int32) then
            some (.inl (some (.int (am_I s9 37 7))), s9)
          else
            some (.inl (some (.int (am_I s9 37 8))), s9)
        )
      )
    else none)
  )
theorem s_X7_make {N n : Nat} {d : Nat} {x1 : Int32} {x2 : Int32} {s : am_S} (h : am_sh N n s)  : am_S1 (am_sh N n) (d + 6) mX7_make [.ref 0, .int x1, .int x2] s (f_X7_make x1 x2 s) := by
  intro P Q k hP
  show am_WP (d + 6) mX7_make 0 [(0, .ref 0), (1, .int x1), (2, .int x2)] [] s Q
  unfold f_X7_make at k
  refine wp_ld (v := .ref 0) dX7_make_0 rfl rfl rfl rfl ?_
  refine wp_ld (v := .ref 0) dX7_make_1 rfl rfl rfl rfl ?_
  refine wp_ld (v := .int x1) dX7_make_2 rfl rfl rfl rfl ?_
  refine t_v dX7_make_3 rfl rfl rfl (am_inv_v rfl (kk_0 h) rfl rfl rfl) (s_X7_needWay h) k rfl rfl hP (fun v2 s1 h k => ?_)
  obtain ⟨t3, c4, k⟩ := ok_mn k
  subst c4
  obtain ⟨g5, k⟩ := ok_g k
  have f6 := kk_up h g5
  refine t_u dX7_make_6 rfl rfl rfl (am_inv_v rfl (kk_0 h) rfl rfl rfl) (s_X7_needMake h f6) k rfl rfl hP (fun s7 h k => ?_)
  refine wp_ld (v := .int x2) dX7_make_9 rfl rfl rfl rfl ?_
  refine wp_cst (v := .int (0 : Int32)) dX7_make_10 rfl rfl ?_
  refine wp_cst (v := .int (6 : Int32)) dX7_make_11 rfl rfl ?_
  refine t_u dX7_make_13 rfl rfl rfl (am_inv_s rfl rfl rfl rfl) (s_X7_needWithin h) k rfl rfl hP (fun s9 h k => ?_)
  refine wp_ld (v := .int x2) dX7_make_16 rfl rfl rfl rfl ?_
  by_cases c11 : x2 = (0 : Int32)
  · have k := ok_pos c11 k
    refine sw_hit dX7_make_17 rfl c11 rfl ?_
    refine wp_ld (v := .ref 0) dX7_make_56 rfl rfl rfl rfl ?_
    refine wp_gr dX7_make_57 rfl rfl (kk_0 h) (rr_0_4 h) ?_
    refine wq_gI dX7_make_60 rfl rfl (kk_37 h) (v := (am_I s9 37 2)) rfl ?_
    exact wp_end dX7_make_63 rfl (am_end_i rfl) (hP _ _ (ok_s k) h)
  replace k := ok_neg c11 k
  by_cases c12 : x2 = (1 : Int32)
  · have k := ok_pos c12 k
    refine sw_hit dX7_make_17 rfl c12 rfl ?_
    refine wp_ld (v := .ref 0) dX7_make_64 rfl rfl rfl rfl ?_
    refine wp_gr dX7_make_65 rfl rfl (kk_0 h) (rr_0_4 h) ?_
    refine wq_gI dX7_make_68 rfl rfl (kk_37 h) (v := (am_I s9 37 3)) rfl ?_
    exact wp_end dX7_make_71 rfl (am_end_i rfl) (hP _ _ (ok_s k) h)
  replace k := ok_neg c12 k
  by_cases c13 : x2 = (2 : Int32)
  · have k := ok_pos c13 k
    refine sw_hit dX7_make_17 rfl c13 rfl ?_
    refine wp_ld (v := .ref 0) dX7_make_72 rfl rfl rfl rfl ?_
    refine wp_gr dX7_make_73 rfl rfl (kk_0 h) (rr_0_4 h) ?_
    refine wq_gI dX7_make_76 rfl rfl (kk_37 h) (v := (am_I s9 37 4)) rfl ?_
    exact wp_end dX7_make_79 rfl (am_end_i rfl) (hP _ _ (ok_s k) h)
  replace k := ok_neg c13 k
  by_cases c14 : x2 = (3 : Int32)
  · have k := ok_pos c14 k
    refine sw_hit dX7_make_17 rfl c14 rfl ?_
    refine wp_ld (v := .ref 0) dX7_make_80 rfl rfl rfl rfl ?_
    refine wp_gr dX7_make_81 rfl rfl (kk_0 h) (rr_0_4 h) ?_
    refine wq_gI dX7_make_84 rfl rfl (kk_37 h) (v := (am_I s9 37 5)) rfl ?_
    exact wp_end dX7_make_87 rfl (am_end_i rfl) (hP _ _ (ok_s k) h)
  replace k := ok_neg c14 k
  by_cases c15 : x2 = (4 : Int32)
  · have k := ok_pos c15 k
    refine sw_hit dX7_make_17 rfl c15 rfl ?_
    refine wp_ld (v := .ref 0) dX7_make_88 rfl rfl rfl rfl ?_
    refine wp_gr dX7_make_89 rfl rfl (kk_0 h) (rr_0_4 h) ?_
    refine wq_gI dX7_make_92 rfl rfl (kk_37 h) (v := (am_I s9 37 6)) rfl ?_
    exact wp_end dX7_make_95 rfl (am_end_i rfl) (hP _ _ (ok_s k) h)
  replace k := ok_neg c15 k
  by_cases c16 : x2 = (5 : Int32)
  · have k := ok_pos c16 k
    refine sw_hit dX7_make_17 rfl c16 rfl ?_
    refine wp_ld (v := .ref 0) dX7_make_96 rfl rfl rfl rfl ?_
    refine wp_gr dX7_make_97 rfl rfl (kk_0 h) (rr_0_4 h) ?_
    refine wq_gI dX7_make_100 rfl rfl (kk_37 h) (v := (am_I s9 37 7)) rfl ?_
    exact wp_end dX7_make_103 rfl (am_end_i rfl) (hP _ _ (ok_s k) h)
  replace k := ok_neg c16 k
  refine ts_out dX7_make_17 rfl (by
      intro j h1 h2
      have hj : j = 0 ∨ j = 1 ∨ j = 2 ∨ j = 3 ∨ j = 4 ∨ j = 5 := by omega
      rcases hj with e | e | e | e | e | e
      · subst e; exact c11
      · subst e; exact c12
      · subst e; exact c13
      · subst e; exact c14
      · subst e; exact c15
      · subst e; exact c16
      ) ?_
  refine wp_ld (v := .ref 0) dX7_make_104 rfl rfl rfl rfl ?_
  refine wp_gr dX7_make_105 rfl rfl (kk_0 h) (rr_0_4 h) ?_
  refine wq_gI dX7_make_108 rfl rfl (kk_37 h) (v := (am_I s9 37 8)) rfl ?_
  exact wp_end dX7_make_111 rfl (am_end_i rfl) (hP _ _ (ok_s k) h)
noncomputable def f_L_make (x2 : Int32) (x3 : Int32) (s : am_S) : am_F :=
  am_xi (f_X7_make x2 x3 s) (fun v2 s1 =>
    some (.inl (some (.int (0 : Int32))), (am_sL s1 71 0 v2.toInt64))
  ) (fun e s1 =>
    if e = 3 then
      some (.inl (some (.int (1 : Int32))), s1)
    else
      if e = 1 then
        some (.inl (some (.int (2 : Int32))), s1)
      else
        if e = 0 then
          some (.inl (some (.int (3 : Int32))), s1)
        else
          none
  )
theorem s_L_make {N : Nat} {d : Nat} {x2 : Int32} {x3 : Int32} {s : am_S} (h : am_shE N s)  : am_S1 (am_shE N) (d + 7) mL_make [.ref 0, .int x2, .int x3, .ref 71] s (f_L_make x2 x3 s) := by
  intro P Q k hP
  show am_WP (d + 7) mL_make 0 [(0, .ref 0), (1, .int x2), (2, .int x3), (3, .ref 71)] [] s Q
  unfold f_L_make at k
  refine wp_ld (v := .ref 71) dL_make_0 rfl rfl rfl rfl ?_
  refine wp_cst (v := .int (0 : Int32)) dL_make_1 rfl rfl ?_
  refine wp_ld (v := .ref 0) dL_make_2 rfl rfl rfl rfl ?_
  refine wp_ld (v := .int x2) dL_make_3 rfl rfl rfl rfl ?_
  refine wp_ld (v := .int x3) dL_make_4 rfl rfl rfl rfl ?_
  refine x_i dL_make_5 rfl rfl rfl (am_inv_v rfl (kE_0 h) rfl rfl rfl) (sE h (fun _ h => s_X7_make h)) k rfl (List.cons_ne_nil _ _) (fun v2 s1 h k => ?_) (fun e s1 h k => ?_)
  · refine wp_pu dL_make_8 rfl rfl ?_
    refine wq_last dL_make_9 (kE_71 h) (by decide) (j := 0) rfl ?_
    refine wp_goto dL_make_10 rfl ?_
    refine wp_cst (v := .int (0 : Int32)) dL_make_25 rfl rfl ?_
    exact wp_end dL_make_26 rfl (am_end_i rfl) (hP _ _ (ok_s k) (shE_sL h))
  · by_cases c3 : e = 3
    · have k := ok_pos c3 k
      subst c3
      refine ⟨_, _, rfl, ?_⟩
      refine wp_cst (v := .int (1 : Int32)) dL_make_15 rfl rfl ?_
      exact wp_end dL_make_16 rfl (am_end_i rfl) (hP _ _ (ok_s k) h)
    replace k := ok_neg c3 k
    by_cases c4 : e = 1
    · have k := ok_pos c4 k
      subst c4
      refine ⟨_, _, rfl, ?_⟩
      refine wp_cst (v := .int (2 : Int32)) dL_make_19 rfl rfl ?_
      exact wp_end dL_make_20 rfl (am_end_i rfl) (hP _ _ (ok_s k) h)
    replace k := ok_neg c4 k
    by_cases c5 : e = 0
    · have k := ok_pos c5 k
      subst c5
      refine ⟨_, _, rfl, ?_⟩
      refine wp_cst (v := .int (3 : Int32)) dL_make_23 rfl rfl ?_
      exact wp_end dL_make_24 rfl (am_end_i rfl) (hP _ _ (ok_s k) h)
    replace k := ok_neg c5 k
    exact (ok_no k).elim
noncomputable def f_X8_wayFault (x1 : Int32) (s : am_S) : am_F :=
  am_bi (f_X8_isWay x1 s) (fun v2 s1 =>
    if v2 = 0 then
      some (.inl (some (.int (1 : Int32))), s1)
    else
      am_bi (f_X8_makes x1 s1) (fun v5 s4 =>
        if v5 = (-1 : Int32) then
          some (.inl (some (.int (0 : Int32))), s4)
        else
          some (.inl (some (.int (2 : Int32))), s4)
      )
  )
theorem s_X8_wayFault {N n : Nat} {d : Nat} {x1 : Int32} {s : am_S} (h : am_sh N n s)  : am_S1 (am_sh N n) (d + 3) mX8_wayFault [.ref 55, .int x1] s (f_X8_wayFault x1 s) := by
  intro P Q k hP
  show am_WP (d + 3) mX8_wayFault 0 [(0, .ref 55), (1, .int x1)] [] s Q
  unfold f_X8_wayFault at k
  refine wp_ld (v := .ref 55) dX8_wayFault_0 rfl rfl rfl rfl ?_
  refine wp_ld (v := .int x1) dX8_wayFault_1 rfl rfl rfl rfl ?_
  refine c_i dX8_wayFault_2 rfl rfl rfl (am_inv_v rfl (kk_55 h) rfl rfl rfl) (s_X8_isWay h) k (fun v2 s1 h k => ?_)
  refine wp_if_ne dX8_wayFault_5 rfl (fun c3 => have k := ok_neg c3 k; ?_) (fun c3 => have k := ok_pos c3 k; ?_)
  · refine wp_ld (v := .ref 55) dX8_wayFault_12 rfl rfl rfl rfl ?_
    refine wp_ld (v := .int x1) dX8_wayFault_13 rfl rfl rfl rfl ?_
    refine c_i dX8_wayFault_14 rfl rfl rfl (am_inv_v rfl (kk_55 h) rfl rfl rfl) (s_X8_makes h) k (fun v5 s4 h k => ?_)
    refine wp_cst (v := .int (-1 : Int32)) dX8_wayFault_17 rfl rfl ?_
    refine wp_ic_ne dX8_wayFault_18 rfl (fun c6 => have k := ok_neg c6 k; ?_) (fun c6 => have k := ok_pos c6 k; ?_)
    · refine wp_cst (v := .int (2 : Int32)) dX8_wayFault_25 rfl rfl ?_
      exact wp_end dX8_wayFault_26 rfl (am_end_i rfl) (hP _ _ (ok_s k) h)
    · refine wp_cst (v := .int (0 : Int32)) dX8_wayFault_21 rfl rfl ?_
      refine wp_goto dX8_wayFault_22 rfl ?_
      exact wp_end dX8_wayFault_26 rfl (am_end_i rfl) (hP _ _ (ok_s k) h)
  · refine wp_cst (v := .int (1 : Int32)) dX8_wayFault_8 rfl rfl ?_
    refine wp_goto dX8_wayFault_9 rfl ?_
    exact wp_end dX8_wayFault_26 rfl (am_end_i rfl) (hP _ _ (ok_s k) h)
noncomputable def f_X8_make (x1 : Int32) (x2 : Int32) (s : am_S) : am_F :=
  am_bi (f_X8_wayFault x1 s) (fun v2 s1 =>
    if v2 ≤ 0 then
      if x2 = (0 : Int32) then
        some (.inl (some (.int (am_I s1 55 21))), (am_sI s1 55 3 v2))
      else if x2 = (1 : Int32) then
        some (.inl (some (.int (am_I s1 55 22))), (am_sI s1 55 3 v2))
      else if x2 = (2 : Int32) then
        some (.inl (some (.int (am_I s1 55 23))), (am_sI s1 55 3 v2))
      else if x2 = (3 : Int32) then
        some (.inl (some (.int (am_I s1 55 24))), (am_sI s1 55 3 v2))
      else if x2 = (4 : Int32) then
        some (.inl (some (.int (am_I s1 55 25))), (am_sI s1 55 3 v2))
      else if x2 = (5 : Int32) then
        some (.inl (some (.int (am_I s1 55 26))), (am_sI s1 55 3 v2))
      else if x2 = (6 : Int32) then
        some (.inl (some (.int (am_I s1 55 27))), (am_sI s1 55 3 v2))
      else
        am_bi (f_X8_fails (3 : Int32) (am_sI s1 55 3 v2)) (fun v12 s11 =>
          some (.inl (some (.int v12)), s11)
        )
    else
      some (.inl (some (.int (0 : Int32))), (am_sI s1 55 3 v2))
  )
theorem s_X8_make {N n : Nat} {d : Nat} {x1 : Int32} {x2 : Int32} {s : am_S} (h : am_sh N n s)  : am_S1 (am_sh N n) (d + 4) mX8_make [.ref 55, .int x1, .int x2] s (f_X8_make x1 x2 s) := by
  intro P Q k hP
  show am_WP (d + 4) mX8_make 0 [(0, .ref 55), (1, .int x1), (2, .int x2)] [] s Q
  unfold f_X8_make at k
  refine wp_ld (v := .ref 55) dX8_make_0 rfl rfl rfl rfl ?_
  refine wp_ld (v := .ref 55) dX8_make_1 rfl rfl rfl rfl ?_
  refine wp_ld (v := .int x1) dX8_make_2 rfl rfl rfl rfl ?_
  refine c_i dX8_make_3 rfl rfl rfl (am_inv_v rfl (kk_55 h) rfl rfl rfl) (s_X8_wayFault h) k (fun v2 s1 h k => ?_)
  refine wp_pI dX8_make_6 rfl rfl rfl (fun h => absurd h (by decide)) (kk_55 h) ?_
  refine wp_ld (v := .ref 55) dX8_make_9 rfl rfl rfl rfl ?_
  refine wq_gI dX8_make_10 rfl rfl (kk_55 (sh_sI h)) (v := v2) rfl ?_
  refine wp_if_le dX8_make_13 rfl (fun c3 => have k := ok_pos c3 k; ?_) (fun c3 => have k := ok_neg c3 k; ?_)
  · refine wp_ld (v := .int x2) dX8_make_18 rfl rfl rfl rfl ?_
    by_cases c4 : x2 = (0 : Int32)
    · have k := ok_pos c4 k
      refine sw_hit dX8_make_19 rfl c4 rfl ?_
      refine wp_ld (v := .ref 55) dX8_make_60 rfl rfl rfl rfl ?_
      refine wq_gI dX8_make_61 rfl rfl (kk_55 (sh_sI h)) (v := (am_I s1 55 21)) rfl ?_
      exact wp_end dX8_make_64 rfl (am_end_i rfl) (hP _ _ (ok_s k) (sh_sI h))
    replace k := ok_neg c4 k
    by_cases c5 : x2 = (1 : Int32)
    · have k := ok_pos c5 k
      refine sw_hit dX8_make_19 rfl c5 rfl ?_
      refine wp_ld (v := .ref 55) dX8_make_65 rfl rfl rfl rfl ?_
      refine wq_gI dX8_make_66 rfl rfl (kk_55 (sh_sI h)) (v := (am_I s1 55 22)) rfl ?_
      exact wp_end dX8_make_69 rfl (am_end_i rfl) (hP _ _ (ok_s k) (sh_sI h))
    replace k := ok_neg c5 k
    by_cases c6 : x2 = (2 : Int32)
    · have k := ok_pos c6 k
      refine sw_hit dX8_make_19 rfl c6 rfl ?_
      refine wp_ld (v := .ref 55) dX8_make_70 rfl rfl rfl rfl ?_
      refine wq_gI dX8_make_71 rfl rfl (kk_55 (sh_sI h)) (v := (am_I s1 55 23)) rfl ?_
      exact wp_end dX8_make_74 rfl (am_end_i rfl) (hP _ _ (ok_s k) (sh_sI h))
    replace k := ok_neg c6 k
    by_cases c7 : x2 = (3 : Int32)
    · have k := ok_pos c7 k
      refine sw_hit dX8_make_19 rfl c7 rfl ?_
      refine wp_ld (v := .ref 55) dX8_make_75 rfl rfl rfl rfl ?_
      refine wq_gI dX8_make_76 rfl rfl (kk_55 (sh_sI h)) (v := (am_I s1 55 24)) rfl ?_
      exact wp_end dX8_make_79 rfl (am_end_i rfl) (hP _ _ (ok_s k) (sh_sI h))
    replace k := ok_neg c7 k
    by_cases c8 : x2 = (4 : Int32)
    · have k := ok_pos c8 k
      refine sw_hit dX8_make_19 rfl c8 rfl ?_
      refine wp_ld (v := .ref 55) dX8_make_80 rfl rfl rfl rfl ?_
      refine wq_gI dX8_make_81 rfl rfl (kk_55 (sh_sI h)) (v := (am_I s1 55 25)) rfl ?_
      exact wp_end dX8_make_84 rfl (am_end_i rfl) (hP _ _ (ok_s k) (sh_sI h))
    replace k := ok_neg c8 k
    by_cases c9 : x2 = (5 : Int32)
    · have k := ok_pos c9 k
      refine sw_hit dX8_make_19 rfl c9 rfl ?_
      refine wp_ld (v := .ref 55) dX8_make_85 rfl rfl rfl rfl ?_
      refine wq_gI dX8_make_86 rfl rfl (kk_55 (sh_sI h)) (v := (am_I s1 55 26)) rfl ?_
      exact wp_end dX8_make_89 rfl (am_end_i rfl) (hP _ _ (ok_s k) (sh_sI h))
    replace k := ok_neg c9 k
    by_cases c10 : x2 = (6 : Int32)
    · have k := ok_pos c10 k
      refine sw_hit dX8_make_19 rfl c10 rfl ?_
      refine wp_ld (v := .ref 55) dX8_make_90 rfl rfl rfl rfl ?_
      refine wq_gI dX8_make_91 rfl rfl (kk_55 (sh_sI h)) (v := (am_I s1 55 27)) rfl ?_
      exact wp_end dX8_make_94 rfl (am_end_i rfl) (hP _ _ (ok_s k) (sh_sI h))
    replace k := ok_neg c10 k
    refine ts_out dX8_make_19 rfl (by
        intro j h1 h2
        have hj : j = 0 ∨ j = 1 ∨ j = 2 ∨ j = 3 ∨ j = 4 ∨ j = 5 ∨ j = 6 := by omega
        rcases hj with e | e | e | e | e | e | e
        · subst e; exact c4
        · subst e; exact c5
        · subst e; exact c6
        · subst e; exact c7
        · subst e; exact c8
        · subst e; exact c9
        · subst e; exact c10
        ) ?_
    refine wp_ld (v := .ref 55) dX8_make_95 rfl rfl rfl rfl ?_
    refine wp_cst (v := .int (3 : Int32)) dX8_make_96 rfl rfl ?_
    refine c_i dX8_make_97 rfl rfl rfl (am_inv_v rfl (kk_55 (sh_sI h)) rfl rfl rfl) (s_X8_fails (sh_sI h)) k (fun v12 s11 h k => ?_)
    exact wp_end dX8_make_100 rfl (am_end_i rfl) (hP _ _ (ok_s k) h)
  · refine wp_cst (v := .int (0 : Int32)) dX8_make_16 rfl rfl ?_
    exact wp_end dX8_make_17 rfl (am_end_i rfl) (hP _ _ (ok_s k) (sh_sI h))
noncomputable def f_X7_layers (x1 : Int32) (x2 : Int32) (x3 : Int32) (s : am_S) : am_F :=
  am_tv (f_X7_needWay x1 s) (fun v2 s1 =>
    am_mv v2 none (fun t3 => if am_k0 t3 = (4, 0) ∧ t3 < 72 then
      am_tu (f_X7_needMake t3 s1) (fun s7 =>
        am_bi (f_X2_layersAt x2 x3 s7) (fun v10 s9 =>
          some (.inl (some (.int v10)), s9)
        )
      )
    else none)
  )
theorem s_X7_layers {N n : Nat} {d : Nat} {x1 : Int32} {x2 : Int32} {x3 : Int32} {s : am_S} (h : am_sh N n s)  : am_S1 (am_sh N n) (d + 6) mX7_layers [.ref 0, .int x1, .int x2, .int x3] s (f_X7_layers x1 x2 x3 s) := by
  intro P Q k hP
  show am_WP (d + 6) mX7_layers 0 [(0, .ref 0), (1, .int x1), (2, .int x2), (3, .int x3)] [] s Q
  unfold f_X7_layers at k
  refine wp_ld (v := .ref 0) dX7_layers_0 rfl rfl rfl rfl ?_
  refine wp_ld (v := .ref 0) dX7_layers_1 rfl rfl rfl rfl ?_
  refine wp_ld (v := .int x1) dX7_layers_2 rfl rfl rfl rfl ?_
  refine t_v dX7_layers_3 rfl rfl rfl (am_inv_v rfl (kk_0 h) rfl rfl rfl) (s_X7_needWay h) k rfl rfl hP (fun v2 s1 h k => ?_)
  obtain ⟨t3, c4, k⟩ := ok_mn k
  subst c4
  obtain ⟨g5, k⟩ := ok_g k
  have f6 := kk_up h g5
  refine t_u dX7_layers_6 rfl rfl rfl (am_inv_v rfl (kk_0 h) rfl rfl rfl) (s_X7_needMake h f6) k rfl rfl hP (fun s7 h k => ?_)
  refine wp_ld (v := .ref 0) dX7_layers_9 rfl rfl rfl rfl ?_
  refine wp_gr dX7_layers_10 rfl rfl (kk_0 h) (rr_0_4 h) ?_
  refine wp_ld (v := .int x2) dX7_layers_13 rfl rfl rfl rfl ?_
  refine wp_ld (v := .int x3) dX7_layers_14 rfl rfl rfl rfl ?_
  refine c_i dX7_layers_15 rfl rfl rfl (am_inv_v rfl (kk_37 h) rfl rfl rfl) (s_X2_layersAt h) k (fun v10 s9 h k => ?_)
  exact wp_end dX7_layers_18 rfl (am_end_i rfl) (hP _ _ (ok_s k) h)
noncomputable def f_L_layers (x2 : Int32) (x3 : Int32) (x4 : Int32) (s : am_S) : am_F :=
  am_xi (f_X7_layers x2 x3 x4 s) (fun v2 s1 =>
    some (.inl (some (.int (0 : Int32))), (am_sL s1 71 0 v2.toInt64))
  ) (fun e s1 =>
    if e = 3 then
      some (.inl (some (.int (1 : Int32))), s1)
    else
      if e = 1 then
        some (.inl (some (.int (2 : Int32))), s1)
      else
        none
  )
theorem s_L_layers {N : Nat} {d : Nat} {x2 : Int32} {x3 : Int32} {x4 : Int32} {s : am_S} (h : am_shE N s)  : am_S1 (am_shE N) (d + 7) mL_layers [.ref 0, .int x2, .int x3, .int x4, .ref 71] s (f_L_layers x2 x3 x4 s) := by
  intro P Q k hP
  show am_WP (d + 7) mL_layers 0 [(0, .ref 0), (1, .int x2), (2, .int x3), (3, .int x4), (4, .ref 71)] [] s Q
  unfold f_L_layers at k
  refine wp_ld (v := .ref 71) dL_layers_0 rfl rfl rfl rfl ?_
  refine wp_cst (v := .int (0 : Int32)) dL_layers_2 rfl rfl ?_
  refine wp_ld (v := .ref 0) dL_layers_3 rfl rfl rfl rfl ?_
  refine wp_ld (v := .int x2) dL_layers_4 rfl rfl rfl rfl ?_
  refine wp_ld (v := .int x3) dL_layers_5 rfl rfl rfl rfl ?_
  refine wp_ld (v := .int x4) dL_layers_6 rfl rfl rfl rfl ?_
  refine x_i dL_layers_7 rfl rfl rfl (am_inv_v rfl (kE_0 h) rfl rfl rfl) (sE h (fun _ h => s_X7_layers h)) k rfl (List.cons_ne_nil _ _) (fun v2 s1 h k => ?_) (fun e s1 h k => ?_)
  · refine wp_pu dL_layers_10 rfl rfl ?_
    refine wq_last dL_layers_11 (kE_71 h) (by decide) (j := 0) rfl ?_
    refine wp_goto dL_layers_12 rfl ?_
    refine wp_cst (v := .int (0 : Int32)) dL_layers_23 rfl rfl ?_
    exact wp_end dL_layers_24 rfl (am_end_i rfl) (hP _ _ (ok_s k) (shE_sL h))
  · by_cases c3 : e = 3
    · have k := ok_pos c3 k
      subst c3
      refine ⟨_, _, rfl, ?_⟩
      refine wp_cst (v := .int (1 : Int32)) dL_layers_17 rfl rfl ?_
      exact wp_end dL_layers_18 rfl (am_end_i rfl) (hP _ _ (ok_s k) h)
    replace k := ok_neg c3 k
    by_cases c4 : e = 1
    · have k := ok_pos c4 k
      subst c4
      refine ⟨_, _, rfl, ?_⟩
      refine wp_cst (v := .int (2 : Int32)) dL_layers_21 rfl rfl ?_
      exact wp_end dL_layers_22 rfl (am_end_i rfl) (hP _ _ (ok_s k) h)
    replace k := ok_neg c4 k
    exact (ok_no k).elim
noncomputable def f_X8_layers (x1 : Int32) (x2 : Int32) (x3 : Int32) (s : am_S) : am_F :=
  am_bi (f_X8_wayFault x1 s) (fun v2 s1 =>
    if v2 ≤ 0 then
      am_bi (f_X8_within x2.toInt64 (0 : Int64) (((am_I s1 55 21) - (1 : Int32)).toInt64) (am_sI s1 55 3 v2)) (fun v5 s4 =>
        if v5 = 0 then
          some (.inl (some (.int (-1 : Int32))), s4)
        else
          am_bi (f_X8_within x3.toInt64 (0 : Int64) (((am_I s4 55 22) - (1 : Int32)).toInt64) s4) (fun v8 s7 =>
            if v8 = 0 then
              some (.inl (some (.int (-1 : Int32))), s7)
            else
              if am_in (((12 : Int32) * x2) + x3) 288 = true then
                some (.inl (some (.int (am_I s7 64 ((((12 : Int32) * x2) + x3).toNatClampNeg)))), s7)
              else none
          )
      )
    else
      some (.inl (some (.int (0 : Int32))), (am_sI s1 55 3 v2))
  )
theorem s_X8_layers {N n : Nat} {d : Nat} {x1 : Int32} {x2 : Int32} {x3 : Int32} {s : am_S} (h : am_sh N n s)  : am_S1 (am_sh N n) (d + 4) mX8_layers [.ref 55, .int x1, .int x2, .int x3] s (f_X8_layers x1 x2 x3 s) := by
  intro P Q k hP
  show am_WP (d + 4) mX8_layers 0 [(0, .ref 55), (1, .int x1), (2, .int x2), (3, .int x3)] [] s Q
  unfold f_X8_layers at k
  refine wp_ld (v := .ref 55) dX8_layers_0 rfl rfl rfl rfl ?_
  refine wp_ld (v := .ref 55) dX8_layers_1 rfl rfl rfl rfl ?_
  refine wp_ld (v := .int x1) dX8_layers_2 rfl rfl rfl rfl ?_
  refine c_i dX8_layers_3 rfl rfl rfl (am_inv_v rfl (kk_55 h) rfl rfl rfl) (s_X8_wayFault h) k (fun v2 s1 h k => ?_)
  refine wp_pI dX8_layers_6 rfl rfl rfl (fun h => absurd h (by decide)) (kk_55 h) ?_
  refine wp_ld (v := .ref 55) dX8_layers_9 rfl rfl rfl rfl ?_
  refine wq_gI dX8_layers_10 rfl rfl (kk_55 (sh_sI h)) (v := v2) rfl ?_
  refine wp_if_le dX8_layers_13 rfl (fun c3 => have k := ok_pos c3 k; ?_) (fun c3 => have k := ok_neg c3 k; ?_)
  · refine wp_ld (v := .int x2) dX8_layers_18 rfl rfl rfl rfl ?_
    refine wp_pu dX8_layers_19 rfl rfl ?_
    refine wp_cst (v := .long (0 : Int64)) dX8_layers_20 rfl rfl ?_
    refine wp_ld (v := .ref 55) dX8_layers_21 rfl rfl rfl rfl ?_
    refine wq_gI dX8_layers_22 rfl rfl (kk_55 (sh_sI h)) (v := (am_I s1 55 21)) rfl ?_
    refine wp_cst (v := .int (1 : Int32)) dX8_layers_25 rfl rfl ?_
    refine wp_pu dX8_layers_26 rfl rfl ?_
    refine wp_pu dX8_layers_27 rfl rfl ?_
    refine c_i dX8_layers_28 rfl rfl rfl (am_inv_s rfl rfl rfl rfl) (s_X8_within (sh_sI h)) k (fun v5 s4 h k => ?_)
    refine wp_if_eq dX8_layers_31 rfl (fun c6 => have k := ok_pos c6 k; ?_) (fun c6 => have k := ok_neg c6 k; ?_)
    · refine wp_cst (v := .int (-1 : Int32)) dX8_layers_64 rfl rfl ?_
      exact wp_end dX8_layers_65 rfl (am_end_i rfl) (hP _ _ (ok_s k) h)
    · refine wp_ld (v := .int x3) dX8_layers_34 rfl rfl rfl rfl ?_
      refine wp_pu dX8_layers_35 rfl rfl ?_
      refine wp_cst (v := .long (0 : Int64)) dX8_layers_36 rfl rfl ?_
      refine wp_ld (v := .ref 55) dX8_layers_37 rfl rfl rfl rfl ?_
      refine wq_gI dX8_layers_38 rfl rfl (kk_55 h) (v := (am_I s4 55 22)) rfl ?_
      refine wp_cst (v := .int (1 : Int32)) dX8_layers_41 rfl rfl ?_
      refine wp_pu dX8_layers_42 rfl rfl ?_
      refine wp_pu dX8_layers_43 rfl rfl ?_
      refine c_i dX8_layers_44 rfl rfl rfl (am_inv_s rfl rfl rfl rfl) (s_X8_within h) k (fun v8 s7 h k => ?_)
      refine wp_if_eq dX8_layers_47 rfl (fun c9 => have k := ok_pos c9 k; ?_) (fun c9 => have k := ok_neg c9 k; ?_)
      · refine wp_cst (v := .int (-1 : Int32)) dX8_layers_64 rfl rfl ?_
        exact wp_end dX8_layers_65 rfl (am_end_i rfl) (hP _ _ (ok_s k) h)
      · refine wp_ld (v := .ref 55) dX8_layers_50 rfl rfl rfl rfl ?_
        refine wp_gr dX8_layers_51 rfl rfl (kk_55 h) (rr_55_19 h) ?_
        refine wp_cst (v := .int (12 : Int32)) dX8_layers_54 rfl rfl ?_
        refine wp_ld (v := .int x2) dX8_layers_56 rfl rfl rfl rfl ?_
        refine wp_pu dX8_layers_57 rfl rfl ?_
        refine wp_ld (v := .int x3) dX8_layers_58 rfl rfl rfl rfl ?_
        refine wp_pu dX8_layers_59 rfl rfl ?_
        obtain ⟨g10, k⟩ := ok_g k
        refine wq_iald dX8_layers_60 (kk_64 h) g10 (v := (am_I s7 64 ((((12 : Int32) * x2) + x3).toNatClampNeg))) rfl ?_
        refine wp_goto dX8_layers_61 rfl ?_
        exact wp_end dX8_layers_65 rfl (am_end_i rfl) (hP _ _ (ok_s k) h)
  · refine wp_cst (v := .int (0 : Int32)) dX8_layers_16 rfl rfl ?_
    exact wp_end dX8_layers_17 rfl (am_end_i rfl) (hP _ _ (ok_s k) (sh_sI h))
noncomputable def f_X8_isEars (x1 : Int32) (s : am_S) : am_F :=
  am_bi (f_X8_within x1.toInt64 (-9 : Int64) (9 : Int64) s) (fun v2 s1 =>
    if v2 = 0 ∨ v2 = 1 then
      some (.inl (some (.int v2)), s1)
    else none
  )
theorem s_X8_isEars {N n : Nat} {d : Nat} {x1 : Int32} {s : am_S} (h : am_sh N n s)  : am_S1 (am_sh N n) (d + 1) mX8_isEars [.int x1] s (f_X8_isEars x1 s) := by
  intro P Q k hP
  show am_WP (d + 1) mX8_isEars 0 [(0, .int x1)] [] s Q
  unfold f_X8_isEars at k
  refine wp_ld (v := .int x1) dX8_isEars_0 rfl rfl rfl rfl ?_
  refine wp_pu dX8_isEars_1 rfl rfl ?_
  refine wp_cst (v := .long (-9 : Int64)) dX8_isEars_2 rfl rfl ?_
  refine wp_cst (v := .long (9 : Int64)) dX8_isEars_5 rfl rfl ?_
  refine c_i dX8_isEars_8 rfl rfl rfl (am_inv_s rfl rfl rfl rfl) (s_X8_within h) k (fun v2 s1 h k => ?_)
  obtain ⟨g3, k⟩ := ok_g k
  exact wp_end dX8_isEars_11 rfl (am_end_b rfl g3) (hP _ _ (ok_s k) h)
noncomputable def f_X8_isSpeed (x1 : Int32) (s : am_S) : am_F :=
  am_bi (f_X8_within x1.toInt64 (10 : Int64) (999 : Int64) s) (fun v2 s1 =>
    if v2 = 0 ∨ v2 = 1 then
      some (.inl (some (.int v2)), s1)
    else none
  )
theorem s_X8_isSpeed {N n : Nat} {d : Nat} {x1 : Int32} {s : am_S} (h : am_sh N n s)  : am_S1 (am_sh N n) (d + 1) mX8_isSpeed [.int x1] s (f_X8_isSpeed x1 s) := by
  intro P Q k hP
  show am_WP (d + 1) mX8_isSpeed 0 [(0, .int x1)] [] s Q
  unfold f_X8_isSpeed at k
  refine wp_ld (v := .int x1) dX8_isSpeed_0 rfl rfl rfl rfl ?_
  refine wp_pu dX8_isSpeed_1 rfl rfl ?_
  refine wp_cst (v := .long (10 : Int64)) dX8_isSpeed_2 rfl rfl ?_
  refine wp_cst (v := .long (999 : Int64)) dX8_isSpeed_5 rfl rfl ?_
  refine c_i dX8_isSpeed_8 rfl rfl rfl (am_inv_s rfl rfl rfl rfl) (s_X8_within h) k (fun v2 s1 h k => ?_)
  obtain ⟨g3, k⟩ := ok_g k
  exact wp_end dX8_isSpeed_11 rfl (am_end_b rfl g3) (hP _ _ (ok_s k) h)
noncomputable def f_X8_isSlant (x1 : Int32) (s : am_S) : am_F :=
  am_bi (f_X8_within x1.toInt64 (-16 : Int64) (16 : Int64) s) (fun v2 s1 =>
    if v2 = 0 ∨ v2 = 1 then
      some (.inl (some (.int v2)), s1)
    else none
  )
theorem s_X8_isSlant {N n : Nat} {d : Nat} {x1 : Int32} {s : am_S} (h : am_sh N n s)  : am_S1 (am_sh N n) (d + 1) mX8_isSlant [.int x1] s (f_X8_isSlant x1 s) := by
  intro P Q k hP
  show am_WP (d + 1) mX8_isSlant 0 [(0, .int x1)] [] s Q
  unfold f_X8_isSlant at k
  refine wp_ld (v := .int x1) dX8_isSlant_0 rfl rfl rfl rfl ?_
  refine wp_pu dX8_isSlant_1 rfl rfl ?_
  refine wp_cst (v := .long (-16 : Int64)) dX8_isSlant_2 rfl rfl ?_
  refine wp_cst (v := .long (16 : Int64)) dX8_isSlant_5 rfl rfl ?_
  refine c_i dX8_isSlant_8 rfl rfl rfl (am_inv_s rfl rfl rfl rfl) (s_X8_within h) k (fun v2 s1 h k => ?_)
  obtain ⟨g3, k⟩ := ok_g k
  exact wp_end dX8_isSlant_11 rfl (am_end_b rfl g3) (hP _ _ (ok_s k) h)
