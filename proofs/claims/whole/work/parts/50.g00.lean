noncomputable def f_X5_wayAt (x1 : Int32) (s : am_S) : am_F :=
  if x1 < 0 then
    some (.inl (some (.null)), s)
  else
    if (am_I s 1 5) ≤ x1 then
      some (.inl (some (.null)), s)
    else
      if (6 : Int32) ≤ x1 then
        some (.inl (some (.null)), s)
      else
        if am_in x1 6 = true then
          some (.inl (some (.ref (11 + 2 * x1.toNatClampNeg))), s)
        else none
theorem s_X5_wayAt {N n : Nat} {d : Nat} {x1 : Int32} {s : am_S} (h : am_sh N n s)  : am_S1 (am_sh N n) (d) mX5_wayAt [.ref 1, .int x1] s (f_X5_wayAt x1 s) := by
  intro P Q k hP
  show am_WP (d) mX5_wayAt 0 [(0, .ref 1), (1, .int x1)] [] s Q
  unfold f_X5_wayAt at k
  refine wp_ld (v := .int x1) dX5_wayAt_0 rfl rfl rfl rfl ?_
  refine wp_if_lt dX5_wayAt_1 rfl (fun c1 => have k := ok_pos c1 k; ?_) (fun c1 => have k := ok_neg c1 k; ?_)
  · refine wp_cst (v := .null) dX5_wayAt_27 rfl rfl ?_
    exact wp_end dX5_wayAt_28 rfl rfl (hP _ _ (ok_s k) h)
  · refine wp_ld (v := .int x1) dX5_wayAt_4 rfl rfl rfl rfl ?_
    refine wp_ld (v := .ref 1) dX5_wayAt_5 rfl rfl rfl rfl ?_
    refine wq_gI dX5_wayAt_6 rfl rfl (kk_1 h) (v := (am_I s 1 5)) rfl ?_
    refine wp_ic_ge dX5_wayAt_9 rfl (fun c2 => have k := ok_pos c2 k; ?_) (fun c2 => have k := ok_neg c2 k; ?_)
    · refine wp_cst (v := .null) dX5_wayAt_27 rfl rfl ?_
      exact wp_end dX5_wayAt_28 rfl rfl (hP _ _ (ok_s k) h)
    · refine wp_ld (v := .int x1) dX5_wayAt_12 rfl rfl rfl rfl ?_
      refine wp_cst (v := .int (6 : Int32)) dX5_wayAt_13 rfl rfl ?_
      refine wp_ic_ge dX5_wayAt_15 rfl (fun c3 => have k := ok_pos c3 k; ?_) (fun c3 => have k := ok_neg c3 k; ?_)
      · refine wp_cst (v := .null) dX5_wayAt_27 rfl rfl ?_
        exact wp_end dX5_wayAt_28 rfl rfl (hP _ _ (ok_s k) h)
      · refine wp_ld (v := .ref 1) dX5_wayAt_18 rfl rfl rfl rfl ?_
        refine wp_gr dX5_wayAt_19 rfl rfl (kk_1 h) (rr_1_4 h) ?_
        refine wp_ld (v := .int x1) dX5_wayAt_22 rfl rfl rfl rfl ?_
        obtain ⟨g4, k⟩ := ok_g k
        have f5 := kf_ways h g4
        refine wq_aald dX5_wayAt_23 (kk_3 h) (by decide) g4 (rr_ways h g4) ?_
        refine wp_goto dX5_wayAt_24 rfl ?_
        exact wp_end dX5_wayAt_28 rfl rfl (hP _ _ (ok_s k) h)
noncomputable def f_X7_needWay (x1 : Int32) (s : am_S) : am_F :=
  am_bv (f_X5_wayAt x1 s) (fun v2 s1 =>
    am_mv v2 (
      some (.inr 3, am_tick s1)
    ) (fun t3 => if am_k0 t3 = (4, 0) ∧ t3 < 72 then
      some (.inl (some (.ref t3)), s1)
    else none)
  )
theorem s_X7_needWay {N n : Nat} {d : Nat} {x1 : Int32} {s : am_S} (h : am_sh N n s)  : am_S1 (am_sh N n) (d + 1) mX7_needWay [.ref 0, .int x1] s (f_X7_needWay x1 s) := by
  intro P Q k hP
  show am_WP (d + 1) mX7_needWay 0 [(0, .ref 0), (1, .int x1)] [] s Q
  unfold f_X7_needWay at k
  refine wp_ld (v := .ref 0) dX7_needWay_0 rfl rfl rfl rfl ?_
  refine wp_gr dX7_needWay_1 rfl rfl (kk_0 h) (rr_0_0 h) ?_
  refine wp_ld (v := .int x1) dX7_needWay_4 rfl rfl rfl rfl ?_
  refine c_v dX7_needWay_5 rfl rfl rfl (am_inv_v rfl (kk_1 h) rfl rfl rfl) (s_X5_wayAt h) k (fun v2 s1 h k => ?_)
  rcases ok_mv k with ⟨c4, k⟩ | ⟨t3, c4, k⟩
  · subst c4
    refine wp_st (ls' := [(0, .ref 0), (1, .int x1), (2, .null)]) dX7_needWay_8 rfl rfl rfl (Nat.le_of_ble_eq_true rfl) rfl ?_
    refine wp_ld (v := .null) dX7_needWay_9 rfl rfl rfl rfl ?_
    refine wp_jp dX7_needWay_10 rfl rfl ?_
    exact wp_thr dX7_needWay_13 rfl rfl (am_thr_2 rfl rfl dX7_needWay_16 dX7_needWay_17 dX7_needWay_20 dX7_needWay_23 rfl) (hP _ _ (ok_s k) (sh_tk h))
  · subst c4
    obtain ⟨g5, k⟩ := ok_g k
    have f6 := kk_up h g5
    refine wp_st (ls' := [(0, .ref 0), (1, .int x1), (2, .ref t3)]) dX7_needWay_8 rfl rfl rfl (Nat.le_of_ble_eq_true rfl) rfl ?_
    refine wp_ld (v := .ref t3) dX7_needWay_9 rfl rfl rfl rfl ?_
    refine wp_jp dX7_needWay_10 rfl rfl ?_
    refine wp_ld (v := .ref t3) dX7_needWay_24 rfl rfl rfl rfl ?_
    exact wp_end dX7_needWay_25 rfl rfl (hP _ _ (ok_s k) h)
noncomputable def L_X2_spread_17 : Nat → Int32 → am_S → am_FE (Unit)
  | 0, _, _ => none
  | m + 1, x3, s =>
    if (288 : Int32) ≤ x3 then
      some (.inr ((), s))
    else
      if am_in x3 288 = true then
        L_X2_spread_17 m (x3 + (1 : Int32)) (am_sI s 38 (x3.toNatClampNeg) (1 : Int32))
      else none
theorem q_X2_spread_17 : ∀ (m : Nat) {N n : Nat} {d : Nat} {x3 : Int32} {s : am_S} {P : (am_O × am_S) ⊕ (Unit × am_S) → Prop} {Q : am_O → am_S → Prop} (h : am_sh N n s)  (k : am_ok (L_X2_spread_17 m x3 s) P) (hP : ∀ o s, P (.inl (o, s)) → am_sh N n s → Q o s) (hX : ∀ (e : Unit) s, P (.inr (e, s)) → am_sh N n s → am_WP (d) mX2_spread 39 [] [] s Q), am_WP (d) mX2_spread 17 [(0, .ref 37), (3, .int x3)] [] s Q := by
  intro m
  induction m with
  | zero =>
    intro N n d x3 s P Q h  k hP hX
    exact (ok_no k).elim
  | succ m ih =>
    intro N n d x3 s P Q h  k hP hX
    unfold L_X2_spread_17 at k
    refine wp_ld (v := .int x3) dX2_spread_17 rfl rfl rfl rfl ?_
    refine wp_ld (v := .ref 37) dX2_spread_18 rfl rfl rfl rfl ?_
    refine wp_gr dX2_spread_19 rfl rfl (kk_37 h) (rr_37_0 h) ?_
    refine wp_alen dX2_spread_22 (kk_38 h) (by decide) (v := (288 : Int32)) rfl ?_
    refine wp_ic_ge dX2_spread_23 rfl (fun c1 => have k := ok_pos c1 k; ?_) (fun c1 => have k := ok_neg c1 k; ?_)
    · exact wp_sub (hX _ _ (ok_s k) h) rfl trivial
    · refine wp_ld (v := .ref 37) dX2_spread_26 rfl rfl rfl rfl ?_
      refine wp_gr dX2_spread_27 rfl rfl (kk_37 h) (rr_37_0 h) ?_
      refine wp_ld (v := .int x3) dX2_spread_30 rfl rfl rfl rfl ?_
      refine wp_cst (v := .int (1 : Int32)) dX2_spread_31 rfl rfl ?_
      obtain ⟨g2, k⟩ := ok_g k
      refine wq_iast dX2_spread_32 (kk_38 h) g2 (j := (x3.toNatClampNeg)) rfl ?_
      refine wp_inc (v := (x3 + (1 : Int32))) (ls' := [(0, .ref 37), (3, .int (x3 + (1 : Int32)))]) dX2_spread_33 rfl (Nat.le_of_ble_eq_true rfl) rfl rfl ?_
      refine wp_goto dX2_spread_36 rfl ?_
      exact wp_sub (ih (sh_sI h) k hP hX) rfl ⟨rfl, rfl, trivial⟩
noncomputable def f_X2_spread (x1 : Int32) (x2 : Int32) (s : am_S) : am_F :=
  am_lm (L_X2_spread_17 ax_fuel (0 : Int32) (am_sI (am_sI (am_sI s 37 1 (0 : Int32)) 37 2 x1) 37 3 x2)) (fun e3 s4 =>
    some (.inl none, s4)
  )
theorem s_X2_spread {N n : Nat} {d : Nat} {x1 : Int32} {x2 : Int32} {s : am_S} (h : am_sh N n s)  : am_S1 (am_sh N n) (d) mX2_spread [.ref 37, .int x1, .int x2] s (f_X2_spread x1 x2 s) := by
  intro P Q k hP
  show am_WP (d) mX2_spread 0 [(0, .ref 37), (1, .int x1), (2, .int x2)] [] s Q
  unfold f_X2_spread at k
  refine wp_ld (v := .ref 37) dX2_spread_0 rfl rfl rfl rfl ?_
  refine wp_cst (v := .int (0 : Int32)) dX2_spread_1 rfl rfl ?_
  refine wp_pI dX2_spread_2 rfl rfl rfl (fun h => absurd h (by decide)) (kk_37 h) ?_
  refine wp_ld (v := .ref 37) dX2_spread_5 rfl rfl rfl rfl ?_
  refine wp_ld (v := .int x1) dX2_spread_6 rfl rfl rfl rfl ?_
  refine wp_pI dX2_spread_7 rfl rfl rfl (fun h => absurd h (by decide)) (kk_37 (sh_sI h)) ?_
  refine wp_ld (v := .ref 37) dX2_spread_10 rfl rfl rfl rfl ?_
  refine wp_ld (v := .int x2) dX2_spread_11 rfl rfl rfl rfl ?_
  refine wp_pI dX2_spread_12 rfl rfl rfl (fun h => absurd h (by decide)) (kk_37 (sh_sI (sh_sI h))) ?_
  refine wp_cst (v := .int (0 : Int32)) dX2_spread_15 rfl rfl ?_
  refine wp_st (ls' := [(0, .ref 37), (1, .int x1), (2, .int x2), (3, .int (0 : Int32))]) dX2_spread_16 rfl rfl rfl (Nat.le_of_ble_eq_true rfl) rfl ?_
  refine lp_m k (fun P1 k hA hB => ?_)
  refine wp_sub (q_X2_spread_17 ax_fuel (sh_sI (sh_sI (sh_sI h))) k (fun o s p h => hP o s (hA o s p) h) (fun e3 s4 p h => have k := hB e3 s4 p; ?_)) rfl ⟨rfl, rfl, trivial⟩
  exact wp_end dX2_spread_39 rfl rfl (hP _ _ (ok_s k) h)
noncomputable def f_X4_get (a : Nat) (x1 : Int32) (x2 : Int32) (s : am_S) : am_F :=
  if ((x1 * (3 : Int32)) + x2) < 0 then
    some (.inl (some (.int (0 : Int32))), s)
  else
    if (33 : Int32) ≤ ((x1 * (3 : Int32)) + x2) then
      some (.inl (some (.int (0 : Int32))), s)
    else
      if am_in ((x1 * (3 : Int32)) + x2) 33 = true then
        some (.inl (some (.int (am_I s (a + 1) (((x1 * (3 : Int32)) + x2).toNatClampNeg)))), s)
      else none
theorem s_X4_get {N n : Nat} {d : Nat} {a : Nat} {x1 : Int32} {x2 : Int32} {s : am_S} (h : am_sh N n s) (fa : am_kf n a 4) : am_S1 (am_sh N n) (d) mX4_get [.ref a, .int x1, .int x2] s (f_X4_get a x1 x2 s) := by
  intro P Q k hP
  show am_WP (d) mX4_get 0 [(0, .ref a), (1, .int x1), (2, .int x2)] [] s Q
  unfold f_X4_get at k
  refine wp_ld (v := .int x1) dX4_get_0 rfl rfl rfl rfl ?_
  refine wp_cst (v := .int (3 : Int32)) dX4_get_1 rfl rfl ?_
  refine wp_pu dX4_get_2 rfl rfl ?_
  refine wp_ld (v := .int x2) dX4_get_3 rfl rfl rfl rfl ?_
  refine wp_pu dX4_get_4 rfl rfl ?_
  refine wp_st (ls' := [(0, .ref a), (1, .int x1), (2, .int x2), (3, .int ((x1 * (3 : Int32)) + x2))]) dX4_get_5 rfl rfl rfl (Nat.le_of_ble_eq_true rfl) rfl ?_
  refine wp_ld (v := .int ((x1 * (3 : Int32)) + x2)) dX4_get_6 rfl rfl rfl rfl ?_
  refine wp_if_lt dX4_get_7 rfl (fun c1 => have k := ok_pos c1 k; ?_) (fun c1 => have k := ok_neg c1 k; ?_)
  · refine wp_cst (v := .int (0 : Int32)) dX4_get_28 rfl rfl ?_
    exact wp_end dX4_get_29 rfl (am_end_i rfl) (hP _ _ (ok_s k) h)
  · refine wp_ld (v := .int ((x1 * (3 : Int32)) + x2)) dX4_get_10 rfl rfl rfl rfl ?_
    refine wp_ld (v := .ref a) dX4_get_11 rfl rfl rfl rfl ?_
    refine wp_gr dX4_get_12 rfl rfl (kk_f h fa) (rr_rw h fa) ?_
    refine wp_alen dX4_get_15 (kk_rw h fa) (by decide) (v := (33 : Int32)) rfl ?_
    refine wp_ic_ge dX4_get_16 rfl (fun c2 => have k := ok_pos c2 k; ?_) (fun c2 => have k := ok_neg c2 k; ?_)
    · refine wp_cst (v := .int (0 : Int32)) dX4_get_28 rfl rfl ?_
      exact wp_end dX4_get_29 rfl (am_end_i rfl) (hP _ _ (ok_s k) h)
    · refine wp_ld (v := .ref a) dX4_get_19 rfl rfl rfl rfl ?_
      refine wp_gr dX4_get_20 rfl rfl (kk_f h fa) (rr_rw h fa) ?_
      refine wp_ld (v := .int ((x1 * (3 : Int32)) + x2)) dX4_get_23 rfl rfl rfl rfl ?_
      obtain ⟨g3, k⟩ := ok_g k
      refine wq_iald dX4_get_24 (kk_rw h fa) g3 (v := (am_I s (a + 1) (((x1 * (3 : Int32)) + x2).toNatClampNeg))) rfl ?_
      refine wp_goto dX4_get_25 rfl ?_
      exact wp_end dX4_get_29 rfl (am_end_i rfl) (hP _ _ (ok_s k) h)
noncomputable def f_X2_placeOf (x1 : Int32) (x2 : Int32) (s : am_S) : am_F :=
  some (.inl (some (.int ((((am_I s 37 1) + x1) * (12 : Int32)) + x2))), s)
theorem s_X2_placeOf {N n : Nat} {d : Nat} {x1 : Int32} {x2 : Int32} {s : am_S} (h : am_sh N n s)  : am_S1 (am_sh N n) (d) mX2_placeOf [.ref 37, .int x1, .int x2] s (f_X2_placeOf x1 x2 s) := by
  intro P Q k hP
  show am_WP (d) mX2_placeOf 0 [(0, .ref 37), (1, .int x1), (2, .int x2)] [] s Q
  unfold f_X2_placeOf at k
  refine wp_ld (v := .ref 37) dX2_placeOf_0 rfl rfl rfl rfl ?_
  refine wq_gI dX2_placeOf_1 rfl rfl (kk_37 h) (v := (am_I s 37 1)) rfl ?_
  refine wp_ld (v := .int x1) dX2_placeOf_4 rfl rfl rfl rfl ?_
  refine wp_pu dX2_placeOf_5 rfl rfl ?_
  refine wp_cst (v := .int (12 : Int32)) dX2_placeOf_6 rfl rfl ?_
  refine wp_pu dX2_placeOf_8 rfl rfl ?_
  refine wp_ld (v := .int x2) dX2_placeOf_9 rfl rfl rfl rfl ?_
  refine wp_pu dX2_placeOf_10 rfl rfl ?_
  exact wp_end dX2_placeOf_11 rfl (am_end_i rfl) (hP _ _ (ok_s k) h)
noncomputable def f_X2_lay (x1 : Int32) (x2 : Int32) (s : am_S) : am_F :=
  if x1 < 0 then
    some (.inl (some (.int (0 : Int32))), s)
  else
    if (288 : Int32) ≤ x1 then
      some (.inl (some (.int (0 : Int32))), s)
    else
      if x2 < 0 then
        some (.inl (some (.int (0 : Int32))), s)
      else
        if x2 < (288 : Int32) then
          if am_in x2 288 = true then
            if am_in x1 288 = true then
              if am_in x2 288 = true then
                if am_in x1 288 = true then
                  if am_in x2 288 = true then
                    if (32 : Int32) < (am_I (am_sI (am_sI s 38 (x2.toNatClampNeg) ((am_I s 38 x2.toNatClampNeg) + (am_I s 38 x1.toNatClampNeg))) 38 (x1.toNatClampNeg) (0 : Int32)) 38 x2.toNatClampNeg) then
                      some (.inl (some (.int (0 : Int32))), (am_sI (am_sI s 38 (x2.toNatClampNeg) ((am_I s 38 x2.toNatClampNeg) + (am_I s 38 x1.toNatClampNeg))) 38 (x1.toNatClampNeg) (0 : Int32)))
                    else
                      some (.inl (some (.int (1 : Int32))), (am_sI (am_sI s 38 (x2.toNatClampNeg) ((am_I s 38 x2.toNatClampNeg) + (am_I s 38 x1.toNatClampNeg))) 38 (x1.toNatClampNeg) (0 : Int32)))
                  else none
                else none
              else none
            else none
          else none
        else
          some (.inl (some (.int (0 : Int32))), s)
theorem s_X2_lay {N n : Nat} {d : Nat} {x1 : Int32} {x2 : Int32} {s : am_S} (h : am_sh N n s)  : am_S1 (am_sh N n) (d) mX2_lay [.ref 37, .int x1, .int x2] s (f_X2_lay x1 x2 s) := by
  intro P Q k hP
  show am_WP (d) mX2_lay 0 [(0, .ref 37), (1, .int x1), (2, .int x2)] [] s Q
  unfold f_X2_lay at k
  refine wp_ld (v := .int x1) dX2_lay_0 rfl rfl rfl rfl ?_
  refine wp_if_lt dX2_lay_1 rfl (fun c1 => have k := ok_pos c1 k; ?_) (fun c1 => have k := ok_neg c1 k; ?_)
  · refine wp_cst (v := .int (0 : Int32)) dX2_lay_26 rfl rfl ?_
    exact wp_end dX2_lay_27 rfl rfl (hP _ _ (ok_s k) h)
  · refine wp_ld (v := .int x1) dX2_lay_4 rfl rfl rfl rfl ?_
    refine wp_ld (v := .ref 37) dX2_lay_5 rfl rfl rfl rfl ?_
    refine wp_gr dX2_lay_6 rfl rfl (kk_37 h) (rr_37_0 h) ?_
    refine wp_alen dX2_lay_9 (kk_38 h) (by decide) (v := (288 : Int32)) rfl ?_
    refine wp_ic_ge dX2_lay_10 rfl (fun c2 => have k := ok_pos c2 k; ?_) (fun c2 => have k := ok_neg c2 k; ?_)
    · refine wp_cst (v := .int (0 : Int32)) dX2_lay_26 rfl rfl ?_
      exact wp_end dX2_lay_27 rfl rfl (hP _ _ (ok_s k) h)
    · refine wp_ld (v := .int x2) dX2_lay_13 rfl rfl rfl rfl ?_
      refine wp_if_lt dX2_lay_14 rfl (fun c3 => have k := ok_pos c3 k; ?_) (fun c3 => have k := ok_neg c3 k; ?_)
      · refine wp_cst (v := .int (0 : Int32)) dX2_lay_26 rfl rfl ?_
        exact wp_end dX2_lay_27 rfl rfl (hP _ _ (ok_s k) h)
      · refine wp_ld (v := .int x2) dX2_lay_17 rfl rfl rfl rfl ?_
        refine wp_ld (v := .ref 37) dX2_lay_18 rfl rfl rfl rfl ?_
        refine wp_gr dX2_lay_19 rfl rfl (kk_37 h) (rr_37_0 h) ?_
        refine wp_alen dX2_lay_22 (kk_38 h) (by decide) (v := (288 : Int32)) rfl ?_
        refine wp_ic_lt dX2_lay_23 rfl (fun c4 => have k := ok_pos c4 k; ?_) (fun c4 => have k := ok_neg c4 k; ?_)
        · refine wp_ld (v := .ref 37) dX2_lay_28 rfl rfl rfl rfl ?_
          refine wp_gr dX2_lay_29 rfl rfl (kk_37 h) (rr_37_0 h) ?_
          refine wp_ld (v := .int x2) dX2_lay_32 rfl rfl rfl rfl ?_
          refine wp_pu dX2_lay_33 rfl rfl ?_
          obtain ⟨g5, k⟩ := ok_g k
          refine wq_iald dX2_lay_34 (kk_38 h) g5 (v := (am_I s 38 x2.toNatClampNeg)) rfl ?_
          refine wp_ld (v := .ref 37) dX2_lay_35 rfl rfl rfl rfl ?_
          refine wp_gr dX2_lay_36 rfl rfl (kk_37 h) (rr_37_0 h) ?_
          refine wp_ld (v := .int x1) dX2_lay_39 rfl rfl rfl rfl ?_
          obtain ⟨g6, k⟩ := ok_g k
          refine wq_iald dX2_lay_40 (kk_38 h) g6 (v := (am_I s 38 x1.toNatClampNeg)) rfl ?_
          refine wp_pu dX2_lay_41 rfl rfl ?_
          obtain ⟨g7, k⟩ := ok_g k
          refine wq_iast dX2_lay_42 (kk_38 h) g7 (j := (x2.toNatClampNeg)) rfl ?_
          show am_WP (d) mX2_lay 43 _ _ _ Q
          refine wp_ld (v := .ref 37) dX2_lay_43 rfl rfl rfl rfl ?_
          refine wp_gr dX2_lay_44 rfl rfl (kk_37 (sh_sI h)) (rr_37_0 (sh_sI h)) ?_
          refine wp_ld (v := .int x1) dX2_lay_47 rfl rfl rfl rfl ?_
          refine wp_cst (v := .int (0 : Int32)) dX2_lay_48 rfl rfl ?_
          obtain ⟨g8, k⟩ := ok_g k
          refine wq_iast dX2_lay_49 (kk_38 (sh_sI h)) g8 (j := (x1.toNatClampNeg)) rfl ?_
          refine wp_ld (v := .ref 37) dX2_lay_50 rfl rfl rfl rfl ?_
          refine wp_gr dX2_lay_51 rfl rfl (kk_37 (sh_sI (sh_sI h))) (rr_37_0 (sh_sI (sh_sI h))) ?_
          refine wp_ld (v := .int x2) dX2_lay_54 rfl rfl rfl rfl ?_
          obtain ⟨g9, k⟩ := ok_g k
          refine wq_iald dX2_lay_55 (kk_38 (sh_sI (sh_sI h))) g9 (v := (am_I (am_sI (am_sI s 38 (x2.toNatClampNeg) ((am_I s 38 x2.toNatClampNeg) + (am_I s 38 x1.toNatClampNeg))) 38 (x1.toNatClampNeg) (0 : Int32)) 38 x2.toNatClampNeg)) rfl ?_
          refine wp_cst (v := .int (32 : Int32)) dX2_lay_56 rfl rfl ?_
          refine wp_ic_gt dX2_lay_58 rfl (fun c10 => have k := ok_pos c10 k; ?_) (fun c10 => have k := ok_neg c10 k; ?_)
          · refine wp_cst (v := .int (0 : Int32)) dX2_lay_65 rfl rfl ?_
            exact wp_end dX2_lay_66 rfl rfl (hP _ _ (ok_s k) (sh_sI (sh_sI h)))
          · refine wp_cst (v := .int (1 : Int32)) dX2_lay_61 rfl rfl ?_
            refine wp_goto dX2_lay_62 rfl ?_
            exact wp_end dX2_lay_66 rfl rfl (hP _ _ (ok_s k) (sh_sI (sh_sI h)))
        · refine wp_cst (v := .int (0 : Int32)) dX2_lay_26 rfl rfl ?_
          exact wp_end dX2_lay_27 rfl rfl (hP _ _ (ok_s k) h)
noncomputable def L_X2_foldNose_26 : Nat → Int32 → Int32 → Int32 → am_S → am_FE (Unit)
  | 0, _, _, _, _ => none
  | m + 1, x1, x2, x3, s =>
    if (am_I s 37 3) ≤ x3 then
      some (.inr ((), s))
    else
      am_bi (f_X2_placeOf x2 x3 s) (fun v6 s5 =>
        am_bi (f_X2_placeOf ((((2 : Int32) * x1) - (1 : Int32)) - x2) x3 s5) (fun v8 s7 =>
          am_bi (f_X2_lay v6 v8 s7) (fun v10 s9 =>
            if v10 = 0 then
              some (.inl (.inl (some (.int (0 : Int32))), s9))
            else
              L_X2_foldNose_26 m x1 x2 (x3 + (1 : Int32)) s9
          )
        )
      )
theorem q_X2_foldNose_26 : ∀ (m : Nat) {N n : Nat} {d : Nat} {x1 : Int32} {x2 : Int32} {x3 : Int32} {s : am_S} {P : (am_O × am_S) ⊕ (Unit × am_S) → Prop} {Q : am_O → am_S → Prop} (h : am_sh N n s)  (k : am_ok (L_X2_foldNose_26 m x1 x2 x3 s) P) (hP : ∀ o s, P (.inl (o, s)) → am_sh N n s → Q o s) (hX : ∀ (e : Unit) s, P (.inr (e, s)) → am_sh N n s → am_WP (d + 1) mX2_foldNose 67 [(0, .ref 37), (1, .int x1), (2, .int x2)] [] s Q), am_WP (d + 1) mX2_foldNose 26 [(0, .ref 37), (1, .int x1), (2, .int x2), (3, .int x3)] [] s Q := by
  intro m
  induction m with
  | zero =>
    intro N n d x1 x2 x3 s P Q h  k hP hX
    exact (ok_no k).elim
  | succ m ih =>
    intro N n d x1 x2 x3 s P Q h  k hP hX
    unfold L_X2_foldNose_26 at k
    refine wp_ld (v := .int x3) dX2_foldNose_26 rfl rfl rfl rfl ?_
    refine wp_ld (v := .ref 37) dX2_foldNose_27 rfl rfl rfl rfl ?_
    refine wq_gI dX2_foldNose_28 rfl rfl (kk_37 h) (v := (am_I s 37 3)) rfl ?_
    refine wp_ic_ge dX2_foldNose_31 rfl (fun c4 => have k := ok_pos c4 k; ?_) (fun c4 => have k := ok_neg c4 k; ?_)
    · exact wp_sub (hX _ _ (ok_s k) h) rfl ⟨rfl, rfl, rfl, trivial⟩
    · refine wp_ld (v := .ref 37) dX2_foldNose_34 rfl rfl rfl rfl ?_
      refine wp_ld (v := .ref 37) dX2_foldNose_35 rfl rfl rfl rfl ?_
      refine wp_ld (v := .int x2) dX2_foldNose_36 rfl rfl rfl rfl ?_
      refine wp_ld (v := .int x3) dX2_foldNose_37 rfl rfl rfl rfl ?_
      refine c_i dX2_foldNose_38 rfl rfl rfl (am_inv_v rfl (kk_37 h) rfl rfl rfl) (s_X2_placeOf h) k (fun v6 s5 h k => ?_)
      refine wp_ld (v := .ref 37) dX2_foldNose_41 rfl rfl rfl rfl ?_
      refine wp_cst (v := .int (2 : Int32)) dX2_foldNose_42 rfl rfl ?_
      refine wp_ld (v := .int x1) dX2_foldNose_43 rfl rfl rfl rfl ?_
      refine wp_pu dX2_foldNose_44 rfl rfl ?_
      refine wp_cst (v := .int (1 : Int32)) dX2_foldNose_45 rfl rfl ?_
      refine wp_pu dX2_foldNose_46 rfl rfl ?_
      refine wp_ld (v := .int x2) dX2_foldNose_47 rfl rfl rfl rfl ?_
      refine wp_pu dX2_foldNose_48 rfl rfl ?_
      refine wp_ld (v := .int x3) dX2_foldNose_49 rfl rfl rfl rfl ?_
      refine c_i dX2_foldNose_50 rfl rfl rfl (am_inv_v rfl (kk_37 h) rfl rfl rfl) (s_X2_placeOf h) k (fun v8 s7 h k => ?_)
      refine c_i dX2_foldNose_53 rfl rfl rfl (am_inv_v rfl (kk_37 h) rfl rfl rfl) (s_X2_lay h) k (fun v10 s9 h k => ?_)
      refine wp_if_ne dX2_foldNose_56 rfl (fun c11 => have k := ok_neg c11 k; ?_) (fun c11 => have k := ok_pos c11 k; ?_)
      · refine wp_inc (v := (x3 + (1 : Int32))) (ls' := [(0, .ref 37), (1, .int x1), (2, .int x2), (3, .int (x3 + (1 : Int32)))]) dX2_foldNose_61 rfl (Nat.le_of_ble_eq_true rfl) rfl rfl ?_
        refine wp_goto dX2_foldNose_64 rfl ?_
        exact wp_sub (ih h k hP hX) rfl ⟨rfl, rfl, rfl, rfl, trivial⟩
      · refine wp_cst (v := .int (0 : Int32)) dX2_foldNose_59 rfl rfl ?_
        exact wp_end dX2_foldNose_60 rfl rfl (hP _ _ (ok_s k) h)
noncomputable def L_X2_foldNose_19 : Nat → Int32 → Int32 → am_S → am_FE (Unit)
  | 0, _, _, _ => none
  | m + 1, x1, x2, s =>
    if x1 ≤ x2 then
      some (.inr ((), s))
    else
      am_ll (L_X2_foldNose_26 ax_fuel x1 x2 (0 : Int32) s) (fun e12 s13 =>
        L_X2_foldNose_19 m x1 (x2 + (1 : Int32)) s13
      )
theorem q_X2_foldNose_19 : ∀ (m : Nat) {N n : Nat} {d : Nat} {x1 : Int32} {x2 : Int32} {s : am_S} {P : (am_O × am_S) ⊕ (Unit × am_S) → Prop} {Q : am_O → am_S → Prop} (h : am_sh N n s)  (k : am_ok (L_X2_foldNose_19 m x1 x2 s) P) (hP : ∀ o s, P (.inl (o, s)) → am_sh N n s → Q o s) (hX : ∀ (e : Unit) s, P (.inr (e, s)) → am_sh N n s → am_WP (d + 1) mX2_foldNose 73 [(0, .ref 37), (1, .int x1)] [] s Q), am_WP (d + 1) mX2_foldNose 19 [(0, .ref 37), (1, .int x1), (2, .int x2)] [] s Q := by
  intro m
  induction m with
  | zero =>
    intro N n d x1 x2 s P Q h  k hP hX
    exact (ok_no k).elim
  | succ m ih =>
    intro N n d x1 x2 s P Q h  k hP hX
    unfold L_X2_foldNose_19 at k
    refine wp_ld (v := .int x2) dX2_foldNose_19 rfl rfl rfl rfl ?_
    refine wp_ld (v := .int x1) dX2_foldNose_20 rfl rfl rfl rfl ?_
    refine wp_ic_ge dX2_foldNose_21 rfl (fun c3 => have k := ok_pos c3 k; ?_) (fun c3 => have k := ok_neg c3 k; ?_)
    · exact wp_sub (hX _ _ (ok_s k) h) rfl ⟨rfl, rfl, trivial⟩
    · refine wp_cst (v := .int (0 : Int32)) dX2_foldNose_24 rfl rfl ?_
      refine wp_st (ls' := [(0, .ref 37), (1, .int x1), (2, .int x2), (3, .int (0 : Int32))]) dX2_foldNose_25 rfl rfl rfl (Nat.le_of_ble_eq_true rfl) rfl ?_
      refine lp_l k (fun P1 k hA hB => ?_)
      refine wp_sub (q_X2_foldNose_26 ax_fuel h k (fun o s p h => hP o s (hA o s p) h) (fun e12 s13 p h => have k := hB e12 s13 p; ?_)) rfl ⟨rfl, rfl, rfl, rfl, trivial⟩
      refine wp_inc (v := (x2 + (1 : Int32))) (ls' := [(0, .ref 37), (1, .int x1), (2, .int (x2 + (1 : Int32)))]) dX2_foldNose_67 rfl (Nat.le_of_ble_eq_true rfl) rfl rfl ?_
      refine wp_goto dX2_foldNose_70 rfl ?_
      exact wp_sub (ih h k hP hX) rfl ⟨rfl, rfl, rfl, trivial⟩
noncomputable def f_X2_foldNose (x1 : Int32) (s : am_S) : am_F :=
  if x1 < (1 : Int32) then
    some (.inl (some (.int (0 : Int32))), s)
  else
    if x1 ≤ ((am_I s 37 2) / (2 : Int32)) then
      am_lm (L_X2_foldNose_19 ax_fuel x1 (0 : Int32) s) (fun e14 s15 =>
        some (.inl (some (.int (1 : Int32))), (am_sI (am_sI s15 37 1 ((am_I s15 37 1) + x1)) 37 2 ((am_I s15 37 2) - x1)))
      )
    else
      some (.inl (some (.int (0 : Int32))), s)
theorem s_X2_foldNose {N n : Nat} {d : Nat} {x1 : Int32} {s : am_S} (h : am_sh N n s)  : am_S1 (am_sh N n) (d + 1) mX2_foldNose [.ref 37, .int x1] s (f_X2_foldNose x1 s) := by
  intro P Q k hP
  show am_WP (d + 1) mX2_foldNose 0 [(0, .ref 37), (1, .int x1)] [] s Q
  unfold f_X2_foldNose at k
  refine wp_ld (v := .int x1) dX2_foldNose_0 rfl rfl rfl rfl ?_
  refine wp_cst (v := .int (1 : Int32)) dX2_foldNose_1 rfl rfl ?_
  refine wp_ic_lt dX2_foldNose_2 rfl (fun c1 => have k := ok_pos c1 k; ?_) (fun c1 => have k := ok_neg c1 k; ?_)
  · refine wp_cst (v := .int (0 : Int32)) dX2_foldNose_15 rfl rfl ?_
    exact wp_end dX2_foldNose_16 rfl rfl (hP _ _ (ok_s k) h)
  · refine wp_ld (v := .int x1) dX2_foldNose_5 rfl rfl rfl rfl ?_
    refine wp_ld (v := .ref 37) dX2_foldNose_6 rfl rfl rfl rfl ?_
    refine wq_gI dX2_foldNose_7 rfl rfl (kk_37 h) (v := (am_I s 37 2)) rfl ?_
    refine wp_cst (v := .int (2 : Int32)) dX2_foldNose_10 rfl rfl ?_
    refine wp_div dX2_foldNose_11 (by decide) ?_
    refine wp_ic_le dX2_foldNose_12 rfl (fun c2 => have k := ok_pos c2 k; ?_) (fun c2 => have k := ok_neg c2 k; ?_)
    · refine wp_cst (v := .int (0 : Int32)) dX2_foldNose_17 rfl rfl ?_
      refine wp_st (ls' := [(0, .ref 37), (1, .int x1), (2, .int (0 : Int32))]) dX2_foldNose_18 rfl rfl rfl (Nat.le_of_ble_eq_true rfl) rfl ?_
      refine lp_m k (fun P1 k hA hB => ?_)
      refine wp_sub (q_X2_foldNose_19 ax_fuel h k (fun o s p h => hP o s (hA o s p) h) (fun e14 s15 p h => have k := hB e14 s15 p; ?_)) rfl ⟨rfl, rfl, rfl, trivial⟩
      refine wp_ld (v := .ref 37) dX2_foldNose_73 rfl rfl rfl rfl ?_
      refine wp_pu dX2_foldNose_74 rfl rfl ?_
      refine wq_gI dX2_foldNose_75 rfl rfl (kk_37 h) (v := (am_I s15 37 1)) rfl ?_
      refine wp_ld (v := .int x1) dX2_foldNose_78 rfl rfl rfl rfl ?_
      refine wp_pu dX2_foldNose_79 rfl rfl ?_
      refine wp_pI dX2_foldNose_80 rfl rfl rfl (fun h => absurd h (by decide)) (kk_37 h) ?_
      refine wp_ld (v := .ref 37) dX2_foldNose_83 rfl rfl rfl rfl ?_
      refine wp_pu dX2_foldNose_84 rfl rfl ?_
      refine wq_gI dX2_foldNose_85 rfl rfl (kk_37 (sh_sI h)) (v := (am_I s15 37 2)) rfl ?_
      refine wp_ld (v := .int x1) dX2_foldNose_88 rfl rfl rfl rfl ?_
      refine wp_pu dX2_foldNose_89 rfl rfl ?_
      show am_WP (d + 1) mX2_foldNose 90 _ _ _ Q
      refine wp_pI dX2_foldNose_90 rfl rfl rfl (fun h => absurd h (by decide)) (kk_37 (sh_sI h)) ?_
      refine wp_cst (v := .int (1 : Int32)) dX2_foldNose_93 rfl rfl ?_
      exact wp_end dX2_foldNose_94 rfl rfl (hP _ _ (ok_s k) (sh_sI (sh_sI h)))
    · refine wp_cst (v := .int (0 : Int32)) dX2_foldNose_15 rfl rfl ?_
      exact wp_end dX2_foldNose_16 rfl rfl (hP _ _ (ok_s k) h)
noncomputable def L_X2_foldSide_26 : Nat → Int32 → Int32 → Int32 → am_S → am_FE (Unit)
  | 0, _, _, _, _ => none
  | m + 1, x1, x2, x3, s =>
    if (am_I s 37 2) ≤ x3 then
      some (.inr ((), s))
    else
      am_bi (f_X2_placeOf x3 (((am_I s 37 3) - (1 : Int32)) - x2) s) (fun v6 s5 =>
        am_bi (f_X2_placeOf x3 (((am_I s5 37 3) - ((2 : Int32) * x1)) + x2) s5) (fun v8 s7 =>
          am_bi (f_X2_lay v6 v8 s7) (fun v10 s9 =>
            if v10 = 0 then
              some (.inl (.inl (some (.int (0 : Int32))), s9))
            else
              L_X2_foldSide_26 m x1 x2 (x3 + (1 : Int32)) s9
          )
        )
      )
theorem q_X2_foldSide_26 : ∀ (m : Nat) {N n : Nat} {d : Nat} {x1 : Int32} {x2 : Int32} {x3 : Int32} {s : am_S} {P : (am_O × am_S) ⊕ (Unit × am_S) → Prop} {Q : am_O → am_S → Prop} (h : am_sh N n s)  (k : am_ok (L_X2_foldSide_26 m x1 x2 x3 s) P) (hP : ∀ o s, P (.inl (o, s)) → am_sh N n s → Q o s) (hX : ∀ (e : Unit) s, P (.inr (e, s)) → am_sh N n s → am_WP (d + 1) mX2_foldSide 77 [(0, .ref 37), (1, .int x1), (2, .int x2)] [] s Q), am_WP (d + 1) mX2_foldSide 26 [(0, .ref 37), (1, .int x1), (2, .int x2), (3, .int x3)] [] s Q := by
  intro m
  induction m with
  | zero =>
    intro N n d x1 x2 x3 s P Q h  k hP hX
    exact (ok_no k).elim
  | succ m ih =>
    intro N n d x1 x2 x3 s P Q h  k hP hX
    unfold L_X2_foldSide_26 at k
    refine wp_ld (v := .int x3) dX2_foldSide_26 rfl rfl rfl rfl ?_
    refine wp_ld (v := .ref 37) dX2_foldSide_27 rfl rfl rfl rfl ?_
    refine wq_gI dX2_foldSide_28 rfl rfl (kk_37 h) (v := (am_I s 37 2)) rfl ?_
    refine wp_ic_ge dX2_foldSide_31 rfl (fun c4 => have k := ok_pos c4 k; ?_) (fun c4 => have k := ok_neg c4 k; ?_)
    · exact wp_sub (hX _ _ (ok_s k) h) rfl ⟨rfl, rfl, rfl, trivial⟩
    · refine wp_ld (v := .ref 37) dX2_foldSide_34 rfl rfl rfl rfl ?_
      refine wp_ld (v := .ref 37) dX2_foldSide_35 rfl rfl rfl rfl ?_
      refine wp_ld (v := .int x3) dX2_foldSide_36 rfl rfl rfl rfl ?_
      refine wp_ld (v := .ref 37) dX2_foldSide_37 rfl rfl rfl rfl ?_
      refine wq_gI dX2_foldSide_38 rfl rfl (kk_37 h) (v := (am_I s 37 3)) rfl ?_
      refine wp_cst (v := .int (1 : Int32)) dX2_foldSide_41 rfl rfl ?_
      refine wp_pu dX2_foldSide_42 rfl rfl ?_
      refine wp_ld (v := .int x2) dX2_foldSide_43 rfl rfl rfl rfl ?_
      refine wp_pu dX2_foldSide_44 rfl rfl ?_
      refine c_i dX2_foldSide_45 rfl rfl rfl (am_inv_v rfl (kk_37 h) rfl rfl rfl) (s_X2_placeOf h) k (fun v6 s5 h k => ?_)
      refine wp_ld (v := .ref 37) dX2_foldSide_48 rfl rfl rfl rfl ?_
      refine wp_ld (v := .int x3) dX2_foldSide_49 rfl rfl rfl rfl ?_
      refine wp_ld (v := .ref 37) dX2_foldSide_50 rfl rfl rfl rfl ?_
      refine wq_gI dX2_foldSide_51 rfl rfl (kk_37 h) (v := (am_I s5 37 3)) rfl ?_
      refine wp_cst (v := .int (2 : Int32)) dX2_foldSide_54 rfl rfl ?_
      refine wp_ld (v := .int x1) dX2_foldSide_55 rfl rfl rfl rfl ?_
      refine wp_pu dX2_foldSide_56 rfl rfl ?_
      refine wp_pu dX2_foldSide_57 rfl rfl ?_
      refine wp_ld (v := .int x2) dX2_foldSide_58 rfl rfl rfl rfl ?_
      refine wp_pu dX2_foldSide_59 rfl rfl ?_
      refine c_i dX2_foldSide_60 rfl rfl rfl (am_inv_v rfl (kk_37 h) rfl rfl rfl) (s_X2_placeOf h) k (fun v8 s7 h k => ?_)
      refine c_i dX2_foldSide_63 rfl rfl rfl (am_inv_v rfl (kk_37 h) rfl rfl rfl) (s_X2_lay h) k (fun v10 s9 h k => ?_)
      refine wp_if_ne dX2_foldSide_66 rfl (fun c11 => have k := ok_neg c11 k; ?_) (fun c11 => have k := ok_pos c11 k; ?_)
      · refine wp_inc (v := (x3 + (1 : Int32))) (ls' := [(0, .ref 37), (1, .int x1), (2, .int x2), (3, .int (x3 + (1 : Int32)))]) dX2_foldSide_71 rfl (Nat.le_of_ble_eq_true rfl) rfl rfl ?_
        refine wp_goto dX2_foldSide_74 rfl ?_
        exact wp_sub (ih h k hP hX) rfl ⟨rfl, rfl, rfl, rfl, trivial⟩
      · refine wp_cst (v := .int (0 : Int32)) dX2_foldSide_69 rfl rfl ?_
        exact wp_end dX2_foldSide_70 rfl rfl (hP _ _ (ok_s k) h)
noncomputable def L_X2_foldSide_19 : Nat → Int32 → Int32 → am_S → am_FE (Unit)
  | 0, _, _, _ => none
  | m + 1, x1, x2, s =>
    if x1 ≤ x2 then
      some (.inr ((), s))
    else
      am_ll (L_X2_foldSide_26 ax_fuel x1 x2 (0 : Int32) s) (fun e12 s13 =>
        L_X2_foldSide_19 m x1 (x2 + (1 : Int32)) s13
      )
theorem q_X2_foldSide_19 : ∀ (m : Nat) {N n : Nat} {d : Nat} {x1 : Int32} {x2 : Int32} {s : am_S} {P : (am_O × am_S) ⊕ (Unit × am_S) → Prop} {Q : am_O → am_S → Prop} (h : am_sh N n s)  (k : am_ok (L_X2_foldSide_19 m x1 x2 s) P) (hP : ∀ o s, P (.inl (o, s)) → am_sh N n s → Q o s) (hX : ∀ (e : Unit) s, P (.inr (e, s)) → am_sh N n s → am_WP (d + 1) mX2_foldSide 83 [(0, .ref 37), (1, .int x1)] [] s Q), am_WP (d + 1) mX2_foldSide 19 [(0, .ref 37), (1, .int x1), (2, .int x2)] [] s Q := by
  intro m
  induction m with
  | zero =>
    intro N n d x1 x2 s P Q h  k hP hX
    exact (ok_no k).elim
  | succ m ih =>
    intro N n d x1 x2 s P Q h  k hP hX
    unfold L_X2_foldSide_19 at k
    refine wp_ld (v := .int x2) dX2_foldSide_19 rfl rfl rfl rfl ?_
    refine wp_ld (v := .int x1) dX2_foldSide_20 rfl rfl rfl rfl ?_
    refine wp_ic_ge dX2_foldSide_21 rfl (fun c3 => have k := ok_pos c3 k; ?_) (fun c3 => have k := ok_neg c3 k; ?_)
    · exact wp_sub (hX _ _ (ok_s k) h) rfl ⟨rfl, rfl, trivial⟩
    · refine wp_cst (v := .int (0 : Int32)) dX2_foldSide_24 rfl rfl ?_
      refine wp_st (ls' := [(0, .ref 37), (1, .int x1), (2, .int x2), (3, .int (0 : Int32))]) dX2_foldSide_25 rfl rfl rfl (Nat.le_of_ble_eq_true rfl) rfl ?_
      refine lp_l k (fun P1 k hA hB => ?_)
      refine wp_sub (q_X2_foldSide_26 ax_fuel h k (fun o s p h => hP o s (hA o s p) h) (fun e12 s13 p h => have k := hB e12 s13 p; ?_)) rfl ⟨rfl, rfl, rfl, rfl, trivial⟩
      refine wp_inc (v := (x2 + (1 : Int32))) (ls' := [(0, .ref 37), (1, .int x1), (2, .int (x2 + (1 : Int32)))]) dX2_foldSide_77 rfl (Nat.le_of_ble_eq_true rfl) rfl rfl ?_
      refine wp_goto dX2_foldSide_80 rfl ?_
      exact wp_sub (ih h k hP hX) rfl ⟨rfl, rfl, rfl, trivial⟩
noncomputable def f_X2_foldSide (x1 : Int32) (s : am_S) : am_F :=
  if x1 < (1 : Int32) then
    some (.inl (some (.int (0 : Int32))), s)
  else
    if x1 ≤ ((am_I s 37 3) / (2 : Int32)) then
      am_lm (L_X2_foldSide_19 ax_fuel x1 (0 : Int32) s) (fun e14 s15 =>
        some (.inl (some (.int (1 : Int32))), (am_sI s15 37 3 ((am_I s15 37 3) - x1)))
      )
    else
      some (.inl (some (.int (0 : Int32))), s)
theorem s_X2_foldSide {N n : Nat} {d : Nat} {x1 : Int32} {s : am_S} (h : am_sh N n s)  : am_S1 (am_sh N n) (d + 1) mX2_foldSide [.ref 37, .int x1] s (f_X2_foldSide x1 s) := by
  intro P Q k hP
  show am_WP (d + 1) mX2_foldSide 0 [(0, .ref 37), (1, .int x1)] [] s Q
  unfold f_X2_foldSide at k
  refine wp_ld (v := .int x1) dX2_foldSide_0 rfl rfl rfl rfl ?_
  refine wp_cst (v := .int (1 : Int32)) dX2_foldSide_1 rfl rfl ?_
  refine wp_ic_lt dX2_foldSide_2 rfl (fun c1 => have k := ok_pos c1 k; ?_) (fun c1 => have k := ok_neg c1 k; ?_)
  · refine wp_cst (v := .int (0 : Int32)) dX2_foldSide_15 rfl rfl ?_
    exact wp_end dX2_foldSide_16 rfl rfl (hP _ _ (ok_s k) h)
  · refine wp_ld (v := .int x1) dX2_foldSide_5 rfl rfl rfl rfl ?_
    refine wp_ld (v := .ref 37) dX2_foldSide_6 rfl rfl rfl rfl ?_
    refine wq_gI dX2_foldSide_7 rfl rfl (kk_37 h) (v := (am_I s 37 3)) rfl ?_
    refine wp_cst (v := .int (2 : Int32)) dX2_foldSide_10 rfl rfl ?_
    refine wp_div dX2_foldSide_11 (by decide) ?_
    refine wp_ic_le dX2_foldSide_12 rfl (fun c2 => have k := ok_pos c2 k; ?_) (fun c2 => have k := ok_neg c2 k; ?_)
    · refine wp_cst (v := .int (0 : Int32)) dX2_foldSide_17 rfl rfl ?_
      refine wp_st (ls' := [(0, .ref 37), (1, .int x1), (2, .int (0 : Int32))]) dX2_foldSide_18 rfl rfl rfl (Nat.le_of_ble_eq_true rfl) rfl ?_
      refine lp_m k (fun P1 k hA hB => ?_)
      refine wp_sub (q_X2_foldSide_19 ax_fuel h k (fun o s p h => hP o s (hA o s p) h) (fun e14 s15 p h => have k := hB e14 s15 p; ?_)) rfl ⟨rfl, rfl, rfl, trivial⟩
      refine wp_ld (v := .ref 37) dX2_foldSide_83 rfl rfl rfl rfl ?_
      refine wp_pu dX2_foldSide_84 rfl rfl ?_
      refine wq_gI dX2_foldSide_85 rfl rfl (kk_37 h) (v := (am_I s15 37 3)) rfl ?_
      refine wp_ld (v := .int x1) dX2_foldSide_88 rfl rfl rfl rfl ?_
      refine wp_pu dX2_foldSide_89 rfl rfl ?_
      refine wp_pI dX2_foldSide_90 rfl rfl rfl (fun h => absurd h (by decide)) (kk_37 h) ?_
      refine wp_cst (v := .int (1 : Int32)) dX2_foldSide_93 rfl rfl ?_
      exact wp_end dX2_foldSide_94 rfl rfl (hP _ _ (ok_s k) (sh_sI h))
    · refine wp_cst (v := .int (0 : Int32)) dX2_foldSide_15 rfl rfl ?_
      exact wp_end dX2_foldSide_16 rfl rfl (hP _ _ (ok_s k) h)
noncomputable def L_X2_foldCorner_42 : Nat → Int32 → Int32 → Int32 → Int32 → am_S → am_FE (Unit)
  | 0, _, _, _, _, _ => none
  | m + 1, x1, x2, x3, x4, s =>
    if (x1 - (1 : Int32)) ≤ (x3 + x4) then
      some (.inr ((), s))
    else
      am_bi (f_X2_placeOf x3 (x2 - x4) s) (fun v7 s6 =>
        am_bi (f_X2_placeOf ((x1 - (1 : Int32)) - x4) (x2 - ((x1 - (1 : Int32)) - x3)) s6) (fun v9 s8 =>
          am_bi (f_X2_lay v7 v9 s8) (fun v11 s10 =>
            if v11 = 0 then
              some (.inl (.inl (some (.int (0 : Int32))), s10))
            else
              L_X2_foldCorner_42 m x1 x2 x3 (x4 + (1 : Int32)) s10
          )
        )
      )
theorem q_X2_foldCorner_42 : ∀ (m : Nat) {N n : Nat} {d : Nat} {x1 : Int32} {x2 : Int32} {x3 : Int32} {x4 : Int32} {s : am_S} {P : (am_O × am_S) ⊕ (Unit × am_S) → Prop} {Q : am_O → am_S → Prop} (h : am_sh N n s)  (k : am_ok (L_X2_foldCorner_42 m x1 x2 x3 x4 s) P) (hP : ∀ o s, P (.inl (o, s)) → am_sh N n s → Q o s) (hX : ∀ (e : Unit) s, P (.inr (e, s)) → am_sh N n s → am_WP (d + 1) mX2_foldCorner 93 [(0, .ref 37), (1, .int x1), (2, .int x2), (3, .int x3)] [] s Q), am_WP (d + 1) mX2_foldCorner 42 [(0, .ref 37), (1, .int x1), (2, .int x2), (3, .int x3), (4, .int x4)] [] s Q := by
  intro m
  induction m with
  | zero =>
    intro N n d x1 x2 x3 x4 s P Q h  k hP hX
    exact (ok_no k).elim
  | succ m ih =>
    intro N n d x1 x2 x3 x4 s P Q h  k hP hX
    unfold L_X2_foldCorner_42 at k
    refine wp_ld (v := .int x3) dX2_foldCorner_42 rfl rfl rfl rfl ?_
    refine wp_ld (v := .int x4) dX2_foldCorner_43 rfl rfl rfl rfl ?_
    refine wp_pu dX2_foldCorner_45 rfl rfl ?_
    refine wp_ld (v := .int x1) dX2_foldCorner_46 rfl rfl rfl rfl ?_
    refine wp_cst (v := .int (1 : Int32)) dX2_foldCorner_47 rfl rfl ?_
    refine wp_pu dX2_foldCorner_48 rfl rfl ?_
    refine wp_ic_ge dX2_foldCorner_49 rfl (fun c5 => have k := ok_pos c5 k; ?_) (fun c5 => have k := ok_neg c5 k; ?_)
    · exact wp_sub (hX _ _ (ok_s k) h) rfl ⟨rfl, rfl, rfl, rfl, trivial⟩
    · refine wp_ld (v := .ref 37) dX2_foldCorner_52 rfl rfl rfl rfl ?_
      refine wp_ld (v := .ref 37) dX2_foldCorner_53 rfl rfl rfl rfl ?_
      refine wp_ld (v := .int x3) dX2_foldCorner_54 rfl rfl rfl rfl ?_
      refine wp_ld (v := .int x2) dX2_foldCorner_55 rfl rfl rfl rfl ?_
      refine wp_ld (v := .int x4) dX2_foldCorner_56 rfl rfl rfl rfl ?_
      refine wp_pu dX2_foldCorner_58 rfl rfl ?_
      refine c_i dX2_foldCorner_59 rfl rfl rfl (am_inv_v rfl (kk_37 h) rfl rfl rfl) (s_X2_placeOf h) k (fun v7 s6 h k => ?_)
      refine wp_ld (v := .ref 37) dX2_foldCorner_62 rfl rfl rfl rfl ?_
      refine wp_ld (v := .int x1) dX2_foldCorner_63 rfl rfl rfl rfl ?_
      refine wp_cst (v := .int (1 : Int32)) dX2_foldCorner_64 rfl rfl ?_
      refine wp_pu dX2_foldCorner_65 rfl rfl ?_
      refine wp_ld (v := .int x4) dX2_foldCorner_66 rfl rfl rfl rfl ?_
      refine wp_pu dX2_foldCorner_68 rfl rfl ?_
      refine wp_ld (v := .int x2) dX2_foldCorner_69 rfl rfl rfl rfl ?_
      refine wp_ld (v := .int x1) dX2_foldCorner_70 rfl rfl rfl rfl ?_
      refine wp_cst (v := .int (1 : Int32)) dX2_foldCorner_71 rfl rfl ?_
      refine wp_pu dX2_foldCorner_72 rfl rfl ?_
      refine wp_ld (v := .int x3) dX2_foldCorner_73 rfl rfl rfl rfl ?_
      show am_WP (d + 1) mX2_foldCorner 74 _ _ _ Q
      refine wp_pu dX2_foldCorner_74 rfl rfl ?_
      refine wp_pu dX2_foldCorner_75 rfl rfl ?_
      refine c_i dX2_foldCorner_76 rfl rfl rfl (am_inv_v rfl (kk_37 h) rfl rfl rfl) (s_X2_placeOf h) k (fun v9 s8 h k => ?_)
      refine c_i dX2_foldCorner_79 rfl rfl rfl (am_inv_v rfl (kk_37 h) rfl rfl rfl) (s_X2_lay h) k (fun v11 s10 h k => ?_)
      refine wp_if_ne dX2_foldCorner_82 rfl (fun c12 => have k := ok_neg c12 k; ?_) (fun c12 => have k := ok_pos c12 k; ?_)
      · refine wp_inc (v := (x4 + (1 : Int32))) (ls' := [(0, .ref 37), (1, .int x1), (2, .int x2), (3, .int x3), (4, .int (x4 + (1 : Int32)))]) dX2_foldCorner_87 rfl (Nat.le_of_ble_eq_true rfl) rfl rfl ?_
        refine wp_goto dX2_foldCorner_90 rfl ?_
        exact wp_sub (ih h k hP hX) rfl ⟨rfl, rfl, rfl, rfl, rfl, trivial⟩
      · refine wp_cst (v := .int (0 : Int32)) dX2_foldCorner_85 rfl rfl ?_
        exact wp_end dX2_foldCorner_86 rfl rfl (hP _ _ (ok_s k) h)
noncomputable def L_X2_foldCorner_32 : Nat → Int32 → Int32 → Int32 → am_S → am_FE (Unit)
  | 0, _, _, _, _ => none
  | m + 1, x1, x2, x3, s =>
    if (x1 - (1 : Int32)) ≤ x3 then
      some (.inr ((), s))
    else
      am_ll (L_X2_foldCorner_42 ax_fuel x1 x2 x3 (0 : Int32) s) (fun e13 s14 =>
        L_X2_foldCorner_32 m x1 x2 (x3 + (1 : Int32)) s14
      )
theorem q_X2_foldCorner_32 : ∀ (m : Nat) {N n : Nat} {d : Nat} {x1 : Int32} {x2 : Int32} {x3 : Int32} {s : am_S} {P : (am_O × am_S) ⊕ (Unit × am_S) → Prop} {Q : am_O → am_S → Prop} (h : am_sh N n s)  (k : am_ok (L_X2_foldCorner_32 m x1 x2 x3 s) P) (hP : ∀ o s, P (.inl (o, s)) → am_sh N n s → Q o s) (hX : ∀ (e : Unit) s, P (.inr (e, s)) → am_sh N n s → am_WP (d + 1) mX2_foldCorner 99 [] [] s Q), am_WP (d + 1) mX2_foldCorner 32 [(0, .ref 37), (1, .int x1), (2, .int x2), (3, .int x3)] [] s Q := by
  intro m
  induction m with
  | zero =>
    intro N n d x1 x2 x3 s P Q h  k hP hX
    exact (ok_no k).elim
  | succ m ih =>
    intro N n d x1 x2 x3 s P Q h  k hP hX
    unfold L_X2_foldCorner_32 at k
    refine wp_ld (v := .int x3) dX2_foldCorner_32 rfl rfl rfl rfl ?_
    refine wp_ld (v := .int x1) dX2_foldCorner_33 rfl rfl rfl rfl ?_
    refine wp_cst (v := .int (1 : Int32)) dX2_foldCorner_34 rfl rfl ?_
    refine wp_pu dX2_foldCorner_35 rfl rfl ?_
    refine wp_ic_ge dX2_foldCorner_36 rfl (fun c4 => have k := ok_pos c4 k; ?_) (fun c4 => have k := ok_neg c4 k; ?_)
    · exact wp_sub (hX _ _ (ok_s k) h) rfl trivial
    · refine wp_cst (v := .int (0 : Int32)) dX2_foldCorner_39 rfl rfl ?_
      refine wp_st (ls' := [(0, .ref 37), (1, .int x1), (2, .int x2), (3, .int x3), (4, .int (0 : Int32))]) dX2_foldCorner_40 rfl rfl rfl (Nat.le_of_ble_eq_true rfl) rfl ?_
      refine lp_l k (fun P1 k hA hB => ?_)
      refine wp_sub (q_X2_foldCorner_42 ax_fuel h k (fun o s p h => hP o s (hA o s p) h) (fun e13 s14 p h => have k := hB e13 s14 p; ?_)) rfl ⟨rfl, rfl, rfl, rfl, rfl, trivial⟩
      refine wp_inc (v := (x3 + (1 : Int32))) (ls' := [(0, .ref 37), (1, .int x1), (2, .int x2), (3, .int (x3 + (1 : Int32)))]) dX2_foldCorner_93 rfl (Nat.le_of_ble_eq_true rfl) rfl rfl ?_
      refine wp_goto dX2_foldCorner_96 rfl ?_
      exact wp_sub (ih h k hP hX) rfl ⟨rfl, rfl, rfl, rfl, trivial⟩
noncomputable def f_X2_foldCorner (x1 : Int32) (s : am_S) : am_F :=
  if x1 < (2 : Int32) then
    some (.inl (some (.int (0 : Int32))), s)
  else
    if (am_I s 37 2) < x1 then
      some (.inl (some (.int (0 : Int32))), s)
    else
      if x1 ≤ (am_I s 37 3) then
        am_lm (L_X2_foldCorner_32 ax_fuel x1 ((am_I s 37 3) - (1 : Int32)) (0 : Int32) s) (fun e15 s16 =>
          some (.inl (some (.int (1 : Int32))), s16)
        )
      else
        some (.inl (some (.int (0 : Int32))), s)
theorem s_X2_foldCorner {N n : Nat} {d : Nat} {x1 : Int32} {s : am_S} (h : am_sh N n s)  : am_S1 (am_sh N n) (d + 1) mX2_foldCorner [.ref 37, .int x1] s (f_X2_foldCorner x1 s) := by
  intro P Q k hP
  show am_WP (d + 1) mX2_foldCorner 0 [(0, .ref 37), (1, .int x1)] [] s Q
  unfold f_X2_foldCorner at k
  refine wp_ld (v := .int x1) dX2_foldCorner_0 rfl rfl rfl rfl ?_
  refine wp_cst (v := .int (2 : Int32)) dX2_foldCorner_1 rfl rfl ?_
  refine wp_ic_lt dX2_foldCorner_2 rfl (fun c1 => have k := ok_pos c1 k; ?_) (fun c1 => have k := ok_neg c1 k; ?_)
  · refine wp_cst (v := .int (0 : Int32)) dX2_foldCorner_21 rfl rfl ?_
    exact wp_end dX2_foldCorner_22 rfl rfl (hP _ _ (ok_s k) h)
  · refine wp_ld (v := .int x1) dX2_foldCorner_5 rfl rfl rfl rfl ?_
    refine wp_ld (v := .ref 37) dX2_foldCorner_6 rfl rfl rfl rfl ?_
    refine wq_gI dX2_foldCorner_7 rfl rfl (kk_37 h) (v := (am_I s 37 2)) rfl ?_
    refine wp_ic_gt dX2_foldCorner_10 rfl (fun c2 => have k := ok_pos c2 k; ?_) (fun c2 => have k := ok_neg c2 k; ?_)
    · refine wp_cst (v := .int (0 : Int32)) dX2_foldCorner_21 rfl rfl ?_
      exact wp_end dX2_foldCorner_22 rfl rfl (hP _ _ (ok_s k) h)
    · refine wp_ld (v := .int x1) dX2_foldCorner_13 rfl rfl rfl rfl ?_
      refine wp_ld (v := .ref 37) dX2_foldCorner_14 rfl rfl rfl rfl ?_
      refine wq_gI dX2_foldCorner_15 rfl rfl (kk_37 h) (v := (am_I s 37 3)) rfl ?_
      refine wp_ic_le dX2_foldCorner_18 rfl (fun c3 => have k := ok_pos c3 k; ?_) (fun c3 => have k := ok_neg c3 k; ?_)
      · refine wp_ld (v := .ref 37) dX2_foldCorner_23 rfl rfl rfl rfl ?_
        refine wq_gI dX2_foldCorner_24 rfl rfl (kk_37 h) (v := (am_I s 37 3)) rfl ?_
        refine wp_cst (v := .int (1 : Int32)) dX2_foldCorner_27 rfl rfl ?_
        refine wp_pu dX2_foldCorner_28 rfl rfl ?_
        refine wp_st (ls' := [(0, .ref 37), (1, .int x1), (2, .int ((am_I s 37 3) - (1 : Int32)))]) dX2_foldCorner_29 rfl rfl rfl (Nat.le_of_ble_eq_true rfl) rfl ?_
        refine wp_cst (v := .int (0 : Int32)) dX2_foldCorner_30 rfl rfl ?_
        refine wp_st (ls' := [(0, .ref 37), (1, .int x1), (2, .int ((am_I s 37 3) - (1 : Int32))), (3, .int (0 : Int32))]) dX2_foldCorner_31 rfl rfl rfl (Nat.le_of_ble_eq_true rfl) rfl ?_
        refine lp_m k (fun P1 k hA hB => ?_)
        refine wp_sub (q_X2_foldCorner_32 ax_fuel h k (fun o s p h => hP o s (hA o s p) h) (fun e15 s16 p h => have k := hB e15 s16 p; ?_)) rfl ⟨rfl, rfl, rfl, rfl, trivial⟩
        refine wp_cst (v := .int (1 : Int32)) dX2_foldCorner_99 rfl rfl ?_
        exact wp_end dX2_foldCorner_100 rfl rfl (hP _ _ (ok_s k) h)
      · refine wp_cst (v := .int (0 : Int32)) dX2_foldCorner_21 rfl rfl ?_
        exact wp_end dX2_foldCorner_22 rfl rfl (hP _ _ (ok_s k) h)
noncomputable def f_X2_foldOnce (x1 : Int32) (x2 : Int32) (s : am_S) : am_F :=
  if x1 = (0 : Int32) then
    am_bi (f_X2_foldNose x2 s) (fun v3 s2 =>
      if v3 = 0 ∨ v3 = 1 then
        some (.inl (some (.int v3)), s2)
      else none
    )
  else if x1 = (1 : Int32) then
    am_bi (f_X2_foldSide x2 s) (fun v7 s6 =>
      if v7 = 0 ∨ v7 = 1 then
        some (.inl (some (.int v7)), s6)
      else none
    )
  else if x1 = (2 : Int32) then
    am_bi (f_X2_foldCorner x2 s) (fun v11 s10 =>
      if v11 = 0 ∨ v11 = 1 then
        some (.inl (some (.int v11)), s10)
      else none
    )
  else
    some (.inl (some (.int (0 : Int32))), s)
theorem s_X2_foldOnce {N n : Nat} {d : Nat} {x1 : Int32} {x2 : Int32} {s : am_S} (h : am_sh N n s)  : am_S1 (am_sh N n) (d + 2) mX2_foldOnce [.ref 37, .int x1, .int x2] s (f_X2_foldOnce x1 x2 s) := by
  intro P Q k hP
  show am_WP (d + 2) mX2_foldOnce 0 [(0, .ref 37), (1, .int x1), (2, .int x2)] [] s Q
  unfold f_X2_foldOnce at k
  refine wp_ld (v := .int x1) dX2_foldOnce_0 rfl rfl rfl rfl ?_
  by_cases c1 : x1 = (0 : Int32)
  · have k := ok_pos c1 k
    refine sw_hit dX2_foldOnce_1 rfl c1 rfl ?_
    refine wp_ld (v := .ref 37) dX2_foldOnce_28 rfl rfl rfl rfl ?_
    refine wp_ld (v := .int x2) dX2_foldOnce_29 rfl rfl rfl rfl ?_
    refine c_i dX2_foldOnce_30 rfl rfl rfl (am_inv_v rfl (kk_37 h) rfl rfl rfl) (s_X2_foldNose h) k (fun v3 s2 h k => ?_)
    obtain ⟨g4, k⟩ := ok_g k
    exact wp_end dX2_foldOnce_33 rfl (am_end_b rfl g4) (hP _ _ (ok_s k) h)
  replace k := ok_neg c1 k
  by_cases c5 : x1 = (1 : Int32)
  · have k := ok_pos c5 k
    refine sw_hit dX2_foldOnce_1 rfl c5 rfl ?_
    refine wp_ld (v := .ref 37) dX2_foldOnce_34 rfl rfl rfl rfl ?_
    refine wp_ld (v := .int x2) dX2_foldOnce_35 rfl rfl rfl rfl ?_
    refine c_i dX2_foldOnce_36 rfl rfl rfl (am_inv_v rfl (kk_37 h) rfl rfl rfl) (s_X2_foldSide h) k (fun v7 s6 h k => ?_)
    obtain ⟨g8, k⟩ := ok_g k
    exact wp_end dX2_foldOnce_39 rfl (am_end_b rfl g8) (hP _ _ (ok_s k) h)
  replace k := ok_neg c5 k
  by_cases c9 : x1 = (2 : Int32)
  · have k := ok_pos c9 k
    refine sw_hit dX2_foldOnce_1 rfl c9 rfl ?_
    refine wp_ld (v := .ref 37) dX2_foldOnce_40 rfl rfl rfl rfl ?_
    refine wp_ld (v := .int x2) dX2_foldOnce_41 rfl rfl rfl rfl ?_
    refine c_i dX2_foldOnce_42 rfl rfl rfl (am_inv_v rfl (kk_37 h) rfl rfl rfl) (s_X2_foldCorner h) k (fun v11 s10 h k => ?_)
    obtain ⟨g12, k⟩ := ok_g k
    exact wp_end dX2_foldOnce_45 rfl (am_end_b rfl g12) (hP _ _ (ok_s k) h)
  replace k := ok_neg c9 k
  refine ts_out dX2_foldOnce_1 rfl (by
      intro j h1 h2
      have hj : j = 0 ∨ j = 1 ∨ j = 2 := by omega
      rcases hj with e | e | e
      · subst e; exact c1
      · subst e; exact c5
      · subst e; exact c9
      ) ?_
  refine wp_cst (v := .int (0 : Int32)) dX2_foldOnce_46 rfl rfl ?_
  exact wp_end dX2_foldOnce_47 rfl rfl (hP _ _ (ok_s k) h)
noncomputable def f_X2_layersAt (x1 : Int32) (x2 : Int32) (s : am_S) : am_F :=
  if x1 < 0 then
    some (.inl (some (.int (-1 : Int32))), s)
  else
    if (am_I s 37 2) ≤ x1 then
      some (.inl (some (.int (-1 : Int32))), s)
    else
      if x2 < 0 then
        some (.inl (some (.int (-1 : Int32))), s)
      else
        if x2 < (am_I s 37 3) then
          am_bi (f_X2_placeOf x1 x2 s) (fun v6 s5 =>
            if v6 < 0 then
              some (.inl (some (.int (-1 : Int32))), s5)
            else
              if (288 : Int32) ≤ v6 then
                some (.inl (some (.int (-1 : Int32))), s5)
              else
                if am_in v6 288 = true then
                  some (.inl (some (.int (am_I s5 38 v6.toNatClampNeg))), s5)
                else none
          )
        else
          some (.inl (some (.int (-1 : Int32))), s)
theorem s_X2_layersAt {N n : Nat} {d : Nat} {x1 : Int32} {x2 : Int32} {s : am_S} (h : am_sh N n s)  : am_S1 (am_sh N n) (d + 1) mX2_layersAt [.ref 37, .int x1, .int x2] s (f_X2_layersAt x1 x2 s) := by
  intro P Q k hP
  show am_WP (d + 1) mX2_layersAt 0 [(0, .ref 37), (1, .int x1), (2, .int x2)] [] s Q
  unfold f_X2_layersAt at k
  refine wp_ld (v := .int x1) dX2_layersAt_0 rfl rfl rfl rfl ?_
  refine wp_if_lt dX2_layersAt_1 rfl (fun c1 => have k := ok_pos c1 k; ?_) (fun c1 => have k := ok_neg c1 k; ?_)
  · refine wp_cst (v := .int (-1 : Int32)) dX2_layersAt_24 rfl rfl ?_
    exact wp_end dX2_layersAt_25 rfl (am_end_i rfl) (hP _ _ (ok_s k) h)
  · refine wp_ld (v := .int x1) dX2_layersAt_4 rfl rfl rfl rfl ?_
    refine wp_ld (v := .ref 37) dX2_layersAt_5 rfl rfl rfl rfl ?_
    refine wq_gI dX2_layersAt_6 rfl rfl (kk_37 h) (v := (am_I s 37 2)) rfl ?_
    refine wp_ic_ge dX2_layersAt_9 rfl (fun c2 => have k := ok_pos c2 k; ?_) (fun c2 => have k := ok_neg c2 k; ?_)
    · refine wp_cst (v := .int (-1 : Int32)) dX2_layersAt_24 rfl rfl ?_
      exact wp_end dX2_layersAt_25 rfl (am_end_i rfl) (hP _ _ (ok_s k) h)
    · refine wp_ld (v := .int x2) dX2_layersAt_12 rfl rfl rfl rfl ?_
      refine wp_if_lt dX2_layersAt_13 rfl (fun c3 => have k := ok_pos c3 k; ?_) (fun c3 => have k := ok_neg c3 k; ?_)
      · refine wp_cst (v := .int (-1 : Int32)) dX2_layersAt_24 rfl rfl ?_
        exact wp_end dX2_layersAt_25 rfl (am_end_i rfl) (hP _ _ (ok_s k) h)
      · refine wp_ld (v := .int x2) dX2_layersAt_16 rfl rfl rfl rfl ?_
        refine wp_ld (v := .ref 37) dX2_layersAt_17 rfl rfl rfl rfl ?_
        refine wq_gI dX2_layersAt_18 rfl rfl (kk_37 h) (v := (am_I s 37 3)) rfl ?_
        refine wp_ic_lt dX2_layersAt_21 rfl (fun c4 => have k := ok_pos c4 k; ?_) (fun c4 => have k := ok_neg c4 k; ?_)
        · refine wp_ld (v := .ref 37) dX2_layersAt_26 rfl rfl rfl rfl ?_
          refine wp_ld (v := .int x1) dX2_layersAt_27 rfl rfl rfl rfl ?_
          refine wp_ld (v := .int x2) dX2_layersAt_28 rfl rfl rfl rfl ?_
          refine c_i dX2_layersAt_29 rfl rfl rfl (am_inv_v rfl (kk_37 h) rfl rfl rfl) (s_X2_placeOf h) k (fun v6 s5 h k => ?_)
          refine wp_st (ls' := [(0, .ref 37), (1, .int x1), (2, .int x2), (3, .int v6)]) dX2_layersAt_32 rfl rfl rfl (Nat.le_of_ble_eq_true rfl) rfl ?_
          refine wp_ld (v := .int v6) dX2_layersAt_33 rfl rfl rfl rfl ?_
          refine wp_if_lt dX2_layersAt_34 rfl (fun c7 => have k := ok_pos c7 k; ?_) (fun c7 => have k := ok_neg c7 k; ?_)
          · refine wp_cst (v := .int (-1 : Int32)) dX2_layersAt_55 rfl rfl ?_
            exact wp_end dX2_layersAt_56 rfl (am_end_i rfl) (hP _ _ (ok_s k) h)
          · refine wp_ld (v := .int v6) dX2_layersAt_37 rfl rfl rfl rfl ?_
            refine wp_ld (v := .ref 37) dX2_layersAt_38 rfl rfl rfl rfl ?_
            refine wp_gr dX2_layersAt_39 rfl rfl (kk_37 h) (rr_37_0 h) ?_
            refine wp_alen dX2_layersAt_42 (kk_38 h) (by decide) (v := (288 : Int32)) rfl ?_
            refine wp_ic_ge dX2_layersAt_43 rfl (fun c8 => have k := ok_pos c8 k; ?_) (fun c8 => have k := ok_neg c8 k; ?_)
            · refine wp_cst (v := .int (-1 : Int32)) dX2_layersAt_55 rfl rfl ?_
              exact wp_end dX2_layersAt_56 rfl (am_end_i rfl) (hP _ _ (ok_s k) h)
            · refine wp_ld (v := .ref 37) dX2_layersAt_46 rfl rfl rfl rfl ?_
              refine wp_gr dX2_layersAt_47 rfl rfl (kk_37 h) (rr_37_0 h) ?_
              refine wp_ld (v := .int v6) dX2_layersAt_50 rfl rfl rfl rfl ?_
              obtain ⟨g9, k⟩ := ok_g k
              refine wq_iald dX2_layersAt_51 (kk_38 h) g9 (v := (am_I s5 38 v6.toNatClampNeg)) rfl ?_
              refine wp_goto dX2_layersAt_52 rfl ?_
              exact wp_end dX2_layersAt_56 rfl (am_end_i rfl) (hP _ _ (ok_s k) h)
        · refine wp_cst (v := .int (-1 : Int32)) dX2_layersAt_24 rfl rfl ?_
          exact wp_end dX2_layersAt_25 rfl (am_end_i rfl) (hP _ _ (ok_s k) h)
noncomputable def L_X2_weigh_38 : Nat → Int32 → Int32 → Int32 → am_S → am_FE (Unit)
  | 0, _, _, _, _ => none
  | m + 1, x1, x2, x3, s =>
    if (am_I s 37 3) ≤ x3 then
      some (.inr ((), s))
    else
      am_bi (f_X2_layersAt x1 x3 s) (fun v4 s3 =>
        if v4 ≤ 0 then
          L_X2_weigh_38 m x1 x2 (x3 + (1 : Int32)) s3
        else
          L_X2_weigh_38 m x1 x2 (x3 + (1 : Int32)) (am_sI (am_sI (am_sI (am_sI s3 37 4 ((am_I s3 37 4) + (1 : Int32))) 37 5 ((am_I s3 37 5) + v4)) 37 6 ((am_I s3 37 6) + (v4 * x2))) 37 7 ((am_I s3 37 7) + x2))
      )
theorem q_X2_weigh_38 : ∀ (m : Nat) {N n : Nat} {d : Nat} {x1 : Int32} {x2 : Int32} {x3 : Int32} {s : am_S} {P : (am_O × am_S) ⊕ (Unit × am_S) → Prop} {Q : am_O → am_S → Prop} (h : am_sh N n s)  (k : am_ok (L_X2_weigh_38 m x1 x2 x3 s) P) (hP : ∀ o s, P (.inl (o, s)) → am_sh N n s → Q o s) (hX : ∀ (e : Unit) s, P (.inr (e, s)) → am_sh N n s → am_WP (d + 2) mX2_weigh 109 [(0, .ref 37), (1, .int x1)] [] s Q), am_WP (d + 2) mX2_weigh 38 [(0, .ref 37), (1, .int x1), (2, .int x2), (3, .int x3)] [] s Q := by
  intro m
  induction m with
  | zero =>
    intro N n d x1 x2 x3 s P Q h  k hP hX
    exact (ok_no k).elim
  | succ m ih =>
    intro N n d x1 x2 x3 s P Q h  k hP hX
    unfold L_X2_weigh_38 at k
    refine wp_ld (v := .int x3) dX2_weigh_38 rfl rfl rfl rfl ?_
    refine wp_ld (v := .ref 37) dX2_weigh_39 rfl rfl rfl rfl ?_
    refine wq_gI dX2_weigh_40 rfl rfl (kk_37 h) (v := (am_I s 37 3)) rfl ?_
    refine wp_ic_ge dX2_weigh_43 rfl (fun c2 => have k := ok_pos c2 k; ?_) (fun c2 => have k := ok_neg c2 k; ?_)
    · exact wp_sub (hX _ _ (ok_s k) h) rfl ⟨rfl, rfl, trivial⟩
    · refine wp_ld (v := .ref 37) dX2_weigh_46 rfl rfl rfl rfl ?_
      refine wp_ld (v := .int x1) dX2_weigh_47 rfl rfl rfl rfl ?_
      refine wp_ld (v := .int x3) dX2_weigh_48 rfl rfl rfl rfl ?_
      refine c_i dX2_weigh_49 rfl rfl rfl (am_inv_v rfl (kk_37 h) rfl rfl rfl) (s_X2_layersAt h) k (fun v4 s3 h k => ?_)
      refine wp_st (ls' := [(0, .ref 37), (1, .int x1), (2, .int x2), (3, .int x3), (4, .int v4)]) dX2_weigh_52 rfl rfl rfl (Nat.le_of_ble_eq_true rfl) rfl ?_
      refine wp_ld (v := .int v4) dX2_weigh_54 rfl rfl rfl rfl ?_
      refine wp_if_le dX2_weigh_56 rfl (fun c5 => have k := ok_pos c5 k; ?_) (fun c5 => have k := ok_neg c5 k; ?_)
      · refine wp_inc (v := (x3 + (1 : Int32))) (ls' := [(0, .ref 37), (1, .int x1), (2, .int x2), (3, .int (x3 + (1 : Int32))), (4, .int v4)]) dX2_weigh_103 rfl (Nat.le_of_ble_eq_true rfl) rfl rfl ?_
        refine wp_goto dX2_weigh_106 rfl ?_
        exact wp_sub (ih h k hP hX) rfl ⟨rfl, rfl, rfl, rfl, trivial⟩
      · refine wp_ld (v := .ref 37) dX2_weigh_59 rfl rfl rfl rfl ?_
        refine wp_pu dX2_weigh_60 rfl rfl ?_
        refine wq_gI dX2_weigh_61 rfl rfl (kk_37 h) (v := (am_I s3 37 4)) rfl ?_
        refine wp_cst (v := .int (1 : Int32)) dX2_weigh_64 rfl rfl ?_
        refine wp_pu dX2_weigh_65 rfl rfl ?_
        refine wp_pI dX2_weigh_66 rfl rfl rfl (fun h => absurd h (by decide)) (kk_37 h) ?_
        refine wp_ld (v := .ref 37) dX2_weigh_69 rfl rfl rfl rfl ?_
        refine wp_pu dX2_weigh_70 rfl rfl ?_
        refine wq_gI dX2_weigh_71 rfl rfl (kk_37 (sh_sI h)) (v := (am_I s3 37 5)) rfl ?_
        refine wp_ld (v := .int v4) dX2_weigh_74 rfl rfl rfl rfl ?_
        refine wp_pu dX2_weigh_76 rfl rfl ?_
        show am_WP (d + 2) mX2_weigh 77 _ _ _ Q
        refine wp_pI dX2_weigh_77 rfl rfl rfl (fun h => absurd h (by decide)) (kk_37 (sh_sI h)) ?_
        refine wp_ld (v := .ref 37) dX2_weigh_80 rfl rfl rfl rfl ?_
        refine wp_pu dX2_weigh_81 rfl rfl ?_
        refine wq_gI dX2_weigh_82 rfl rfl (kk_37 (sh_sI (sh_sI h))) (v := (am_I s3 37 6)) rfl ?_
        refine wp_ld (v := .int v4) dX2_weigh_85 rfl rfl rfl rfl ?_
        refine wp_ld (v := .int x2) dX2_weigh_87 rfl rfl rfl rfl ?_
        refine wp_pu dX2_weigh_88 rfl rfl ?_
        refine wp_pu dX2_weigh_89 rfl rfl ?_
        refine wp_pI dX2_weigh_90 rfl rfl rfl (fun h => absurd h (by decide)) (kk_37 (sh_sI (sh_sI h))) ?_
        refine wp_ld (v := .ref 37) dX2_weigh_93 rfl rfl rfl rfl ?_
        refine wp_pu dX2_weigh_94 rfl rfl ?_
        refine wq_gI dX2_weigh_95 rfl rfl (kk_37 (sh_sI (sh_sI (sh_sI h)))) (v := (am_I s3 37 7)) rfl ?_
        show am_WP (d + 2) mX2_weigh 98 _ _ _ Q
        refine wp_ld (v := .int x2) dX2_weigh_98 rfl rfl rfl rfl ?_
        refine wp_pu dX2_weigh_99 rfl rfl ?_
        refine wp_pI dX2_weigh_100 rfl rfl rfl (fun h => absurd h (by decide)) (kk_37 (sh_sI (sh_sI (sh_sI h)))) ?_
        refine wp_inc (v := (x3 + (1 : Int32))) (ls' := [(0, .ref 37), (1, .int x1), (2, .int x2), (3, .int (x3 + (1 : Int32))), (4, .int v4)]) dX2_weigh_103 rfl (Nat.le_of_ble_eq_true rfl) rfl rfl ?_
        refine wp_goto dX2_weigh_106 rfl ?_
        exact wp_sub (ih (sh_sI (sh_sI (sh_sI (sh_sI h)))) k hP hX) rfl ⟨rfl, rfl, rfl, rfl, trivial⟩
noncomputable def L_X2_weigh_22 : Nat → Int32 → am_S → am_FE (Unit)
  | 0, _, _ => none
  | m + 1, x1, s =>
    if (am_I s 37 2) ≤ x1 then
      some (.inr ((), s))
    else
      am_ll (L_X2_weigh_38 ax_fuel x1 (((2 : Int32) * x1) + (1 : Int32)) (0 : Int32) s) (fun e6 s7 =>
        L_X2_weigh_22 m (x1 + (1 : Int32)) s7
      )
theorem q_X2_weigh_22 : ∀ (m : Nat) {N n : Nat} {d : Nat} {x1 : Int32} {s : am_S} {P : (am_O × am_S) ⊕ (Unit × am_S) → Prop} {Q : am_O → am_S → Prop} (h : am_sh N n s)  (k : am_ok (L_X2_weigh_22 m x1 s) P) (hP : ∀ o s, P (.inl (o, s)) → am_sh N n s → Q o s) (hX : ∀ (e : Unit) s, P (.inr (e, s)) → am_sh N n s → am_WP (d + 2) mX2_weigh 115 [(0, .ref 37)] [] s Q), am_WP (d + 2) mX2_weigh 22 [(0, .ref 37), (1, .int x1)] [] s Q := by
  intro m
  induction m with
  | zero =>
    intro N n d x1 s P Q h  k hP hX
    exact (ok_no k).elim
  | succ m ih =>
    intro N n d x1 s P Q h  k hP hX
    unfold L_X2_weigh_22 at k
    refine wp_ld (v := .int x1) dX2_weigh_22 rfl rfl rfl rfl ?_
    refine wp_ld (v := .ref 37) dX2_weigh_23 rfl rfl rfl rfl ?_
    refine wq_gI dX2_weigh_24 rfl rfl (kk_37 h) (v := (am_I s 37 2)) rfl ?_
    refine wp_ic_ge dX2_weigh_27 rfl (fun c1 => have k := ok_pos c1 k; ?_) (fun c1 => have k := ok_neg c1 k; ?_)
    · exact wp_sub (hX _ _ (ok_s k) h) rfl ⟨rfl, trivial⟩
    · refine wp_cst (v := .int (2 : Int32)) dX2_weigh_30 rfl rfl ?_
      refine wp_ld (v := .int x1) dX2_weigh_31 rfl rfl rfl rfl ?_
      refine wp_pu dX2_weigh_32 rfl rfl ?_
      refine wp_cst (v := .int (1 : Int32)) dX2_weigh_33 rfl rfl ?_
      refine wp_pu dX2_weigh_34 rfl rfl ?_
      refine wp_st (ls' := [(0, .ref 37), (1, .int x1), (2, .int (((2 : Int32) * x1) + (1 : Int32)))]) dX2_weigh_35 rfl rfl rfl (Nat.le_of_ble_eq_true rfl) rfl ?_
      refine wp_cst (v := .int (0 : Int32)) dX2_weigh_36 rfl rfl ?_
      refine wp_st (ls' := [(0, .ref 37), (1, .int x1), (2, .int (((2 : Int32) * x1) + (1 : Int32))), (3, .int (0 : Int32))]) dX2_weigh_37 rfl rfl rfl (Nat.le_of_ble_eq_true rfl) rfl ?_
      refine lp_l k (fun P1 k hA hB => ?_)
      refine wp_sub (q_X2_weigh_38 ax_fuel h k (fun o s p h => hP o s (hA o s p) h) (fun e6 s7 p h => have k := hB e6 s7 p; ?_)) rfl ⟨rfl, rfl, rfl, rfl, trivial⟩
      refine wp_inc (v := (x1 + (1 : Int32))) (ls' := [(0, .ref 37), (1, .int (x1 + (1 : Int32)))]) dX2_weigh_109 rfl (Nat.le_of_ble_eq_true rfl) rfl rfl ?_
      refine wp_goto dX2_weigh_112 rfl ?_
      exact wp_sub (ih h k hP hX) rfl ⟨rfl, rfl, trivial⟩
noncomputable def f_X2_weigh  (s : am_S) : am_F :=
  am_lm (L_X2_weigh_22 ax_fuel (0 : Int32) (am_sI (am_sI (am_sI (am_sI s 37 4 (0 : Int32)) 37 5 (0 : Int32)) 37 6 (0 : Int32)) 37 7 (0 : Int32))) (fun e8 s9 =>
    am_jn (fun (e11 : Int32) s12 =>
      some (.inl none, (am_sI s12 37 8 e11))
    ) (fun J10 =>
      if ((am_I s9 37 4) * (am_I s9 37 5)) ≤ 0 then
        J10 (0 : Int32) s9
      else
        if ¬ ((am_I s9 37 4) * (am_I s9 37 5)) = 0 then
          J10 (((10 : Int32) * (((am_I s9 37 7) * (am_I s9 37 5)) - ((am_I s9 37 6) * (am_I s9 37 4)))) / ((am_I s9 37 4) * (am_I s9 37 5))) s9
        else none
    )
  )
theorem s_X2_weigh {N n : Nat} {d : Nat}  {s : am_S} (h : am_sh N n s)  : am_S1 (am_sh N n) (d + 2) mX2_weigh [.ref 37] s (f_X2_weigh s) := by
  intro P Q k hP
  show am_WP (d + 2) mX2_weigh 0 [(0, .ref 37)] [] s Q
  unfold f_X2_weigh at k
  refine wp_ld (v := .ref 37) dX2_weigh_0 rfl rfl rfl rfl ?_
  refine wp_cst (v := .int (0 : Int32)) dX2_weigh_1 rfl rfl ?_
  refine wp_pI dX2_weigh_2 rfl rfl rfl (fun h => absurd h (by decide)) (kk_37 h) ?_
  refine wp_ld (v := .ref 37) dX2_weigh_5 rfl rfl rfl rfl ?_
  refine wp_cst (v := .int (0 : Int32)) dX2_weigh_6 rfl rfl ?_
  refine wp_pI dX2_weigh_7 rfl rfl rfl (fun h => absurd h (by decide)) (kk_37 (sh_sI h)) ?_
  refine wp_ld (v := .ref 37) dX2_weigh_10 rfl rfl rfl rfl ?_
  refine wp_cst (v := .int (0 : Int32)) dX2_weigh_11 rfl rfl ?_
  refine wp_pI dX2_weigh_12 rfl rfl rfl (fun h => absurd h (by decide)) (kk_37 (sh_sI (sh_sI h))) ?_
  refine wp_ld (v := .ref 37) dX2_weigh_15 rfl rfl rfl rfl ?_
  refine wp_cst (v := .int (0 : Int32)) dX2_weigh_16 rfl rfl ?_
  show am_WP (d + 2) mX2_weigh 17 _ _ _ Q
  refine wp_pI dX2_weigh_17 rfl rfl rfl (fun h => absurd h (by decide)) (kk_37 (sh_sI (sh_sI (sh_sI h)))) ?_
  refine wp_cst (v := .int (0 : Int32)) dX2_weigh_20 rfl rfl ?_
  refine wp_st (ls' := [(0, .ref 37), (1, .int (0 : Int32))]) dX2_weigh_21 rfl rfl rfl (Nat.le_of_ble_eq_true rfl) rfl ?_
  refine lp_m k (fun P1 k hA hB => ?_)
  refine wp_sub (q_X2_weigh_22 ax_fuel (sh_sI (sh_sI (sh_sI (sh_sI h)))) k (fun o s p h => hP o s (hA o s p) h) (fun e8 s9 p h => have k := hB e8 s9 p; ?_)) rfl ⟨rfl, rfl, trivial⟩
  refine wp_ld (v := .ref 37) dX2_weigh_115 rfl rfl rfl rfl ?_
  refine wq_gI dX2_weigh_116 rfl rfl (kk_37 h) (v := (am_I s9 37 4)) rfl ?_
  refine wp_ld (v := .ref 37) dX2_weigh_119 rfl rfl rfl rfl ?_
  refine wq_gI dX2_weigh_120 rfl rfl (kk_37 h) (v := (am_I s9 37 5)) rfl ?_
  refine wp_pu dX2_weigh_123 rfl rfl ?_
  refine wp_st (ls' := [(0, .ref 37), (1, .int ((am_I s9 37 4) * (am_I s9 37 5)))]) dX2_weigh_124 rfl rfl rfl (Nat.le_of_ble_eq_true rfl) rfl ?_
  refine wp_ld (v := .ref 37) dX2_weigh_125 rfl rfl rfl rfl ?_
  refine wp_ld (v := .int ((am_I s9 37 4) * (am_I s9 37 5))) dX2_weigh_126 rfl rfl rfl rfl ?_
  refine jn_rule k (fun J10 hJ10 k => ?_)
  have HJ10 : ∀ (e11 : Int32) (s12 : am_S), am_sh N n s12 → am_ok (J10 e11 s12) P → am_WP (d + 2) mX2_weigh 158 [] [.int e11, .ref 37] s12 Q := by
    intro e11 s12 h k
    replace k := hJ10 _ _ k
    refine wp_pI dX2_weigh_158 rfl rfl rfl (fun h => absurd h (by decide)) (kk_37 h) ?_
    exact wp_end dX2_weigh_161 rfl rfl (hP _ _ (ok_s k) (sh_sI h))
  refine wp_if_le dX2_weigh_127 rfl (fun c13 => have k := ok_pos c13 k; ?_) (fun c13 => have k := ok_neg c13 k; ?_)
  · refine wp_cst (v := .int (0 : Int32)) dX2_weigh_157 rfl rfl ?_
    exact wp_sub (HJ10 _ _ h k) rfl trivial
  · refine wp_cst (v := .int (10 : Int32)) dX2_weigh_130 rfl rfl ?_
    refine wp_ld (v := .ref 37) dX2_weigh_132 rfl rfl rfl rfl ?_
    refine wq_gI dX2_weigh_133 rfl rfl (kk_37 h) (v := (am_I s9 37 7)) rfl ?_
    refine wp_ld (v := .ref 37) dX2_weigh_136 rfl rfl rfl rfl ?_
    refine wq_gI dX2_weigh_137 rfl rfl (kk_37 h) (v := (am_I s9 37 5)) rfl ?_
    refine wp_pu dX2_weigh_140 rfl rfl ?_
    refine wp_ld (v := .ref 37) dX2_weigh_141 rfl rfl rfl rfl ?_
    refine wq_gI dX2_weigh_142 rfl rfl (kk_37 h) (v := (am_I s9 37 6)) rfl ?_
    refine wp_ld (v := .ref 37) dX2_weigh_145 rfl rfl rfl rfl ?_
    refine wq_gI dX2_weigh_146 rfl rfl (kk_37 h) (v := (am_I s9 37 4)) rfl ?_
    refine wp_pu dX2_weigh_149 rfl rfl ?_
    show am_WP (d + 2) mX2_weigh 150 _ _ _ Q
    refine wp_pu dX2_weigh_150 rfl rfl ?_
    refine wp_pu dX2_weigh_151 rfl rfl ?_
    refine wp_ld (v := .int ((am_I s9 37 4) * (am_I s9 37 5))) dX2_weigh_152 rfl rfl rfl rfl ?_
    obtain ⟨g14, k⟩ := ok_g k
    refine wp_div dX2_weigh_153 g14 ?_
    refine wp_goto dX2_weigh_154 rfl ?_
    exact wp_sub (HJ10 _ _ h k) rfl trivial
noncomputable def L_X2_foldAll_9 : Nat → Nat → Int32 → am_S → am_FE (Unit)
  | 0, _, _, _ => none
  | m + 1, a1, x4, s =>
    if (am_I s a1 2) ≤ x4 then
      some (.inr ((), s))
    else
      am_bi (f_X4_get a1 x4 (0 : Int32) s) (fun v5 s4 =>
        am_bi (f_X4_get a1 x4 (1 : Int32) s4) (fun v7 s6 =>
          am_bi (f_X2_foldOnce v5 v7 s6) (fun v9 s8 =>
            if v9 = 0 then
              some (.inl (.inl (some (.int x4)), s8))
            else
              L_X2_foldAll_9 m a1 (x4 + (1 : Int32)) s8
          )
        )
      )
theorem q_X2_foldAll_9 : ∀ (m : Nat) {N n : Nat} {d : Nat} {a1 : Nat} {x4 : Int32} {s : am_S} {P : (am_O × am_S) ⊕ (Unit × am_S) → Prop} {Q : am_O → am_S → Prop} (h : am_sh N n s) (fa1 : am_kf n a1 4) (k : am_ok (L_X2_foldAll_9 m a1 x4 s) P) (hP : ∀ o s, P (.inl (o, s)) → am_sh N n s → Q o s) (hX : ∀ (e : Unit) s, P (.inr (e, s)) → am_sh N n s → am_WP (d + 3) mX2_foldAll 48 [(0, .ref 37)] [] s Q), am_WP (d + 3) mX2_foldAll 9 [(0, .ref 37), (1, .ref a1), (4, .int x4)] [] s Q := by
  intro m
  induction m with
  | zero =>
    intro N n d a1 x4 s P Q h fa1 k hP hX
    exact (ok_no k).elim
  | succ m ih =>
    intro N n d a1 x4 s P Q h fa1 k hP hX
    unfold L_X2_foldAll_9 at k
    refine wp_ld (v := .int x4) dX2_foldAll_9 rfl rfl rfl rfl ?_
    refine wp_ld (v := .ref a1) dX2_foldAll_11 rfl rfl rfl rfl ?_
    refine wq_gI dX2_foldAll_12 rfl rfl (kk_f h fa1) (v := (am_I s a1 2)) rfl ?_
    refine wp_ic_ge dX2_foldAll_15 rfl (fun c3 => have k := ok_pos c3 k; ?_) (fun c3 => have k := ok_neg c3 k; ?_)
    · exact wp_sub (hX _ _ (ok_s k) h) rfl ⟨rfl, trivial⟩
    · refine wp_ld (v := .ref 37) dX2_foldAll_18 rfl rfl rfl rfl ?_
      refine wp_ld (v := .ref a1) dX2_foldAll_19 rfl rfl rfl rfl ?_
      refine wp_ld (v := .int x4) dX2_foldAll_20 rfl rfl rfl rfl ?_
      refine wp_cst (v := .int (0 : Int32)) dX2_foldAll_22 rfl rfl ?_
      refine c_i dX2_foldAll_23 rfl rfl rfl (am_inv_v rfl (kk_f h fa1) rfl rfl rfl) (s_X4_get h fa1) k (fun v5 s4 h k => ?_)
      refine wp_ld (v := .ref a1) dX2_foldAll_26 rfl rfl rfl rfl ?_
      refine wp_ld (v := .int x4) dX2_foldAll_27 rfl rfl rfl rfl ?_
      refine wp_cst (v := .int (1 : Int32)) dX2_foldAll_29 rfl rfl ?_
      refine c_i dX2_foldAll_30 rfl rfl rfl (am_inv_v rfl (kk_f h fa1) rfl rfl rfl) (s_X4_get h fa1) k (fun v7 s6 h k => ?_)
      refine c_i dX2_foldAll_33 rfl rfl rfl (am_inv_v rfl (kk_37 h) rfl rfl rfl) (s_X2_foldOnce h) k (fun v9 s8 h k => ?_)
      refine wp_if_ne dX2_foldAll_36 rfl (fun c10 => have k := ok_neg c10 k; ?_) (fun c10 => have k := ok_pos c10 k; ?_)
      · refine wp_inc (v := (x4 + (1 : Int32))) (ls' := [(0, .ref 37), (1, .ref a1), (4, .int (x4 + (1 : Int32)))]) dX2_foldAll_42 rfl (Nat.le_of_ble_eq_true rfl) rfl rfl ?_
        refine wp_goto dX2_foldAll_45 rfl ?_
        exact wp_sub (ih h fa1 k hP hX) rfl ⟨rfl, rfl, rfl, trivial⟩
      · refine wp_ld (v := .int x4) dX2_foldAll_39 rfl rfl rfl rfl ?_
        exact wp_end dX2_foldAll_41 rfl (am_end_i rfl) (hP _ _ (ok_s k) h)
noncomputable def f_X2_foldAll (b1 : Nat) (x2 : Int32) (x3 : Int32) (s : am_S) : am_F :=
  am_bu (f_X2_spread x2 x3 s) (fun s1 =>
    am_lm (L_X2_foldAll_9 ax_fuel b1 (0 : Int32) s1) (fun e11 s12 =>
      am_bu (f_X2_weigh s12) (fun s13 =>
        some (.inl (some (.int (-1 : Int32))), s13)
      )
    )
  )
theorem s_X2_foldAll {N n : Nat} {d : Nat} {b1 : Nat} {x2 : Int32} {x3 : Int32} {s : am_S} (h : am_sh N n s) (fb1 : am_kf n b1 4) : am_S1 (am_sh N n) (d + 3) mX2_foldAll [.ref 37, .ref b1, .int x2, .int x3] s (f_X2_foldAll b1 x2 x3 s) := by
  intro P Q k hP
  show am_WP (d + 3) mX2_foldAll 0 [(0, .ref 37), (1, .ref b1), (2, .int x2), (3, .int x3)] [] s Q
  unfold f_X2_foldAll at k
  refine wp_ld (v := .ref 37) dX2_foldAll_0 rfl rfl rfl rfl ?_
  refine wp_ld (v := .int x2) dX2_foldAll_1 rfl rfl rfl rfl ?_
  refine wp_ld (v := .int x3) dX2_foldAll_2 rfl rfl rfl rfl ?_
  refine c_u dX2_foldAll_3 rfl rfl rfl (am_inv_v rfl (kk_37 h) rfl rfl rfl) (s_X2_spread h) k (fun s1 h k => ?_)
  refine wp_cst (v := .int (0 : Int32)) dX2_foldAll_6 rfl rfl ?_
  refine wp_st (ls' := [(0, .ref 37), (1, .ref b1), (2, .int x2), (3, .int x3), (4, .int (0 : Int32))]) dX2_foldAll_7 rfl rfl rfl (Nat.le_of_ble_eq_true rfl) rfl ?_
  refine lp_m k (fun P1 k hA hB => ?_)
  refine wp_sub (q_X2_foldAll_9 ax_fuel h fb1 k (fun o s p h => hP o s (hA o s p) h) (fun e11 s12 p h => have k := hB e11 s12 p; ?_)) rfl ⟨rfl, rfl, rfl, trivial⟩
  refine wp_ld (v := .ref 37) dX2_foldAll_48 rfl rfl rfl rfl ?_
  refine c_u dX2_foldAll_49 rfl rfl rfl (am_inv_v rfl (kk_37 h) rfl rfl rfl) (s_X2_weigh h) k (fun s13 h k => ?_)
  refine wp_cst (v := .int (-1 : Int32)) dX2_foldAll_52 rfl rfl ?_
  exact wp_end dX2_foldAll_53 rfl (am_end_i rfl) (hP _ _ (ok_s k) h)
noncomputable def f_X7_breakOf (b1 : Nat) (s : am_S) : am_F :=
  am_bi (f_X2_foldAll b1 (am_I s 1 0) (am_I s 1 1) s) (fun v2 s1 =>
    some (.inl (some (.int v2)), s1)
  )
theorem s_X7_breakOf {N n : Nat} {d : Nat} {b1 : Nat} {s : am_S} (h : am_sh N n s) (fb1 : am_kf n b1 4) : am_S1 (am_sh N n) (d + 4) mX7_breakOf [.ref 0, .ref b1] s (f_X7_breakOf b1 s) := by
  intro P Q k hP
  show am_WP (d + 4) mX7_breakOf 0 [(0, .ref 0), (1, .ref b1)] [] s Q
  unfold f_X7_breakOf at k
  refine wp_ld (v := .ref 0) dX7_breakOf_0 rfl rfl rfl rfl ?_
  refine wp_gr dX7_breakOf_1 rfl rfl (kk_0 h) (rr_0_4 h) ?_
  refine wp_ld (v := .ref b1) dX7_breakOf_4 rfl rfl rfl rfl ?_
  refine wp_ld (v := .ref 0) dX7_breakOf_5 rfl rfl rfl rfl ?_
  refine wp_gr dX7_breakOf_6 rfl rfl (kk_0 h) (rr_0_0 h) ?_
  refine wq_gI dX7_breakOf_9 rfl rfl (kk_1 h) (v := (am_I s 1 0)) rfl ?_
  refine wp_ld (v := .ref 0) dX7_breakOf_12 rfl rfl rfl rfl ?_
  refine wp_gr dX7_breakOf_13 rfl rfl (kk_0 h) (rr_0_0 h) ?_
  refine wq_gI dX7_breakOf_16 rfl rfl (kk_1 h) (v := (am_I s 1 1)) rfl ?_
  refine c_i dX7_breakOf_19 rfl rfl rfl (am_inv_v rfl (kk_37 h) rfl rfl rfl) (s_X2_foldAll h fb1) k (fun v2 s1 h k => ?_)
  exact wp_end dX7_breakOf_22 rfl (am_end_i rfl) (hP _ _ (ok_s k) h)
noncomputable def f_X7_needMake (b1 : Nat) (s : am_S) : am_F :=
  am_bi (f_X7_breakOf b1 s) (fun v2 s1 =>
    if v2 = (-1 : Int32) then
      some (.inl none, s1)
    else
      some (.inr 1, am_tick s1)
  )
theorem s_X7_needMake {N n : Nat} {d : Nat} {b1 : Nat} {s : am_S} (h : am_sh N n s) (fb1 : am_kf n b1 4) : am_S1 (am_sh N n) (d + 5) mX7_needMake [.ref 0, .ref b1] s (f_X7_needMake b1 s) := by
  intro P Q k hP
  show am_WP (d + 5) mX7_needMake 0 [(0, .ref 0), (1, .ref b1)] [] s Q
  unfold f_X7_needMake at k
  refine wp_ld (v := .ref 0) dX7_needMake_0 rfl rfl rfl rfl ?_
  refine wp_ld (v := .ref b1) dX7_needMake_1 rfl rfl rfl rfl ?_
  refine c_i dX7_needMake_2 rfl rfl rfl (am_inv_v rfl (kk_0 h) rfl rfl rfl) (s_X7_breakOf h fb1) k (fun v2 s1 h k => ?_)
  refine wp_cst (v := .int (-1 : Int32)) dX7_needMake_5 rfl rfl ?_
  refine wp_ic_eq dX7_needMake_6 rfl (fun c3 => have k := ok_pos c3 k; ?_) (fun c3 => have k := ok_neg c3 k; ?_)
  · exact wp_end dX7_needMake_20 rfl rfl (hP _ _ (ok_s k) h)
  · exact wp_thr dX7_needMake_9 rfl rfl (am_thr_2 rfl rfl dX7_needMake_12 dX7_needMake_13 dX7_needMake_16 dX7_needMake_19 rfl) (hP _ _ (ok_s k) (sh_tk h))
noncomputable def f_X7_needWithin (x1 : Int32) (x2 : Int32) (x3 : Int32) (s : am_S) : am_F :=
  if x1 < x2 then
    some (.inr 0, am_tick s)
  else
    if x1 ≤ x3 then
      some (.inl none, s)
    else
      some (.inr 0, am_tick s)
theorem s_X7_needWithin {N n : Nat} {d : Nat} {x1 : Int32} {x2 : Int32} {x3 : Int32} {s : am_S} (h : am_sh N n s)  : am_S1 (am_sh N n) (d) mX7_needWithin [.int x1, .int x2, .int x3] s (f_X7_needWithin x1 x2 x3 s) := by
  intro P Q k hP
  show am_WP (d) mX7_needWithin 0 [(0, .int x1), (1, .int x2), (2, .int x3)] [] s Q
  unfold f_X7_needWithin at k
  refine wp_ld (v := .int x1) dX7_needWithin_0 rfl rfl rfl rfl ?_
  refine wp_ld (v := .int x2) dX7_needWithin_1 rfl rfl rfl rfl ?_
  refine wp_ic_lt dX7_needWithin_2 rfl (fun c1 => have k := ok_pos c1 k; ?_) (fun c1 => have k := ok_neg c1 k; ?_)
  · exact wp_thr dX7_needWithin_10 rfl rfl (am_thr_2 rfl rfl dX7_needWithin_13 dX7_needWithin_14 dX7_needWithin_17 dX7_needWithin_20 rfl) (hP _ _ (ok_s k) (sh_tk h))
  · refine wp_ld (v := .int x1) dX7_needWithin_5 rfl rfl rfl rfl ?_
    refine wp_ld (v := .int x3) dX7_needWithin_6 rfl rfl rfl rfl ?_
    refine wp_ic_le dX7_needWithin_7 rfl (fun c2 => have k := ok_pos c2 k; ?_) (fun c2 => have k := ok_neg c2 k; ?_)
    · exact wp_end dX7_needWithin_21 rfl rfl (hP _ _ (ok_s k) h)
    · exact wp_thr dX7_needWithin_10 rfl rfl (am_thr_2 rfl rfl dX7_needWithin_13 dX7_needWithin_14 dX7_needWithin_17 dX7_needWithin_20 rfl) (hP _ _ (ok_s k) (sh_tk h))
noncomputable def f_X7_needEars (x1 : Int32) (s : am_S) : am_F :=
  am_tu (f_X7_needWithin x1 (-9 : Int32) (9 : Int32) s) (fun s1 =>
    some (.inl none, s1)
  )
theorem s_X7_needEars {N n : Nat} {d : Nat} {x1 : Int32} {s : am_S} (h : am_sh N n s)  : am_S1 (am_sh N n) (d + 1) mX7_needEars [.int x1] s (f_X7_needEars x1 s) := by
  intro P Q k hP
  show am_WP (d + 1) mX7_needEars 0 [(0, .int x1)] [] s Q
  unfold f_X7_needEars at k
  refine wp_ld (v := .int x1) dX7_needEars_0 rfl rfl rfl rfl ?_
  refine wp_cst (v := .int (-9 : Int32)) dX7_needEars_1 rfl rfl ?_
  refine wp_cst (v := .int (9 : Int32)) dX7_needEars_3 rfl rfl ?_
  refine t_u dX7_needEars_5 rfl rfl rfl (am_inv_s rfl rfl rfl rfl) (s_X7_needWithin h) k rfl rfl hP (fun s1 h k => ?_)
  exact wp_end dX7_needEars_8 rfl rfl (hP _ _ (ok_s k) h)
noncomputable def f_X7_needThrow (x1 : Int32) (x2 : Int32) (x3 : Int32) (s : am_S) : am_F :=
  am_tu (f_X7_needEars x1 s) (fun s1 =>
    am_tu (f_X7_needWithin x2 (10 : Int32) (999 : Int32) s1) (fun s3 =>
      am_tu (f_X7_needWithin x3 (-16 : Int32) (16 : Int32) s3) (fun s5 =>
        some (.inl none, s5)
      )
    )
  )
theorem s_X7_needThrow {N n : Nat} {d : Nat} {x1 : Int32} {x2 : Int32} {x3 : Int32} {s : am_S} (h : am_sh N n s)  : am_S1 (am_sh N n) (d + 2) mX7_needThrow [.int x1, .int x2, .int x3] s (f_X7_needThrow x1 x2 x3 s) := by
  intro P Q k hP
  show am_WP (d + 2) mX7_needThrow 0 [(0, .int x1), (1, .int x2), (2, .int x3)] [] s Q
  unfold f_X7_needThrow at k
  refine wp_ld (v := .int x1) dX7_needThrow_0 rfl rfl rfl rfl ?_
  refine t_u dX7_needThrow_1 rfl rfl rfl (am_inv_s rfl rfl rfl rfl) (s_X7_needEars h) k rfl rfl hP (fun s1 h k => ?_)
  refine wp_ld (v := .int x2) dX7_needThrow_4 rfl rfl rfl rfl ?_
  refine wp_cst (v := .int (10 : Int32)) dX7_needThrow_5 rfl rfl ?_
  refine wp_cst (v := .int (999 : Int32)) dX7_needThrow_7 rfl rfl ?_
  refine t_u dX7_needThrow_10 rfl rfl rfl (am_inv_s rfl rfl rfl rfl) (s_X7_needWithin h) k rfl rfl hP (fun s3 h k => ?_)
  refine wp_ld (v := .int x3) dX7_needThrow_13 rfl rfl rfl rfl ?_
  refine wp_cst (v := .int (-16 : Int32)) dX7_needThrow_14 rfl rfl ?_
  refine wp_cst (v := .int (16 : Int32)) dX7_needThrow_16 rfl rfl ?_
  refine t_u dX7_needThrow_18 rfl rfl rfl (am_inv_s rfl rfl rfl rfl) (s_X7_needWithin h) k rfl rfl hP (fun s5 h k => ?_)
  exact wp_end dX7_needThrow_21 rfl rfl (hP _ _ (ok_s k) h)
noncomputable def f_X2_dampWeight (x1 : Int32) (s : am_S) : am_F :=
  some (.inl (some (.int ((am_I s 37 5) + (((am_I s 37 5) * x1) / (100 : Int32))))), s)
theorem s_X2_dampWeight {N n : Nat} {d : Nat} {x1 : Int32} {s : am_S} (h : am_sh N n s)  : am_S1 (am_sh N n) (d) mX2_dampWeight [.ref 37, .int x1] s (f_X2_dampWeight x1 s) := by
  intro P Q k hP
  show am_WP (d) mX2_dampWeight 0 [(0, .ref 37), (1, .int x1)] [] s Q
  unfold f_X2_dampWeight at k
  refine wp_ld (v := .ref 37) dX2_dampWeight_0 rfl rfl rfl rfl ?_
  refine wq_gI dX2_dampWeight_1 rfl rfl (kk_37 h) (v := (am_I s 37 5)) rfl ?_
  refine wp_ld (v := .ref 37) dX2_dampWeight_4 rfl rfl rfl rfl ?_
  refine wq_gI dX2_dampWeight_5 rfl rfl (kk_37 h) (v := (am_I s 37 5)) rfl ?_
  refine wp_ld (v := .int x1) dX2_dampWeight_8 rfl rfl rfl rfl ?_
  refine wp_pu dX2_dampWeight_9 rfl rfl ?_
  refine wp_cst (v := .int (100 : Int32)) dX2_dampWeight_10 rfl rfl ?_
  refine wp_div dX2_dampWeight_12 (by decide) ?_
  refine wp_pu dX2_dampWeight_13 rfl rfl ?_
  exact wp_end dX2_dampWeight_14 rfl (am_end_i rfl) (hP _ _ (ok_s k) h)
noncomputable def f_X7_sine (x1 : Int32) (s : am_S) : am_F :=
  am_jn (fun (e2 : Int32) s3 =>
    if am_in e2 17 = true then
      if (32 : Int32) ≤ (x1 &&& (63 : Int32)) then
        some (.inl (some (.int (-(am_I s3 3000005 e2.toNatClampNeg)))), s3)
      else
        some (.inl (some (.int (am_I s3 3000005 e2.toNatClampNeg))), s3)
    else none
  ) (fun J1 =>
    if (16 : Int32) < ((x1 &&& (63 : Int32)) &&& (31 : Int32)) then
      J1 ((32 : Int32) - ((x1 &&& (63 : Int32)) &&& (31 : Int32))) s
    else
      J1 ((x1 &&& (63 : Int32)) &&& (31 : Int32)) s
  )
theorem s_X7_sine {N n : Nat} {d : Nat} {x1 : Int32} {s : am_S} (h : am_sh N n s)  : am_S1 (am_sh N n) (d) mX7_sine [.int x1] s (f_X7_sine x1 s) := by
  intro P Q k hP
  show am_WP (d) mX7_sine 0 [(0, .int x1)] [] s Q
  unfold f_X7_sine at k
  refine wp_ld (v := .int x1) dX7_sine_0 rfl rfl rfl rfl ?_
  refine wp_cst (v := .int (63 : Int32)) dX7_sine_1 rfl rfl ?_
  refine wp_pu dX7_sine_3 rfl rfl ?_
  refine wp_st (ls' := [(0, .int x1), (1, .int (x1 &&& (63 : Int32)))]) dX7_sine_4 rfl rfl rfl (Nat.le_of_ble_eq_true rfl) rfl ?_
  refine wp_ld (v := .int (x1 &&& (63 : Int32))) dX7_sine_5 rfl rfl rfl rfl ?_
  refine wp_cst (v := .int (31 : Int32)) dX7_sine_6 rfl rfl ?_
  refine wp_pu dX7_sine_8 rfl rfl ?_
  refine wp_st (ls' := [(0, .int x1), (1, .int (x1 &&& (63 : Int32))), (2, .int ((x1 &&& (63 : Int32)) &&& (31 : Int32)))]) dX7_sine_9 rfl rfl rfl (Nat.le_of_ble_eq_true rfl) rfl ?_
  refine wp_cst (v := .ref 3000005) dX7_sine_10 rfl rfl ?_
  refine wp_ld (v := .int ((x1 &&& (63 : Int32)) &&& (31 : Int32))) dX7_sine_13 rfl rfl rfl rfl ?_
  refine wp_cst (v := .int (16 : Int32)) dX7_sine_14 rfl rfl ?_
  show am_WP (d) mX7_sine 16 _ _ _ Q
  refine jn_rule k (fun J1 hJ1 k => ?_)
  have HJ1 : ∀ (e2 : Int32) (s3 : am_S), am_sh N n s3 → am_ok (J1 e2 s3) P → am_WP (d) mX7_sine 27 [(1, .int (x1 &&& (63 : Int32)))] [.int e2, .ref 3000005] s3 Q := by
    intro e2 s3 h k
    replace k := hJ1 _ _ k
    obtain ⟨g4, k⟩ := ok_g k
    refine wq_sald dX7_sine_27 (kk_3000005 h) g4 (v := (am_I s3 3000005 e2.toNatClampNeg)) rfl ?_
    refine wp_st (ls' := [(1, .int (x1 &&& (63 : Int32))), (3, .int (am_I s3 3000005 e2.toNatClampNeg))]) dX7_sine_28 rfl rfl rfl (Nat.le_of_ble_eq_true rfl) rfl ?_
    refine wp_ld (v := .int (x1 &&& (63 : Int32))) dX7_sine_29 rfl rfl rfl rfl ?_
    refine wp_cst (v := .int (32 : Int32)) dX7_sine_30 rfl rfl ?_
    refine wp_ic_ge dX7_sine_32 rfl (fun c5 => have k := ok_pos c5 k; ?_) (fun c5 => have k := ok_neg c5 k; ?_)
    · refine wp_ld (v := .int (am_I s3 3000005 e2.toNatClampNeg)) dX7_sine_39 rfl rfl rfl rfl ?_
      refine wp_pu dX7_sine_40 rfl rfl ?_
      exact wp_end dX7_sine_41 rfl (am_end_i rfl) (hP _ _ (ok_s k) h)
    · refine wp_ld (v := .int (am_I s3 3000005 e2.toNatClampNeg)) dX7_sine_35 rfl rfl rfl rfl ?_
      refine wp_goto dX7_sine_36 rfl ?_
      exact wp_end dX7_sine_41 rfl (am_end_i rfl) (hP _ _ (ok_s k) h)
  refine wp_ic_gt dX7_sine_16 rfl (fun c6 => have k := ok_pos c6 k; ?_) (fun c6 => have k := ok_neg c6 k; ?_)
  · refine wp_cst (v := .int (32 : Int32)) dX7_sine_23 rfl rfl ?_
    refine wp_ld (v := .int ((x1 &&& (63 : Int32)) &&& (31 : Int32))) dX7_sine_25 rfl rfl rfl rfl ?_
    refine wp_pu dX7_sine_26 rfl rfl ?_
    exact wp_sub (HJ1 _ _ h k) rfl ⟨rfl, trivial⟩
  · refine wp_ld (v := .int ((x1 &&& (63 : Int32)) &&& (31 : Int32))) dX7_sine_19 rfl rfl rfl rfl ?_
    refine wp_goto dX7_sine_20 rfl ?_
    exact wp_sub (HJ1 _ _ h k) rfl ⟨rfl, trivial⟩
noncomputable def f_X7_cosine (x1 : Int32) (s : am_S) : am_F :=
  am_bi (f_X7_sine (x1 + (16 : Int32)) s) (fun v2 s1 =>
    some (.inl (some (.int v2)), s1)
  )
theorem s_X7_cosine {N n : Nat} {d : Nat} {x1 : Int32} {s : am_S} (h : am_sh N n s)  : am_S1 (am_sh N n) (d + 1) mX7_cosine [.int x1] s (f_X7_cosine x1 s) := by
  intro P Q k hP
  show am_WP (d + 1) mX7_cosine 0 [(0, .int x1)] [] s Q
  unfold f_X7_cosine at k
  refine wp_ld (v := .int x1) dX7_cosine_0 rfl rfl rfl rfl ?_
  refine wp_cst (v := .int (16 : Int32)) dX7_cosine_1 rfl rfl ?_
  refine wp_pu dX7_cosine_3 rfl rfl ?_
  refine c_i dX7_cosine_4 rfl rfl rfl (am_inv_s rfl rfl rfl rfl) (s_X7_sine h) k (fun v2 s1 h k => ?_)
  exact wp_end dX7_cosine_7 rfl (am_end_i rfl) (hP _ _ (ok_s k) h)
noncomputable def f_X1_begin (x1 : Int32) (x2 : Int32) (x3 : Int32) (s : am_S) : am_F :=
  am_bi (f_X2_dampWeight (am_I s 1 2) (am_sI s 41 2 x1)) (fun v2 s1 =>
    am_bi (f_X7_cosine (x3 &&& (63 : Int32)) (am_sI (am_sI (am_sL s1 41 3 (v2 * (am_I s1 2 19)).toInt64) 41 4 (0 : Int32)) 41 5 (2000 : Int32))) (fun v4 s3 =>
      am_bi (f_X7_sine (x3 &&& (63 : Int32)) (am_sI s3 41 6 ((x2 * v4) / (1000 : Int32)))) (fun v6 s5 =>
        some (.inl none, (am_sI (am_sI (am_sI (am_sI (am_sI (am_sI (am_sI (am_sI (am_sI s5 41 7 ((x2 * v6) / (1000 : Int32))) 41 8 ((16 : Int32) * (x3 &&& (63 : Int32)))) 41 9 (0 : Int32)) 41 10 (0 : Int32)) 41 11 (0 : Int32)) 41 12 (2000 : Int32)) 41 13 (0 : Int32)) 41 14 (0 : Int32)) 41 15 (0 : Int32)))
      )
    )
  )
theorem s_X1_begin {N n : Nat} {d : Nat} {x1 : Int32} {x2 : Int32} {x3 : Int32} {s : am_S} (h : am_sh N n s)  : am_S1 (am_sh N n) (d + 2) mX1_begin [.ref 41, .int x1, .int x2, .int x3] s (f_X1_begin x1 x2 x3 s) := by
  intro P Q k hP
  show am_WP (d + 2) mX1_begin 0 [(0, .ref 41), (1, .int x1), (2, .int x2), (3, .int x3)] [] s Q
  unfold f_X1_begin at k
  refine wp_ld (v := .int x3) dX1_begin_0 rfl rfl rfl rfl ?_
  refine wp_cst (v := .int (63 : Int32)) dX1_begin_1 rfl rfl ?_
  refine wp_pu dX1_begin_3 rfl rfl ?_
  refine wp_st (ls' := [(0, .ref 41), (1, .int x1), (2, .int x2), (3, .int x3), (4, .int (x3 &&& (63 : Int32)))]) dX1_begin_4 rfl rfl rfl (Nat.le_of_ble_eq_true rfl) rfl ?_
  refine wp_ld (v := .ref 41) dX1_begin_6 rfl rfl rfl rfl ?_
  refine wp_ld (v := .int x1) dX1_begin_7 rfl rfl rfl rfl ?_
  refine wp_pI dX1_begin_8 rfl rfl rfl (fun h => absurd h (by decide)) (kk_41 h) ?_
  refine wp_ld (v := .ref 41) dX1_begin_11 rfl rfl rfl rfl ?_
  refine wp_ld (v := .ref 41) dX1_begin_12 rfl rfl rfl rfl ?_
  refine wp_gr dX1_begin_13 rfl rfl (kk_41 (sh_sI h)) (rr_41_1 (sh_sI h)) ?_
  refine wp_ld (v := .ref 41) dX1_begin_16 rfl rfl rfl rfl ?_
  show am_WP (d + 2) mX1_begin 17 _ _ _ Q
  refine wp_gr dX1_begin_17 rfl rfl (kk_41 (sh_sI h)) (rr_41_0 (sh_sI h)) ?_
  refine wq_gI dX1_begin_20 rfl rfl (kk_1 (sh_sI h)) (v := (am_I s 1 2)) rfl ?_
  refine c_i dX1_begin_23 rfl rfl rfl (am_inv_v rfl (kk_37 (sh_sI h)) rfl rfl rfl) (s_X2_dampWeight (sh_sI h)) k (fun v2 s1 h k => ?_)
  refine wp_ld (v := .ref 41) dX1_begin_26 rfl rfl rfl rfl ?_
  refine wp_gr dX1_begin_27 rfl rfl (kk_41 h) (rr_41_0 h) ?_
  refine wp_gr dX1_begin_30 rfl rfl (kk_1 h) (rr_1_3 h) ?_
  refine wp_cst (v := .int (19 : Int32)) dX1_begin_33 rfl rfl ?_
  refine wq_iald dX1_begin_35 (kk_2 h) (by decide) (v := (am_I s1 2 19)) rfl ?_
  refine wp_pu dX1_begin_36 rfl rfl ?_
  refine wp_pu dX1_begin_37 rfl rfl ?_
  refine wp_pL dX1_begin_38 rfl rfl rfl (kk_41 h) ?_
  refine wp_ld (v := .ref 41) dX1_begin_41 rfl rfl rfl rfl ?_
  refine wp_cst (v := .int (0 : Int32)) dX1_begin_42 rfl rfl ?_
  refine wp_pI dX1_begin_43 rfl rfl rfl (fun h => absurd h (by decide)) (kk_41 (sh_sL h)) ?_
  show am_WP (d + 2) mX1_begin 46 _ _ _ Q
  refine wp_ld (v := .ref 41) dX1_begin_46 rfl rfl rfl rfl ?_
  refine wp_cst (v := .int (2000 : Int32)) dX1_begin_47 rfl rfl ?_
  refine wp_pI dX1_begin_50 rfl rfl rfl (fun h => absurd h (by decide)) (kk_41 (sh_sI (sh_sL h))) ?_
  refine wp_ld (v := .ref 41) dX1_begin_53 rfl rfl rfl rfl ?_
  refine wp_ld (v := .int x2) dX1_begin_54 rfl rfl rfl rfl ?_
  refine wp_ld (v := .int (x3 &&& (63 : Int32))) dX1_begin_55 rfl rfl rfl rfl ?_
  refine c_i dX1_begin_57 rfl rfl rfl (am_inv_s rfl rfl rfl rfl) (s_X7_cosine (sh_sI (sh_sI (sh_sL h)))) k (fun v4 s3 h k => ?_)
  refine wp_pu dX1_begin_60 rfl rfl ?_
  refine wp_cst (v := .int (1000 : Int32)) dX1_begin_61 rfl rfl ?_
  refine wp_div dX1_begin_64 (by decide) ?_
  refine wp_pI dX1_begin_65 rfl rfl rfl (fun h => absurd h (by decide)) (kk_41 h) ?_
  refine wp_ld (v := .ref 41) dX1_begin_68 rfl rfl rfl rfl ?_
  refine wp_ld (v := .int x2) dX1_begin_69 rfl rfl rfl rfl ?_
  refine wp_ld (v := .int (x3 &&& (63 : Int32))) dX1_begin_70 rfl rfl rfl rfl ?_
  refine c_i dX1_begin_72 rfl rfl rfl (am_inv_s rfl rfl rfl rfl) (s_X7_sine (sh_sI h)) k (fun v6 s5 h k => ?_)
  refine wp_pu dX1_begin_75 rfl rfl ?_
  refine wp_cst (v := .int (1000 : Int32)) dX1_begin_76 rfl rfl ?_
  refine wp_div dX1_begin_79 (by decide) ?_
  refine wp_pI dX1_begin_80 rfl rfl rfl (fun h => absurd h (by decide)) (kk_41 h) ?_
  refine wp_ld (v := .ref 41) dX1_begin_83 rfl rfl rfl rfl ?_
  refine wp_cst (v := .int (16 : Int32)) dX1_begin_84 rfl rfl ?_
  refine wp_ld (v := .int (x3 &&& (63 : Int32))) dX1_begin_86 rfl rfl rfl rfl ?_
  refine wp_pu dX1_begin_88 rfl rfl ?_
  refine wp_pI dX1_begin_89 rfl rfl rfl (fun h => absurd h (by decide)) (kk_41 (sh_sI h)) ?_
  refine wp_ld (v := .ref 41) dX1_begin_92 rfl rfl rfl rfl ?_
  refine wp_cst (v := .int (0 : Int32)) dX1_begin_93 rfl rfl ?_
  show am_WP (d + 2) mX1_begin 94 _ _ _ Q
  refine wp_pI dX1_begin_94 rfl rfl rfl (fun h => absurd h (by decide)) (kk_41 (sh_sI (sh_sI h))) ?_
  refine wp_ld (v := .ref 41) dX1_begin_97 rfl rfl rfl rfl ?_
  refine wp_cst (v := .int (0 : Int32)) dX1_begin_98 rfl rfl ?_
  refine wp_pI dX1_begin_99 rfl rfl rfl (fun h => absurd h (by decide)) (kk_41 (sh_sI (sh_sI (sh_sI h)))) ?_
  refine wp_ld (v := .ref 41) dX1_begin_102 rfl rfl rfl rfl ?_
  refine wp_cst (v := .int (0 : Int32)) dX1_begin_103 rfl rfl ?_
  refine wp_pI dX1_begin_104 rfl rfl rfl (fun h => absurd h (by decide)) (kk_41 (sh_sI (sh_sI (sh_sI (sh_sI h))))) ?_
  refine wp_ld (v := .ref 41) dX1_begin_107 rfl rfl rfl rfl ?_
  refine wp_cst (v := .int (2000 : Int32)) dX1_begin_108 rfl rfl ?_
  refine wp_pI dX1_begin_111 rfl rfl rfl (fun h => absurd h (by decide)) (kk_41 (sh_sI (sh_sI (sh_sI (sh_sI (sh_sI h)))))) ?_
  refine wp_ld (v := .ref 41) dX1_begin_114 rfl rfl rfl rfl ?_
  refine wp_cst (v := .int (0 : Int32)) dX1_begin_115 rfl rfl ?_
  show am_WP (d + 2) mX1_begin 116 _ _ _ Q
  refine wp_pI dX1_begin_116 rfl rfl rfl (fun h => absurd h (by decide)) (kk_41 (sh_sI (sh_sI (sh_sI (sh_sI (sh_sI (sh_sI h))))))) ?_
  refine wp_ld (v := .ref 41) dX1_begin_119 rfl rfl rfl rfl ?_
  refine wp_cst (v := .int (0 : Int32)) dX1_begin_120 rfl rfl ?_
  refine wp_pI dX1_begin_121 rfl rfl rfl (fun h => absurd h (by decide)) (kk_41 (sh_sI (sh_sI (sh_sI (sh_sI (sh_sI (sh_sI (sh_sI h)))))))) ?_
  refine wp_ld (v := .ref 41) dX1_begin_124 rfl rfl rfl rfl ?_
  refine wp_cst (v := .int (0 : Int32)) dX1_begin_125 rfl rfl ?_
  refine wp_pI dX1_begin_126 rfl rfl rfl (fun h => absurd h (by decide)) (kk_41 (sh_sI (sh_sI (sh_sI (sh_sI (sh_sI (sh_sI (sh_sI (sh_sI h))))))))) ?_
  exact wp_end dX1_begin_129 rfl rfl (hP _ _ (ok_s k) (sh_sI (sh_sI (sh_sI (sh_sI (sh_sI (sh_sI (sh_sI (sh_sI (sh_sI h))))))))))
noncomputable def f_X1_goesOn  (s : am_S) : am_F :=
  if (am_I s 41 15) = 0 then
    if (200 : Int32) ≤ (am_I s 41 11) then
      some (.inl (some (.int (0 : Int32))), s)
    else
      some (.inl (some (.int (1 : Int32))), s)
  else
    some (.inl (some (.int (0 : Int32))), s)
theorem s_X1_goesOn {N n : Nat} {d : Nat}  {s : am_S} (h : am_sh N n s)  : am_S1 (am_sh N n) (d) mX1_goesOn [.ref 41] s (f_X1_goesOn s) := by
  intro P Q k hP
  show am_WP (d) mX1_goesOn 0 [(0, .ref 41)] [] s Q
  unfold f_X1_goesOn at k
  refine wp_ld (v := .ref 41) dX1_goesOn_0 rfl rfl rfl rfl ?_
  refine wq_gI dX1_goesOn_1 rfl rfl (kk_41 h) (v := (am_I s 41 15)) rfl ?_
  refine wp_if_ne dX1_goesOn_4 rfl (fun c1 => have k := ok_neg c1 k; ?_) (fun c1 => have k := ok_pos c1 k; ?_)
  · refine wp_cst (v := .int (0 : Int32)) dX1_goesOn_21 rfl rfl ?_
    exact wp_end dX1_goesOn_22 rfl rfl (hP _ _ (ok_s k) h)
  · refine wp_ld (v := .ref 41) dX1_goesOn_7 rfl rfl rfl rfl ?_
    refine wq_gI dX1_goesOn_8 rfl rfl (kk_41 h) (v := (am_I s 41 11)) rfl ?_
    refine wp_cst (v := .int (200 : Int32)) dX1_goesOn_11 rfl rfl ?_
    refine wp_ic_ge dX1_goesOn_14 rfl (fun c2 => have k := ok_pos c2 k; ?_) (fun c2 => have k := ok_neg c2 k; ?_)
    · refine wp_cst (v := .int (0 : Int32)) dX1_goesOn_21 rfl rfl ?_
      exact wp_end dX1_goesOn_22 rfl rfl (hP _ _ (ok_s k) h)
    · refine wp_cst (v := .int (1 : Int32)) dX1_goesOn_17 rfl rfl ?_
      refine wp_goto dX1_goesOn_18 rfl ?_
      exact wp_end dX1_goesOn_22 rfl rfl (hP _ _ (ok_s k) h)
noncomputable def L_X7_steepness_8 : Nat → Int32 → Int32 → Int32 → Int32 → Int32 → am_S → am_FE (Int32)
  | 0, _, _, _, _, _, _ => none
  | m + 1, x0, x1, x2, x3, x4, s =>
    if (16 : Int32) ≤ x4 then
      some (.inr (x2, s))
    else
      if x3 ≤ x2 then
        some (.inr (x2, s))
      else
        if am_in ((x2 + x3) / (2 : Int32)) 16 = true then
          if am_in ((15 : Int32) - ((x2 + x3) / (2 : Int32))) 16 = true then
            if (x1 * (am_I s 3000006 (((x2 + x3) / (2 : Int32)).toNatClampNeg))) ≤ (x0 * (am_I s 3000006 (((15 : Int32) - ((x2 + x3) / (2 : Int32))).toNatClampNeg))) then
              L_X7_steepness_8 m x0 x1 x2 ((x2 + x3) / (2 : Int32)) (x4 + (1 : Int32)) s
            else
              L_X7_steepness_8 m x0 x1 (((x2 + x3) / (2 : Int32)) + (1 : Int32)) x3 (x4 + (1 : Int32)) s
          else none
        else none
theorem q_X7_steepness_8 : ∀ (m : Nat) {N n : Nat} {d : Nat} {x0 : Int32} {x1 : Int32} {x2 : Int32} {x3 : Int32} {x4 : Int32} {s : am_S} {P : (am_O × am_S) ⊕ (Int32 × am_S) → Prop} {Q : am_O → am_S → Prop} (h : am_sh N n s)  (k : am_ok (L_X7_steepness_8 m x0 x1 x2 x3 x4 s) P) (hP : ∀ o s, P (.inl (o, s)) → am_sh N n s → Q o s) (hX : ∀ (e : Int32) s, P (.inr (e, s)) → am_sh N n s → am_WP (d) mX7_steepness 66 [(2, .int e)] [] s Q), am_WP (d) mX7_steepness 8 [(0, .int x0), (1, .int x1), (2, .int x2), (3, .int x3), (4, .int x4)] [] s Q := by
  intro m
  induction m with
  | zero =>
    intro N n d x0 x1 x2 x3 x4 s P Q h  k hP hX
    exact (ok_no k).elim
  | succ m ih =>
    intro N n d x0 x1 x2 x3 x4 s P Q h  k hP hX
    unfold L_X7_steepness_8 at k
    refine wp_ld (v := .int x4) dX7_steepness_8 rfl rfl rfl rfl ?_
    refine wp_cst (v := .int (16 : Int32)) dX7_steepness_10 rfl rfl ?_
    refine wp_ic_ge dX7_steepness_12 rfl (fun c1 => have k := ok_pos c1 k; ?_) (fun c1 => have k := ok_neg c1 k; ?_)
    · exact wp_sub (hX _ _ (ok_s k) h) rfl ⟨rfl, trivial⟩
    · refine wp_ld (v := .int x2) dX7_steepness_15 rfl rfl rfl rfl ?_
      refine wp_ld (v := .int x3) dX7_steepness_16 rfl rfl rfl rfl ?_
      refine wp_ic_ge dX7_steepness_17 rfl (fun c2 => have k := ok_pos c2 k; ?_) (fun c2 => have k := ok_neg c2 k; ?_)
      · exact wp_sub (hX _ _ (ok_s k) h) rfl ⟨rfl, trivial⟩
      · refine wp_ld (v := .int x2) dX7_steepness_20 rfl rfl rfl rfl ?_
        refine wp_ld (v := .int x3) dX7_steepness_21 rfl rfl rfl rfl ?_
        refine wp_pu dX7_steepness_22 rfl rfl ?_
        refine wp_cst (v := .int (2 : Int32)) dX7_steepness_23 rfl rfl ?_
        refine wp_div dX7_steepness_24 (by decide) ?_
        refine wp_st (ls' := [(0, .int x0), (1, .int x1), (2, .int x2), (3, .int x3), (4, .int x4), (5, .int ((x2 + x3) / (2 : Int32)))]) dX7_steepness_25 rfl rfl rfl (Nat.le_of_ble_eq_true rfl) rfl ?_
        refine wp_ld (v := .int x1) dX7_steepness_27 rfl rfl rfl rfl ?_
        refine wp_cst (v := .ref 3000006) dX7_steepness_28 rfl rfl ?_
        refine wp_ld (v := .int ((x2 + x3) / (2 : Int32))) dX7_steepness_31 rfl rfl rfl rfl ?_
        obtain ⟨g3, k⟩ := ok_g k
        refine wq_sald dX7_steepness_33 (kk_3000006 h) g3 (v := (am_I s 3000006 (((x2 + x3) / (2 : Int32)).toNatClampNeg))) rfl ?_
        refine wp_pu dX7_steepness_34 rfl rfl ?_
        show am_WP (d) mX7_steepness 35 _ _ _ Q
        refine wp_ld (v := .int x0) dX7_steepness_35 rfl rfl rfl rfl ?_
        refine wp_cst (v := .ref 3000006) dX7_steepness_36 rfl rfl ?_
        refine wp_cst (v := .int (15 : Int32)) dX7_steepness_39 rfl rfl ?_
        refine wp_ld (v := .int ((x2 + x3) / (2 : Int32))) dX7_steepness_41 rfl rfl rfl rfl ?_
        refine wp_pu dX7_steepness_43 rfl rfl ?_
        obtain ⟨g4, k⟩ := ok_g k
        refine wq_sald dX7_steepness_44 (kk_3000006 h) g4 (v := (am_I s 3000006 (((15 : Int32) - ((x2 + x3) / (2 : Int32))).toNatClampNeg))) rfl ?_
        refine wp_pu dX7_steepness_45 rfl rfl ?_
        refine wp_ic_le dX7_steepness_46 rfl (fun c5 => have k := ok_pos c5 k; ?_) (fun c5 => have k := ok_neg c5 k; ?_)
        · refine wp_ld (v := .int ((x2 + x3) / (2 : Int32))) dX7_steepness_57 rfl rfl rfl rfl ?_
          refine wp_st (ls' := [(0, .int x0), (1, .int x1), (2, .int x2), (3, .int ((x2 + x3) / (2 : Int32))), (4, .int x4), (5, .int ((x2 + x3) / (2 : Int32)))]) dX7_steepness_59 rfl rfl rfl (Nat.le_of_ble_eq_true rfl) rfl ?_
          refine wp_inc (v := (x4 + (1 : Int32))) (ls' := [(0, .int x0), (1, .int x1), (2, .int x2), (3, .int ((x2 + x3) / (2 : Int32))), (4, .int (x4 + (1 : Int32))), (5, .int ((x2 + x3) / (2 : Int32)))]) dX7_steepness_60 rfl (Nat.le_of_ble_eq_true rfl) rfl rfl ?_
          refine wp_goto dX7_steepness_63 rfl ?_
          exact wp_sub (ih h k hP hX) rfl ⟨rfl, rfl, rfl, rfl, rfl, trivial⟩
        · refine wp_ld (v := .int ((x2 + x3) / (2 : Int32))) dX7_steepness_49 rfl rfl rfl rfl ?_
          refine wp_cst (v := .int (1 : Int32)) dX7_steepness_51 rfl rfl ?_
          refine wp_pu dX7_steepness_52 rfl rfl ?_
          refine wp_st (ls' := [(0, .int x0), (1, .int x1), (2, .int (((x2 + x3) / (2 : Int32)) + (1 : Int32))), (3, .int x3), (4, .int x4), (5, .int ((x2 + x3) / (2 : Int32)))]) dX7_steepness_53 rfl rfl rfl (Nat.le_of_ble_eq_true rfl) rfl ?_
          refine wp_goto dX7_steepness_54 rfl ?_
          refine wp_inc (v := (x4 + (1 : Int32))) (ls' := [(0, .int x0), (1, .int x1), (2, .int (((x2 + x3) / (2 : Int32)) + (1 : Int32))), (3, .int x3), (4, .int (x4 + (1 : Int32))), (5, .int ((x2 + x3) / (2 : Int32)))]) dX7_steepness_60 rfl (Nat.le_of_ble_eq_true rfl) rfl rfl ?_
          refine wp_goto dX7_steepness_63 rfl ?_
          exact wp_sub (ih h k hP hX) rfl ⟨rfl, rfl, rfl, rfl, rfl, trivial⟩
noncomputable def f_X7_steepness (x1 : Int32) (x2 : Int32) (s : am_S) : am_F :=
  am_lm (L_X7_steepness_8 ax_fuel x1 x2 (0 : Int32) (16 : Int32) (0 : Int32) s) (fun e6 s7 =>
    some (.inl (some (.int e6)), s7)
  )
theorem s_X7_steepness {N n : Nat} {d : Nat} {x1 : Int32} {x2 : Int32} {s : am_S} (h : am_sh N n s)  : am_S1 (am_sh N n) (d) mX7_steepness [.int x1, .int x2] s (f_X7_steepness x1 x2 s) := by
  intro P Q k hP
  show am_WP (d) mX7_steepness 0 [(0, .int x1), (1, .int x2)] [] s Q
  unfold f_X7_steepness at k
  refine wp_cst (v := .int (0 : Int32)) dX7_steepness_0 rfl rfl ?_
  refine wp_st (ls' := [(0, .int x1), (1, .int x2), (2, .int (0 : Int32))]) dX7_steepness_1 rfl rfl rfl (Nat.le_of_ble_eq_true rfl) rfl ?_
  refine wp_cst (v := .int (16 : Int32)) dX7_steepness_2 rfl rfl ?_
  refine wp_st (ls' := [(0, .int x1), (1, .int x2), (2, .int (0 : Int32)), (3, .int (16 : Int32))]) dX7_steepness_4 rfl rfl rfl (Nat.le_of_ble_eq_true rfl) rfl ?_
  refine wp_cst (v := .int (0 : Int32)) dX7_steepness_5 rfl rfl ?_
  refine wp_st (ls' := [(0, .int x1), (1, .int x2), (2, .int (0 : Int32)), (3, .int (16 : Int32)), (4, .int (0 : Int32))]) dX7_steepness_6 rfl rfl rfl (Nat.le_of_ble_eq_true rfl) rfl ?_
  refine lp_m k (fun P1 k hA hB => ?_)
  refine wp_sub (q_X7_steepness_8 ax_fuel h k (fun o s p h => hP o s (hA o s p) h) (fun e6 s7 p h => have k := hB e6 s7 p; ?_)) rfl ⟨rfl, rfl, rfl, rfl, rfl, trivial⟩
  refine wp_ld (v := .int e6) dX7_steepness_66 rfl rfl rfl rfl ?_
  exact wp_end dX7_steepness_67 rfl (am_end_i rfl) (hP _ _ (ok_s k) h)
