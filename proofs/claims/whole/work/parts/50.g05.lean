noncomputable def L_X8_isWord_39 : Nat → Nat → Int32 → Int32 → am_S → am_FE (Int32)
  | 0, _, _, _, _ => none
  | m + 1, a1, x2, x3, s =>
    if x2 = 0 then
      some (.inr (x2, s))
    else
      if (Int32.ofNat (am_k0 a1).2) ≤ x3 then
        some (.inr (x2, s))
      else
        if am_in ((am_I s 55 10) + x3) 400 = true then
          if am_in x3 (am_k0 a1).2 = true then
            if (am_I s 59 (((am_I s 55 10) + x3).toNatClampNeg)) = (am_I s a1 x3.toNatClampNeg) then
              L_X8_isWord_39 m a1 (1 : Int32) (x3 + (1 : Int32)) s
            else
              L_X8_isWord_39 m a1 (0 : Int32) (x3 + (1 : Int32)) s
          else none
        else none
theorem q_X8_isWord_39 : ∀ (m : Nat) {N n : Nat} {d : Nat} {a1 : Nat} {x2 : Int32} {x3 : Int32} {s : am_S} {P : (am_O × am_S) ⊕ (Int32 × am_S) → Prop} {Q : am_O → am_S → Prop} (h : am_sh N n s) (fa1 : (am_k0 a1).1 = 18) (k : am_ok (L_X8_isWord_39 m a1 x2 x3 s) P) (hP : ∀ o s, P (.inl (o, s)) → am_sh N n s → Q o s) (hX : ∀ (e : Int32) s, P (.inr (e, s)) → am_sh N n s → am_WP (d) mX8_isWord 82 [(2, .int e)] [] s Q), am_WP (d) mX8_isWord 39 [(0, .ref 55), (1, .ref a1), (2, .int x2), (3, .int x3)] [] s Q := by
  intro m
  induction m with
  | zero =>
    intro N n d a1 x2 x3 s P Q h fa1 k hP hX
    exact (ok_no k).elim
  | succ m ih =>
    intro N n d a1 x2 x3 s P Q h fa1 k hP hX
    unfold L_X8_isWord_39 at k
    refine wp_ld (v := .int x2) dX8_isWord_39 rfl rfl rfl rfl ?_
    refine wp_if_eq dX8_isWord_40 rfl (fun c4 => have k := ok_pos c4 k; ?_) (fun c4 => have k := ok_neg c4 k; ?_)
    · exact wp_sub (hX _ _ (ok_s k) h) rfl ⟨rfl, trivial⟩
    · refine wp_ld (v := .int x3) dX8_isWord_43 rfl rfl rfl rfl ?_
      refine wp_ld (v := .ref a1) dX8_isWord_44 rfl rfl rfl rfl ?_
      refine wq_slen dX8_isWord_45 rfl (kk_t h fa1) (Nat.le_of_ble_eq_true rfl) ?_
      refine wp_ic_ge dX8_isWord_48 rfl (fun c5 => have k := ok_pos c5 k; ?_) (fun c5 => have k := ok_neg c5 k; ?_)
      · exact wp_sub (hX _ _ (ok_s k) h) rfl ⟨rfl, trivial⟩
      · refine wp_ld (v := .ref 55) dX8_isWord_51 rfl rfl rfl rfl ?_
        refine wp_gr dX8_isWord_52 rfl rfl (kk_55 h) (rr_55_4 h) ?_
        refine wp_ld (v := .ref 55) dX8_isWord_55 rfl rfl rfl rfl ?_
        refine wq_gI dX8_isWord_56 rfl rfl (kk_55 h) (v := (am_I s 55 10)) rfl ?_
        refine wp_ld (v := .int x3) dX8_isWord_59 rfl rfl rfl rfl ?_
        refine wp_pu dX8_isWord_60 rfl rfl ?_
        obtain ⟨g6, k⟩ := ok_g k
        refine wq_iald dX8_isWord_61 (kk_59 h) g6 (v := (am_I s 59 (((am_I s 55 10) + x3).toNatClampNeg))) rfl ?_
        refine wp_ld (v := .ref a1) dX8_isWord_62 rfl rfl rfl rfl ?_
        refine wp_ld (v := .int x3) dX8_isWord_63 rfl rfl rfl rfl ?_
        obtain ⟨g7, k⟩ := ok_g k
        refine wq_chr dX8_isWord_64 rfl (kk_t h fa1) g7 (Nat.le_of_ble_eq_true rfl) ?_
        refine wp_ic_ne dX8_isWord_67 rfl (fun c8 => have k := ok_neg c8 k; ?_) (fun c8 => have k := ok_pos c8 k; ?_)
        · refine wp_cst (v := .int (0 : Int32)) dX8_isWord_74 rfl rfl ?_
          refine wp_st (ls' := [(0, .ref 55), (1, .ref a1), (2, .int (0 : Int32)), (3, .int x3)]) dX8_isWord_75 rfl rfl rfl (Nat.le_of_ble_eq_true rfl) rfl ?_
          refine wp_inc (v := (x3 + (1 : Int32))) (ls' := [(0, .ref 55), (1, .ref a1), (2, .int (0 : Int32)), (3, .int (x3 + (1 : Int32)))]) dX8_isWord_76 rfl (Nat.le_of_ble_eq_true rfl) rfl rfl ?_
          refine wp_goto dX8_isWord_79 rfl ?_
          exact wp_sub (ih h fa1 k hP hX) rfl ⟨rfl, rfl, rfl, rfl, trivial⟩
        · refine wp_cst (v := .int (1 : Int32)) dX8_isWord_70 rfl rfl ?_
          refine wp_goto dX8_isWord_71 rfl ?_
          refine wp_st (ls' := [(0, .ref 55), (1, .ref a1), (2, .int (1 : Int32)), (3, .int x3)]) dX8_isWord_75 rfl rfl rfl (Nat.le_of_ble_eq_true rfl) rfl ?_
          refine wp_inc (v := (x3 + (1 : Int32))) (ls' := [(0, .ref 55), (1, .ref a1), (2, .int (1 : Int32)), (3, .int (x3 + (1 : Int32)))]) dX8_isWord_76 rfl (Nat.le_of_ble_eq_true rfl) rfl rfl ?_
          refine wp_goto dX8_isWord_79 rfl ?_
          exact wp_sub (ih h fa1 k hP hX) rfl ⟨rfl, rfl, rfl, rfl, trivial⟩
noncomputable def f_X8_isWord (b1 : Nat) (s : am_S) : am_F :=
  am_jn (fun (e2 : Int32) s3 =>
    am_lm (L_X8_isWord_39 ax_fuel b1 e2 (0 : Int32) s3) (fun e9 s10 =>
      if e9 = 0 ∨ e9 = 1 then
        some (.inl (some (.int e9)), s10)
      else none
    )
  ) (fun J1 =>
    am_jn (fun (e13 : Unit) s14 =>
      J1 (0 : Int32) s14
    ) (fun J12 =>
      if (am_I s 55 13) = 0 then
        if (am_I s 55 11) = (1 : Int32) then
          if ((am_I s 55 9) - (am_I s 55 10)) = (Int32.ofNat (am_k0 b1).2) then
            J1 (1 : Int32) s
          else
            J12 () s
        else
          J12 () s
      else
        J12 () s
    )
  )
theorem s_X8_isWord {N n : Nat} {d : Nat} {b1 : Nat} {s : am_S} (h : am_sh N n s) (fb1 : (am_k0 b1).1 = 18) : am_S1 (am_sh N n) (d) mX8_isWord [.ref 55, .ref b1] s (f_X8_isWord b1 s) := by
  intro P Q k hP
  show am_WP (d) mX8_isWord 0 [(0, .ref 55), (1, .ref b1)] [] s Q
  unfold f_X8_isWord at k
  refine wp_ld (v := .ref 55) dX8_isWord_0 rfl rfl rfl rfl ?_
  refine wq_gI dX8_isWord_1 rfl rfl (kk_55 h) (v := (am_I s 55 13)) rfl ?_
  refine jn_rule k (fun J1 hJ1 k => ?_)
  have HJ1 : ∀ (e2 : Int32) (s3 : am_S), am_sh N n s3 → am_ok (J1 e2 s3) P → am_WP (d) mX8_isWord 36 [(0, .ref 55), (1, .ref b1)] [.int e2] s3 Q := by
    intro e2 s3 h k
    replace k := hJ1 _ _ k
    refine wp_st (ls' := [(0, .ref 55), (1, .ref b1), (2, .int e2)]) dX8_isWord_36 rfl rfl rfl (Nat.le_of_ble_eq_true rfl) rfl ?_
    refine wp_cst (v := .int (0 : Int32)) dX8_isWord_37 rfl rfl ?_
    refine wp_st (ls' := [(0, .ref 55), (1, .ref b1), (2, .int e2), (3, .int (0 : Int32))]) dX8_isWord_38 rfl rfl rfl (Nat.le_of_ble_eq_true rfl) rfl ?_
    refine lp_m k (fun P1 k hA hB => ?_)
    refine wp_sub (q_X8_isWord_39 ax_fuel h fb1 k (fun o s p h => hP o s (hA o s p) h) (fun e9 s10 p h => have k := hB e9 s10 p; ?_)) rfl ⟨rfl, rfl, rfl, rfl, trivial⟩
    refine wp_ld (v := .int e9) dX8_isWord_82 rfl rfl rfl rfl ?_
    obtain ⟨g11, k⟩ := ok_g k
    exact wp_end dX8_isWord_83 rfl (am_end_b rfl g11) (hP _ _ (ok_s k) h)
  refine jn_rule k (fun J12 hJ12 k => ?_)
  have HJ12 : ∀ (e13 : Unit) (s14 : am_S), am_sh N n s14 → am_ok (J12 e13 s14) P → am_WP (d) mX8_isWord 35 [(0, .ref 55), (1, .ref b1)] [] s14 Q := by
    intro e13 s14 h k
    replace k := hJ12 _ _ k
    refine wp_cst (v := .int (0 : Int32)) dX8_isWord_35 rfl rfl ?_
    exact wp_sub (HJ1 _ _ h k) rfl ⟨rfl, rfl, trivial⟩
  refine wp_if_ne dX8_isWord_4 rfl (fun c15 => have k := ok_neg c15 k; ?_) (fun c15 => have k := ok_pos c15 k; ?_)
  · exact wp_sub (HJ12 _ _ h k) rfl ⟨rfl, rfl, trivial⟩
  · refine wp_ld (v := .ref 55) dX8_isWord_7 rfl rfl rfl rfl ?_
    refine wq_gI dX8_isWord_8 rfl rfl (kk_55 h) (v := (am_I s 55 11)) rfl ?_
    refine wp_cst (v := .int (1 : Int32)) dX8_isWord_11 rfl rfl ?_
    refine wp_ic_ne dX8_isWord_12 rfl (fun c16 => have k := ok_neg c16 k; ?_) (fun c16 => have k := ok_pos c16 k; ?_)
    · exact wp_sub (HJ12 _ _ h k) rfl ⟨rfl, rfl, trivial⟩
    · refine wp_ld (v := .ref 55) dX8_isWord_15 rfl rfl rfl rfl ?_
      refine wq_gI dX8_isWord_16 rfl rfl (kk_55 h) (v := (am_I s 55 9)) rfl ?_
      refine wp_ld (v := .ref 55) dX8_isWord_19 rfl rfl rfl rfl ?_
      refine wq_gI dX8_isWord_20 rfl rfl (kk_55 h) (v := (am_I s 55 10)) rfl ?_
      refine wp_pu dX8_isWord_23 rfl rfl ?_
      refine wp_ld (v := .ref b1) dX8_isWord_24 rfl rfl rfl rfl ?_
      refine wq_slen dX8_isWord_25 rfl (kk_t h fb1) (Nat.le_of_ble_eq_true rfl) ?_
      refine wp_ic_ne dX8_isWord_28 rfl (fun c17 => have k := ok_neg c17 k; ?_) (fun c17 => have k := ok_pos c17 k; ?_)
      · exact wp_sub (HJ12 _ _ h k) rfl ⟨rfl, rfl, trivial⟩
      · refine wp_cst (v := .int (1 : Int32)) dX8_isWord_31 rfl rfl ?_
        refine wp_goto dX8_isWord_32 rfl ?_
        exact wp_sub (HJ1 _ _ h k) rfl ⟨rfl, rfl, trivial⟩
noncomputable def f_X8_blames (x1 : Int32) (s : am_S) : am_F :=
  if (am_I s 55 13) = 0 then
    am_jn (fun (e3 : Int32) s4 =>
      some (.inl none, (am_sI (am_sI s4 55 13 e3) 55 14 (am_I s4 55 10)))
    ) (fun J2 =>
      if (am_I s 55 11) = (4 : Int32) then
        J2 (1 : Int32) s
      else
        J2 x1 s
    )
  else
    some (.inl none, s)
theorem s_X8_blames {N n : Nat} {d : Nat} {x1 : Int32} {s : am_S} (h : am_sh N n s)  : am_S1 (am_sh N n) (d) mX8_blames [.ref 55, .int x1] s (f_X8_blames x1 s) := by
  intro P Q k hP
  show am_WP (d) mX8_blames 0 [(0, .ref 55), (1, .int x1)] [] s Q
  unfold f_X8_blames at k
  refine wp_ld (v := .ref 55) dX8_blames_0 rfl rfl rfl rfl ?_
  refine wq_gI dX8_blames_1 rfl rfl (kk_55 h) (v := (am_I s 55 13)) rfl ?_
  refine wp_if_eq dX8_blames_4 rfl (fun c1 => have k := ok_pos c1 k; ?_) (fun c1 => have k := ok_neg c1 k; ?_)
  · refine wp_ld (v := .ref 55) dX8_blames_8 rfl rfl rfl rfl ?_
    refine wp_ld (v := .ref 55) dX8_blames_9 rfl rfl rfl rfl ?_
    refine wq_gI dX8_blames_10 rfl rfl (kk_55 h) (v := (am_I s 55 11)) rfl ?_
    refine wp_cst (v := .int (4 : Int32)) dX8_blames_13 rfl rfl ?_
    refine jn_rule k (fun J2 hJ2 k => ?_)
    have HJ2 : ∀ (e3 : Int32) (s4 : am_S), am_sh N n s4 → am_ok (J2 e3 s4) P → am_WP (d) mX8_blames 22 [(0, .ref 55)] [.int e3, .ref 55] s4 Q := by
      intro e3 s4 h k
      replace k := hJ2 _ _ k
      refine wp_pI dX8_blames_22 rfl rfl rfl (fun h => absurd h (by decide)) (kk_55 h) ?_
      refine wp_ld (v := .ref 55) dX8_blames_25 rfl rfl rfl rfl ?_
      refine wp_ld (v := .ref 55) dX8_blames_26 rfl rfl rfl rfl ?_
      refine wq_gI dX8_blames_27 rfl rfl (kk_55 (sh_sI h)) (v := (am_I s4 55 10)) rfl ?_
      refine wp_pI dX8_blames_30 rfl rfl rfl (fun h => absurd h (by decide)) (kk_55 (sh_sI h)) ?_
      exact wp_end dX8_blames_33 rfl rfl (hP _ _ (ok_s k) (sh_sI (sh_sI h)))
    refine wp_ic_ne dX8_blames_14 rfl (fun c5 => have k := ok_neg c5 k; ?_) (fun c5 => have k := ok_pos c5 k; ?_)
    · refine wp_ld (v := .int x1) dX8_blames_21 rfl rfl rfl rfl ?_
      exact wp_sub (HJ2 _ _ h k) rfl ⟨rfl, trivial⟩
    · refine wp_cst (v := .int (1 : Int32)) dX8_blames_17 rfl rfl ?_
      refine wp_goto dX8_blames_18 rfl ?_
      exact wp_sub (HJ2 _ _ h k) rfl ⟨rfl, trivial⟩
  · exact wp_end dX8_blames_7 rfl rfl (hP _ _ (ok_s k) h)
noncomputable def f_X8_number (x1 : Int32) (x2 : Int32) (s : am_S) : am_F :=
  am_jn (fun (e2 : Unit) s3 =>
    if (am_I s3 55 13) = 0 then
      am_bu (f_X8_next s3) (fun s5 =>
        some (.inl (some (.int (am_I s3 55 12))), s5)
      )
    else
      some (.inl (some (.int (am_I s3 55 12))), s3)
  ) (fun J1 =>
    if (am_I s 55 11) = (2 : Int32) then
      am_bi (f_X8_within ((am_I s 55 12).toInt64) x1.toInt64 x2.toInt64 s) (fun v9 s8 =>
        if v9 = 0 then
          am_bu (f_X8_blames (3 : Int32) s8) (fun s11 =>
            J1 () s11
          )
        else
          J1 () s8
      )
    else
      am_bu (f_X8_blames (2 : Int32) s) (fun s13 =>
        J1 () s13
      )
  )
theorem s_X8_number {N n : Nat} {d : Nat} {x1 : Int32} {x2 : Int32} {s : am_S} (h : am_sh N n s)  : am_S1 (am_sh N n) (d + 2) mX8_number [.ref 55, .int x1, .int x2] s (f_X8_number x1 x2 s) := by
  intro P Q k hP
  show am_WP (d + 2) mX8_number 0 [(0, .ref 55), (1, .int x1), (2, .int x2)] [] s Q
  unfold f_X8_number at k
  refine wp_ld (v := .ref 55) dX8_number_0 rfl rfl rfl rfl ?_
  refine wq_gI dX8_number_1 rfl rfl (kk_55 h) (v := (am_I s 55 11)) rfl ?_
  refine wp_cst (v := .int (2 : Int32)) dX8_number_4 rfl rfl ?_
  refine jn_rule k (fun J1 hJ1 k => ?_)
  have HJ1 : ∀ (e2 : Unit) (s3 : am_S), am_sh N n s3 → am_ok (J1 e2 s3) P → am_WP (d + 2) mX8_number 36 [(0, .ref 55)] [] s3 Q := by
    intro e2 s3 h k
    replace k := hJ1 _ _ k
    refine wp_ld (v := .ref 55) dX8_number_36 rfl rfl rfl rfl ?_
    refine wq_gI dX8_number_37 rfl rfl (kk_55 h) (v := (am_I s3 55 12)) rfl ?_
    refine wp_st (ls' := [(0, .ref 55), (3, .int (am_I s3 55 12))]) dX8_number_40 rfl rfl rfl (Nat.le_of_ble_eq_true rfl) rfl ?_
    refine wp_ld (v := .ref 55) dX8_number_41 rfl rfl rfl rfl ?_
    refine wq_gI dX8_number_42 rfl rfl (kk_55 h) (v := (am_I s3 55 13)) rfl ?_
    refine wp_if_ne dX8_number_45 rfl (fun c4 => have k := ok_neg c4 k; ?_) (fun c4 => have k := ok_pos c4 k; ?_)
    · refine wp_ld (v := .int (am_I s3 55 12)) dX8_number_52 rfl rfl rfl rfl ?_
      exact wp_end dX8_number_53 rfl (am_end_i rfl) (hP _ _ (ok_s k) h)
    · refine wp_ld (v := .ref 55) dX8_number_48 rfl rfl rfl rfl ?_
      refine c_u dX8_number_49 rfl rfl rfl (am_inv_v rfl (kk_55 h) rfl rfl rfl) (s_X8_next h) k (fun s5 h k => ?_)
      refine wp_ld (v := .int (am_I s3 55 12)) dX8_number_52 rfl rfl rfl rfl ?_
      exact wp_end dX8_number_53 rfl (am_end_i rfl) (hP _ _ (ok_s k) h)
  refine wp_ic_eq dX8_number_5 rfl (fun c7 => have k := ok_pos c7 k; ?_) (fun c7 => have k := ok_neg c7 k; ?_)
  · refine wp_ld (v := .ref 55) dX8_number_16 rfl rfl rfl rfl ?_
    refine wq_gI dX8_number_17 rfl rfl (kk_55 h) (v := (am_I s 55 12)) rfl ?_
    refine wp_pu dX8_number_20 rfl rfl ?_
    refine wp_ld (v := .int x1) dX8_number_21 rfl rfl rfl rfl ?_
    refine wp_pu dX8_number_22 rfl rfl ?_
    refine wp_ld (v := .int x2) dX8_number_23 rfl rfl rfl rfl ?_
    refine wp_pu dX8_number_24 rfl rfl ?_
    refine c_i dX8_number_25 rfl rfl rfl (am_inv_s rfl rfl rfl rfl) (s_X8_within h) k (fun v9 s8 h k => ?_)
    refine wp_if_ne dX8_number_28 rfl (fun c10 => have k := ok_neg c10 k; ?_) (fun c10 => have k := ok_pos c10 k; ?_)
    · exact wp_sub (HJ1 _ _ h k) rfl ⟨rfl, trivial⟩
    · refine wp_ld (v := .ref 55) dX8_number_31 rfl rfl rfl rfl ?_
      refine wp_cst (v := .int (3 : Int32)) dX8_number_32 rfl rfl ?_
      refine c_u dX8_number_33 rfl rfl rfl (am_inv_v rfl (kk_55 h) rfl rfl rfl) (s_X8_blames h) k (fun s11 h k => ?_)
      exact wp_sub (HJ1 _ _ h k) rfl ⟨rfl, trivial⟩
  · refine wp_ld (v := .ref 55) dX8_number_8 rfl rfl rfl rfl ?_
    refine wp_cst (v := .int (2 : Int32)) dX8_number_9 rfl rfl ?_
    refine c_u dX8_number_10 rfl rfl rfl (am_inv_v rfl (kk_55 h) rfl rfl rfl) (s_X8_blames h) k (fun s13 h k => ?_)
    refine wp_goto dX8_number_13 rfl ?_
    exact wp_sub (HJ1 _ _ h k) rfl ⟨rfl, trivial⟩
noncomputable def f_X8_stop  (s : am_S) : am_F :=
  am_jn (fun (e2 : Unit) s3 =>
    if (am_I s3 55 13) = 0 then
      am_bu (f_X8_next s3) (fun s5 =>
        some (.inl none, s5)
      )
    else
      some (.inl none, s3)
  ) (fun J1 =>
    if (am_I s 55 13) = 0 then
      if (am_I s 55 11) = (3 : Int32) then
        J1 () s
      else
        am_bu (f_X8_blames (2 : Int32) s) (fun s9 =>
          J1 () s9
        )
    else
      J1 () s
  )
theorem s_X8_stop {N n : Nat} {d : Nat}  {s : am_S} (h : am_sh N n s)  : am_S1 (am_sh N n) (d + 2) mX8_stop [.ref 55] s (f_X8_stop s) := by
  intro P Q k hP
  show am_WP (d + 2) mX8_stop 0 [(0, .ref 55)] [] s Q
  unfold f_X8_stop at k
  refine wp_ld (v := .ref 55) dX8_stop_0 rfl rfl rfl rfl ?_
  refine wq_gI dX8_stop_1 rfl rfl (kk_55 h) (v := (am_I s 55 13)) rfl ?_
  refine jn_rule k (fun J1 hJ1 k => ?_)
  have HJ1 : ∀ (e2 : Unit) (s3 : am_S), am_sh N n s3 → am_ok (J1 e2 s3) P → am_WP (d + 2) mX8_stop 20 [(0, .ref 55)] [] s3 Q := by
    intro e2 s3 h k
    replace k := hJ1 _ _ k
    refine wp_ld (v := .ref 55) dX8_stop_20 rfl rfl rfl rfl ?_
    refine wq_gI dX8_stop_21 rfl rfl (kk_55 h) (v := (am_I s3 55 13)) rfl ?_
    refine wp_if_ne dX8_stop_24 rfl (fun c4 => have k := ok_neg c4 k; ?_) (fun c4 => have k := ok_pos c4 k; ?_)
    · exact wp_end dX8_stop_31 rfl rfl (hP _ _ (ok_s k) h)
    · refine wp_ld (v := .ref 55) dX8_stop_27 rfl rfl rfl rfl ?_
      refine c_u dX8_stop_28 rfl rfl rfl (am_inv_v rfl (kk_55 h) rfl rfl rfl) (s_X8_next h) k (fun s5 h k => ?_)
      exact wp_end dX8_stop_31 rfl rfl (hP _ _ (ok_s k) h)
  refine wp_if_ne dX8_stop_4 rfl (fun c7 => have k := ok_neg c7 k; ?_) (fun c7 => have k := ok_pos c7 k; ?_)
  · exact wp_sub (HJ1 _ _ h k) rfl ⟨rfl, trivial⟩
  · refine wp_ld (v := .ref 55) dX8_stop_7 rfl rfl rfl rfl ?_
    refine wq_gI dX8_stop_8 rfl rfl (kk_55 h) (v := (am_I s 55 11)) rfl ?_
    refine wp_cst (v := .int (3 : Int32)) dX8_stop_11 rfl rfl ?_
    refine wp_ic_eq dX8_stop_12 rfl (fun c8 => have k := ok_pos c8 k; ?_) (fun c8 => have k := ok_neg c8 k; ?_)
    · exact wp_sub (HJ1 _ _ h k) rfl ⟨rfl, trivial⟩
    · refine wp_ld (v := .ref 55) dX8_stop_15 rfl rfl rfl rfl ?_
      refine wp_cst (v := .int (2 : Int32)) dX8_stop_16 rfl rfl ?_
      refine c_u dX8_stop_17 rfl rfl rfl (am_inv_v rfl (kk_55 h) rfl rfl rfl) (s_X8_blames h) k (fun s9 h k => ?_)
      exact wp_sub (HJ1 _ _ h k) rfl ⟨rfl, trivial⟩
noncomputable def f_X8_ends (x1 : Int32) (s : am_S) : am_F :=
  am_jn (fun (e2 : Int32) s3 =>
    if (am_I s3 55 13) = 0 then
      some (.inl (some (.int x1)), (am_sI s3 55 16 e2))
    else
      some (.inl (some (.int ((-10 : Int32) - (am_I s3 55 13)))), (am_sI s3 55 16 e2))
  ) (fun J1 =>
    if (am_I s 55 13) = 0 then
      J1 (-1 : Int32) (am_sI s 55 15 (am_I s 55 13))
    else
      J1 (am_I s 55 14) (am_sI s 55 15 (am_I s 55 13))
  )
theorem s_X8_ends {N n : Nat} {d : Nat} {x1 : Int32} {s : am_S} (h : am_sh N n s)  : am_S1 (am_sh N n) (d) mX8_ends [.ref 55, .int x1] s (f_X8_ends x1 s) := by
  intro P Q k hP
  show am_WP (d) mX8_ends 0 [(0, .ref 55), (1, .int x1)] [] s Q
  unfold f_X8_ends at k
  refine wp_ld (v := .ref 55) dX8_ends_0 rfl rfl rfl rfl ?_
  refine wp_ld (v := .ref 55) dX8_ends_1 rfl rfl rfl rfl ?_
  refine wq_gI dX8_ends_2 rfl rfl (kk_55 h) (v := (am_I s 55 13)) rfl ?_
  refine wp_pI dX8_ends_5 rfl rfl rfl (fun h => absurd h (by decide)) (kk_55 h) ?_
  refine wp_ld (v := .ref 55) dX8_ends_8 rfl rfl rfl rfl ?_
  refine wp_ld (v := .ref 55) dX8_ends_9 rfl rfl rfl rfl ?_
  refine wq_gI dX8_ends_10 rfl rfl (kk_55 (sh_sI h)) (v := (am_I s 55 13)) rfl ?_
  refine jn_rule k (fun J1 hJ1 k => ?_)
  have HJ1 : ∀ (e2 : Int32) (s3 : am_S), am_sh N n s3 → am_ok (J1 e2 s3) P → am_WP (d) mX8_ends 24 [(0, .ref 55), (1, .int x1)] [.int e2, .ref 55] s3 Q := by
    intro e2 s3 h k
    replace k := hJ1 _ _ k
    refine wp_pI dX8_ends_24 rfl rfl rfl (fun h => absurd h (by decide)) (kk_55 h) ?_
    refine wp_ld (v := .ref 55) dX8_ends_27 rfl rfl rfl rfl ?_
    refine wq_gI dX8_ends_28 rfl rfl (kk_55 (sh_sI h)) (v := (am_I s3 55 13)) rfl ?_
    refine wp_if_ne dX8_ends_31 rfl (fun c4 => have k := ok_neg c4 k; ?_) (fun c4 => have k := ok_pos c4 k; ?_)
    · refine wp_cst (v := .int (-10 : Int32)) dX8_ends_38 rfl rfl ?_
      refine wp_ld (v := .ref 55) dX8_ends_40 rfl rfl rfl rfl ?_
      refine wq_gI dX8_ends_41 rfl rfl (kk_55 (sh_sI h)) (v := (am_I s3 55 13)) rfl ?_
      refine wp_pu dX8_ends_44 rfl rfl ?_
      exact wp_end dX8_ends_45 rfl (am_end_i rfl) (hP _ _ (ok_s k) (sh_sI h))
    · refine wp_ld (v := .int x1) dX8_ends_34 rfl rfl rfl rfl ?_
      refine wp_goto dX8_ends_35 rfl ?_
      exact wp_end dX8_ends_45 rfl (am_end_i rfl) (hP _ _ (ok_s k) (sh_sI h))
  refine wp_if_ne dX8_ends_13 rfl (fun c5 => have k := ok_neg c5 k; ?_) (fun c5 => have k := ok_pos c5 k; ?_)
  · refine wp_ld (v := .ref 55) dX8_ends_20 rfl rfl rfl rfl ?_
    refine wq_gI dX8_ends_21 rfl rfl (kk_55 (sh_sI h)) (v := (am_I s 55 14)) rfl ?_
    exact wp_sub (HJ1 _ _ (sh_sI h) k) rfl ⟨rfl, rfl, trivial⟩
  · refine wp_cst (v := .int (-1 : Int32)) dX8_ends_16 rfl rfl ?_
    refine wp_goto dX8_ends_17 rfl ?_
    exact wp_sub (HJ1 _ _ (sh_sI h) k) rfl ⟨rfl, rfl, trivial⟩
noncomputable def L_X8_way_50 : Nat → am_S → am_FE (Unit)
  | 0, _ => none
  | m + 1, s =>
    if (am_I s 55 13) = 0 then
      if (am_I s 55 11) = 0 then
        some (.inr ((), s))
      else
        am_bi (f_X8_isWord 1000010 s) (fun v10 s9 =>
          am_jn (fun (e12 : Int32) s13 =>
            am_jn (fun (e15 : Unit) s16 =>
              am_jn (fun (e18 : Int32) s19 =>
                am_bu (f_X8_blames e18 s19) (fun s20 =>
                  L_X8_way_50 m s20
                )
              ) (fun J17 =>
                if e12 = (-1 : Int32) then
                  J17 (2 : Int32) s16
                else
                  J17 (4 : Int32) s16
              )
            ) (fun J14 =>
              if e12 = (-1 : Int32) then
                J14 () s13
              else
                if (am_I s13 61 0) = (11 : Int32) then
                  J14 () s13
                else
                  am_bu (f_X8_next s13) (fun s25 =>
                    if am_in ((1 : Int32) + ((2 : Int32) * (am_I s13 61 0))) 23 = true then
                      am_bi (f_X8_number (1 : Int32) (12 : Int32) (am_sI s25 61 (((1 : Int32) + ((2 : Int32) * (am_I s13 61 0))).toNatClampNeg) e12)) (fun v29 s28 =>
                        if am_in ((2 : Int32) + ((2 : Int32) * (am_I s13 61 0))) 23 = true then
                          ax_le ((am_I (am_sI s28 61 (((2 : Int32) + ((2 : Int32) * (am_I s13 61 0))).toNatClampNeg) v29) 61 0) + (1 : Int32)) (fun y31 =>
                            am_bu (f_X8_stop (am_sI (am_sI s28 61 (((2 : Int32) + ((2 : Int32) * (am_I s13 61 0))).toNatClampNeg) v29) 61 0 y31)) (fun s32 =>
                              L_X8_way_50 m s32
                            )
                          )
                        else none
                      )
                    else none
                  )
            )
          ) (fun J11 =>
            if v10 = 0 then
              am_bi (f_X8_isWord 1000011 s9) (fun v36 s35 =>
                if v36 = 0 then
                  am_bi (f_X8_isWord 1000012 s35) (fun v39 s38 =>
                    if v39 = 0 then
                      J11 (-1 : Int32) s38
                    else
                      J11 (2 : Int32) s38
                  )
                else
                  J11 (1 : Int32) s35
              )
            else
              J11 (0 : Int32) s9
          )
        )
    else
      some (.inr ((), s))
theorem q_X8_way_50 : ∀ (m : Nat) {N n : Nat} {d : Nat}  {s : am_S} {P : (am_O × am_S) ⊕ (Unit × am_S) → Prop} {Q : am_O → am_S → Prop} (h : am_sh N n s)  (k : am_ok (L_X8_way_50 m s) P) (hP : ∀ o s, P (.inl (o, s)) → am_sh N n s → Q o s) (hX : ∀ (e : Unit) s, P (.inr (e, s)) → am_sh N n s → am_WP (d + 3) mX8_way 189 [(0, .ref 55)] [] s Q), am_WP (d + 3) mX8_way 50 [(0, .ref 55)] [] s Q := by
  intro m
  induction m with
  | zero =>
    intro N n d s P Q h  k hP hX
    exact (ok_no k).elim
  | succ m ih =>
    intro N n d s P Q h  k hP hX
    unfold L_X8_way_50 at k
    refine wp_ld (v := .ref 55) dX8_way_50 rfl rfl rfl rfl ?_
    refine wq_gI dX8_way_51 rfl rfl (kk_55 h) (v := (am_I s 55 13)) rfl ?_
    refine wp_if_ne dX8_way_54 rfl (fun c7 => have k := ok_neg c7 k; ?_) (fun c7 => have k := ok_pos c7 k; ?_)
    · exact wp_sub (hX _ _ (ok_s k) h) rfl ⟨rfl, trivial⟩
    · refine wp_ld (v := .ref 55) dX8_way_57 rfl rfl rfl rfl ?_
      refine wq_gI dX8_way_58 rfl rfl (kk_55 h) (v := (am_I s 55 11)) rfl ?_
      refine wp_if_eq dX8_way_61 rfl (fun c8 => have k := ok_pos c8 k; ?_) (fun c8 => have k := ok_neg c8 k; ?_)
      · exact wp_sub (hX _ _ (ok_s k) h) rfl ⟨rfl, trivial⟩
      · refine wp_ld (v := .ref 55) dX8_way_64 rfl rfl rfl rfl ?_
        refine wp_cst (v := .ref 1000010) dX8_way_65 rfl rfl ?_
        refine c_i dX8_way_67 rfl rfl rfl (am_inv_v rfl (kk_55 h) rfl rfl rfl) (s_X8_isWord h rfl) k (fun v10 s9 h k => ?_)
        refine jn_rule k (fun J11 hJ11 k => ?_)
        have HJ11 : ∀ (e12 : Int32) (s13 : am_S), am_sh N n s13 → am_ok (J11 e12 s13) P → am_WP (d + 3) mX8_way 104 [(0, .ref 55)] [.int e12] s13 Q := by
          intro e12 s13 h k
          replace k := hJ11 _ _ k
          refine wp_st (ls' := [(0, .ref 55), (2, .int e12)]) dX8_way_104 rfl rfl rfl (Nat.le_of_ble_eq_true rfl) rfl ?_
          refine wp_ld (v := .ref 55) dX8_way_105 rfl rfl rfl rfl ?_
          refine wp_gr dX8_way_106 rfl rfl (kk_55 h) (rr_55_6 h) ?_
          refine wp_cst (v := .int (0 : Int32)) dX8_way_109 rfl rfl ?_
          refine wq_iald dX8_way_110 (kk_61 h) (by decide) (v := (am_I s13 61 0)) rfl ?_
          refine wp_st (ls' := [(0, .ref 55), (2, .int e12), (3, .int (am_I s13 61 0))]) dX8_way_111 rfl rfl rfl (Nat.le_of_ble_eq_true rfl) rfl ?_
          refine wp_ld (v := .int e12) dX8_way_112 rfl rfl rfl rfl ?_
          refine wp_cst (v := .int (-1 : Int32)) dX8_way_113 rfl rfl ?_
          refine jn_rule k (fun J14 hJ14 k => ?_)
          have HJ14 : ∀ (e15 : Unit) (s16 : am_S), am_sh N n s16 → am_ok (J14 e15 s16) P → am_WP (d + 3) mX8_way 123 [(0, .ref 55), (2, .int e12)] [] s16 Q := by
            intro e15 s16 h k
            replace k := hJ14 _ _ k
            refine wp_ld (v := .ref 55) dX8_way_123 rfl rfl rfl rfl ?_
            refine wp_ld (v := .int e12) dX8_way_124 rfl rfl rfl rfl ?_
            refine wp_cst (v := .int (-1 : Int32)) dX8_way_125 rfl rfl ?_
            refine jn_rule k (fun J17 hJ17 k => ?_)
            have HJ17 : ∀ (e18 : Int32) (s19 : am_S), am_sh N n s19 → am_ok (J17 e18 s19) P → am_WP (d + 3) mX8_way 134 [(0, .ref 55)] [.int e18, .ref 55] s19 Q := by
              intro e18 s19 h k
              replace k := hJ17 _ _ k
              refine c_u dX8_way_134 rfl rfl rfl (am_inv_v rfl (kk_55 h) rfl rfl rfl) (s_X8_blames h) k (fun s20 h k => ?_)
              refine wp_goto dX8_way_137 rfl ?_
              exact wp_sub (ih h k hP hX) rfl ⟨rfl, trivial⟩
            refine wp_ic_ne dX8_way_126 rfl (fun c22 => have k := ok_neg c22 k; ?_) (fun c22 => have k := ok_pos c22 k; ?_)
            · refine wp_cst (v := .int (4 : Int32)) dX8_way_133 rfl rfl ?_
              exact wp_sub (HJ17 _ _ h k) rfl ⟨rfl, trivial⟩
            · refine wp_cst (v := .int (2 : Int32)) dX8_way_129 rfl rfl ?_
              refine wp_goto dX8_way_130 rfl ?_
              exact wp_sub (HJ17 _ _ h k) rfl ⟨rfl, trivial⟩
          refine wp_ic_eq dX8_way_114 rfl (fun c23 => have k := ok_pos c23 k; ?_) (fun c23 => have k := ok_neg c23 k; ?_)
          · exact wp_sub (HJ14 _ _ h k) rfl ⟨rfl, rfl, trivial⟩
          · refine wp_ld (v := .int (am_I s13 61 0)) dX8_way_117 rfl rfl rfl rfl ?_
            refine wp_cst (v := .int (11 : Int32)) dX8_way_118 rfl rfl ?_
            refine wp_ic_ne dX8_way_120 rfl (fun c24 => have k := ok_neg c24 k; ?_) (fun c24 => have k := ok_pos c24 k; ?_)
            · refine wp_ld (v := .ref 55) dX8_way_140 rfl rfl rfl rfl ?_
              refine c_u dX8_way_141 rfl rfl rfl (am_inv_v rfl (kk_55 h) rfl rfl rfl) (s_X8_next h) k (fun s25 h k => ?_)
              refine wp_ld (v := .ref 55) dX8_way_144 rfl rfl rfl rfl ?_
              refine wp_gr dX8_way_145 rfl rfl (kk_55 h) (rr_55_6 h) ?_
              refine wp_cst (v := .int (1 : Int32)) dX8_way_148 rfl rfl ?_
              refine wp_cst (v := .int (2 : Int32)) dX8_way_149 rfl rfl ?_
              refine wp_ld (v := .int (am_I s13 61 0)) dX8_way_150 rfl rfl rfl rfl ?_
              refine wp_pu dX8_way_151 rfl rfl ?_
              refine wp_pu dX8_way_152 rfl rfl ?_
              refine wp_ld (v := .int e12) dX8_way_153 rfl rfl rfl rfl ?_
              obtain ⟨g27, k⟩ := ok_g k
              refine wq_iast dX8_way_154 (kk_61 h) g27 (j := (((1 : Int32) + ((2 : Int32) * (am_I s13 61 0))).toNatClampNeg)) rfl ?_
              refine wp_ld (v := .ref 55) dX8_way_155 rfl rfl rfl rfl ?_
              refine wp_gr dX8_way_156 rfl rfl (kk_55 (sh_sI h)) (rr_55_6 (sh_sI h)) ?_
              show am_WP (d + 3) mX8_way 159 _ _ _ Q
              refine wp_cst (v := .int (2 : Int32)) dX8_way_159 rfl rfl ?_
              refine wp_cst (v := .int (2 : Int32)) dX8_way_160 rfl rfl ?_
              refine wp_ld (v := .int (am_I s13 61 0)) dX8_way_161 rfl rfl rfl rfl ?_
              refine wp_pu dX8_way_162 rfl rfl ?_
              refine wp_pu dX8_way_163 rfl rfl ?_
              refine wp_ld (v := .ref 55) dX8_way_164 rfl rfl rfl rfl ?_
              refine wp_cst (v := .int (1 : Int32)) dX8_way_165 rfl rfl ?_
              refine wp_cst (v := .int (12 : Int32)) dX8_way_166 rfl rfl ?_
              refine c_i dX8_way_168 rfl rfl rfl (am_inv_v rfl (kk_55 (sh_sI h)) rfl rfl rfl) (s_X8_number (sh_sI h)) k (fun v29 s28 h k => ?_)
              obtain ⟨g30, k⟩ := ok_g k
              refine wq_iast dX8_way_171 (kk_61 h) g30 (j := (((2 : Int32) + ((2 : Int32) * (am_I s13 61 0))).toNatClampNeg)) rfl ?_
              refine wp_ld (v := .ref 55) dX8_way_172 rfl rfl rfl rfl ?_
              refine wp_gr dX8_way_173 rfl rfl (kk_55 (sh_sI h)) (rr_55_6 (sh_sI h)) ?_
              refine wp_cst (v := .int (0 : Int32)) dX8_way_176 rfl rfl ?_
              refine wp_pu dX8_way_177 rfl rfl ?_
              refine wq_iald dX8_way_178 (kk_61 (sh_sI h)) (by decide) (v := (am_I (am_sI s28 61 (((2 : Int32) + ((2 : Int32) * (am_I s13 61 0))).toNatClampNeg) v29) 61 0)) rfl ?_
              refine wp_cst (v := .int (1 : Int32)) dX8_way_179 rfl rfl ?_
              refine wp_pu dX8_way_180 rfl rfl ?_
              refine ls_i k (fun y31 _ k => ?_)
              refine wq_iast dX8_way_181 (kk_61 (sh_sI h)) (by decide) (j := 0) rfl ?_
              refine wp_ld (v := .ref 55) dX8_way_182 rfl rfl rfl rfl ?_
              refine c_u dX8_way_183 rfl rfl rfl (am_inv_v rfl (kk_55 (sh_sI (sh_sI h))) rfl rfl rfl) (s_X8_stop (sh_sI (sh_sI h))) k (fun s32 h k => ?_)
              refine wp_goto dX8_way_186 rfl ?_
              exact wp_sub (ih h k hP hX) rfl ⟨rfl, trivial⟩
            · exact wp_sub (HJ14 _ _ h k) rfl ⟨rfl, rfl, trivial⟩
        refine wp_if_eq dX8_way_70 rfl (fun c34 => have k := ok_pos c34 k; ?_) (fun c34 => have k := ok_neg c34 k; ?_)
        · refine wp_ld (v := .ref 55) dX8_way_77 rfl rfl rfl rfl ?_
          refine wp_cst (v := .ref 1000011) dX8_way_78 rfl rfl ?_
          refine c_i dX8_way_80 rfl rfl rfl (am_inv_v rfl (kk_55 h) rfl rfl rfl) (s_X8_isWord h rfl) k (fun v36 s35 h k => ?_)
          refine wp_if_eq dX8_way_83 rfl (fun c37 => have k := ok_pos c37 k; ?_) (fun c37 => have k := ok_neg c37 k; ?_)
          · refine wp_ld (v := .ref 55) dX8_way_90 rfl rfl rfl rfl ?_
            refine wp_cst (v := .ref 1000012) dX8_way_91 rfl rfl ?_
            refine c_i dX8_way_93 rfl rfl rfl (am_inv_v rfl (kk_55 h) rfl rfl rfl) (s_X8_isWord h rfl) k (fun v39 s38 h k => ?_)
            refine wp_if_eq dX8_way_96 rfl (fun c40 => have k := ok_pos c40 k; ?_) (fun c40 => have k := ok_neg c40 k; ?_)
            · refine wp_cst (v := .int (-1 : Int32)) dX8_way_103 rfl rfl ?_
              exact wp_sub (HJ11 _ _ h k) rfl ⟨rfl, trivial⟩
            · refine wp_cst (v := .int (2 : Int32)) dX8_way_99 rfl rfl ?_
              refine wp_goto dX8_way_100 rfl ?_
              exact wp_sub (HJ11 _ _ h k) rfl ⟨rfl, trivial⟩
          · refine wp_cst (v := .int (1 : Int32)) dX8_way_86 rfl rfl ?_
            refine wp_goto dX8_way_87 rfl ?_
            exact wp_sub (HJ11 _ _ h k) rfl ⟨rfl, trivial⟩
        · refine wp_cst (v := .int (0 : Int32)) dX8_way_73 rfl rfl ?_
          refine wp_goto dX8_way_74 rfl ?_
          exact wp_sub (HJ11 _ _ h k) rfl ⟨rfl, trivial⟩
noncomputable def L_X8_way_198 : Nat → Int32 → am_S → am_FE (Unit)
  | 0, _, _ => none
  | m + 1, x2, s =>
    if (23 : Int32) ≤ x2 then
      some (.inr ((), s))
    else
      if am_in x2 23 = true then
        if am_in (((31 : Int32) + ((23 : Int32) * (am_I s 56 2))) + x2) 264 = true then
          L_X8_way_198 m (x2 + (1 : Int32)) (am_sI s 56 ((((31 : Int32) + ((23 : Int32) * (am_I s 56 2))) + x2).toNatClampNeg) (am_I s 61 x2.toNatClampNeg))
        else none
      else none
theorem q_X8_way_198 : ∀ (m : Nat) {N n : Nat} {d : Nat} {x2 : Int32} {s : am_S} {P : (am_O × am_S) ⊕ (Unit × am_S) → Prop} {Q : am_O → am_S → Prop} (h : am_sh N n s)  (k : am_ok (L_X8_way_198 m x2 s) P) (hP : ∀ o s, P (.inl (o, s)) → am_sh N n s → Q o s) (hX : ∀ (e : Unit) s, P (.inr (e, s)) → am_sh N n s → am_WP (d + 3) mX8_way 235 [(0, .ref 55)] [] s Q), am_WP (d + 3) mX8_way 198 [(0, .ref 55), (2, .int x2)] [] s Q := by
  intro m
  induction m with
  | zero =>
    intro N n d x2 s P Q h  k hP hX
    exact (ok_no k).elim
  | succ m ih =>
    intro N n d x2 s P Q h  k hP hX
    unfold L_X8_way_198 at k
    refine wp_ld (v := .int x2) dX8_way_198 rfl rfl rfl rfl ?_
    refine wp_cst (v := .int (23 : Int32)) dX8_way_199 rfl rfl ?_
    refine wp_ic_ge dX8_way_201 rfl (fun c49 => have k := ok_pos c49 k; ?_) (fun c49 => have k := ok_neg c49 k; ?_)
    · exact wp_sub (hX _ _ (ok_s k) h) rfl ⟨rfl, trivial⟩
    · refine wp_ld (v := .ref 55) dX8_way_204 rfl rfl rfl rfl ?_
      refine wp_gr dX8_way_205 rfl rfl (kk_55 h) (rr_55_0 h) ?_
      refine wp_cst (v := .int (31 : Int32)) dX8_way_208 rfl rfl ?_
      refine wp_cst (v := .int (23 : Int32)) dX8_way_210 rfl rfl ?_
      refine wp_ld (v := .ref 55) dX8_way_212 rfl rfl rfl rfl ?_
      refine wp_gr dX8_way_213 rfl rfl (kk_55 h) (rr_55_0 h) ?_
      refine wp_cst (v := .int (2 : Int32)) dX8_way_216 rfl rfl ?_
      refine wq_iald dX8_way_217 (kk_56 h) (by decide) (v := (am_I s 56 2)) rfl ?_
      refine wp_pu dX8_way_218 rfl rfl ?_
      refine wp_pu dX8_way_219 rfl rfl ?_
      refine wp_ld (v := .int x2) dX8_way_220 rfl rfl rfl rfl ?_
      show am_WP (d + 3) mX8_way 221 _ _ _ Q
      refine wp_pu dX8_way_221 rfl rfl ?_
      refine wp_ld (v := .ref 55) dX8_way_222 rfl rfl rfl rfl ?_
      refine wp_gr dX8_way_223 rfl rfl (kk_55 h) (rr_55_6 h) ?_
      refine wp_ld (v := .int x2) dX8_way_226 rfl rfl rfl rfl ?_
      obtain ⟨g50, k⟩ := ok_g k
      refine wq_iald dX8_way_227 (kk_61 h) g50 (v := (am_I s 61 x2.toNatClampNeg)) rfl ?_
      obtain ⟨g51, k⟩ := ok_g k
      refine wq_iast dX8_way_228 (kk_56 h) g51 (j := ((((31 : Int32) + ((23 : Int32) * (am_I s 56 2))) + x2).toNatClampNeg)) rfl ?_
      refine wp_inc (v := (x2 + (1 : Int32))) (ls' := [(0, .ref 55), (2, .int (x2 + (1 : Int32)))]) dX8_way_229 rfl (Nat.le_of_ble_eq_true rfl) rfl rfl ?_
      refine wp_goto dX8_way_232 rfl ?_
      exact wp_sub (ih (sh_sI h) k hP hX) rfl ⟨rfl, rfl, trivial⟩
noncomputable def f_X8_way (x1 : Int32) (s : am_S) : am_F :=
  am_bi (f_X8_within x1.toInt64 (0 : Int64) ((am_I s 55 7).toInt64) (am_sI s 55 3 (0 : Int32))) (fun v2 s1 =>
    if v2 = 0 then
      am_bi (f_X8_fails (1 : Int32) s1) (fun v55 s54 =>
        some (.inl (some (.int v55)), s54)
      )
    else
      if (am_I s1 56 2) = (6 : Int32) then
        some (.inl (some (.int (-1 : Int32))), s1)
      else
        am_bu (f_X8_begins x1 s1) (fun s5 =>
          am_lm (L_X8_way_50 ax_fuel (am_sI s5 61 0 (0 : Int32))) (fun e41 s42 =>
            am_jn (fun (e44 : Unit) s45 =>
              am_bi (f_X8_ends ((am_I s45 56 2) - (1 : Int32)) s45) (fun v47 s46 =>
                some (.inl (some (.int v47)), s46)
              )
            ) (fun J43 =>
              if (am_I s42 55 13) = 0 then
                am_lm (L_X8_way_198 ax_fuel (0 : Int32) s42) (fun e52 s53 =>
                  J43 () (am_sI s53 56 2 ((am_I s53 56 2) + (1 : Int32)))
                )
              else
                J43 () s42
            )
          )
        )
  )
theorem s_X8_way {N n : Nat} {d : Nat} {x1 : Int32} {s : am_S} (h : am_sh N n s)  : am_S1 (am_sh N n) (d + 3) mX8_way [.ref 55, .int x1] s (f_X8_way x1 s) := by
  intro P Q k hP
  show am_WP (d + 3) mX8_way 0 [(0, .ref 55), (1, .int x1)] [] s Q
  unfold f_X8_way at k
  refine wp_ld (v := .ref 55) dX8_way_0 rfl rfl rfl rfl ?_
  refine wp_cst (v := .int (0 : Int32)) dX8_way_1 rfl rfl ?_
  refine wp_pI dX8_way_2 rfl rfl rfl (fun h => absurd h (by decide)) (kk_55 h) ?_
  refine wp_ld (v := .int x1) dX8_way_5 rfl rfl rfl rfl ?_
  refine wp_pu dX8_way_6 rfl rfl ?_
  refine wp_cst (v := .long (0 : Int64)) dX8_way_7 rfl rfl ?_
  refine wp_ld (v := .ref 55) dX8_way_8 rfl rfl rfl rfl ?_
  refine wq_gI dX8_way_9 rfl rfl (kk_55 (sh_sI h)) (v := (am_I s 55 7)) rfl ?_
  refine wp_pu dX8_way_12 rfl rfl ?_
  refine c_i dX8_way_13 rfl rfl rfl (am_inv_s rfl rfl rfl rfl) (s_X8_within (sh_sI h)) k (fun v2 s1 h k => ?_)
  refine wp_if_ne dX8_way_16 rfl (fun c3 => have k := ok_neg c3 k; ?_) (fun c3 => have k := ok_pos c3 k; ?_)
  · refine wp_ld (v := .ref 55) dX8_way_25 rfl rfl rfl rfl ?_
    refine wp_gr dX8_way_26 rfl rfl (kk_55 h) (rr_55_0 h) ?_
    refine wp_cst (v := .int (2 : Int32)) dX8_way_29 rfl rfl ?_
    refine wq_iald dX8_way_30 (kk_56 h) (by decide) (v := (am_I s1 56 2)) rfl ?_
    refine wp_cst (v := .int (6 : Int32)) dX8_way_31 rfl rfl ?_
    refine wp_ic_ne dX8_way_33 rfl (fun c4 => have k := ok_neg c4 k; ?_) (fun c4 => have k := ok_pos c4 k; ?_)
    · refine wp_ld (v := .ref 55) dX8_way_38 rfl rfl rfl rfl ?_
      refine wp_ld (v := .int x1) dX8_way_39 rfl rfl rfl rfl ?_
      refine c_u dX8_way_40 rfl rfl rfl (am_inv_v rfl (kk_55 h) rfl rfl rfl) (s_X8_begins h) k (fun s5 h k => ?_)
      refine wp_ld (v := .ref 55) dX8_way_43 rfl rfl rfl rfl ?_
      refine wp_gr dX8_way_44 rfl rfl (kk_55 h) (rr_55_6 h) ?_
      refine wp_cst (v := .int (0 : Int32)) dX8_way_47 rfl rfl ?_
      refine wp_cst (v := .int (0 : Int32)) dX8_way_48 rfl rfl ?_
      refine wq_iast dX8_way_49 (kk_61 h) (by decide) (j := 0) rfl ?_
      refine lp_m k (fun P1 k hA hB => ?_)
      refine wp_sub (q_X8_way_50 ax_fuel (sh_sI h) k (fun o s p h => hP o s (hA o s p) h) (fun e41 s42 p h => have k := hB e41 s42 p; ?_)) rfl ⟨rfl, trivial⟩
      refine wp_ld (v := .ref 55) dX8_way_189 rfl rfl rfl rfl ?_
      refine wq_gI dX8_way_190 rfl rfl (kk_55 h) (v := (am_I s42 55 13)) rfl ?_
      refine jn_rule k (fun J43 hJ43 k => ?_)
      have HJ43 : ∀ (e44 : Unit) (s45 : am_S), am_sh N n s45 → am_ok (J43 e44 s45) P → am_WP (d + 3) mX8_way 245 [(0, .ref 55)] [] s45 Q := by
        intro e44 s45 h k
        replace k := hJ43 _ _ k
        refine wp_ld (v := .ref 55) dX8_way_245 rfl rfl rfl rfl ?_
        refine wp_ld (v := .ref 55) dX8_way_246 rfl rfl rfl rfl ?_
        refine wp_gr dX8_way_247 rfl rfl (kk_55 h) (rr_55_0 h) ?_
        refine wp_cst (v := .int (2 : Int32)) dX8_way_250 rfl rfl ?_
        refine wq_iald dX8_way_251 (kk_56 h) (by decide) (v := (am_I s45 56 2)) rfl ?_
        refine wp_cst (v := .int (1 : Int32)) dX8_way_252 rfl rfl ?_
        refine wp_pu dX8_way_253 rfl rfl ?_
        refine c_i dX8_way_254 rfl rfl rfl (am_inv_v rfl (kk_55 h) rfl rfl rfl) (s_X8_ends h) k (fun v47 s46 h k => ?_)
        exact wp_end dX8_way_257 rfl (am_end_i rfl) (hP _ _ (ok_s k) h)
      refine wp_if_ne dX8_way_193 rfl (fun c48 => have k := ok_neg c48 k; ?_) (fun c48 => have k := ok_pos c48 k; ?_)
      · exact wp_sub (HJ43 _ _ h k) rfl ⟨rfl, trivial⟩
      · refine wp_cst (v := .int (0 : Int32)) dX8_way_196 rfl rfl ?_
        refine wp_st (ls' := [(0, .ref 55), (2, .int (0 : Int32))]) dX8_way_197 rfl rfl rfl (Nat.le_of_ble_eq_true rfl) rfl ?_
        refine lp_m k (fun P1 k hA hB => ?_)
        refine wp_sub (q_X8_way_198 ax_fuel h k (fun o s p h => hP o s (hA o s p) h) (fun e52 s53 p h => have k := hB e52 s53 p; ?_)) rfl ⟨rfl, rfl, trivial⟩
        refine wp_ld (v := .ref 55) dX8_way_235 rfl rfl rfl rfl ?_
        refine wp_gr dX8_way_236 rfl rfl (kk_55 h) (rr_55_0 h) ?_
        refine wp_cst (v := .int (2 : Int32)) dX8_way_239 rfl rfl ?_
        refine wp_pu dX8_way_240 rfl rfl ?_
        refine wq_iald dX8_way_241 (kk_56 h) (by decide) (v := (am_I s53 56 2)) rfl ?_
        refine wp_cst (v := .int (1 : Int32)) dX8_way_242 rfl rfl ?_
        refine wp_pu dX8_way_243 rfl rfl ?_
        refine wq_iast dX8_way_244 (kk_56 h) (by decide) (j := 2) rfl ?_
        exact wp_sub (HJ43 _ _ (sh_sI h) k) rfl ⟨rfl, trivial⟩
    · refine wp_cst (v := .int (-1 : Int32)) dX8_way_36 rfl rfl ?_
      exact wp_end dX8_way_37 rfl (am_end_i rfl) (hP _ _ (ok_s k) h)
  · refine wp_ld (v := .ref 55) dX8_way_19 rfl rfl rfl rfl ?_
    refine wp_cst (v := .int (1 : Int32)) dX8_way_20 rfl rfl ?_
    refine c_i dX8_way_21 rfl rfl rfl (am_inv_v rfl (kk_55 h) rfl rfl rfl) (s_X8_fails h) k (fun v55 s54 h k => ?_)
    exact wp_end dX8_way_24 rfl (am_end_i rfl) (hP _ _ (ok_s k) h)
noncomputable def L_X8_plainLaw_40 : Nat → Int32 → am_S → am_FE (Unit)
  | 0, _, _ => none
  | m + 1, x1, s =>
    if (9 : Int32) ≤ x1 then
      some (.inr ((), s))
    else
      am_jn (fun (e3 : Int32) s4 =>
        if am_in ((5 : Int32) + x1) 23 = true then
          am_jn (fun (e7 : Int32) s8 =>
            if am_in ((14 : Int32) + x1) 23 = true then
              L_X8_plainLaw_40 m (x1 + (1 : Int32)) (am_sI s8 60 (((14 : Int32) + x1).toNatClampNeg) e7)
            else none
          ) (fun J6 =>
            if x1 = 0 then
              J6 (2 : Int32) (am_sI s4 60 (((5 : Int32) + x1).toNatClampNeg) e3)
            else
              if x1 = (1 : Int32) then
                J6 (3 : Int32) (am_sI s4 60 (((5 : Int32) + x1).toNatClampNeg) e3)
              else
                if x1 = (2 : Int32) then
                  J6 (4 : Int32) (am_sI s4 60 (((5 : Int32) + x1).toNatClampNeg) e3)
                else
                  if x1 = (3 : Int32) then
                    J6 (6 : Int32) (am_sI s4 60 (((5 : Int32) + x1).toNatClampNeg) e3)
                  else
                    if x1 = (4 : Int32) then
                      J6 (9 : Int32) (am_sI s4 60 (((5 : Int32) + x1).toNatClampNeg) e3)
                    else
                      if x1 = (5 : Int32) then
                        J6 (14 : Int32) (am_sI s4 60 (((5 : Int32) + x1).toNatClampNeg) e3)
                      else
                        if x1 = (6 : Int32) then
                          J6 (22 : Int32) (am_sI s4 60 (((5 : Int32) + x1).toNatClampNeg) e3)
                        else
                          if x1 = (7 : Int32) then
                            J6 (34 : Int32) (am_sI s4 60 (((5 : Int32) + x1).toNatClampNeg) e3)
                          else
                            J6 (50 : Int32) (am_sI s4 60 (((5 : Int32) + x1).toNatClampNeg) e3)
          )
        else none
      ) (fun J2 =>
        if (5 : Int32) ≤ x1 then
          if x1 = (5 : Int32) then
            J2 (45 : Int32) s
          else
            if x1 = (6 : Int32) then
              J2 (40 : Int32) s
            else
              if x1 = (7 : Int32) then
                J2 (25 : Int32) s
              else
                J2 (10 : Int32) s
        else
          J2 ((10 : Int32) * x1) s
      )
theorem q_X8_plainLaw_40 : ∀ (m : Nat) {N n : Nat} {d : Nat} {x1 : Int32} {s : am_S} {P : (am_O × am_S) ⊕ (Unit × am_S) → Prop} {Q : am_O → am_S → Prop} (h : am_sh N n s)  (k : am_ok (L_X8_plainLaw_40 m x1 s) P) (hP : ∀ o s, P (.inl (o, s)) → am_sh N n s → Q o s) (hX : ∀ (e : Unit) s, P (.inr (e, s)) → am_sh N n s → am_WP (d) mX8_plainLaw 195 [] [] s Q), am_WP (d) mX8_plainLaw 40 [(0, .ref 55), (1, .int x1)] [] s Q := by
  intro m
  induction m with
  | zero =>
    intro N n d x1 s P Q h  k hP hX
    exact (ok_no k).elim
  | succ m ih =>
    intro N n d x1 s P Q h  k hP hX
    unfold L_X8_plainLaw_40 at k
    refine wp_ld (v := .int x1) dX8_plainLaw_40 rfl rfl rfl rfl ?_
    refine wp_cst (v := .int (9 : Int32)) dX8_plainLaw_41 rfl rfl ?_
    refine wp_ic_ge dX8_plainLaw_43 rfl (fun c1 => have k := ok_pos c1 k; ?_) (fun c1 => have k := ok_neg c1 k; ?_)
    · exact wp_sub (hX _ _ (ok_s k) h) rfl trivial
    · refine wp_ld (v := .ref 55) dX8_plainLaw_46 rfl rfl rfl rfl ?_
      refine wp_gr dX8_plainLaw_47 rfl rfl (kk_55 h) (rr_55_5 h) ?_
      refine wp_cst (v := .int (5 : Int32)) dX8_plainLaw_50 rfl rfl ?_
      refine wp_ld (v := .int x1) dX8_plainLaw_51 rfl rfl rfl rfl ?_
      refine wp_pu dX8_plainLaw_52 rfl rfl ?_
      refine wp_ld (v := .int x1) dX8_plainLaw_53 rfl rfl rfl rfl ?_
      refine wp_cst (v := .int (5 : Int32)) dX8_plainLaw_54 rfl rfl ?_
      refine jn_rule k (fun J2 hJ2 k => ?_)
      have HJ2 : ∀ (e3 : Int32) (s4 : am_S), am_sh N n s4 → am_ok (J2 e3 s4) P → am_WP (d) mX8_plainLaw 99 [(0, .ref 55), (1, .int x1)] [.int e3, .int ((5 : Int32) + x1), .ref 60] s4 Q := by
        intro e3 s4 h k
        replace k := hJ2 _ _ k
        obtain ⟨g5, k⟩ := ok_g k
        refine wq_iast dX8_plainLaw_99 (kk_60 h) g5 (j := (((5 : Int32) + x1).toNatClampNeg)) rfl ?_
        refine wp_ld (v := .ref 55) dX8_plainLaw_100 rfl rfl rfl rfl ?_
        refine wp_gr dX8_plainLaw_101 rfl rfl (kk_55 (sh_sI h)) (rr_55_5 (sh_sI h)) ?_
        refine wp_cst (v := .int (14 : Int32)) dX8_plainLaw_104 rfl rfl ?_
        refine wp_ld (v := .int x1) dX8_plainLaw_106 rfl rfl rfl rfl ?_
        refine wp_pu dX8_plainLaw_107 rfl rfl ?_
        refine wp_ld (v := .int x1) dX8_plainLaw_108 rfl rfl rfl rfl ?_
        refine jn_rule k (fun J6 hJ6 k => ?_)
        have HJ6 : ∀ (e7 : Int32) (s8 : am_S), am_sh N n s8 → am_ok (J6 e7 s8) P → am_WP (d) mX8_plainLaw 188 [(0, .ref 55), (1, .int x1)] [.int e7, .int ((14 : Int32) + x1), .ref 60] s8 Q := by
          intro e7 s8 h k
          replace k := hJ6 _ _ k
          obtain ⟨g9, k⟩ := ok_g k
          refine wq_iast dX8_plainLaw_188 (kk_60 h) g9 (j := (((14 : Int32) + x1).toNatClampNeg)) rfl ?_
          refine wp_inc (v := (x1 + (1 : Int32))) (ls' := [(0, .ref 55), (1, .int (x1 + (1 : Int32)))]) dX8_plainLaw_189 rfl (Nat.le_of_ble_eq_true rfl) rfl rfl ?_
          refine wp_goto dX8_plainLaw_192 rfl ?_
          exact wp_sub (ih (sh_sI h) k hP hX) rfl ⟨rfl, rfl, trivial⟩
        refine wp_if_ne dX8_plainLaw_109 rfl (fun c10 => have k := ok_neg c10 k; ?_) (fun c10 => have k := ok_pos c10 k; ?_)
        · refine wp_ld (v := .int x1) dX8_plainLaw_116 rfl rfl rfl rfl ?_
          refine wp_cst (v := .int (1 : Int32)) dX8_plainLaw_117 rfl rfl ?_
          refine wp_ic_ne dX8_plainLaw_118 rfl (fun c11 => have k := ok_neg c11 k; ?_) (fun c11 => have k := ok_pos c11 k; ?_)
          · refine wp_ld (v := .int x1) dX8_plainLaw_125 rfl rfl rfl rfl ?_
            refine wp_cst (v := .int (2 : Int32)) dX8_plainLaw_126 rfl rfl ?_
            refine wp_ic_ne dX8_plainLaw_127 rfl (fun c12 => have k := ok_neg c12 k; ?_) (fun c12 => have k := ok_pos c12 k; ?_)
            · refine wp_ld (v := .int x1) dX8_plainLaw_134 rfl rfl rfl rfl ?_
              refine wp_cst (v := .int (3 : Int32)) dX8_plainLaw_135 rfl rfl ?_
              refine wp_ic_ne dX8_plainLaw_136 rfl (fun c13 => have k := ok_neg c13 k; ?_) (fun c13 => have k := ok_pos c13 k; ?_)
              · refine wp_ld (v := .int x1) dX8_plainLaw_144 rfl rfl rfl rfl ?_
                refine wp_cst (v := .int (4 : Int32)) dX8_plainLaw_145 rfl rfl ?_
                refine wp_ic_ne dX8_plainLaw_146 rfl (fun c14 => have k := ok_neg c14 k; ?_) (fun c14 => have k := ok_pos c14 k; ?_)
                · refine wp_ld (v := .int x1) dX8_plainLaw_154 rfl rfl rfl rfl ?_
                  refine wp_cst (v := .int (5 : Int32)) dX8_plainLaw_155 rfl rfl ?_
                  refine wp_ic_ne dX8_plainLaw_156 rfl (fun c15 => have k := ok_neg c15 k; ?_) (fun c15 => have k := ok_pos c15 k; ?_)
                  · refine wp_ld (v := .int x1) dX8_plainLaw_164 rfl rfl rfl rfl ?_
                    refine wp_cst (v := .int (6 : Int32)) dX8_plainLaw_165 rfl rfl ?_
                    refine wp_ic_ne dX8_plainLaw_167 rfl (fun c16 => have k := ok_neg c16 k; ?_) (fun c16 => have k := ok_pos c16 k; ?_)
                    · refine wp_ld (v := .int x1) dX8_plainLaw_175 rfl rfl rfl rfl ?_
                      refine wp_cst (v := .int (7 : Int32)) dX8_plainLaw_176 rfl rfl ?_
                      refine wp_ic_ne dX8_plainLaw_178 rfl (fun c17 => have k := ok_neg c17 k; ?_) (fun c17 => have k := ok_pos c17 k; ?_)
                      · refine wp_cst (v := .int (50 : Int32)) dX8_plainLaw_186 rfl rfl ?_
                        exact wp_sub (HJ6 _ _ (sh_sI h) k) rfl ⟨rfl, rfl, trivial⟩
                      · refine wp_cst (v := .int (34 : Int32)) dX8_plainLaw_181 rfl rfl ?_
                        refine wp_goto dX8_plainLaw_183 rfl ?_
                        exact wp_sub (HJ6 _ _ (sh_sI h) k) rfl ⟨rfl, rfl, trivial⟩
                    · refine wp_cst (v := .int (22 : Int32)) dX8_plainLaw_170 rfl rfl ?_
                      refine wp_goto dX8_plainLaw_172 rfl ?_
                      exact wp_sub (HJ6 _ _ (sh_sI h) k) rfl ⟨rfl, rfl, trivial⟩
                  · refine wp_cst (v := .int (14 : Int32)) dX8_plainLaw_159 rfl rfl ?_
                    refine wp_goto dX8_plainLaw_161 rfl ?_
                    exact wp_sub (HJ6 _ _ (sh_sI h) k) rfl ⟨rfl, rfl, trivial⟩
                · refine wp_cst (v := .int (9 : Int32)) dX8_plainLaw_149 rfl rfl ?_
                  refine wp_goto dX8_plainLaw_151 rfl ?_
                  exact wp_sub (HJ6 _ _ (sh_sI h) k) rfl ⟨rfl, rfl, trivial⟩
              · refine wp_cst (v := .int (6 : Int32)) dX8_plainLaw_139 rfl rfl ?_
                refine wp_goto dX8_plainLaw_141 rfl ?_
                exact wp_sub (HJ6 _ _ (sh_sI h) k) rfl ⟨rfl, rfl, trivial⟩
            · refine wp_cst (v := .int (4 : Int32)) dX8_plainLaw_130 rfl rfl ?_
              refine wp_goto dX8_plainLaw_131 rfl ?_
              exact wp_sub (HJ6 _ _ (sh_sI h) k) rfl ⟨rfl, rfl, trivial⟩
          · refine wp_cst (v := .int (3 : Int32)) dX8_plainLaw_121 rfl rfl ?_
            refine wp_goto dX8_plainLaw_122 rfl ?_
            exact wp_sub (HJ6 _ _ (sh_sI h) k) rfl ⟨rfl, rfl, trivial⟩
        · refine wp_cst (v := .int (2 : Int32)) dX8_plainLaw_112 rfl rfl ?_
          refine wp_goto dX8_plainLaw_113 rfl ?_
          exact wp_sub (HJ6 _ _ (sh_sI h) k) rfl ⟨rfl, rfl, trivial⟩
      refine wp_ic_ge dX8_plainLaw_55 rfl (fun c18 => have k := ok_pos c18 k; ?_) (fun c18 => have k := ok_neg c18 k; ?_)
      · refine wp_ld (v := .int x1) dX8_plainLaw_65 rfl rfl rfl rfl ?_
        refine wp_cst (v := .int (5 : Int32)) dX8_plainLaw_66 rfl rfl ?_
        refine wp_ic_ne dX8_plainLaw_67 rfl (fun c19 => have k := ok_neg c19 k; ?_) (fun c19 => have k := ok_pos c19 k; ?_)
        · refine wp_ld (v := .int x1) dX8_plainLaw_75 rfl rfl rfl rfl ?_
          refine wp_cst (v := .int (6 : Int32)) dX8_plainLaw_76 rfl rfl ?_
          refine wp_ic_ne dX8_plainLaw_78 rfl (fun c20 => have k := ok_neg c20 k; ?_) (fun c20 => have k := ok_pos c20 k; ?_)
          · refine wp_ld (v := .int x1) dX8_plainLaw_86 rfl rfl rfl rfl ?_
            refine wp_cst (v := .int (7 : Int32)) dX8_plainLaw_87 rfl rfl ?_
            refine wp_ic_ne dX8_plainLaw_89 rfl (fun c21 => have k := ok_neg c21 k; ?_) (fun c21 => have k := ok_pos c21 k; ?_)
            · refine wp_cst (v := .int (10 : Int32)) dX8_plainLaw_97 rfl rfl ?_
              exact wp_sub (HJ2 _ _ h k) rfl ⟨rfl, rfl, trivial⟩
            · refine wp_cst (v := .int (25 : Int32)) dX8_plainLaw_92 rfl rfl ?_
              refine wp_goto dX8_plainLaw_94 rfl ?_
              exact wp_sub (HJ2 _ _ h k) rfl ⟨rfl, rfl, trivial⟩
          · refine wp_cst (v := .int (40 : Int32)) dX8_plainLaw_81 rfl rfl ?_
            refine wp_goto dX8_plainLaw_83 rfl ?_
            exact wp_sub (HJ2 _ _ h k) rfl ⟨rfl, rfl, trivial⟩
        · refine wp_cst (v := .int (45 : Int32)) dX8_plainLaw_70 rfl rfl ?_
          refine wp_goto dX8_plainLaw_72 rfl ?_
          exact wp_sub (HJ2 _ _ h k) rfl ⟨rfl, rfl, trivial⟩
      · refine wp_cst (v := .int (10 : Int32)) dX8_plainLaw_58 rfl rfl ?_
        refine wp_ld (v := .int x1) dX8_plainLaw_60 rfl rfl rfl rfl ?_
        refine wp_pu dX8_plainLaw_61 rfl rfl ?_
        refine wp_goto dX8_plainLaw_62 rfl ?_
        exact wp_sub (HJ2 _ _ h k) rfl ⟨rfl, rfl, trivial⟩
noncomputable def f_X8_plainLaw  (s : am_S) : am_F :=
  am_lm (L_X8_plainLaw_40 ax_fuel (0 : Int32) (am_sI (am_sI (am_sI (am_sI (am_sI s 60 0 (10 : Int32)) 60 1 (10 : Int32)) 60 2 (10 : Int32)) 60 3 (3 : Int32)) 60 4 (-1 : Int32))) (fun e22 s23 =>
    some (.inl none, s23)
  )
theorem s_X8_plainLaw {N n : Nat} {d : Nat}  {s : am_S} (h : am_sh N n s)  : am_S1 (am_sh N n) (d) mX8_plainLaw [.ref 55] s (f_X8_plainLaw s) := by
  intro P Q k hP
  show am_WP (d) mX8_plainLaw 0 [(0, .ref 55)] [] s Q
  unfold f_X8_plainLaw at k
  refine wp_ld (v := .ref 55) dX8_plainLaw_0 rfl rfl rfl rfl ?_
  refine wp_gr dX8_plainLaw_1 rfl rfl (kk_55 h) (rr_55_5 h) ?_
  refine wp_cst (v := .int (0 : Int32)) dX8_plainLaw_4 rfl rfl ?_
  refine wp_cst (v := .int (10 : Int32)) dX8_plainLaw_5 rfl rfl ?_
  refine wq_iast dX8_plainLaw_7 (kk_60 h) (by decide) (j := 0) rfl ?_
  refine wp_ld (v := .ref 55) dX8_plainLaw_8 rfl rfl rfl rfl ?_
  refine wp_gr dX8_plainLaw_9 rfl rfl (kk_55 (sh_sI h)) (rr_55_5 (sh_sI h)) ?_
  refine wp_cst (v := .int (1 : Int32)) dX8_plainLaw_12 rfl rfl ?_
  refine wp_cst (v := .int (10 : Int32)) dX8_plainLaw_13 rfl rfl ?_
  refine wq_iast dX8_plainLaw_15 (kk_60 (sh_sI h)) (by decide) (j := 1) rfl ?_
  refine wp_ld (v := .ref 55) dX8_plainLaw_16 rfl rfl rfl rfl ?_
  show am_WP (d) mX8_plainLaw 17 _ _ _ Q
  refine wp_gr dX8_plainLaw_17 rfl rfl (kk_55 (sh_sI (sh_sI h))) (rr_55_5 (sh_sI (sh_sI h))) ?_
  refine wp_cst (v := .int (2 : Int32)) dX8_plainLaw_20 rfl rfl ?_
  refine wp_cst (v := .int (10 : Int32)) dX8_plainLaw_21 rfl rfl ?_
  refine wq_iast dX8_plainLaw_23 (kk_60 (sh_sI (sh_sI h))) (by decide) (j := 2) rfl ?_
  refine wp_ld (v := .ref 55) dX8_plainLaw_24 rfl rfl rfl rfl ?_
  refine wp_gr dX8_plainLaw_25 rfl rfl (kk_55 (sh_sI (sh_sI (sh_sI h)))) (rr_55_5 (sh_sI (sh_sI (sh_sI h)))) ?_
  refine wp_cst (v := .int (3 : Int32)) dX8_plainLaw_28 rfl rfl ?_
  refine wp_cst (v := .int (3 : Int32)) dX8_plainLaw_29 rfl rfl ?_
  refine wq_iast dX8_plainLaw_30 (kk_60 (sh_sI (sh_sI (sh_sI h)))) (by decide) (j := 3) rfl ?_
  refine wp_ld (v := .ref 55) dX8_plainLaw_31 rfl rfl rfl rfl ?_
  refine wp_gr dX8_plainLaw_32 rfl rfl (kk_55 (sh_sI (sh_sI (sh_sI (sh_sI h))))) (rr_55_5 (sh_sI (sh_sI (sh_sI (sh_sI h))))) ?_
  refine wp_cst (v := .int (4 : Int32)) dX8_plainLaw_35 rfl rfl ?_
  show am_WP (d) mX8_plainLaw 36 _ _ _ Q
  refine wp_cst (v := .int (-1 : Int32)) dX8_plainLaw_36 rfl rfl ?_
  refine wq_iast dX8_plainLaw_37 (kk_60 (sh_sI (sh_sI (sh_sI (sh_sI h))))) (by decide) (j := 4) rfl ?_
  refine wp_cst (v := .int (0 : Int32)) dX8_plainLaw_38 rfl rfl ?_
  refine wp_st (ls' := [(0, .ref 55), (1, .int (0 : Int32))]) dX8_plainLaw_39 rfl rfl rfl (Nat.le_of_ble_eq_true rfl) rfl ?_
  refine lp_m k (fun P1 k hA hB => ?_)
  refine wp_sub (q_X8_plainLaw_40 ax_fuel (sh_sI (sh_sI (sh_sI (sh_sI (sh_sI h))))) k (fun o s p h => hP o s (hA o s p) h) (fun e22 s23 p h => have k := hB e22 s23 p; ?_)) rfl ⟨rfl, rfl, trivial⟩
  exact wp_end dX8_plainLaw_195 rfl rfl (hP _ _ (ok_s k) h)
noncomputable def L_X8_nine_6 : Nat → Int32 → Int32 → am_S → am_FE (Unit)
  | 0, _, _, _ => none
  | m + 1, x1, x2, s =>
    if (9 : Int32) ≤ x2 then
      some (.inr ((), s))
    else
      if (am_I s 55 13) = 0 then
        am_bi (f_X8_number (0 : Int32) (99 : Int32) s) (fun v6 s5 =>
          if am_in ((x1 - (8 : Int32)) + x2) 23 = true then
            L_X8_nine_6 m x1 (x2 + (1 : Int32)) (am_sI s5 60 (((x1 - (8 : Int32)) + x2).toNatClampNeg) v6)
          else none
        )
      else
        some (.inr ((), s))
theorem q_X8_nine_6 : ∀ (m : Nat) {N n : Nat} {d : Nat} {x1 : Int32} {x2 : Int32} {s : am_S} {P : (am_O × am_S) ⊕ (Unit × am_S) → Prop} {Q : am_O → am_S → Prop} (h : am_sh N n s)  (k : am_ok (L_X8_nine_6 m x1 x2 s) P) (hP : ∀ o s, P (.inl (o, s)) → am_sh N n s → Q o s) (hX : ∀ (e : Unit) s, P (.inr (e, s)) → am_sh N n s → am_WP (d + 3) mX8_nine 43 [] [] s Q), am_WP (d + 3) mX8_nine 6 [(0, .ref 55), (1, .int x1), (2, .int x2)] [] s Q := by
  intro m
  induction m with
  | zero =>
    intro N n d x1 x2 s P Q h  k hP hX
    exact (ok_no k).elim
  | succ m ih =>
    intro N n d x1 x2 s P Q h  k hP hX
    unfold L_X8_nine_6 at k
    refine wp_ld (v := .int x2) dX8_nine_6 rfl rfl rfl rfl ?_
    refine wp_cst (v := .int (9 : Int32)) dX8_nine_7 rfl rfl ?_
    refine wp_ic_ge dX8_nine_9 rfl (fun c3 => have k := ok_pos c3 k; ?_) (fun c3 => have k := ok_neg c3 k; ?_)
    · exact wp_sub (hX _ _ (ok_s k) h) rfl trivial
    · refine wp_ld (v := .ref 55) dX8_nine_12 rfl rfl rfl rfl ?_
      refine wq_gI dX8_nine_13 rfl rfl (kk_55 h) (v := (am_I s 55 13)) rfl ?_
      refine wp_if_ne dX8_nine_16 rfl (fun c4 => have k := ok_neg c4 k; ?_) (fun c4 => have k := ok_pos c4 k; ?_)
      · exact wp_sub (hX _ _ (ok_s k) h) rfl trivial
      · refine wp_ld (v := .ref 55) dX8_nine_19 rfl rfl rfl rfl ?_
        refine wp_gr dX8_nine_20 rfl rfl (kk_55 h) (rr_55_5 h) ?_
        refine wp_ld (v := .int x1) dX8_nine_23 rfl rfl rfl rfl ?_
        refine wp_cst (v := .int (8 : Int32)) dX8_nine_24 rfl rfl ?_
        refine wp_pu dX8_nine_26 rfl rfl ?_
        refine wp_ld (v := .int x2) dX8_nine_27 rfl rfl rfl rfl ?_
        refine wp_pu dX8_nine_28 rfl rfl ?_
        refine wp_ld (v := .ref 55) dX8_nine_29 rfl rfl rfl rfl ?_
        refine wp_cst (v := .int (0 : Int32)) dX8_nine_30 rfl rfl ?_
        refine wp_cst (v := .int (99 : Int32)) dX8_nine_31 rfl rfl ?_
        refine c_i dX8_nine_33 rfl rfl rfl (am_inv_v rfl (kk_55 h) rfl rfl rfl) (s_X8_number h) k (fun v6 s5 h k => ?_)
        obtain ⟨g7, k⟩ := ok_g k
        refine wq_iast dX8_nine_36 (kk_60 h) g7 (j := (((x1 - (8 : Int32)) + x2).toNatClampNeg)) rfl ?_
        refine wp_inc (v := (x2 + (1 : Int32))) (ls' := [(0, .ref 55), (1, .int x1), (2, .int (x2 + (1 : Int32)))]) dX8_nine_37 rfl (Nat.le_of_ble_eq_true rfl) rfl rfl ?_
        refine wp_goto dX8_nine_40 rfl ?_
        exact wp_sub (ih (sh_sI h) k hP hX) rfl ⟨rfl, rfl, rfl, trivial⟩
noncomputable def f_X8_nine (x1 : Int32) (s : am_S) : am_F :=
  am_bu (f_X8_next s) (fun s1 =>
    am_lm (L_X8_nine_6 ax_fuel x1 (0 : Int32) s1) (fun e8 s9 =>
      some (.inl none, s9)
    )
  )
theorem s_X8_nine {N n : Nat} {d : Nat} {x1 : Int32} {s : am_S} (h : am_sh N n s)  : am_S1 (am_sh N n) (d + 3) mX8_nine [.ref 55, .int x1] s (f_X8_nine x1 s) := by
  intro P Q k hP
  show am_WP (d + 3) mX8_nine 0 [(0, .ref 55), (1, .int x1)] [] s Q
  unfold f_X8_nine at k
  refine wp_ld (v := .ref 55) dX8_nine_0 rfl rfl rfl rfl ?_
  refine c_u dX8_nine_1 rfl rfl rfl (am_inv_v rfl (kk_55 h) rfl rfl rfl) (s_X8_next h) k (fun s1 h k => ?_)
  refine wp_cst (v := .int (0 : Int32)) dX8_nine_4 rfl rfl ?_
  refine wp_st (ls' := [(0, .ref 55), (1, .int x1), (2, .int (0 : Int32))]) dX8_nine_5 rfl rfl rfl (Nat.le_of_ble_eq_true rfl) rfl ?_
  refine lp_m k (fun P1 k hA hB => ?_)
  refine wp_sub (q_X8_nine_6 ax_fuel h k (fun o s p h => hP o s (hA o s p) h) (fun e8 s9 p h => have k := hB e8 s9 p; ?_)) rfl ⟨rfl, rfl, rfl, trivial⟩
  exact wp_end dX8_nine_43 rfl rfl (hP _ _ (ok_s k) h)
noncomputable def f_X8_one (x1 : Int32) (x2 : Int32) (x3 : Int32) (s : am_S) : am_F :=
  am_bu (f_X8_next s) (fun s1 =>
    am_bi (f_X8_number x2 x3 s1) (fun v4 s3 =>
      if am_in (x1 - (8 : Int32)) 23 = true then
        some (.inl none, (am_sI s3 60 ((x1 - (8 : Int32)).toNatClampNeg) v4))
      else none
    )
  )
theorem s_X8_one {N n : Nat} {d : Nat} {x1 : Int32} {x2 : Int32} {x3 : Int32} {s : am_S} (h : am_sh N n s)  : am_S1 (am_sh N n) (d + 3) mX8_one [.ref 55, .int x1, .int x2, .int x3] s (f_X8_one x1 x2 x3 s) := by
  intro P Q k hP
  show am_WP (d + 3) mX8_one 0 [(0, .ref 55), (1, .int x1), (2, .int x2), (3, .int x3)] [] s Q
  unfold f_X8_one at k
  refine wp_ld (v := .ref 55) dX8_one_0 rfl rfl rfl rfl ?_
  refine c_u dX8_one_1 rfl rfl rfl (am_inv_v rfl (kk_55 h) rfl rfl rfl) (s_X8_next h) k (fun s1 h k => ?_)
  refine wp_ld (v := .ref 55) dX8_one_4 rfl rfl rfl rfl ?_
  refine wp_gr dX8_one_5 rfl rfl (kk_55 h) (rr_55_5 h) ?_
  refine wp_ld (v := .int x1) dX8_one_8 rfl rfl rfl rfl ?_
  refine wp_cst (v := .int (8 : Int32)) dX8_one_9 rfl rfl ?_
  refine wp_pu dX8_one_11 rfl rfl ?_
  refine wp_ld (v := .ref 55) dX8_one_12 rfl rfl rfl rfl ?_
  refine wp_ld (v := .int x2) dX8_one_13 rfl rfl rfl rfl ?_
  refine wp_ld (v := .int x3) dX8_one_14 rfl rfl rfl rfl ?_
  refine c_i dX8_one_15 rfl rfl rfl (am_inv_v rfl (kk_55 h) rfl rfl rfl) (s_X8_number h) k (fun v4 s3 h k => ?_)
  obtain ⟨g5, k⟩ := ok_g k
  refine wq_iast dX8_one_18 (kk_60 h) g5 (j := ((x1 - (8 : Int32)).toNatClampNeg)) rfl ?_
  exact wp_end dX8_one_19 rfl rfl (hP _ _ (ok_s k) (sh_sI h))
noncomputable def L_X8_law_36 : Nat → Int32 → am_S → am_FE (Int32)
  | 0, _, _ => none
  | m + 1, x2, s =>
    if (am_I s 55 13) = 0 then
      if (am_I s 55 11) = 0 then
        some (.inr (x2, s))
      else
        am_bi (f_X8_isWord 1000013 s) (fun v11 s10 =>
          am_jn (fun (e13 : Unit) s14 =>
            am_bu (f_X8_stop s14) (fun s15 =>
              L_X8_law_36 m (x2 + (1 : Int32)) s15
            )
          ) (fun J12 =>
            if v11 = 0 then
              am_bi (f_X8_isWord 1000014 s10) (fun v19 s18 =>
                if v19 = 0 then
                  am_bi (f_X8_isWord 1000015 s18) (fun v22 s21 =>
                    if v22 = 0 then
                      am_bi (f_X8_isWord 1000016 s21) (fun v25 s24 =>
                        if v25 = 0 then
                          am_bi (f_X8_isWord 1000017 s24) (fun v28 s27 =>
                            if v28 = 0 then
                              am_bi (f_X8_isWord 1000018 s27) (fun v31 s30 =>
                                if v31 = 0 then
                                  am_bi (f_X8_isWord 1000019 s30) (fun v34 s33 =>
                                    if v34 = 0 then
                                      am_bu (f_X8_blames (2 : Int32) s33) (fun s36 =>
                                        J12 () s36
                                      )
                                    else
                                      am_bu (f_X8_one (12 : Int32) (10 : Int32) (99 : Int32) s33) (fun s38 =>
                                        J12 () s38
                                      )
                                  )
                                else
                                  am_bu (f_X8_one (11 : Int32) (0 : Int32) (9 : Int32) s30) (fun s40 =>
                                    J12 () s40
                                  )
                              )
                            else
                              am_bu (f_X8_one (10 : Int32) (0 : Int32) (99 : Int32) s27) (fun s42 =>
                                J12 () s42
                              )
                          )
                        else
                          am_bu (f_X8_one (9 : Int32) (1 : Int32) (99 : Int32) s24) (fun s44 =>
                            J12 () s44
                          )
                      )
                    else
                      am_bu (f_X8_one (8 : Int32) (1 : Int32) (50 : Int32) s21) (fun s46 =>
                        J12 () s46
                      )
                  )
                else
                  am_bu (f_X8_nine (22 : Int32) s18) (fun s48 =>
                    J12 () s48
                  )
              )
            else
              am_bu (f_X8_nine (13 : Int32) s10) (fun s50 =>
                J12 () s50
              )
          )
        )
    else
      some (.inr (x2, s))
theorem q_X8_law_36 : ∀ (m : Nat) {N n : Nat} {d : Nat} {x2 : Int32} {s : am_S} {P : (am_O × am_S) ⊕ (Int32 × am_S) → Prop} {Q : am_O → am_S → Prop} (h : am_sh N n s)  (k : am_ok (L_X8_law_36 m x2 s) P) (hP : ∀ o s, P (.inl (o, s)) → am_sh N n s → Q o s) (hX : ∀ (e : Int32) s, P (.inr (e, s)) → am_sh N n s → am_WP (d + 4) mX8_law 207 [(0, .ref 55), (2, .int e)] [] s Q), am_WP (d + 4) mX8_law 36 [(0, .ref 55), (2, .int x2)] [] s Q := by
  intro m
  induction m with
  | zero =>
    intro N n d x2 s P Q h  k hP hX
    exact (ok_no k).elim
  | succ m ih =>
    intro N n d x2 s P Q h  k hP hX
    unfold L_X8_law_36 at k
    refine wp_ld (v := .ref 55) dX8_law_36 rfl rfl rfl rfl ?_
    refine wq_gI dX8_law_37 rfl rfl (kk_55 h) (v := (am_I s 55 13)) rfl ?_
    refine wp_if_ne dX8_law_40 rfl (fun c8 => have k := ok_neg c8 k; ?_) (fun c8 => have k := ok_pos c8 k; ?_)
    · exact wp_sub (hX _ _ (ok_s k) h) rfl ⟨rfl, rfl, trivial⟩
    · refine wp_ld (v := .ref 55) dX8_law_43 rfl rfl rfl rfl ?_
      refine wq_gI dX8_law_44 rfl rfl (kk_55 h) (v := (am_I s 55 11)) rfl ?_
      refine wp_if_eq dX8_law_47 rfl (fun c9 => have k := ok_pos c9 k; ?_) (fun c9 => have k := ok_neg c9 k; ?_)
      · exact wp_sub (hX _ _ (ok_s k) h) rfl ⟨rfl, rfl, trivial⟩
      · refine wp_ld (v := .ref 55) dX8_law_50 rfl rfl rfl rfl ?_
        refine wp_cst (v := .ref 1000013) dX8_law_51 rfl rfl ?_
        refine c_i dX8_law_53 rfl rfl rfl (am_inv_v rfl (kk_55 h) rfl rfl rfl) (s_X8_isWord h rfl) k (fun v11 s10 h k => ?_)
        refine jn_rule k (fun J12 hJ12 k => ?_)
        have HJ12 : ∀ (e13 : Unit) (s14 : am_S), am_sh N n s14 → am_ok (J12 e13 s14) P → am_WP (d + 4) mX8_law 197 [(0, .ref 55), (2, .int x2)] [] s14 Q := by
          intro e13 s14 h k
          replace k := hJ12 _ _ k
          refine wp_ld (v := .ref 55) dX8_law_197 rfl rfl rfl rfl ?_
          refine c_u dX8_law_198 rfl rfl rfl (am_inv_v rfl (kk_55 h) rfl rfl rfl) (s_X8_stop h) k (fun s15 h k => ?_)
          refine wp_inc (v := (x2 + (1 : Int32))) (ls' := [(0, .ref 55), (2, .int (x2 + (1 : Int32)))]) dX8_law_201 rfl (Nat.le_of_ble_eq_true rfl) rfl rfl ?_
          refine wp_goto dX8_law_204 rfl ?_
          exact wp_sub (ih h k hP hX) rfl ⟨rfl, rfl, trivial⟩
        refine wp_if_eq dX8_law_56 rfl (fun c17 => have k := ok_pos c17 k; ?_) (fun c17 => have k := ok_neg c17 k; ?_)
        · refine wp_ld (v := .ref 55) dX8_law_68 rfl rfl rfl rfl ?_
          refine wp_cst (v := .ref 1000014) dX8_law_69 rfl rfl ?_
          refine c_i dX8_law_71 rfl rfl rfl (am_inv_v rfl (kk_55 h) rfl rfl rfl) (s_X8_isWord h rfl) k (fun v19 s18 h k => ?_)
          refine wp_if_eq dX8_law_74 rfl (fun c20 => have k := ok_pos c20 k; ?_) (fun c20 => have k := ok_neg c20 k; ?_)
          · refine wp_ld (v := .ref 55) dX8_law_86 rfl rfl rfl rfl ?_
            refine wp_cst (v := .ref 1000015) dX8_law_87 rfl rfl ?_
            refine c_i dX8_law_89 rfl rfl rfl (am_inv_v rfl (kk_55 h) rfl rfl rfl) (s_X8_isWord h rfl) k (fun v22 s21 h k => ?_)
            refine wp_if_eq dX8_law_92 rfl (fun c23 => have k := ok_pos c23 k; ?_) (fun c23 => have k := ok_neg c23 k; ?_)
            · refine wp_ld (v := .ref 55) dX8_law_107 rfl rfl rfl rfl ?_
              refine wp_cst (v := .ref 1000016) dX8_law_108 rfl rfl ?_
              refine c_i dX8_law_110 rfl rfl rfl (am_inv_v rfl (kk_55 h) rfl rfl rfl) (s_X8_isWord h rfl) k (fun v25 s24 h k => ?_)
              refine wp_if_eq dX8_law_113 rfl (fun c26 => have k := ok_pos c26 k; ?_) (fun c26 => have k := ok_neg c26 k; ?_)
              · refine wp_ld (v := .ref 55) dX8_law_128 rfl rfl rfl rfl ?_
                refine wp_cst (v := .ref 1000017) dX8_law_129 rfl rfl ?_
                refine c_i dX8_law_131 rfl rfl rfl (am_inv_v rfl (kk_55 h) rfl rfl rfl) (s_X8_isWord h rfl) k (fun v28 s27 h k => ?_)
                refine wp_if_eq dX8_law_134 rfl (fun c29 => have k := ok_pos c29 k; ?_) (fun c29 => have k := ok_neg c29 k; ?_)
                · refine wp_ld (v := .ref 55) dX8_law_149 rfl rfl rfl rfl ?_
                  refine wp_cst (v := .ref 1000018) dX8_law_150 rfl rfl ?_
                  refine c_i dX8_law_152 rfl rfl rfl (am_inv_v rfl (kk_55 h) rfl rfl rfl) (s_X8_isWord h rfl) k (fun v31 s30 h k => ?_)
                  refine wp_if_eq dX8_law_155 rfl (fun c32 => have k := ok_pos c32 k; ?_) (fun c32 => have k := ok_neg c32 k; ?_)
                  · refine wp_ld (v := .ref 55) dX8_law_170 rfl rfl rfl rfl ?_
                    refine wp_cst (v := .ref 1000019) dX8_law_171 rfl rfl ?_
                    refine c_i dX8_law_173 rfl rfl rfl (am_inv_v rfl (kk_55 h) rfl rfl rfl) (s_X8_isWord h rfl) k (fun v34 s33 h k => ?_)
                    refine wp_if_eq dX8_law_176 rfl (fun c35 => have k := ok_pos c35 k; ?_) (fun c35 => have k := ok_neg c35 k; ?_)
                    · refine wp_ld (v := .ref 55) dX8_law_192 rfl rfl rfl rfl ?_
                      refine wp_cst (v := .int (2 : Int32)) dX8_law_193 rfl rfl ?_
                      refine c_u dX8_law_194 rfl rfl rfl (am_inv_v rfl (kk_55 h) rfl rfl rfl) (s_X8_blames h) k (fun s36 h k => ?_)
                      exact wp_sub (HJ12 _ _ h k) rfl ⟨rfl, rfl, trivial⟩
                    · refine wp_ld (v := .ref 55) dX8_law_179 rfl rfl rfl rfl ?_
                      refine wp_cst (v := .int (12 : Int32)) dX8_law_180 rfl rfl ?_
                      refine wp_cst (v := .int (10 : Int32)) dX8_law_182 rfl rfl ?_
                      refine wp_cst (v := .int (99 : Int32)) dX8_law_184 rfl rfl ?_
                      refine c_u dX8_law_186 rfl rfl rfl (am_inv_v rfl (kk_55 h) rfl rfl rfl) (s_X8_one h) k (fun s38 h k => ?_)
                      refine wp_goto dX8_law_189 rfl ?_
                      exact wp_sub (HJ12 _ _ h k) rfl ⟨rfl, rfl, trivial⟩
                  · refine wp_ld (v := .ref 55) dX8_law_158 rfl rfl rfl rfl ?_
                    refine wp_cst (v := .int (11 : Int32)) dX8_law_159 rfl rfl ?_
                    refine wp_cst (v := .int (0 : Int32)) dX8_law_161 rfl rfl ?_
                    refine wp_cst (v := .int (9 : Int32)) dX8_law_162 rfl rfl ?_
                    refine c_u dX8_law_164 rfl rfl rfl (am_inv_v rfl (kk_55 h) rfl rfl rfl) (s_X8_one h) k (fun s40 h k => ?_)
                    refine wp_goto dX8_law_167 rfl ?_
                    exact wp_sub (HJ12 _ _ h k) rfl ⟨rfl, rfl, trivial⟩
                · refine wp_ld (v := .ref 55) dX8_law_137 rfl rfl rfl rfl ?_
                  refine wp_cst (v := .int (10 : Int32)) dX8_law_138 rfl rfl ?_
                  refine wp_cst (v := .int (0 : Int32)) dX8_law_140 rfl rfl ?_
                  refine wp_cst (v := .int (99 : Int32)) dX8_law_141 rfl rfl ?_
                  refine c_u dX8_law_143 rfl rfl rfl (am_inv_v rfl (kk_55 h) rfl rfl rfl) (s_X8_one h) k (fun s42 h k => ?_)
                  refine wp_goto dX8_law_146 rfl ?_
                  exact wp_sub (HJ12 _ _ h k) rfl ⟨rfl, rfl, trivial⟩
              · refine wp_ld (v := .ref 55) dX8_law_116 rfl rfl rfl rfl ?_
                refine wp_cst (v := .int (9 : Int32)) dX8_law_117 rfl rfl ?_
                refine wp_cst (v := .int (1 : Int32)) dX8_law_119 rfl rfl ?_
                refine wp_cst (v := .int (99 : Int32)) dX8_law_120 rfl rfl ?_
                refine c_u dX8_law_122 rfl rfl rfl (am_inv_v rfl (kk_55 h) rfl rfl rfl) (s_X8_one h) k (fun s44 h k => ?_)
                refine wp_goto dX8_law_125 rfl ?_
                exact wp_sub (HJ12 _ _ h k) rfl ⟨rfl, rfl, trivial⟩
            · refine wp_ld (v := .ref 55) dX8_law_95 rfl rfl rfl rfl ?_
              refine wp_cst (v := .int (8 : Int32)) dX8_law_96 rfl rfl ?_
              refine wp_cst (v := .int (1 : Int32)) dX8_law_98 rfl rfl ?_
              refine wp_cst (v := .int (50 : Int32)) dX8_law_99 rfl rfl ?_
              refine c_u dX8_law_101 rfl rfl rfl (am_inv_v rfl (kk_55 h) rfl rfl rfl) (s_X8_one h) k (fun s46 h k => ?_)
              refine wp_goto dX8_law_104 rfl ?_
              exact wp_sub (HJ12 _ _ h k) rfl ⟨rfl, rfl, trivial⟩
          · refine wp_ld (v := .ref 55) dX8_law_77 rfl rfl rfl rfl ?_
            refine wp_cst (v := .int (22 : Int32)) dX8_law_78 rfl rfl ?_
            refine c_u dX8_law_80 rfl rfl rfl (am_inv_v rfl (kk_55 h) rfl rfl rfl) (s_X8_nine h) k (fun s48 h k => ?_)
            refine wp_goto dX8_law_83 rfl ?_
            exact wp_sub (HJ12 _ _ h k) rfl ⟨rfl, rfl, trivial⟩
        · refine wp_ld (v := .ref 55) dX8_law_59 rfl rfl rfl rfl ?_
          refine wp_cst (v := .int (13 : Int32)) dX8_law_60 rfl rfl ?_
          refine c_u dX8_law_62 rfl rfl rfl (am_inv_v rfl (kk_55 h) rfl rfl rfl) (s_X8_nine h) k (fun s50 h k => ?_)
          refine wp_goto dX8_law_65 rfl ?_
          exact wp_sub (HJ12 _ _ h k) rfl ⟨rfl, rfl, trivial⟩
noncomputable def L_X8_law_216 : Nat → Int32 → Int32 → am_S → am_FE (Unit)
  | 0, _, _, _ => none
  | m + 1, x2, x3, s =>
    if (23 : Int32) ≤ x3 then
      some (.inr ((), s))
    else
      if am_in x3 23 = true then
        if am_in ((8 : Int32) + x3) 264 = true then
          L_X8_law_216 m x2 (x3 + (1 : Int32)) (am_sI s 56 (((8 : Int32) + x3).toNatClampNeg) (am_I s 60 x3.toNatClampNeg))
        else none
      else none
theorem q_X8_law_216 : ∀ (m : Nat) {N n : Nat} {d : Nat} {x2 : Int32} {x3 : Int32} {s : am_S} {P : (am_O × am_S) ⊕ (Unit × am_S) → Prop} {Q : am_O → am_S → Prop} (h : am_sh N n s)  (k : am_ok (L_X8_law_216 m x2 x3 s) P) (hP : ∀ o s, P (.inl (o, s)) → am_sh N n s → Q o s) (hX : ∀ (e : Unit) s, P (.inr (e, s)) → am_sh N n s → am_WP (d + 4) mX8_law 243 [(0, .ref 55), (2, .int x2)] [] s Q), am_WP (d + 4) mX8_law 216 [(0, .ref 55), (2, .int x2), (3, .int x3)] [] s Q := by
  intro m
  induction m with
  | zero =>
    intro N n d x2 x3 s P Q h  k hP hX
    exact (ok_no k).elim
  | succ m ih =>
    intro N n d x2 x3 s P Q h  k hP hX
    unfold L_X8_law_216 at k
    refine wp_ld (v := .int x3) dX8_law_216 rfl rfl rfl rfl ?_
    refine wp_cst (v := .int (23 : Int32)) dX8_law_217 rfl rfl ?_
    refine wp_ic_ge dX8_law_219 rfl (fun c60 => have k := ok_pos c60 k; ?_) (fun c60 => have k := ok_neg c60 k; ?_)
    · exact wp_sub (hX _ _ (ok_s k) h) rfl ⟨rfl, rfl, trivial⟩
    · refine wp_ld (v := .ref 55) dX8_law_222 rfl rfl rfl rfl ?_
      refine wp_gr dX8_law_223 rfl rfl (kk_55 h) (rr_55_0 h) ?_
      refine wp_cst (v := .int (8 : Int32)) dX8_law_226 rfl rfl ?_
      refine wp_ld (v := .int x3) dX8_law_228 rfl rfl rfl rfl ?_
      refine wp_pu dX8_law_229 rfl rfl ?_
      refine wp_ld (v := .ref 55) dX8_law_230 rfl rfl rfl rfl ?_
      refine wp_gr dX8_law_231 rfl rfl (kk_55 h) (rr_55_5 h) ?_
      refine wp_ld (v := .int x3) dX8_law_234 rfl rfl rfl rfl ?_
      obtain ⟨g61, k⟩ := ok_g k
      refine wq_iald dX8_law_235 (kk_60 h) g61 (v := (am_I s 60 x3.toNatClampNeg)) rfl ?_
      obtain ⟨g62, k⟩ := ok_g k
      refine wq_iast dX8_law_236 (kk_56 h) g62 (j := (((8 : Int32) + x3).toNatClampNeg)) rfl ?_
      refine wp_inc (v := (x3 + (1 : Int32))) (ls' := [(0, .ref 55), (2, .int x2), (3, .int (x3 + (1 : Int32)))]) dX8_law_237 rfl (Nat.le_of_ble_eq_true rfl) rfl rfl ?_
      show am_WP (d + 4) mX8_law 240 _ _ _ Q
      refine wp_goto dX8_law_240 rfl ?_
      exact wp_sub (ih (sh_sI h) k hP hX) rfl ⟨rfl, rfl, rfl, trivial⟩
noncomputable def f_X8_law (x1 : Int32) (s : am_S) : am_F :=
  am_bi (f_X8_within x1.toInt64 (0 : Int64) ((am_I s 55 7).toInt64) (am_sI s 55 3 (0 : Int32))) (fun v2 s1 =>
    if v2 = 0 then
      am_bi (f_X8_fails (1 : Int32) s1) (fun v66 s65 =>
        some (.inl (some (.int v66)), s65)
      )
    else
      am_bu (f_X8_begins x1 s1) (fun s4 =>
        am_bu (f_X8_plainLaw s4) (fun s6 =>
          am_lm (L_X8_law_36 ax_fuel (0 : Int32) s6) (fun e52 s53 =>
            am_jn (fun (e55 : Unit) s56 =>
              am_bi (f_X8_ends e52 s56) (fun v58 s57 =>
                some (.inl (some (.int v58)), s57)
              )
            ) (fun J54 =>
              if (am_I s53 55 13) = 0 then
                am_lm (L_X8_law_216 ax_fuel e52 (0 : Int32) s53) (fun e63 s64 =>
                  J54 () s64
                )
              else
                J54 () s53
            )
          )
        )
      )
  )
theorem s_X8_law {N n : Nat} {d : Nat} {x1 : Int32} {s : am_S} (h : am_sh N n s)  : am_S1 (am_sh N n) (d + 4) mX8_law [.ref 55, .int x1] s (f_X8_law x1 s) := by
  intro P Q k hP
  show am_WP (d + 4) mX8_law 0 [(0, .ref 55), (1, .int x1)] [] s Q
  unfold f_X8_law at k
  refine wp_ld (v := .ref 55) dX8_law_0 rfl rfl rfl rfl ?_
  refine wp_cst (v := .int (0 : Int32)) dX8_law_1 rfl rfl ?_
  refine wp_pI dX8_law_2 rfl rfl rfl (fun h => absurd h (by decide)) (kk_55 h) ?_
  refine wp_ld (v := .int x1) dX8_law_5 rfl rfl rfl rfl ?_
  refine wp_pu dX8_law_6 rfl rfl ?_
  refine wp_cst (v := .long (0 : Int64)) dX8_law_7 rfl rfl ?_
  refine wp_ld (v := .ref 55) dX8_law_8 rfl rfl rfl rfl ?_
  refine wq_gI dX8_law_9 rfl rfl (kk_55 (sh_sI h)) (v := (am_I s 55 7)) rfl ?_
  refine wp_pu dX8_law_12 rfl rfl ?_
  refine c_i dX8_law_13 rfl rfl rfl (am_inv_s rfl rfl rfl rfl) (s_X8_within (sh_sI h)) k (fun v2 s1 h k => ?_)
  refine wp_if_ne dX8_law_16 rfl (fun c3 => have k := ok_neg c3 k; ?_) (fun c3 => have k := ok_pos c3 k; ?_)
  · refine wp_ld (v := .ref 55) dX8_law_25 rfl rfl rfl rfl ?_
    refine wp_ld (v := .int x1) dX8_law_26 rfl rfl rfl rfl ?_
    refine c_u dX8_law_27 rfl rfl rfl (am_inv_v rfl (kk_55 h) rfl rfl rfl) (s_X8_begins h) k (fun s4 h k => ?_)
    refine wp_ld (v := .ref 55) dX8_law_30 rfl rfl rfl rfl ?_
    refine c_u dX8_law_31 rfl rfl rfl (am_inv_v rfl (kk_55 h) rfl rfl rfl) (s_X8_plainLaw h) k (fun s6 h k => ?_)
    refine wp_cst (v := .int (0 : Int32)) dX8_law_34 rfl rfl ?_
    refine wp_st (ls' := [(0, .ref 55), (1, .int x1), (2, .int (0 : Int32))]) dX8_law_35 rfl rfl rfl (Nat.le_of_ble_eq_true rfl) rfl ?_
    refine lp_m k (fun P1 k hA hB => ?_)
    refine wp_sub (q_X8_law_36 ax_fuel h k (fun o s p h => hP o s (hA o s p) h) (fun e52 s53 p h => have k := hB e52 s53 p; ?_)) rfl ⟨rfl, rfl, trivial⟩
    refine wp_ld (v := .ref 55) dX8_law_207 rfl rfl rfl rfl ?_
    refine wq_gI dX8_law_208 rfl rfl (kk_55 h) (v := (am_I s53 55 13)) rfl ?_
    refine jn_rule k (fun J54 hJ54 k => ?_)
    have HJ54 : ∀ (e55 : Unit) (s56 : am_S), am_sh N n s56 → am_ok (J54 e55 s56) P → am_WP (d + 4) mX8_law 243 [(0, .ref 55), (2, .int e52)] [] s56 Q := by
      intro e55 s56 h k
      replace k := hJ54 _ _ k
      refine wp_ld (v := .ref 55) dX8_law_243 rfl rfl rfl rfl ?_
      refine wp_ld (v := .int e52) dX8_law_244 rfl rfl rfl rfl ?_
      refine c_i dX8_law_245 rfl rfl rfl (am_inv_v rfl (kk_55 h) rfl rfl rfl) (s_X8_ends h) k (fun v58 s57 h k => ?_)
      exact wp_end dX8_law_248 rfl (am_end_i rfl) (hP _ _ (ok_s k) h)
    refine wp_if_ne dX8_law_211 rfl (fun c59 => have k := ok_neg c59 k; ?_) (fun c59 => have k := ok_pos c59 k; ?_)
    · exact wp_sub (HJ54 _ _ h k) rfl ⟨rfl, rfl, trivial⟩
    · refine wp_cst (v := .int (0 : Int32)) dX8_law_214 rfl rfl ?_
      refine wp_st (ls' := [(0, .ref 55), (2, .int e52), (3, .int (0 : Int32))]) dX8_law_215 rfl rfl rfl (Nat.le_of_ble_eq_true rfl) rfl ?_
      refine lp_m k (fun P1 k hA hB => ?_)
      refine wp_sub (q_X8_law_216 ax_fuel h k (fun o s p h => hP o s (hA o s p) h) (fun e63 s64 p h => have k := hB e63 s64 p; ?_)) rfl ⟨rfl, rfl, rfl, trivial⟩
      exact wp_sub (HJ54 _ _ h k) rfl ⟨rfl, rfl, trivial⟩
  · refine wp_ld (v := .ref 55) dX8_law_19 rfl rfl rfl rfl ?_
    refine wp_cst (v := .int (1 : Int32)) dX8_law_20 rfl rfl ?_
    refine c_i dX8_law_21 rfl rfl rfl (am_inv_v rfl (kk_55 h) rfl rfl rfl) (s_X8_fails h) k (fun v66 s65 h k => ?_)
    exact wp_end dX8_law_24 rfl (am_end_i rfl) (hP _ _ (ok_s k) h)
noncomputable def f_X7_fault (x1 : Int32) (s : am_S) : am_F :=
  if x1 = (0 : Int32) then
    some (.inl (some (.int (am_I s 34 7))), s)
  else if x1 = (1 : Int32) then
    some (.inl (some (.int (am_I s 34 8))), s)
  else
    some (.inl (some (.int (-1 : Int32))), s)
theorem s_X7_fault {N n : Nat} {d : Nat} {x1 : Int32} {s : am_S} (h : am_sh N n s)  : am_S1 (am_sh N n) (d) mX7_fault [.ref 0, .int x1] s (f_X7_fault x1 s) := by
  intro P Q k hP
  show am_WP (d) mX7_fault 0 [(0, .ref 0), (1, .int x1)] [] s Q
  unfold f_X7_fault at k
  refine wp_ld (v := .int x1) dX7_fault_0 rfl rfl rfl rfl ?_
  by_cases c1 : x1 = (0 : Int32)
  · have k := ok_pos c1 k
    refine sw_hit dX7_fault_1 rfl c1 rfl ?_
    refine wp_ld (v := .ref 0) dX7_fault_28 rfl rfl rfl rfl ?_
    refine wp_gr dX7_fault_29 rfl rfl (kk_0 h) (rr_0_2 h) ?_
    refine wq_gI dX7_fault_32 rfl rfl (kk_34 h) (v := (am_I s 34 7)) rfl ?_
    exact wp_end dX7_fault_35 rfl (am_end_i rfl) (hP _ _ (ok_s k) h)
  replace k := ok_neg c1 k
  by_cases c2 : x1 = (1 : Int32)
  · have k := ok_pos c2 k
    refine sw_hit dX7_fault_1 rfl c2 rfl ?_
    refine wp_ld (v := .ref 0) dX7_fault_36 rfl rfl rfl rfl ?_
    refine wp_gr dX7_fault_37 rfl rfl (kk_0 h) (rr_0_2 h) ?_
    refine wq_gI dX7_fault_40 rfl rfl (kk_34 h) (v := (am_I s 34 8)) rfl ?_
    exact wp_end dX7_fault_43 rfl (am_end_i rfl) (hP _ _ (ok_s k) h)
  replace k := ok_neg c2 k
  refine lk_out dX7_fault_1 rfl (lk2 c1 c2) rfl ?_
  refine wp_cst (v := .int (-1 : Int32)) dX7_fault_44 rfl rfl ?_
  exact wp_end dX7_fault_45 rfl (am_end_i rfl) (hP _ _ (ok_s k) h)
noncomputable def f_X8_fault (x1 : Int32) (s : am_S) : am_F :=
  if x1 = 0 then
    some (.inl (some (.int (am_I s 55 15))), (am_sI s 55 3 (0 : Int32)))
  else
    if x1 = (1 : Int32) then
      some (.inl (some (.int (am_I s 55 16))), (am_sI s 55 3 (0 : Int32)))
    else
      some (.inl (some (.int (-1 : Int32))), (am_sI s 55 3 (0 : Int32)))
theorem s_X8_fault {N n : Nat} {d : Nat} {x1 : Int32} {s : am_S} (h : am_sh N n s)  : am_S1 (am_sh N n) (d) mX8_fault [.ref 55, .int x1] s (f_X8_fault x1 s) := by
  intro P Q k hP
  show am_WP (d) mX8_fault 0 [(0, .ref 55), (1, .int x1)] [] s Q
  unfold f_X8_fault at k
  refine wp_ld (v := .ref 55) dX8_fault_0 rfl rfl rfl rfl ?_
  refine wp_cst (v := .int (0 : Int32)) dX8_fault_1 rfl rfl ?_
  refine wp_pI dX8_fault_2 rfl rfl rfl (fun h => absurd h (by decide)) (kk_55 h) ?_
  refine wp_ld (v := .int x1) dX8_fault_5 rfl rfl rfl rfl ?_
  refine wp_if_ne dX8_fault_6 rfl (fun c1 => have k := ok_neg c1 k; ?_) (fun c1 => have k := ok_pos c1 k; ?_)
  · refine wp_ld (v := .int x1) dX8_fault_16 rfl rfl rfl rfl ?_
    refine wp_cst (v := .int (1 : Int32)) dX8_fault_17 rfl rfl ?_
    refine wp_ic_ne dX8_fault_18 rfl (fun c2 => have k := ok_neg c2 k; ?_) (fun c2 => have k := ok_pos c2 k; ?_)
    · refine wp_cst (v := .int (-1 : Int32)) dX8_fault_28 rfl rfl ?_
      exact wp_end dX8_fault_29 rfl (am_end_i rfl) (hP _ _ (ok_s k) (sh_sI h))
    · refine wp_ld (v := .ref 55) dX8_fault_21 rfl rfl rfl rfl ?_
      refine wq_gI dX8_fault_22 rfl rfl (kk_55 (sh_sI h)) (v := (am_I s 55 16)) rfl ?_
      refine wp_goto dX8_fault_25 rfl ?_
      exact wp_end dX8_fault_29 rfl (am_end_i rfl) (hP _ _ (ok_s k) (sh_sI h))
  · refine wp_ld (v := .ref 55) dX8_fault_9 rfl rfl rfl rfl ?_
    refine wq_gI dX8_fault_10 rfl rfl (kk_55 (sh_sI h)) (v := (am_I s 55 15)) rfl ?_
    refine wp_goto dX8_fault_13 rfl ?_
    exact wp_end dX8_fault_29 rfl (am_end_i rfl) (hP _ _ (ok_s k) (sh_sI h))
noncomputable def f_X8_isWay (x1 : Int32) (s : am_S) : am_F :=
  am_bi (f_X8_within x1.toInt64 (0 : Int64) (((am_I s 56 2) - (1 : Int32)).toInt64) s) (fun v2 s1 =>
    if v2 = 0 ∨ v2 = 1 then
      some (.inl (some (.int v2)), s1)
    else none
  )
theorem s_X8_isWay {N n : Nat} {d : Nat} {x1 : Int32} {s : am_S} (h : am_sh N n s)  : am_S1 (am_sh N n) (d + 1) mX8_isWay [.ref 55, .int x1] s (f_X8_isWay x1 s) := by
  intro P Q k hP
  show am_WP (d + 1) mX8_isWay 0 [(0, .ref 55), (1, .int x1)] [] s Q
  unfold f_X8_isWay at k
  refine wp_ld (v := .int x1) dX8_isWay_0 rfl rfl rfl rfl ?_
  refine wp_pu dX8_isWay_1 rfl rfl ?_
  refine wp_cst (v := .long (0 : Int64)) dX8_isWay_2 rfl rfl ?_
  refine wp_ld (v := .ref 55) dX8_isWay_3 rfl rfl rfl rfl ?_
  refine wp_gr dX8_isWay_4 rfl rfl (kk_55 h) (rr_55_0 h) ?_
  refine wp_cst (v := .int (2 : Int32)) dX8_isWay_7 rfl rfl ?_
  refine wq_iald dX8_isWay_8 (kk_56 h) (by decide) (v := (am_I s 56 2)) rfl ?_
  refine wp_cst (v := .int (1 : Int32)) dX8_isWay_9 rfl rfl ?_
  refine wp_pu dX8_isWay_10 rfl rfl ?_
  refine wp_pu dX8_isWay_11 rfl rfl ?_
  refine c_i dX8_isWay_12 rfl rfl rfl (am_inv_s rfl rfl rfl rfl) (s_X8_within h) k (fun v2 s1 h k => ?_)
  obtain ⟨g3, k⟩ := ok_g k
  exact wp_end dX8_isWay_15 rfl (am_end_b rfl g3) (hP _ _ (ok_s k) h)
noncomputable def f_X8_foldsOf (x1 : Int32) (s : am_S) : am_F :=
  if am_in ((31 : Int32) + ((23 : Int32) * x1)) 264 = true then
    some (.inl (some (.int (am_I s 56 (((31 : Int32) + ((23 : Int32) * x1)).toNatClampNeg)))), s)
  else none
theorem s_X8_foldsOf {N n : Nat} {d : Nat} {x1 : Int32} {s : am_S} (h : am_sh N n s)  : am_S1 (am_sh N n) (d) mX8_foldsOf [.ref 55, .int x1] s (f_X8_foldsOf x1 s) := by
  intro P Q k hP
  show am_WP (d) mX8_foldsOf 0 [(0, .ref 55), (1, .int x1)] [] s Q
  unfold f_X8_foldsOf at k
  refine wp_ld (v := .ref 55) dX8_foldsOf_0 rfl rfl rfl rfl ?_
  refine wp_gr dX8_foldsOf_1 rfl rfl (kk_55 h) (rr_55_0 h) ?_
  refine wp_cst (v := .int (31 : Int32)) dX8_foldsOf_4 rfl rfl ?_
  refine wp_cst (v := .int (23 : Int32)) dX8_foldsOf_6 rfl rfl ?_
  refine wp_ld (v := .int x1) dX8_foldsOf_8 rfl rfl rfl rfl ?_
  refine wp_pu dX8_foldsOf_9 rfl rfl ?_
  refine wp_pu dX8_foldsOf_10 rfl rfl ?_
  obtain ⟨g1, k⟩ := ok_g k
  refine wq_iald dX8_foldsOf_11 (kk_56 h) g1 (v := (am_I s 56 (((31 : Int32) + ((23 : Int32) * x1)).toNatClampNeg))) rfl ?_
  exact wp_end dX8_foldsOf_12 rfl (am_end_i rfl) (hP _ _ (ok_s k) h)
noncomputable def f_X8_foldAt (x1 : Int32) (x2 : Int32) (s : am_S) : am_F :=
  some (.inl (some (.int ((((31 : Int32) + ((23 : Int32) * x1)) + (1 : Int32)) + ((2 : Int32) * x2)))), s)
theorem s_X8_foldAt {N n : Nat} {d : Nat} {x1 : Int32} {x2 : Int32} {s : am_S} (h : am_sh N n s)  : am_S1 (am_sh N n) (d) mX8_foldAt [.ref 55, .int x1, .int x2] s (f_X8_foldAt x1 x2 s) := by
  intro P Q k hP
  show am_WP (d) mX8_foldAt 0 [(0, .ref 55), (1, .int x1), (2, .int x2)] [] s Q
  unfold f_X8_foldAt at k
  refine wp_cst (v := .int (31 : Int32)) dX8_foldAt_0 rfl rfl ?_
  refine wp_cst (v := .int (23 : Int32)) dX8_foldAt_2 rfl rfl ?_
  refine wp_ld (v := .int x1) dX8_foldAt_4 rfl rfl rfl rfl ?_
  refine wp_pu dX8_foldAt_5 rfl rfl ?_
  refine wp_pu dX8_foldAt_6 rfl rfl ?_
  refine wp_cst (v := .int (1 : Int32)) dX8_foldAt_7 rfl rfl ?_
  refine wp_pu dX8_foldAt_8 rfl rfl ?_
  refine wp_cst (v := .int (2 : Int32)) dX8_foldAt_9 rfl rfl ?_
  refine wp_ld (v := .int x2) dX8_foldAt_10 rfl rfl rfl rfl ?_
  refine wp_pu dX8_foldAt_11 rfl rfl ?_
  refine wp_pu dX8_foldAt_12 rfl rfl ?_
  show am_WP (d) mX8_foldAt 13 _ _ _ Q
  exact wp_end dX8_foldAt_13 rfl (am_end_i rfl) (hP _ _ (ok_s k) h)
noncomputable def f_X8_fold (x1 : Int32) (x2 : Int32) (s : am_S) : am_F :=
  am_bi (f_X8_isWay x1 (am_sI s 55 3 (0 : Int32))) (fun v2 s1 =>
    if v2 = 0 then
      am_bi (f_X8_fails (1 : Int32) s1) (fun v19 s18 =>
        some (.inl (some (.int v19)), s18)
      )
    else
      if x2 = (-1 : Int32) then
        am_bi (f_X8_foldsOf x1 s1) (fun v17 s16 =>
          some (.inl (some (.int v17)), s16)
        )
      else
        am_bi (f_X8_foldsOf x1 s1) (fun v6 s5 =>
          am_bi (f_X8_within x2.toInt64 (0 : Int64) ((v6 - (1 : Int32)).toInt64) s5) (fun v8 s7 =>
            if v8 = 0 then
              some (.inl (some (.int (-1 : Int32))), s7)
            else
              am_bi (f_X8_foldAt x1 x2 s7) (fun v11 s10 =>
                if am_in v11 264 = true then
                  am_bi (f_X8_foldAt x1 x2 s10) (fun v14 s13 =>
                    if am_in (v14 + (1 : Int32)) 264 = true then
                      some (.inl (some (.int (((100 : Int32) * (am_I s10 56 v11.toNatClampNeg)) + (am_I s13 56 ((v14 + (1 : Int32)).toNatClampNeg))))), s13)
                    else none
                  )
                else none
              )
          )
        )
  )
theorem s_X8_fold {N n : Nat} {d : Nat} {x1 : Int32} {x2 : Int32} {s : am_S} (h : am_sh N n s)  : am_S1 (am_sh N n) (d + 2) mX8_fold [.ref 55, .int x1, .int x2] s (f_X8_fold x1 x2 s) := by
  intro P Q k hP
  show am_WP (d + 2) mX8_fold 0 [(0, .ref 55), (1, .int x1), (2, .int x2)] [] s Q
  unfold f_X8_fold at k
  refine wp_ld (v := .ref 55) dX8_fold_0 rfl rfl rfl rfl ?_
  refine wp_cst (v := .int (0 : Int32)) dX8_fold_1 rfl rfl ?_
  refine wp_pI dX8_fold_2 rfl rfl rfl (fun h => absurd h (by decide)) (kk_55 h) ?_
  refine wp_ld (v := .ref 55) dX8_fold_5 rfl rfl rfl rfl ?_
  refine wp_ld (v := .int x1) dX8_fold_6 rfl rfl rfl rfl ?_
  refine c_i dX8_fold_7 rfl rfl rfl (am_inv_v rfl (kk_55 (sh_sI h)) rfl rfl rfl) (s_X8_isWay (sh_sI h)) k (fun v2 s1 h k => ?_)
  refine wp_if_ne dX8_fold_10 rfl (fun c3 => have k := ok_neg c3 k; ?_) (fun c3 => have k := ok_pos c3 k; ?_)
  · refine wp_ld (v := .int x2) dX8_fold_19 rfl rfl rfl rfl ?_
    refine wp_cst (v := .int (-1 : Int32)) dX8_fold_20 rfl rfl ?_
    refine wp_ic_ne dX8_fold_21 rfl (fun c4 => have k := ok_neg c4 k; ?_) (fun c4 => have k := ok_pos c4 k; ?_)
    · refine wp_ld (v := .int x2) dX8_fold_30 rfl rfl rfl rfl ?_
      refine wp_pu dX8_fold_31 rfl rfl ?_
      refine wp_cst (v := .long (0 : Int64)) dX8_fold_32 rfl rfl ?_
      refine wp_ld (v := .ref 55) dX8_fold_33 rfl rfl rfl rfl ?_
      refine wp_ld (v := .int x1) dX8_fold_34 rfl rfl rfl rfl ?_
      refine c_i dX8_fold_35 rfl rfl rfl (am_inv_v rfl (kk_55 h) rfl rfl rfl) (s_X8_foldsOf h) k (fun v6 s5 h k => ?_)
      refine wp_cst (v := .int (1 : Int32)) dX8_fold_38 rfl rfl ?_
      refine wp_pu dX8_fold_39 rfl rfl ?_
      refine wp_pu dX8_fold_40 rfl rfl ?_
      refine c_i dX8_fold_41 rfl rfl rfl (am_inv_s rfl rfl rfl rfl) (s_X8_within h) k (fun v8 s7 h k => ?_)
      refine wp_if_eq dX8_fold_44 rfl (fun c9 => have k := ok_pos c9 k; ?_) (fun c9 => have k := ok_neg c9 k; ?_)
      · refine wp_cst (v := .int (-1 : Int32)) dX8_fold_78 rfl rfl ?_
        exact wp_end dX8_fold_79 rfl (am_end_i rfl) (hP _ _ (ok_s k) h)
      · refine wp_cst (v := .int (100 : Int32)) dX8_fold_47 rfl rfl ?_
        refine wp_ld (v := .ref 55) dX8_fold_49 rfl rfl rfl rfl ?_
        refine wp_gr dX8_fold_50 rfl rfl (kk_55 h) (rr_55_0 h) ?_
        refine wp_ld (v := .ref 55) dX8_fold_53 rfl rfl rfl rfl ?_
        refine wp_ld (v := .int x1) dX8_fold_54 rfl rfl rfl rfl ?_
        refine wp_ld (v := .int x2) dX8_fold_55 rfl rfl rfl rfl ?_
        refine c_i dX8_fold_56 rfl rfl rfl (am_inv_v rfl (kk_55 h) rfl rfl rfl) (s_X8_foldAt h) k (fun v11 s10 h k => ?_)
        obtain ⟨g12, k⟩ := ok_g k
        refine wq_iald dX8_fold_59 (kk_56 h) g12 (v := (am_I s10 56 v11.toNatClampNeg)) rfl ?_
        refine wp_pu dX8_fold_60 rfl rfl ?_
        refine wp_ld (v := .ref 55) dX8_fold_61 rfl rfl rfl rfl ?_
        refine wp_gr dX8_fold_62 rfl rfl (kk_55 h) (rr_55_0 h) ?_
        refine wp_ld (v := .ref 55) dX8_fold_65 rfl rfl rfl rfl ?_
        refine wp_ld (v := .int x1) dX8_fold_66 rfl rfl rfl rfl ?_
        refine wp_ld (v := .int x2) dX8_fold_67 rfl rfl rfl rfl ?_
        refine c_i dX8_fold_68 rfl rfl rfl (am_inv_v rfl (kk_55 h) rfl rfl rfl) (s_X8_foldAt h) k (fun v14 s13 h k => ?_)
        refine wp_cst (v := .int (1 : Int32)) dX8_fold_71 rfl rfl ?_
        refine wp_pu dX8_fold_72 rfl rfl ?_
        obtain ⟨g15, k⟩ := ok_g k
        refine wq_iald dX8_fold_73 (kk_56 h) g15 (v := (am_I s13 56 ((v14 + (1 : Int32)).toNatClampNeg))) rfl ?_
        refine wp_pu dX8_fold_74 rfl rfl ?_
        refine wp_goto dX8_fold_75 rfl ?_
        exact wp_end dX8_fold_79 rfl (am_end_i rfl) (hP _ _ (ok_s k) h)
    · refine wp_ld (v := .ref 55) dX8_fold_24 rfl rfl rfl rfl ?_
      refine wp_ld (v := .int x1) dX8_fold_25 rfl rfl rfl rfl ?_
      refine c_i dX8_fold_26 rfl rfl rfl (am_inv_v rfl (kk_55 h) rfl rfl rfl) (s_X8_foldsOf h) k (fun v17 s16 h k => ?_)
      exact wp_end dX8_fold_29 rfl (am_end_i rfl) (hP _ _ (ok_s k) h)
  · refine wp_ld (v := .ref 55) dX8_fold_13 rfl rfl rfl rfl ?_
    refine wp_cst (v := .int (1 : Int32)) dX8_fold_14 rfl rfl ?_
    refine c_i dX8_fold_15 rfl rfl rfl (am_inv_v rfl (kk_55 h) rfl rfl rfl) (s_X8_fails h) k (fun v19 s18 h k => ?_)
    exact wp_end dX8_fold_18 rfl (am_end_i rfl) (hP _ _ (ok_s k) h)
