def nHg (s : am_S) : am_S := am_sR (am_sI (am_sR (am_nat (am_nat (am_sR (am_sI (am_sR (am_nat (am_nat (am_sR (am_sI (am_sR (am_nat (am_nat (am_sR (am_sI (am_sR (am_nat (am_nat (am_sR (am_nat (am_sR (am_sI (am_nat (am_sR (am_nat (am_sR (am_sI (am_sR (am_nat (am_nat (am_sR (am_sR (am_sR (am_nat (am_sR (am_sR (am_nat (am_nat (am_sR (am_sR (am_nat (am_nat (am_sR (am_nat (am_sR (am_sI (am_sR (am_nat (am_nat (am_sR (am_nat (am_sR (am_sR (am_sI (am_sR (am_nat (am_nat (am_sR (am_sI (am_sR (am_nat (am_nat (am_sR (am_sI (am_sR (am_nat (am_nat (am_sR (am_sI (am_sR (am_nat (am_nat (am_sR (am_sI (am_sR (am_nat (am_nat (am_sR (am_sI (am_sR (am_nat (am_nat (am_sR (am_sI (am_sR (am_nat (am_nat (am_sR (am_sI (am_sR (am_nat (am_nat (am_sR (am_sI (am_sR (am_nat (am_nat (am_sR (am_sI (am_sR (am_nat (am_nat (am_sR (am_sI (am_sR (am_nat (am_nat (ax_cp (am_sR (am_sI (am_sR (am_nat (am_nat (am_sR (am_sI (am_sR (am_nat (am_nat (am_sR (am_sI (am_sR (am_nat (am_nat (am_sR (am_nat (am_sR (am_nat (am_sR (am_nat (am_sI (am_sI (am_nat (am_nat (s) 0 7 0 11) 1 5 0 11) 1 0 (8 : Int32)) 1 1 (6 : Int32)) 2 20 23 23) 1 3 (some 2)) 3 23 6 6) 1 4 (some 3)) 4 23 5 5) 1 6 (some 4)) 5 4 0 3) 6 20 33 33) 5 0 (some 6)) 5 1 (4 : Int32)) 1 8 (some 5)) 7 4 0 3) 8 20 33 33) 7 0 (some 8)) 7 1 (3 : Int32)) 1 9 (some 7)) 9 4 0 3) 10 20 33 33) 9 0 (some 10)) 9 1 (4 : Int32)) 1 10 (some 9)) 2 3000000 23) 11 4 0 3) 12 20 33 33) 11 0 (some 12)) 11 1 (11 : Int32)) 3 0 (some 11)) 13 4 0 3) 14 20 33 33) 13 0 (some 14)) 13 1 (11 : Int32)) 3 1 (some 13)) 15 4 0 3) 16 20 33 33) 15 0 (some 16)) 15 1 (11 : Int32)) 3 2 (some 15)) 17 4 0 3) 18 20 33 33) 17 0 (some 18)) 17 1 (11 : Int32)) 3 3 (some 17)) 19 4 0 3) 20 20 33 33) 19 0 (some 20)) 19 1 (11 : Int32)) 3 4 (some 19)) 21 4 0 3) 22 20 33 33) 21 0 (some 22)) 21 1 (11 : Int32)) 3 5 (some 21)) 23 4 0 3) 24 20 33 33) 23 0 (some 24)) 23 1 (4 : Int32)) 4 0 (some 23)) 25 4 0 3) 26 20 33 33) 25 0 (some 26)) 25 1 (4 : Int32)) 4 1 (some 25)) 27 4 0 3) 28 20 33 33) 27 0 (some 28)) 27 1 (4 : Int32)) 4 2 (some 27)) 29 4 0 3) 30 20 33 33) 29 0 (some 30)) 29 1 (4 : Int32)) 4 3 (some 29)) 31 4 0 3) 32 20 33 33) 31 0 (some 32)) 31 1 (4 : Int32)) 4 4 (some 31)) 0 0 (some 1)) 33 24 3 3) 0 1 (some 33)) 34 3 0 9) 35 20 400 400) 34 0 (some 35)) 34 8 (-1 : Int32)) 0 2 (some 34)) 36 25 4 4) 0 3 (some 36)) 37 2 0 9) 38 20 288 288) 37 0 (some 38)) 0 4 (some 37)) 39 2 0 9) 40 20 288 288) 39 0 (some 40)) 0 5 (some 39)) 41 1 0 16) 41 0 (some 1)) 41 1 (some 37)) 0 6 (some 41)) 42 4 0 3) 43 20 33 33) 42 0 (some 43)) 42 1 (11 : Int32)) 0 7 (some 42)) 44 20 23 23) 0 8 (some 44)) 45 0 0 4) 45 0 (-1 : Int32)) 0 9 (some 45)) 46 20 16 16) 0 10 (some 46)) 47 6 0 3) 48 21 12 12) 47 0 (some 48)) 47 1 (-1 : Int32)) 36 0 (some 47)) 49 6 0 3) 50 21 12 12) 49 0 (some 50)) 49 1 (-1 : Int32)) 36 1 (some 49)) 51 6 0 3) 52 21 12 12) 51 0 (some 52)) 51 1 (-1 : Int32)) 36 2 (some 51)) 53 6 0 3) 54 21 12 12) 53 0 (some 54)) 53 1 (-1 : Int32)) 36 3 (some 53)
set_option maxRecDepth 100000 in
set_option maxHeartbeats 4000000 in
theorem hgn {d : Nat} {I : Nat → Nat → Int32} {L : Nat → Nat → Int64} {R : Nat → Nat → Option Nat} {K : Nat → Nat × Nat} {c z : Nat} {Q : am_O → am_S → Prop} (hF : K 3000000 = (19, 23)) (hQ : Q (.inl none) (nHg (I, L, R, K, 0, c, z))) : am_WP (d + 3) mX7_init 0 [(0, .ref 0)] [] (am_nat (I, L, R, K, 0, c, z) 0 7 0 11) Q := by
  refine wp_ld (v := .ref 0) dX7_init_0 rfl rfl rfl rfl ?_
  refine wq_obj dX7_init_1 rfl rfl ?_
  refine wp_ld (v := .ref 0) dX7_init_4 rfl rfl rfl rfl ?_
  refine wq_new (m := 1) dX7_init_5 rfl rfl rfl rfl rfl ?_
  refine wp_pu (st' := [.ref 1, .ref 1, .ref 0]) dX7_init_8 rfl rfl ?_
  refine wp_call (M' := mX5_init) (av := [.ref 1]) (rest := [.ref 1, .ref 0]) dX7_init_9 rfl rfl rfl rfl ?_
  show am_WP _ mX5_init 0 [(0, .ref 1)] [] _ _
  refine wp_ld (v := .ref 1) dX5_init_0 rfl rfl rfl rfl ?_
  refine wq_obj dX5_init_1 rfl rfl ?_
  refine wp_ld (v := .ref 1) dX5_init_4 rfl rfl rfl rfl ?_
  refine wp_cst (v := .int (8 : Int32)) dX5_init_5 rfl rfl ?_
  refine wp_pI dX5_init_7 rfl rfl rfl (by decide) rfl ?_
  refine wp_ld (v := .ref 1) dX5_init_10 rfl rfl rfl rfl ?_
  refine wp_cst (v := .int (6 : Int32)) dX5_init_11 rfl rfl ?_
  refine wp_pI dX5_init_13 rfl rfl rfl (by decide) rfl ?_
  refine wp_ld (v := .ref 1) dX5_init_16 rfl rfl rfl rfl ?_
  refine wp_cst (v := .int (23 : Int32)) dX5_init_17 rfl rfl ?_
  refine wq_na20 (m := 2) (l := 23) dX5_init_19 rfl rfl rfl (by decide) rfl ?_
  refine wp_pR dX5_init_21 rfl rfl rfl rfl rfl rfl (Nat.le_of_ble_eq_true rfl) ?_
  refine wp_ld (v := .ref 1) dX5_init_24 rfl rfl rfl rfl ?_
  refine wp_cst (v := .int (6 : Int32)) dX5_init_25 rfl rfl ?_
  refine wq_ana (m := 3) (l := 6) (kd := 23) dX5_init_27 rfl rfl rfl rfl (by decide) rfl ?_
  refine wp_pR dX5_init_30 rfl rfl rfl rfl rfl rfl (Nat.le_of_ble_eq_true rfl) ?_
  refine wp_ld (v := .ref 1) dX5_init_33 rfl rfl rfl rfl ?_
  refine wp_cst (v := .int (5 : Int32)) dX5_init_34 rfl rfl ?_
  refine wq_ana (m := 4) (l := 5) (kd := 23) dX5_init_35 rfl rfl rfl rfl (by decide) rfl ?_
  refine wp_pR dX5_init_38 rfl rfl rfl rfl rfl rfl (Nat.le_of_ble_eq_true rfl) ?_
  refine wp_ld (v := .ref 1) dX5_init_41 rfl rfl rfl rfl ?_
  refine wq_new (m := 5) dX5_init_42 rfl rfl rfl rfl rfl ?_
  refine wp_pu (st' := [.ref 5, .ref 5, .ref 1]) dX5_init_45 rfl rfl ?_
  refine wp_cst (v := .int (4 : Int32)) dX5_init_46 rfl rfl ?_
  refine wp_call (M' := mX4_init) (av := [.ref 5, .int (4 : Int32)]) (rest := [.ref 5, .ref 1]) dX5_init_47 rfl rfl rfl rfl ?_
  show am_WP _ mX4_init 0 [(0, .ref 5), (1, .int (4 : Int32))] [] _ _
  refine wp_ld (v := .ref 5) dX4_init_0 rfl rfl rfl rfl ?_
  refine wq_obj dX4_init_1 rfl rfl ?_
  refine wp_ld (v := .ref 5) dX4_init_4 rfl rfl rfl rfl ?_
  refine wp_cst (v := .int (33 : Int32)) dX4_init_5 rfl rfl ?_
  refine wq_na20 (m := 6) (l := 33) dX4_init_7 rfl rfl rfl (by decide) rfl ?_
  refine wp_pR dX4_init_9 rfl rfl rfl rfl rfl rfl (Nat.le_of_ble_eq_true rfl) ?_
  refine wp_ld (v := .ref 5) dX4_init_12 rfl rfl rfl rfl ?_
  refine wp_ld (v := .int (4 : Int32)) dX4_init_13 rfl rfl rfl rfl ?_
  refine wp_cst (v := .int (11 : Int32)) dX4_init_14 rfl rfl ?_
  refine wp_mem (st' := [.int (4 : Int32), .ref 5]) dX4_init_16 rfl rfl rfl rfl ?_
  refine wq_pF dX4_init_19 rfl rfl rfl rfl rfl rfl ?_
  refine wp_end dX4_init_22 rfl rfl ?_
  show am_WP _ mX5_init 50 [(0, .ref 1)] [.ref 5, .ref 1] _ _
  refine wp_pR dX5_init_50 rfl rfl rfl rfl rfl rfl (Nat.le_of_ble_eq_true rfl) ?_
  refine wp_ld (v := .ref 1) dX5_init_53 rfl rfl rfl rfl ?_
  refine wq_new (m := 7) dX5_init_54 rfl rfl rfl rfl rfl ?_
  refine wp_pu (st' := [.ref 7, .ref 7, .ref 1]) dX5_init_57 rfl rfl ?_
  refine wp_cst (v := .int (3 : Int32)) dX5_init_58 rfl rfl ?_
  refine wp_call (M' := mX4_init) (av := [.ref 7, .int (3 : Int32)]) (rest := [.ref 7, .ref 1]) dX5_init_59 rfl rfl rfl rfl ?_
  show am_WP _ mX4_init 0 [(0, .ref 7), (1, .int (3 : Int32))] [] _ _
  refine wp_ld (v := .ref 7) dX4_init_0 rfl rfl rfl rfl ?_
  refine wq_obj dX4_init_1 rfl rfl ?_
  refine wp_ld (v := .ref 7) dX4_init_4 rfl rfl rfl rfl ?_
  refine wp_cst (v := .int (33 : Int32)) dX4_init_5 rfl rfl ?_
  refine wq_na20 (m := 8) (l := 33) dX4_init_7 rfl rfl rfl (by decide) rfl ?_
  refine wp_pR dX4_init_9 rfl rfl rfl rfl rfl rfl (Nat.le_of_ble_eq_true rfl) ?_
  refine wp_ld (v := .ref 7) dX4_init_12 rfl rfl rfl rfl ?_
  refine wp_ld (v := .int (3 : Int32)) dX4_init_13 rfl rfl rfl rfl ?_
  refine wp_cst (v := .int (11 : Int32)) dX4_init_14 rfl rfl ?_
  refine wp_mem (st' := [.int (3 : Int32), .ref 7]) dX4_init_16 rfl rfl rfl rfl ?_
  refine wq_pF dX4_init_19 rfl rfl rfl rfl rfl rfl ?_
  refine wp_end dX4_init_22 rfl rfl ?_
  show am_WP _ mX5_init 62 [(0, .ref 1)] [.ref 7, .ref 1] _ _
  refine wp_pR dX5_init_62 rfl rfl rfl rfl rfl rfl (Nat.le_of_ble_eq_true rfl) ?_
  refine wp_ld (v := .ref 1) dX5_init_65 rfl rfl rfl rfl ?_
  refine wq_new (m := 9) dX5_init_66 rfl rfl rfl rfl rfl ?_
  refine wp_pu (st' := [.ref 9, .ref 9, .ref 1]) dX5_init_69 rfl rfl ?_
  refine wp_cst (v := .int (4 : Int32)) dX5_init_70 rfl rfl ?_
  refine wp_call (M' := mX4_init) (av := [.ref 9, .int (4 : Int32)]) (rest := [.ref 9, .ref 1]) dX5_init_71 rfl rfl rfl rfl ?_
  show am_WP _ mX4_init 0 [(0, .ref 9), (1, .int (4 : Int32))] [] _ _
  refine wp_ld (v := .ref 9) dX4_init_0 rfl rfl rfl rfl ?_
  refine wq_obj dX4_init_1 rfl rfl ?_
  refine wp_ld (v := .ref 9) dX4_init_4 rfl rfl rfl rfl ?_
  refine wp_cst (v := .int (33 : Int32)) dX4_init_5 rfl rfl ?_
  refine wq_na20 (m := 10) (l := 33) dX4_init_7 rfl rfl rfl (by decide) rfl ?_
  refine wp_pR dX4_init_9 rfl rfl rfl rfl rfl rfl (Nat.le_of_ble_eq_true rfl) ?_
  refine wp_ld (v := .ref 9) dX4_init_12 rfl rfl rfl rfl ?_
  refine wp_ld (v := .int (4 : Int32)) dX4_init_13 rfl rfl rfl rfl ?_
  refine wp_cst (v := .int (11 : Int32)) dX4_init_14 rfl rfl ?_
  refine wp_mem (st' := [.int (4 : Int32), .ref 9]) dX4_init_16 rfl rfl rfl rfl ?_
  refine wq_pF dX4_init_19 rfl rfl rfl rfl rfl rfl ?_
  refine wp_end dX4_init_22 rfl rfl ?_
  show am_WP _ mX5_init 74 [(0, .ref 1)] [.ref 9, .ref 1] _ _
  refine wp_pR dX5_init_74 rfl rfl rfl rfl rfl rfl (Nat.le_of_ble_eq_true rfl) ?_
  refine wp_cst (v := .ref 3000000) dX5_init_77 rfl rfl ?_
  refine wp_cst (v := .int (0 : Int32)) dX5_init_80 rfl rfl ?_
  refine wp_ld (v := .ref 1) dX5_init_81 rfl rfl rfl rfl ?_
  refine wp_gr (b := 2) dX5_init_82 rfl rfl rfl rfl ?_
  refine wp_cst (v := .int (0 : Int32)) dX5_init_85 rfl rfl ?_
  refine wp_cst (v := .int (23 : Int32)) dX5_init_86 rfl rfl ?_
  refine wq_ac (m := 23) dX5_init_88 rfl hF (by decide) rfl rfl rfl rfl (by decide) (by decide) (by decide) (by decide) ?_
  refine wp_cst (v := .int (0 : Int32)) dX5_init_91 rfl rfl ?_
  refine wp_st (ls' := [(0, .ref 1), (1, .int (0 : Int32))]) dX5_init_92 rfl rfl rfl (Nat.le_of_ble_eq_true rfl) rfl ?_
  refine wp_ld (v := .int (0 : Int32)) dX5_init_93 rfl rfl rfl rfl ?_
  refine wp_cst (v := .int (6 : Int32)) dX5_init_94 rfl rfl ?_
  refine wp_ic_ge dX5_init_96 rfl (fun c => absurd c (by decide)) (fun _ => ?_)
  refine wp_ld (v := .ref 1) dX5_init_99 rfl rfl rfl rfl ?_
  refine wp_gr (b := 3) dX5_init_100 rfl rfl rfl rfl ?_
  refine wp_ld (v := .int (0 : Int32)) dX5_init_103 rfl rfl rfl rfl ?_
  refine wq_new (m := 11) dX5_init_104 rfl rfl rfl rfl rfl ?_
  refine wp_pu (st' := [.ref 11, .ref 11, .int (0 : Int32), .ref 3]) dX5_init_107 rfl rfl ?_
  refine wp_cst (v := .int (11 : Int32)) dX5_init_108 rfl rfl ?_
  refine wp_call (M' := mX4_init) (av := [.ref 11, .int (11 : Int32)]) (rest := [.ref 11, .int (0 : Int32), .ref 3]) dX5_init_110 rfl rfl rfl rfl ?_
  show am_WP _ mX4_init 0 [(0, .ref 11), (1, .int (11 : Int32))] [] _ _
  refine wp_ld (v := .ref 11) dX4_init_0 rfl rfl rfl rfl ?_
  refine wq_obj dX4_init_1 rfl rfl ?_
  refine wp_ld (v := .ref 11) dX4_init_4 rfl rfl rfl rfl ?_
  refine wp_cst (v := .int (33 : Int32)) dX4_init_5 rfl rfl ?_
  refine wq_na20 (m := 12) (l := 33) dX4_init_7 rfl rfl rfl (by decide) rfl ?_
  refine wp_pR dX4_init_9 rfl rfl rfl rfl rfl rfl (Nat.le_of_ble_eq_true rfl) ?_
  refine wp_ld (v := .ref 11) dX4_init_12 rfl rfl rfl rfl ?_
  refine wp_ld (v := .int (11 : Int32)) dX4_init_13 rfl rfl rfl rfl ?_
  refine wp_cst (v := .int (11 : Int32)) dX4_init_14 rfl rfl ?_
  refine wp_mem (st' := [.int (11 : Int32), .ref 11]) dX4_init_16 rfl rfl rfl rfl ?_
  refine wq_pF dX4_init_19 rfl rfl rfl rfl rfl rfl ?_
  refine wp_end dX4_init_22 rfl rfl ?_
  show am_WP _ mX5_init 113 [(0, .ref 1), (1, .int (0 : Int32))] [.ref 11, .int (0 : Int32), .ref 3] _ _
  refine wp_aast dX5_init_113 rfl (by decide) rfl rfl rfl ?_
  show am_WP _ mX5_init 114 [(0, .ref 1), (1, .int (0 : Int32))] [] _ _
  refine wp_inc (v := (1 : Int32)) (ls' := [(0, .ref 1), (1, .int (1 : Int32))]) dX5_init_114 rfl (Nat.le_of_ble_eq_true rfl) rfl rfl ?_
  refine wp_goto dX5_init_117 rfl ?_
  refine wp_ld (v := .int (1 : Int32)) dX5_init_93 rfl rfl rfl rfl ?_
  refine wp_cst (v := .int (6 : Int32)) dX5_init_94 rfl rfl ?_
  refine wp_ic_ge dX5_init_96 rfl (fun c => absurd c (by decide)) (fun _ => ?_)
  refine wp_ld (v := .ref 1) dX5_init_99 rfl rfl rfl rfl ?_
  refine wp_gr (b := 3) dX5_init_100 rfl rfl rfl rfl ?_
  refine wp_ld (v := .int (1 : Int32)) dX5_init_103 rfl rfl rfl rfl ?_
  refine wq_new (m := 13) dX5_init_104 rfl rfl rfl rfl rfl ?_
  refine wp_pu (st' := [.ref 13, .ref 13, .int (1 : Int32), .ref 3]) dX5_init_107 rfl rfl ?_
  refine wp_cst (v := .int (11 : Int32)) dX5_init_108 rfl rfl ?_
  refine wp_call (M' := mX4_init) (av := [.ref 13, .int (11 : Int32)]) (rest := [.ref 13, .int (1 : Int32), .ref 3]) dX5_init_110 rfl rfl rfl rfl ?_
  show am_WP _ mX4_init 0 [(0, .ref 13), (1, .int (11 : Int32))] [] _ _
  refine wp_ld (v := .ref 13) dX4_init_0 rfl rfl rfl rfl ?_
  refine wq_obj dX4_init_1 rfl rfl ?_
  refine wp_ld (v := .ref 13) dX4_init_4 rfl rfl rfl rfl ?_
  refine wp_cst (v := .int (33 : Int32)) dX4_init_5 rfl rfl ?_
  refine wq_na20 (m := 14) (l := 33) dX4_init_7 rfl rfl rfl (by decide) rfl ?_
  refine wp_pR dX4_init_9 rfl rfl rfl rfl rfl rfl (Nat.le_of_ble_eq_true rfl) ?_
  refine wp_ld (v := .ref 13) dX4_init_12 rfl rfl rfl rfl ?_
  refine wp_ld (v := .int (11 : Int32)) dX4_init_13 rfl rfl rfl rfl ?_
  refine wp_cst (v := .int (11 : Int32)) dX4_init_14 rfl rfl ?_
  refine wp_mem (st' := [.int (11 : Int32), .ref 13]) dX4_init_16 rfl rfl rfl rfl ?_
  refine wq_pF dX4_init_19 rfl rfl rfl rfl rfl rfl ?_
  refine wp_end dX4_init_22 rfl rfl ?_
  show am_WP _ mX5_init 113 [(0, .ref 1), (1, .int (1 : Int32))] [.ref 13, .int (1 : Int32), .ref 3] _ _
  refine wp_aast dX5_init_113 rfl (by decide) rfl rfl rfl ?_
  show am_WP _ mX5_init 114 [(0, .ref 1), (1, .int (1 : Int32))] [] _ _
  refine wp_inc (v := (2 : Int32)) (ls' := [(0, .ref 1), (1, .int (2 : Int32))]) dX5_init_114 rfl (Nat.le_of_ble_eq_true rfl) rfl rfl ?_
  refine wp_goto dX5_init_117 rfl ?_
  refine wp_ld (v := .int (2 : Int32)) dX5_init_93 rfl rfl rfl rfl ?_
  refine wp_cst (v := .int (6 : Int32)) dX5_init_94 rfl rfl ?_
  refine wp_ic_ge dX5_init_96 rfl (fun c => absurd c (by decide)) (fun _ => ?_)
  refine wp_ld (v := .ref 1) dX5_init_99 rfl rfl rfl rfl ?_
  refine wp_gr (b := 3) dX5_init_100 rfl rfl rfl rfl ?_
  refine wp_ld (v := .int (2 : Int32)) dX5_init_103 rfl rfl rfl rfl ?_
  refine wq_new (m := 15) dX5_init_104 rfl rfl rfl rfl rfl ?_
  refine wp_pu (st' := [.ref 15, .ref 15, .int (2 : Int32), .ref 3]) dX5_init_107 rfl rfl ?_
  refine wp_cst (v := .int (11 : Int32)) dX5_init_108 rfl rfl ?_
  refine wp_call (M' := mX4_init) (av := [.ref 15, .int (11 : Int32)]) (rest := [.ref 15, .int (2 : Int32), .ref 3]) dX5_init_110 rfl rfl rfl rfl ?_
  show am_WP _ mX4_init 0 [(0, .ref 15), (1, .int (11 : Int32))] [] _ _
  refine wp_ld (v := .ref 15) dX4_init_0 rfl rfl rfl rfl ?_
  refine wq_obj dX4_init_1 rfl rfl ?_
  refine wp_ld (v := .ref 15) dX4_init_4 rfl rfl rfl rfl ?_
  refine wp_cst (v := .int (33 : Int32)) dX4_init_5 rfl rfl ?_
  refine wq_na20 (m := 16) (l := 33) dX4_init_7 rfl rfl rfl (by decide) rfl ?_
  refine wp_pR dX4_init_9 rfl rfl rfl rfl rfl rfl (Nat.le_of_ble_eq_true rfl) ?_
  refine wp_ld (v := .ref 15) dX4_init_12 rfl rfl rfl rfl ?_
  refine wp_ld (v := .int (11 : Int32)) dX4_init_13 rfl rfl rfl rfl ?_
  refine wp_cst (v := .int (11 : Int32)) dX4_init_14 rfl rfl ?_
  refine wp_mem (st' := [.int (11 : Int32), .ref 15]) dX4_init_16 rfl rfl rfl rfl ?_
  refine wq_pF dX4_init_19 rfl rfl rfl rfl rfl rfl ?_
  refine wp_end dX4_init_22 rfl rfl ?_
  show am_WP _ mX5_init 113 [(0, .ref 1), (1, .int (2 : Int32))] [.ref 15, .int (2 : Int32), .ref 3] _ _
  refine wp_aast dX5_init_113 rfl (by decide) rfl rfl rfl ?_
  show am_WP _ mX5_init 114 [(0, .ref 1), (1, .int (2 : Int32))] [] _ _
  refine wp_inc (v := (3 : Int32)) (ls' := [(0, .ref 1), (1, .int (3 : Int32))]) dX5_init_114 rfl (Nat.le_of_ble_eq_true rfl) rfl rfl ?_
  refine wp_goto dX5_init_117 rfl ?_
  refine wp_ld (v := .int (3 : Int32)) dX5_init_93 rfl rfl rfl rfl ?_
  refine wp_cst (v := .int (6 : Int32)) dX5_init_94 rfl rfl ?_
  refine wp_ic_ge dX5_init_96 rfl (fun c => absurd c (by decide)) (fun _ => ?_)
  refine wp_ld (v := .ref 1) dX5_init_99 rfl rfl rfl rfl ?_
  refine wp_gr (b := 3) dX5_init_100 rfl rfl rfl rfl ?_
  refine wp_ld (v := .int (3 : Int32)) dX5_init_103 rfl rfl rfl rfl ?_
  refine wq_new (m := 17) dX5_init_104 rfl rfl rfl rfl rfl ?_
  refine wp_pu (st' := [.ref 17, .ref 17, .int (3 : Int32), .ref 3]) dX5_init_107 rfl rfl ?_
  refine wp_cst (v := .int (11 : Int32)) dX5_init_108 rfl rfl ?_
  refine wp_call (M' := mX4_init) (av := [.ref 17, .int (11 : Int32)]) (rest := [.ref 17, .int (3 : Int32), .ref 3]) dX5_init_110 rfl rfl rfl rfl ?_
  show am_WP _ mX4_init 0 [(0, .ref 17), (1, .int (11 : Int32))] [] _ _
  refine wp_ld (v := .ref 17) dX4_init_0 rfl rfl rfl rfl ?_
  refine wq_obj dX4_init_1 rfl rfl ?_
  refine wp_ld (v := .ref 17) dX4_init_4 rfl rfl rfl rfl ?_
  refine wp_cst (v := .int (33 : Int32)) dX4_init_5 rfl rfl ?_
  refine wq_na20 (m := 18) (l := 33) dX4_init_7 rfl rfl rfl (by decide) rfl ?_
  refine wp_pR dX4_init_9 rfl rfl rfl rfl rfl rfl (Nat.le_of_ble_eq_true rfl) ?_
  refine wp_ld (v := .ref 17) dX4_init_12 rfl rfl rfl rfl ?_
  refine wp_ld (v := .int (11 : Int32)) dX4_init_13 rfl rfl rfl rfl ?_
  refine wp_cst (v := .int (11 : Int32)) dX4_init_14 rfl rfl ?_
  refine wp_mem (st' := [.int (11 : Int32), .ref 17]) dX4_init_16 rfl rfl rfl rfl ?_
  refine wq_pF dX4_init_19 rfl rfl rfl rfl rfl rfl ?_
  refine wp_end dX4_init_22 rfl rfl ?_
  show am_WP _ mX5_init 113 [(0, .ref 1), (1, .int (3 : Int32))] [.ref 17, .int (3 : Int32), .ref 3] _ _
  refine wp_aast dX5_init_113 rfl (by decide) rfl rfl rfl ?_
  show am_WP _ mX5_init 114 [(0, .ref 1), (1, .int (3 : Int32))] [] _ _
  refine wp_inc (v := (4 : Int32)) (ls' := [(0, .ref 1), (1, .int (4 : Int32))]) dX5_init_114 rfl (Nat.le_of_ble_eq_true rfl) rfl rfl ?_
  refine wp_goto dX5_init_117 rfl ?_
  refine wp_ld (v := .int (4 : Int32)) dX5_init_93 rfl rfl rfl rfl ?_
  refine wp_cst (v := .int (6 : Int32)) dX5_init_94 rfl rfl ?_
  refine wp_ic_ge dX5_init_96 rfl (fun c => absurd c (by decide)) (fun _ => ?_)
  refine wp_ld (v := .ref 1) dX5_init_99 rfl rfl rfl rfl ?_
  refine wp_gr (b := 3) dX5_init_100 rfl rfl rfl rfl ?_
  refine wp_ld (v := .int (4 : Int32)) dX5_init_103 rfl rfl rfl rfl ?_
  refine wq_new (m := 19) dX5_init_104 rfl rfl rfl rfl rfl ?_
  refine wp_pu (st' := [.ref 19, .ref 19, .int (4 : Int32), .ref 3]) dX5_init_107 rfl rfl ?_
  refine wp_cst (v := .int (11 : Int32)) dX5_init_108 rfl rfl ?_
  refine wp_call (M' := mX4_init) (av := [.ref 19, .int (11 : Int32)]) (rest := [.ref 19, .int (4 : Int32), .ref 3]) dX5_init_110 rfl rfl rfl rfl ?_
  show am_WP _ mX4_init 0 [(0, .ref 19), (1, .int (11 : Int32))] [] _ _
  refine wp_ld (v := .ref 19) dX4_init_0 rfl rfl rfl rfl ?_
  refine wq_obj dX4_init_1 rfl rfl ?_
  refine wp_ld (v := .ref 19) dX4_init_4 rfl rfl rfl rfl ?_
  refine wp_cst (v := .int (33 : Int32)) dX4_init_5 rfl rfl ?_
  refine wq_na20 (m := 20) (l := 33) dX4_init_7 rfl rfl rfl (by decide) rfl ?_
  refine wp_pR dX4_init_9 rfl rfl rfl rfl rfl rfl (Nat.le_of_ble_eq_true rfl) ?_
  refine wp_ld (v := .ref 19) dX4_init_12 rfl rfl rfl rfl ?_
  refine wp_ld (v := .int (11 : Int32)) dX4_init_13 rfl rfl rfl rfl ?_
  refine wp_cst (v := .int (11 : Int32)) dX4_init_14 rfl rfl ?_
  refine wp_mem (st' := [.int (11 : Int32), .ref 19]) dX4_init_16 rfl rfl rfl rfl ?_
  refine wq_pF dX4_init_19 rfl rfl rfl rfl rfl rfl ?_
  refine wp_end dX4_init_22 rfl rfl ?_
  show am_WP _ mX5_init 113 [(0, .ref 1), (1, .int (4 : Int32))] [.ref 19, .int (4 : Int32), .ref 3] _ _
  refine wp_aast dX5_init_113 rfl (by decide) rfl rfl rfl ?_
  show am_WP _ mX5_init 114 [(0, .ref 1), (1, .int (4 : Int32))] [] _ _
  refine wp_inc (v := (5 : Int32)) (ls' := [(0, .ref 1), (1, .int (5 : Int32))]) dX5_init_114 rfl (Nat.le_of_ble_eq_true rfl) rfl rfl ?_
  refine wp_goto dX5_init_117 rfl ?_
  refine wp_ld (v := .int (5 : Int32)) dX5_init_93 rfl rfl rfl rfl ?_
  refine wp_cst (v := .int (6 : Int32)) dX5_init_94 rfl rfl ?_
  refine wp_ic_ge dX5_init_96 rfl (fun c => absurd c (by decide)) (fun _ => ?_)
  refine wp_ld (v := .ref 1) dX5_init_99 rfl rfl rfl rfl ?_
  refine wp_gr (b := 3) dX5_init_100 rfl rfl rfl rfl ?_
  refine wp_ld (v := .int (5 : Int32)) dX5_init_103 rfl rfl rfl rfl ?_
  refine wq_new (m := 21) dX5_init_104 rfl rfl rfl rfl rfl ?_
  refine wp_pu (st' := [.ref 21, .ref 21, .int (5 : Int32), .ref 3]) dX5_init_107 rfl rfl ?_
  refine wp_cst (v := .int (11 : Int32)) dX5_init_108 rfl rfl ?_
  refine wp_call (M' := mX4_init) (av := [.ref 21, .int (11 : Int32)]) (rest := [.ref 21, .int (5 : Int32), .ref 3]) dX5_init_110 rfl rfl rfl rfl ?_
  show am_WP _ mX4_init 0 [(0, .ref 21), (1, .int (11 : Int32))] [] _ _
  refine wp_ld (v := .ref 21) dX4_init_0 rfl rfl rfl rfl ?_
  refine wq_obj dX4_init_1 rfl rfl ?_
  refine wp_ld (v := .ref 21) dX4_init_4 rfl rfl rfl rfl ?_
  refine wp_cst (v := .int (33 : Int32)) dX4_init_5 rfl rfl ?_
  refine wq_na20 (m := 22) (l := 33) dX4_init_7 rfl rfl rfl (by decide) rfl ?_
  refine wp_pR dX4_init_9 rfl rfl rfl rfl rfl rfl (Nat.le_of_ble_eq_true rfl) ?_
  refine wp_ld (v := .ref 21) dX4_init_12 rfl rfl rfl rfl ?_
  refine wp_ld (v := .int (11 : Int32)) dX4_init_13 rfl rfl rfl rfl ?_
  refine wp_cst (v := .int (11 : Int32)) dX4_init_14 rfl rfl ?_
  refine wp_mem (st' := [.int (11 : Int32), .ref 21]) dX4_init_16 rfl rfl rfl rfl ?_
  refine wq_pF dX4_init_19 rfl rfl rfl rfl rfl rfl ?_
  refine wp_end dX4_init_22 rfl rfl ?_
  show am_WP _ mX5_init 113 [(0, .ref 1), (1, .int (5 : Int32))] [.ref 21, .int (5 : Int32), .ref 3] _ _
  refine wp_aast dX5_init_113 rfl (by decide) rfl rfl rfl ?_
  show am_WP _ mX5_init 114 [(0, .ref 1), (1, .int (5 : Int32))] [] _ _
  refine wp_inc (v := (6 : Int32)) (ls' := [(0, .ref 1), (1, .int (6 : Int32))]) dX5_init_114 rfl (Nat.le_of_ble_eq_true rfl) rfl rfl ?_
  refine wp_goto dX5_init_117 rfl ?_
  refine wp_ld (v := .int (6 : Int32)) dX5_init_93 rfl rfl rfl rfl ?_
  refine wp_cst (v := .int (6 : Int32)) dX5_init_94 rfl rfl ?_
  refine wp_ic_ge dX5_init_96 rfl (fun _ => ?_) (fun c => absurd c (by decide))
  refine wp_cst (v := .int (0 : Int32)) dX5_init_120 rfl rfl ?_
  refine wp_st (ls' := [(0, .ref 1), (1, .int (0 : Int32))]) dX5_init_121 rfl rfl rfl (Nat.le_of_ble_eq_true rfl) rfl ?_
  refine wp_ld (v := .int (0 : Int32)) dX5_init_122 rfl rfl rfl rfl ?_
  refine wp_cst (v := .int (5 : Int32)) dX5_init_123 rfl rfl ?_
  refine wp_ic_ge dX5_init_124 rfl (fun c => absurd c (by decide)) (fun _ => ?_)
  refine wp_ld (v := .ref 1) dX5_init_127 rfl rfl rfl rfl ?_
  refine wp_gr (b := 4) dX5_init_128 rfl rfl rfl rfl ?_
  refine wp_ld (v := .int (0 : Int32)) dX5_init_131 rfl rfl rfl rfl ?_
  refine wq_new (m := 23) dX5_init_132 rfl rfl rfl rfl rfl ?_
  refine wp_pu (st' := [.ref 23, .ref 23, .int (0 : Int32), .ref 4]) dX5_init_135 rfl rfl ?_
  refine wp_cst (v := .int (4 : Int32)) dX5_init_136 rfl rfl ?_
  refine wp_call (M' := mX4_init) (av := [.ref 23, .int (4 : Int32)]) (rest := [.ref 23, .int (0 : Int32), .ref 4]) dX5_init_137 rfl rfl rfl rfl ?_
  show am_WP _ mX4_init 0 [(0, .ref 23), (1, .int (4 : Int32))] [] _ _
  refine wp_ld (v := .ref 23) dX4_init_0 rfl rfl rfl rfl ?_
  refine wq_obj dX4_init_1 rfl rfl ?_
  refine wp_ld (v := .ref 23) dX4_init_4 rfl rfl rfl rfl ?_
  refine wp_cst (v := .int (33 : Int32)) dX4_init_5 rfl rfl ?_
  refine wq_na20 (m := 24) (l := 33) dX4_init_7 rfl rfl rfl (by decide) rfl ?_
  refine wp_pR dX4_init_9 rfl rfl rfl rfl rfl rfl (Nat.le_of_ble_eq_true rfl) ?_
  refine wp_ld (v := .ref 23) dX4_init_12 rfl rfl rfl rfl ?_
  refine wp_ld (v := .int (4 : Int32)) dX4_init_13 rfl rfl rfl rfl ?_
  refine wp_cst (v := .int (11 : Int32)) dX4_init_14 rfl rfl ?_
  refine wp_mem (st' := [.int (4 : Int32), .ref 23]) dX4_init_16 rfl rfl rfl rfl ?_
  refine wq_pF dX4_init_19 rfl rfl rfl rfl rfl rfl ?_
  refine wp_end dX4_init_22 rfl rfl ?_
  show am_WP _ mX5_init 140 [(0, .ref 1), (1, .int (0 : Int32))] [.ref 23, .int (0 : Int32), .ref 4] _ _
  refine wp_aast dX5_init_140 rfl (by decide) rfl rfl rfl ?_
  show am_WP _ mX5_init 141 [(0, .ref 1), (1, .int (0 : Int32))] [] _ _
  refine wp_inc (v := (1 : Int32)) (ls' := [(0, .ref 1), (1, .int (1 : Int32))]) dX5_init_141 rfl (Nat.le_of_ble_eq_true rfl) rfl rfl ?_
  refine wp_goto dX5_init_144 rfl ?_
  refine wp_ld (v := .int (1 : Int32)) dX5_init_122 rfl rfl rfl rfl ?_
  refine wp_cst (v := .int (5 : Int32)) dX5_init_123 rfl rfl ?_
  refine wp_ic_ge dX5_init_124 rfl (fun c => absurd c (by decide)) (fun _ => ?_)
  refine wp_ld (v := .ref 1) dX5_init_127 rfl rfl rfl rfl ?_
  refine wp_gr (b := 4) dX5_init_128 rfl rfl rfl rfl ?_
  refine wp_ld (v := .int (1 : Int32)) dX5_init_131 rfl rfl rfl rfl ?_
  refine wq_new (m := 25) dX5_init_132 rfl rfl rfl rfl rfl ?_
  refine wp_pu (st' := [.ref 25, .ref 25, .int (1 : Int32), .ref 4]) dX5_init_135 rfl rfl ?_
  refine wp_cst (v := .int (4 : Int32)) dX5_init_136 rfl rfl ?_
  refine wp_call (M' := mX4_init) (av := [.ref 25, .int (4 : Int32)]) (rest := [.ref 25, .int (1 : Int32), .ref 4]) dX5_init_137 rfl rfl rfl rfl ?_
  show am_WP _ mX4_init 0 [(0, .ref 25), (1, .int (4 : Int32))] [] _ _
  refine wp_ld (v := .ref 25) dX4_init_0 rfl rfl rfl rfl ?_
  refine wq_obj dX4_init_1 rfl rfl ?_
  refine wp_ld (v := .ref 25) dX4_init_4 rfl rfl rfl rfl ?_
  refine wp_cst (v := .int (33 : Int32)) dX4_init_5 rfl rfl ?_
  refine wq_na20 (m := 26) (l := 33) dX4_init_7 rfl rfl rfl (by decide) rfl ?_
  refine wp_pR dX4_init_9 rfl rfl rfl rfl rfl rfl (Nat.le_of_ble_eq_true rfl) ?_
  refine wp_ld (v := .ref 25) dX4_init_12 rfl rfl rfl rfl ?_
  refine wp_ld (v := .int (4 : Int32)) dX4_init_13 rfl rfl rfl rfl ?_
  refine wp_cst (v := .int (11 : Int32)) dX4_init_14 rfl rfl ?_
  refine wp_mem (st' := [.int (4 : Int32), .ref 25]) dX4_init_16 rfl rfl rfl rfl ?_
  refine wq_pF dX4_init_19 rfl rfl rfl rfl rfl rfl ?_
  refine wp_end dX4_init_22 rfl rfl ?_
  show am_WP _ mX5_init 140 [(0, .ref 1), (1, .int (1 : Int32))] [.ref 25, .int (1 : Int32), .ref 4] _ _
  refine wp_aast dX5_init_140 rfl (by decide) rfl rfl rfl ?_
  show am_WP _ mX5_init 141 [(0, .ref 1), (1, .int (1 : Int32))] [] _ _
  refine wp_inc (v := (2 : Int32)) (ls' := [(0, .ref 1), (1, .int (2 : Int32))]) dX5_init_141 rfl (Nat.le_of_ble_eq_true rfl) rfl rfl ?_
  refine wp_goto dX5_init_144 rfl ?_
  refine wp_ld (v := .int (2 : Int32)) dX5_init_122 rfl rfl rfl rfl ?_
  refine wp_cst (v := .int (5 : Int32)) dX5_init_123 rfl rfl ?_
  refine wp_ic_ge dX5_init_124 rfl (fun c => absurd c (by decide)) (fun _ => ?_)
  refine wp_ld (v := .ref 1) dX5_init_127 rfl rfl rfl rfl ?_
  refine wp_gr (b := 4) dX5_init_128 rfl rfl rfl rfl ?_
  refine wp_ld (v := .int (2 : Int32)) dX5_init_131 rfl rfl rfl rfl ?_
  refine wq_new (m := 27) dX5_init_132 rfl rfl rfl rfl rfl ?_
  refine wp_pu (st' := [.ref 27, .ref 27, .int (2 : Int32), .ref 4]) dX5_init_135 rfl rfl ?_
  refine wp_cst (v := .int (4 : Int32)) dX5_init_136 rfl rfl ?_
  refine wp_call (M' := mX4_init) (av := [.ref 27, .int (4 : Int32)]) (rest := [.ref 27, .int (2 : Int32), .ref 4]) dX5_init_137 rfl rfl rfl rfl ?_
  show am_WP _ mX4_init 0 [(0, .ref 27), (1, .int (4 : Int32))] [] _ _
  refine wp_ld (v := .ref 27) dX4_init_0 rfl rfl rfl rfl ?_
  refine wq_obj dX4_init_1 rfl rfl ?_
  refine wp_ld (v := .ref 27) dX4_init_4 rfl rfl rfl rfl ?_
  refine wp_cst (v := .int (33 : Int32)) dX4_init_5 rfl rfl ?_
  refine wq_na20 (m := 28) (l := 33) dX4_init_7 rfl rfl rfl (by decide) rfl ?_
  refine wp_pR dX4_init_9 rfl rfl rfl rfl rfl rfl (Nat.le_of_ble_eq_true rfl) ?_
  refine wp_ld (v := .ref 27) dX4_init_12 rfl rfl rfl rfl ?_
  refine wp_ld (v := .int (4 : Int32)) dX4_init_13 rfl rfl rfl rfl ?_
  refine wp_cst (v := .int (11 : Int32)) dX4_init_14 rfl rfl ?_
  refine wp_mem (st' := [.int (4 : Int32), .ref 27]) dX4_init_16 rfl rfl rfl rfl ?_
  refine wq_pF dX4_init_19 rfl rfl rfl rfl rfl rfl ?_
  refine wp_end dX4_init_22 rfl rfl ?_
  show am_WP _ mX5_init 140 [(0, .ref 1), (1, .int (2 : Int32))] [.ref 27, .int (2 : Int32), .ref 4] _ _
  refine wp_aast dX5_init_140 rfl (by decide) rfl rfl rfl ?_
  show am_WP _ mX5_init 141 [(0, .ref 1), (1, .int (2 : Int32))] [] _ _
  refine wp_inc (v := (3 : Int32)) (ls' := [(0, .ref 1), (1, .int (3 : Int32))]) dX5_init_141 rfl (Nat.le_of_ble_eq_true rfl) rfl rfl ?_
  refine wp_goto dX5_init_144 rfl ?_
  refine wp_ld (v := .int (3 : Int32)) dX5_init_122 rfl rfl rfl rfl ?_
  refine wp_cst (v := .int (5 : Int32)) dX5_init_123 rfl rfl ?_
  refine wp_ic_ge dX5_init_124 rfl (fun c => absurd c (by decide)) (fun _ => ?_)
  refine wp_ld (v := .ref 1) dX5_init_127 rfl rfl rfl rfl ?_
  refine wp_gr (b := 4) dX5_init_128 rfl rfl rfl rfl ?_
  refine wp_ld (v := .int (3 : Int32)) dX5_init_131 rfl rfl rfl rfl ?_
  refine wq_new (m := 29) dX5_init_132 rfl rfl rfl rfl rfl ?_
  refine wp_pu (st' := [.ref 29, .ref 29, .int (3 : Int32), .ref 4]) dX5_init_135 rfl rfl ?_
  refine wp_cst (v := .int (4 : Int32)) dX5_init_136 rfl rfl ?_
  refine wp_call (M' := mX4_init) (av := [.ref 29, .int (4 : Int32)]) (rest := [.ref 29, .int (3 : Int32), .ref 4]) dX5_init_137 rfl rfl rfl rfl ?_
  show am_WP _ mX4_init 0 [(0, .ref 29), (1, .int (4 : Int32))] [] _ _
  refine wp_ld (v := .ref 29) dX4_init_0 rfl rfl rfl rfl ?_
  refine wq_obj dX4_init_1 rfl rfl ?_
  refine wp_ld (v := .ref 29) dX4_init_4 rfl rfl rfl rfl ?_
  refine wp_cst (v := .int (33 : Int32)) dX4_init_5 rfl rfl ?_
  refine wq_na20 (m := 30) (l := 33) dX4_init_7 rfl rfl rfl (by decide) rfl ?_
  refine wp_pR dX4_init_9 rfl rfl rfl rfl rfl rfl (Nat.le_of_ble_eq_true rfl) ?_
  refine wp_ld (v := .ref 29) dX4_init_12 rfl rfl rfl rfl ?_
  refine wp_ld (v := .int (4 : Int32)) dX4_init_13 rfl rfl rfl rfl ?_
  refine wp_cst (v := .int (11 : Int32)) dX4_init_14 rfl rfl ?_
  refine wp_mem (st' := [.int (4 : Int32), .ref 29]) dX4_init_16 rfl rfl rfl rfl ?_
  refine wq_pF dX4_init_19 rfl rfl rfl rfl rfl rfl ?_
  refine wp_end dX4_init_22 rfl rfl ?_
  show am_WP _ mX5_init 140 [(0, .ref 1), (1, .int (3 : Int32))] [.ref 29, .int (3 : Int32), .ref 4] _ _
  refine wp_aast dX5_init_140 rfl (by decide) rfl rfl rfl ?_
  show am_WP _ mX5_init 141 [(0, .ref 1), (1, .int (3 : Int32))] [] _ _
  refine wp_inc (v := (4 : Int32)) (ls' := [(0, .ref 1), (1, .int (4 : Int32))]) dX5_init_141 rfl (Nat.le_of_ble_eq_true rfl) rfl rfl ?_
  refine wp_goto dX5_init_144 rfl ?_
  refine wp_ld (v := .int (4 : Int32)) dX5_init_122 rfl rfl rfl rfl ?_
  refine wp_cst (v := .int (5 : Int32)) dX5_init_123 rfl rfl ?_
  refine wp_ic_ge dX5_init_124 rfl (fun c => absurd c (by decide)) (fun _ => ?_)
  refine wp_ld (v := .ref 1) dX5_init_127 rfl rfl rfl rfl ?_
  refine wp_gr (b := 4) dX5_init_128 rfl rfl rfl rfl ?_
  refine wp_ld (v := .int (4 : Int32)) dX5_init_131 rfl rfl rfl rfl ?_
  refine wq_new (m := 31) dX5_init_132 rfl rfl rfl rfl rfl ?_
  refine wp_pu (st' := [.ref 31, .ref 31, .int (4 : Int32), .ref 4]) dX5_init_135 rfl rfl ?_
  refine wp_cst (v := .int (4 : Int32)) dX5_init_136 rfl rfl ?_
  refine wp_call (M' := mX4_init) (av := [.ref 31, .int (4 : Int32)]) (rest := [.ref 31, .int (4 : Int32), .ref 4]) dX5_init_137 rfl rfl rfl rfl ?_
  show am_WP _ mX4_init 0 [(0, .ref 31), (1, .int (4 : Int32))] [] _ _
  refine wp_ld (v := .ref 31) dX4_init_0 rfl rfl rfl rfl ?_
  refine wq_obj dX4_init_1 rfl rfl ?_
  refine wp_ld (v := .ref 31) dX4_init_4 rfl rfl rfl rfl ?_
  refine wp_cst (v := .int (33 : Int32)) dX4_init_5 rfl rfl ?_
  refine wq_na20 (m := 32) (l := 33) dX4_init_7 rfl rfl rfl (by decide) rfl ?_
  refine wp_pR dX4_init_9 rfl rfl rfl rfl rfl rfl (Nat.le_of_ble_eq_true rfl) ?_
  refine wp_ld (v := .ref 31) dX4_init_12 rfl rfl rfl rfl ?_
  refine wp_ld (v := .int (4 : Int32)) dX4_init_13 rfl rfl rfl rfl ?_
  refine wp_cst (v := .int (11 : Int32)) dX4_init_14 rfl rfl ?_
  refine wp_mem (st' := [.int (4 : Int32), .ref 31]) dX4_init_16 rfl rfl rfl rfl ?_
  refine wq_pF dX4_init_19 rfl rfl rfl rfl rfl rfl ?_
  refine wp_end dX4_init_22 rfl rfl ?_
  show am_WP _ mX5_init 140 [(0, .ref 1), (1, .int (4 : Int32))] [.ref 31, .int (4 : Int32), .ref 4] _ _
  refine wp_aast dX5_init_140 rfl (by decide) rfl rfl rfl ?_
  show am_WP _ mX5_init 141 [(0, .ref 1), (1, .int (4 : Int32))] [] _ _
  refine wp_inc (v := (5 : Int32)) (ls' := [(0, .ref 1), (1, .int (5 : Int32))]) dX5_init_141 rfl (Nat.le_of_ble_eq_true rfl) rfl rfl ?_
  refine wp_goto dX5_init_144 rfl ?_
  refine wp_ld (v := .int (5 : Int32)) dX5_init_122 rfl rfl rfl rfl ?_
  refine wp_cst (v := .int (5 : Int32)) dX5_init_123 rfl rfl ?_
  refine wp_ic_ge dX5_init_124 rfl (fun _ => ?_) (fun c => absurd c (by decide))
  refine wp_end dX5_init_147 rfl rfl ?_
  show am_WP _ mX7_init 12 [(0, .ref 0)] [.ref 1, .ref 0] _ _
  refine wp_pR dX7_init_12 rfl rfl rfl rfl rfl rfl (Nat.le_of_ble_eq_true rfl) ?_
  refine wp_ld (v := .ref 0) dX7_init_15 rfl rfl rfl rfl ?_
  refine wp_cst (v := .int (3 : Int32)) dX7_init_16 rfl rfl ?_
  refine wq_ana (m := 33) (l := 3) (kd := 24) dX7_init_17 rfl rfl rfl rfl (by decide) rfl ?_
  refine wp_pR dX7_init_20 rfl rfl rfl rfl rfl rfl (Nat.le_of_ble_eq_true rfl) ?_
  refine wp_ld (v := .ref 0) dX7_init_23 rfl rfl rfl rfl ?_
  refine wq_new (m := 34) dX7_init_24 rfl rfl rfl rfl rfl ?_
  refine wp_pu (st' := [.ref 34, .ref 34, .ref 0]) dX7_init_27 rfl rfl ?_
  refine wp_call (M' := mX3_init) (av := [.ref 34]) (rest := [.ref 34, .ref 0]) dX7_init_28 rfl rfl rfl rfl ?_
  show am_WP _ mX3_init 0 [(0, .ref 34)] [] _ _
  refine wp_ld (v := .ref 34) dX3_init_0 rfl rfl rfl rfl ?_
  refine wq_obj dX3_init_1 rfl rfl ?_
  refine wp_ld (v := .ref 34) dX3_init_4 rfl rfl rfl rfl ?_
  refine wp_cst (v := .int (400 : Int32)) dX3_init_5 rfl rfl ?_
  refine wq_na20 (m := 35) (l := 400) dX3_init_8 rfl rfl rfl (by decide) rfl ?_
  refine wp_pR dX3_init_10 rfl rfl rfl rfl rfl rfl (Nat.le_of_ble_eq_true rfl) ?_
  refine wp_ld (v := .ref 34) dX3_init_13 rfl rfl rfl rfl ?_
  refine wp_cst (v := .int (-1 : Int32)) dX3_init_14 rfl rfl ?_
  refine wp_pI dX3_init_15 rfl rfl rfl (by decide) rfl ?_
  refine wp_end dX3_init_18 rfl rfl ?_
  show am_WP _ mX7_init 31 [(0, .ref 0)] [.ref 34, .ref 0] _ _
  refine wp_pR dX7_init_31 rfl rfl rfl rfl rfl rfl (Nat.le_of_ble_eq_true rfl) ?_
  refine wp_ld (v := .ref 0) dX7_init_34 rfl rfl rfl rfl ?_
  refine wp_cst (v := .int (4 : Int32)) dX7_init_35 rfl rfl ?_
  refine wq_ana (m := 36) (l := 4) (kd := 25) dX7_init_36 rfl rfl rfl rfl (by decide) rfl ?_
  refine wp_pR dX7_init_39 rfl rfl rfl rfl rfl rfl (Nat.le_of_ble_eq_true rfl) ?_
  refine wp_ld (v := .ref 0) dX7_init_42 rfl rfl rfl rfl ?_
  refine wq_new (m := 37) dX7_init_43 rfl rfl rfl rfl rfl ?_
  refine wp_pu (st' := [.ref 37, .ref 37, .ref 0]) dX7_init_46 rfl rfl ?_
  refine wp_call (M' := mX2_init) (av := [.ref 37]) (rest := [.ref 37, .ref 0]) dX7_init_47 rfl rfl rfl rfl ?_
  show am_WP _ mX2_init 0 [(0, .ref 37)] [] _ _
  refine wp_ld (v := .ref 37) dX2_init_0 rfl rfl rfl rfl ?_
  refine wq_obj dX2_init_1 rfl rfl ?_
  refine wp_ld (v := .ref 37) dX2_init_4 rfl rfl rfl rfl ?_
  refine wp_cst (v := .int (288 : Int32)) dX2_init_5 rfl rfl ?_
  refine wq_na20 (m := 38) (l := 288) dX2_init_8 rfl rfl rfl (by decide) rfl ?_
  refine wp_pR dX2_init_10 rfl rfl rfl rfl rfl rfl (Nat.le_of_ble_eq_true rfl) ?_
  refine wp_end dX2_init_13 rfl rfl ?_
  show am_WP _ mX7_init 50 [(0, .ref 0)] [.ref 37, .ref 0] _ _
  refine wp_pR dX7_init_50 rfl rfl rfl rfl rfl rfl (Nat.le_of_ble_eq_true rfl) ?_
  refine wp_ld (v := .ref 0) dX7_init_53 rfl rfl rfl rfl ?_
  refine wq_new (m := 39) dX7_init_54 rfl rfl rfl rfl rfl ?_
  refine wp_pu (st' := [.ref 39, .ref 39, .ref 0]) dX7_init_57 rfl rfl ?_
  refine wp_call (M' := mX2_init) (av := [.ref 39]) (rest := [.ref 39, .ref 0]) dX7_init_58 rfl rfl rfl rfl ?_
  show am_WP _ mX2_init 0 [(0, .ref 39)] [] _ _
  refine wp_ld (v := .ref 39) dX2_init_0 rfl rfl rfl rfl ?_
  refine wq_obj dX2_init_1 rfl rfl ?_
  refine wp_ld (v := .ref 39) dX2_init_4 rfl rfl rfl rfl ?_
  refine wp_cst (v := .int (288 : Int32)) dX2_init_5 rfl rfl ?_
  refine wq_na20 (m := 40) (l := 288) dX2_init_8 rfl rfl rfl (by decide) rfl ?_
  refine wp_pR dX2_init_10 rfl rfl rfl rfl rfl rfl (Nat.le_of_ble_eq_true rfl) ?_
  refine wp_end dX2_init_13 rfl rfl ?_
  show am_WP _ mX7_init 61 [(0, .ref 0)] [.ref 39, .ref 0] _ _
  refine wp_pR dX7_init_61 rfl rfl rfl rfl rfl rfl (Nat.le_of_ble_eq_true rfl) ?_
  refine wp_ld (v := .ref 0) dX7_init_64 rfl rfl rfl rfl ?_
  refine wq_new (m := 41) dX7_init_65 rfl rfl rfl rfl rfl ?_
  refine wp_pu (st' := [.ref 41, .ref 41, .ref 0]) dX7_init_68 rfl rfl ?_
  refine wp_ld (v := .ref 0) dX7_init_69 rfl rfl rfl rfl ?_
  refine wp_gr (b := 1) dX7_init_70 rfl rfl rfl rfl ?_
  refine wp_ld (v := .ref 0) dX7_init_73 rfl rfl rfl rfl ?_
  refine wp_gr (b := 37) dX7_init_74 rfl rfl rfl rfl ?_
  refine wp_call (M' := mX1_init) (av := [.ref 41, .ref 1, .ref 37]) (rest := [.ref 41, .ref 0]) dX7_init_77 rfl rfl rfl rfl ?_
  show am_WP _ mX1_init 0 [(0, .ref 41), (1, .ref 1), (2, .ref 37)] [] _ _
  refine wp_ld (v := .ref 41) dX1_init_0 rfl rfl rfl rfl ?_
  refine wq_obj dX1_init_1 rfl rfl ?_
  refine wp_ld (v := .ref 41) dX1_init_4 rfl rfl rfl rfl ?_
  refine wp_ld (v := .ref 1) dX1_init_5 rfl rfl rfl rfl ?_
  refine wp_pR dX1_init_6 rfl rfl rfl rfl rfl rfl (Nat.le_of_ble_eq_true rfl) ?_
  refine wp_ld (v := .ref 41) dX1_init_9 rfl rfl rfl rfl ?_
  refine wp_ld (v := .ref 37) dX1_init_10 rfl rfl rfl rfl ?_
  refine wp_pR dX1_init_11 rfl rfl rfl rfl rfl rfl (Nat.le_of_ble_eq_true rfl) ?_
  refine wp_end dX1_init_14 rfl rfl ?_
  show am_WP _ mX7_init 80 [(0, .ref 0)] [.ref 41, .ref 0] _ _
  refine wp_pR dX7_init_80 rfl rfl rfl rfl rfl rfl (Nat.le_of_ble_eq_true rfl) ?_
  refine wp_ld (v := .ref 0) dX7_init_83 rfl rfl rfl rfl ?_
  refine wq_new (m := 42) dX7_init_84 rfl rfl rfl rfl rfl ?_
  refine wp_pu (st' := [.ref 42, .ref 42, .ref 0]) dX7_init_87 rfl rfl ?_
  refine wp_cst (v := .int (11 : Int32)) dX7_init_88 rfl rfl ?_
  refine wp_call (M' := mX4_init) (av := [.ref 42, .int (11 : Int32)]) (rest := [.ref 42, .ref 0]) dX7_init_90 rfl rfl rfl rfl ?_
  show am_WP _ mX4_init 0 [(0, .ref 42), (1, .int (11 : Int32))] [] _ _
  refine wp_ld (v := .ref 42) dX4_init_0 rfl rfl rfl rfl ?_
  refine wq_obj dX4_init_1 rfl rfl ?_
  refine wp_ld (v := .ref 42) dX4_init_4 rfl rfl rfl rfl ?_
  refine wp_cst (v := .int (33 : Int32)) dX4_init_5 rfl rfl ?_
  refine wq_na20 (m := 43) (l := 33) dX4_init_7 rfl rfl rfl (by decide) rfl ?_
  refine wp_pR dX4_init_9 rfl rfl rfl rfl rfl rfl (Nat.le_of_ble_eq_true rfl) ?_
  refine wp_ld (v := .ref 42) dX4_init_12 rfl rfl rfl rfl ?_
  refine wp_ld (v := .int (11 : Int32)) dX4_init_13 rfl rfl rfl rfl ?_
  refine wp_cst (v := .int (11 : Int32)) dX4_init_14 rfl rfl ?_
  refine wp_mem (st' := [.int (11 : Int32), .ref 42]) dX4_init_16 rfl rfl rfl rfl ?_
  refine wq_pF dX4_init_19 rfl rfl rfl rfl rfl rfl ?_
  refine wp_end dX4_init_22 rfl rfl ?_
  show am_WP _ mX7_init 93 [(0, .ref 0)] [.ref 42, .ref 0] _ _
  refine wp_pR dX7_init_93 rfl rfl rfl rfl rfl rfl (Nat.le_of_ble_eq_true rfl) ?_
  refine wp_ld (v := .ref 0) dX7_init_96 rfl rfl rfl rfl ?_
  refine wp_cst (v := .int (23 : Int32)) dX7_init_97 rfl rfl ?_
  refine wq_na20 (m := 44) (l := 23) dX7_init_99 rfl rfl rfl (by decide) rfl ?_
  refine wp_pR dX7_init_101 rfl rfl rfl rfl rfl rfl (Nat.le_of_ble_eq_true rfl) ?_
  refine wp_ld (v := .ref 0) dX7_init_104 rfl rfl rfl rfl ?_
  refine wq_new (m := 45) dX7_init_105 rfl rfl rfl rfl rfl ?_
  refine wp_pu (st' := [.ref 45, .ref 45, .ref 0]) dX7_init_108 rfl rfl ?_
  refine wp_call (M' := mX0_init) (av := [.ref 45]) (rest := [.ref 45, .ref 0]) dX7_init_109 rfl rfl rfl rfl ?_
  show am_WP _ mX0_init 0 [(0, .ref 45)] [] _ _
  refine wp_ld (v := .ref 45) dX0_init_0 rfl rfl rfl rfl ?_
  refine wq_obj dX0_init_1 rfl rfl ?_
  refine wp_ld (v := .ref 45) dX0_init_4 rfl rfl rfl rfl ?_
  refine wp_cst (v := .int (-1 : Int32)) dX0_init_5 rfl rfl ?_
  refine wp_pI dX0_init_6 rfl rfl rfl (by decide) rfl ?_
  refine wp_end dX0_init_9 rfl rfl ?_
  show am_WP _ mX7_init 112 [(0, .ref 0)] [.ref 45, .ref 0] _ _
  refine wp_pR dX7_init_112 rfl rfl rfl rfl rfl rfl (Nat.le_of_ble_eq_true rfl) ?_
  refine wp_ld (v := .ref 0) dX7_init_115 rfl rfl rfl rfl ?_
  refine wp_cst (v := .int (16 : Int32)) dX7_init_116 rfl rfl ?_
  refine wq_na20 (m := 46) (l := 16) dX7_init_118 rfl rfl rfl (by decide) rfl ?_
  refine wp_pR dX7_init_120 rfl rfl rfl rfl rfl rfl (Nat.le_of_ble_eq_true rfl) ?_
  refine wp_cst (v := .int (0 : Int32)) dX7_init_123 rfl rfl ?_
  refine wp_st (ls' := [(0, .ref 0), (1, .int (0 : Int32))]) dX7_init_124 rfl rfl rfl (Nat.le_of_ble_eq_true rfl) rfl ?_
  refine wp_ld (v := .int (0 : Int32)) dX7_init_125 rfl rfl rfl rfl ?_
  refine wp_cst (v := .int (4 : Int32)) dX7_init_126 rfl rfl ?_
  refine wp_ic_ge dX7_init_127 rfl (fun c => absurd c (by decide)) (fun _ => ?_)
  refine wp_ld (v := .ref 0) dX7_init_130 rfl rfl rfl rfl ?_
  refine wp_gr (b := 36) dX7_init_131 rfl rfl rfl rfl ?_
  refine wp_ld (v := .int (0 : Int32)) dX7_init_134 rfl rfl rfl rfl ?_
  refine wq_new (m := 47) dX7_init_135 rfl rfl rfl rfl rfl ?_
  refine wp_pu (st' := [.ref 47, .ref 47, .int (0 : Int32), .ref 36]) dX7_init_138 rfl rfl ?_
  refine wp_call (M' := mX6_init) (av := [.ref 47]) (rest := [.ref 47, .int (0 : Int32), .ref 36]) dX7_init_139 rfl rfl rfl rfl ?_
  show am_WP _ mX6_init 0 [(0, .ref 47)] [] _ _
  refine wp_ld (v := .ref 47) dX6_init_0 rfl rfl rfl rfl ?_
  refine wq_obj dX6_init_1 rfl rfl ?_
  refine wp_ld (v := .ref 47) dX6_init_4 rfl rfl rfl rfl ?_
  refine wp_cst (v := .int (12 : Int32)) dX6_init_5 rfl rfl ?_
  refine wq_na21 (m := 48) (l := 12) dX6_init_7 rfl rfl rfl (by decide) rfl ?_
  refine wp_pR dX6_init_9 rfl rfl rfl rfl rfl rfl (Nat.le_of_ble_eq_true rfl) ?_
  refine wp_ld (v := .ref 47) dX6_init_12 rfl rfl rfl rfl ?_
  refine wp_cst (v := .int (-1 : Int32)) dX6_init_13 rfl rfl ?_
  refine wp_pI dX6_init_14 rfl rfl rfl (by decide) rfl ?_
  refine wp_end dX6_init_17 rfl rfl ?_
  show am_WP _ mX7_init 142 [(0, .ref 0), (1, .int (0 : Int32))] [.ref 47, .int (0 : Int32), .ref 36] _ _
  refine wp_aast dX7_init_142 rfl (by decide) rfl rfl rfl ?_
  show am_WP _ mX7_init 143 [(0, .ref 0), (1, .int (0 : Int32))] [] _ _
  refine wp_inc (v := (1 : Int32)) (ls' := [(0, .ref 0), (1, .int (1 : Int32))]) dX7_init_143 rfl (Nat.le_of_ble_eq_true rfl) rfl rfl ?_
  refine wp_goto dX7_init_146 rfl ?_
  refine wp_ld (v := .int (1 : Int32)) dX7_init_125 rfl rfl rfl rfl ?_
  refine wp_cst (v := .int (4 : Int32)) dX7_init_126 rfl rfl ?_
  refine wp_ic_ge dX7_init_127 rfl (fun c => absurd c (by decide)) (fun _ => ?_)
  refine wp_ld (v := .ref 0) dX7_init_130 rfl rfl rfl rfl ?_
  refine wp_gr (b := 36) dX7_init_131 rfl rfl rfl rfl ?_
  refine wp_ld (v := .int (1 : Int32)) dX7_init_134 rfl rfl rfl rfl ?_
  refine wq_new (m := 49) dX7_init_135 rfl rfl rfl rfl rfl ?_
  refine wp_pu (st' := [.ref 49, .ref 49, .int (1 : Int32), .ref 36]) dX7_init_138 rfl rfl ?_
  refine wp_call (M' := mX6_init) (av := [.ref 49]) (rest := [.ref 49, .int (1 : Int32), .ref 36]) dX7_init_139 rfl rfl rfl rfl ?_
  show am_WP _ mX6_init 0 [(0, .ref 49)] [] _ _
  refine wp_ld (v := .ref 49) dX6_init_0 rfl rfl rfl rfl ?_
  refine wq_obj dX6_init_1 rfl rfl ?_
  refine wp_ld (v := .ref 49) dX6_init_4 rfl rfl rfl rfl ?_
  refine wp_cst (v := .int (12 : Int32)) dX6_init_5 rfl rfl ?_
  refine wq_na21 (m := 50) (l := 12) dX6_init_7 rfl rfl rfl (by decide) rfl ?_
  refine wp_pR dX6_init_9 rfl rfl rfl rfl rfl rfl (Nat.le_of_ble_eq_true rfl) ?_
  refine wp_ld (v := .ref 49) dX6_init_12 rfl rfl rfl rfl ?_
  refine wp_cst (v := .int (-1 : Int32)) dX6_init_13 rfl rfl ?_
  refine wp_pI dX6_init_14 rfl rfl rfl (by decide) rfl ?_
  refine wp_end dX6_init_17 rfl rfl ?_
  show am_WP _ mX7_init 142 [(0, .ref 0), (1, .int (1 : Int32))] [.ref 49, .int (1 : Int32), .ref 36] _ _
  refine wp_aast dX7_init_142 rfl (by decide) rfl rfl rfl ?_
  show am_WP _ mX7_init 143 [(0, .ref 0), (1, .int (1 : Int32))] [] _ _
  refine wp_inc (v := (2 : Int32)) (ls' := [(0, .ref 0), (1, .int (2 : Int32))]) dX7_init_143 rfl (Nat.le_of_ble_eq_true rfl) rfl rfl ?_
  refine wp_goto dX7_init_146 rfl ?_
  refine wp_ld (v := .int (2 : Int32)) dX7_init_125 rfl rfl rfl rfl ?_
  refine wp_cst (v := .int (4 : Int32)) dX7_init_126 rfl rfl ?_
  refine wp_ic_ge dX7_init_127 rfl (fun c => absurd c (by decide)) (fun _ => ?_)
  refine wp_ld (v := .ref 0) dX7_init_130 rfl rfl rfl rfl ?_
  refine wp_gr (b := 36) dX7_init_131 rfl rfl rfl rfl ?_
  refine wp_ld (v := .int (2 : Int32)) dX7_init_134 rfl rfl rfl rfl ?_
  refine wq_new (m := 51) dX7_init_135 rfl rfl rfl rfl rfl ?_
  refine wp_pu (st' := [.ref 51, .ref 51, .int (2 : Int32), .ref 36]) dX7_init_138 rfl rfl ?_
  refine wp_call (M' := mX6_init) (av := [.ref 51]) (rest := [.ref 51, .int (2 : Int32), .ref 36]) dX7_init_139 rfl rfl rfl rfl ?_
  show am_WP _ mX6_init 0 [(0, .ref 51)] [] _ _
  refine wp_ld (v := .ref 51) dX6_init_0 rfl rfl rfl rfl ?_
  refine wq_obj dX6_init_1 rfl rfl ?_
  refine wp_ld (v := .ref 51) dX6_init_4 rfl rfl rfl rfl ?_
  refine wp_cst (v := .int (12 : Int32)) dX6_init_5 rfl rfl ?_
  refine wq_na21 (m := 52) (l := 12) dX6_init_7 rfl rfl rfl (by decide) rfl ?_
  refine wp_pR dX6_init_9 rfl rfl rfl rfl rfl rfl (Nat.le_of_ble_eq_true rfl) ?_
  refine wp_ld (v := .ref 51) dX6_init_12 rfl rfl rfl rfl ?_
  refine wp_cst (v := .int (-1 : Int32)) dX6_init_13 rfl rfl ?_
  refine wp_pI dX6_init_14 rfl rfl rfl (by decide) rfl ?_
  refine wp_end dX6_init_17 rfl rfl ?_
  show am_WP _ mX7_init 142 [(0, .ref 0), (1, .int (2 : Int32))] [.ref 51, .int (2 : Int32), .ref 36] _ _
  refine wp_aast dX7_init_142 rfl (by decide) rfl rfl rfl ?_
  show am_WP _ mX7_init 143 [(0, .ref 0), (1, .int (2 : Int32))] [] _ _
  refine wp_inc (v := (3 : Int32)) (ls' := [(0, .ref 0), (1, .int (3 : Int32))]) dX7_init_143 rfl (Nat.le_of_ble_eq_true rfl) rfl rfl ?_
  refine wp_goto dX7_init_146 rfl ?_
  refine wp_ld (v := .int (3 : Int32)) dX7_init_125 rfl rfl rfl rfl ?_
  refine wp_cst (v := .int (4 : Int32)) dX7_init_126 rfl rfl ?_
  refine wp_ic_ge dX7_init_127 rfl (fun c => absurd c (by decide)) (fun _ => ?_)
  refine wp_ld (v := .ref 0) dX7_init_130 rfl rfl rfl rfl ?_
  refine wp_gr (b := 36) dX7_init_131 rfl rfl rfl rfl ?_
  refine wp_ld (v := .int (3 : Int32)) dX7_init_134 rfl rfl rfl rfl ?_
  refine wq_new (m := 53) dX7_init_135 rfl rfl rfl rfl rfl ?_
  refine wp_pu (st' := [.ref 53, .ref 53, .int (3 : Int32), .ref 36]) dX7_init_138 rfl rfl ?_
  refine wp_call (M' := mX6_init) (av := [.ref 53]) (rest := [.ref 53, .int (3 : Int32), .ref 36]) dX7_init_139 rfl rfl rfl rfl ?_
  show am_WP _ mX6_init 0 [(0, .ref 53)] [] _ _
  refine wp_ld (v := .ref 53) dX6_init_0 rfl rfl rfl rfl ?_
  refine wq_obj dX6_init_1 rfl rfl ?_
  refine wp_ld (v := .ref 53) dX6_init_4 rfl rfl rfl rfl ?_
  refine wp_cst (v := .int (12 : Int32)) dX6_init_5 rfl rfl ?_
  refine wq_na21 (m := 54) (l := 12) dX6_init_7 rfl rfl rfl (by decide) rfl ?_
  refine wp_pR dX6_init_9 rfl rfl rfl rfl rfl rfl (Nat.le_of_ble_eq_true rfl) ?_
  refine wp_ld (v := .ref 53) dX6_init_12 rfl rfl rfl rfl ?_
  refine wp_cst (v := .int (-1 : Int32)) dX6_init_13 rfl rfl ?_
  refine wp_pI dX6_init_14 rfl rfl rfl (by decide) rfl ?_
  refine wp_end dX6_init_17 rfl rfl ?_
  show am_WP _ mX7_init 142 [(0, .ref 0), (1, .int (3 : Int32))] [.ref 53, .int (3 : Int32), .ref 36] _ _
  refine wp_aast dX7_init_142 rfl (by decide) rfl rfl rfl ?_
  show am_WP _ mX7_init 143 [(0, .ref 0), (1, .int (3 : Int32))] [] _ _
  refine wp_inc (v := (4 : Int32)) (ls' := [(0, .ref 0), (1, .int (4 : Int32))]) dX7_init_143 rfl (Nat.le_of_ble_eq_true rfl) rfl rfl ?_
  refine wp_goto dX7_init_146 rfl ?_
  refine wp_ld (v := .int (4 : Int32)) dX7_init_125 rfl rfl rfl rfl ?_
  refine wp_cst (v := .int (4 : Int32)) dX7_init_126 rfl rfl ?_
  refine wp_ic_ge dX7_init_127 rfl (fun _ => ?_) (fun c => absurd c (by decide))
  refine wp_end dX7_init_149 rfl rfl ?_
  exact hQ
