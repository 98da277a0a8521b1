def nMd (s : am_S) : am_S := am_sI (am_sI (am_sI (am_sI (am_sI (am_sI (am_sI (am_sI (am_sI (am_sI (am_sI (am_sI (am_sI (am_sI (am_sI (am_sI (am_sI (am_sI (am_sI (am_sI (am_sI (am_sI (am_sI (am_sI (am_sI (am_sI (am_sI (am_sI (am_sI (am_sI (am_sI (am_sI (am_sI (am_sI (am_sI (am_sI (am_sI (am_sI (am_sI (am_sI (am_sI (am_sI (am_sI (am_sI (am_sI (am_sI (am_sI (am_sI (am_sR (am_nat (am_sR (am_nat (am_sR (am_sI (am_sI (am_sI (am_sI (am_nat (am_sR (am_nat (am_sR (am_nat (am_sR (am_nat (am_sR (am_nat (am_sR (am_nat (am_sR (am_nat (am_sI (am_sR (am_nat (am_sR (am_nat (am_sR (am_nat (am_sR (am_nat (am_sR (am_nat (am_sR (am_nat (am_nat (s) 55 8 0 54) 56 20 264 264) 55 0 (some 56)) 57 20 792 792) 55 1 (some 57)) 58 22 3 3) 55 2 (some 58)) 59 20 400 400) 55 4 (some 59)) 60 20 23 23) 55 5 (some 60)) 61 20 23 23) 55 6 (some 61)) 55 16 (-1 : Int32)) 62 20 288 288) 55 17 (some 62)) 63 20 288 288) 55 18 (some 63)) 64 20 288 288) 55 19 (some 64)) 65 20 64 64) 55 28 (some 65)) 66 20 64 64) 55 29 (some 66)) 67 20 16 16) 55 50 (some 67)) 68 20 4 4) 68 0 (-1 : Int32)) 68 1 (-1 : Int32)) 68 2 (-1 : Int32)) 68 3 (-1 : Int32)) 55 51 (some 68)) 69 20 4 4) 55 52 (some 69)) 70 21 48 48) 55 53 (some 70)) 56 0 (8 : Int32)) 56 1 (6 : Int32)) 60 0 (10 : Int32)) 60 1 (10 : Int32)) 60 2 (10 : Int32)) 60 3 (3 : Int32)) 60 4 (-1 : Int32)) 60 5 (0 : Int32)) 60 14 (2 : Int32)) 60 6 (10 : Int32)) 60 15 (3 : Int32)) 60 7 (20 : Int32)) 60 16 (4 : Int32)) 60 8 (30 : Int32)) 60 17 (6 : Int32)) 60 9 (40 : Int32)) 60 18 (9 : Int32)) 60 10 (45 : Int32)) 60 19 (14 : Int32)) 60 11 (40 : Int32)) 60 20 (22 : Int32)) 60 12 (25 : Int32)) 60 21 (34 : Int32)) 60 13 (10 : Int32)) 60 22 (50 : Int32)) 56 8 (10 : Int32)) 56 9 (10 : Int32)) 56 10 (10 : Int32)) 56 11 (3 : Int32)) 56 12 (-1 : Int32)) 56 13 (0 : Int32)) 56 14 (10 : Int32)) 56 15 (20 : Int32)) 56 16 (30 : Int32)) 56 17 (40 : Int32)) 56 18 (45 : Int32)) 56 19 (40 : Int32)) 56 20 (25 : Int32)) 56 21 (10 : Int32)) 56 22 (2 : Int32)) 56 23 (3 : Int32)) 56 24 (4 : Int32)) 56 25 (6 : Int32)) 56 26 (9 : Int32)) 56 27 (14 : Int32)) 56 28 (22 : Int32)) 56 29 (34 : Int32)) 56 30 (50 : Int32)
set_option maxRecDepth 100000 in
set_option maxHeartbeats 8000000 in
theorem mdn {d : Nat} {I : Nat → Nat → Int32} {L : Nat → Nat → Int64} {R : Nat → Nat → Option Nat} {K : Nat → Nat × Nat} {c z : Nat} {Q : am_O → am_S → Prop} (hQ : Q (.inl none) (nMd (I, L, R, K, 55, c, z))) : am_WP (d + 3) mX8_init 0 [(0, .ref 55)] [] (am_nat (I, L, R, K, 55, c, z) 55 8 0 54) Q := by
  refine wp_ld (v := .ref 55) dX8_init_0 rfl rfl rfl rfl ?_
  refine wq_obj dX8_init_1 rfl rfl ?_
  refine wp_ld (v := .ref 55) dX8_init_4 rfl rfl rfl rfl ?_
  refine wp_cst (v := .int (264 : Int32)) dX8_init_5 rfl rfl ?_
  refine wq_na20 (m := 56) (l := 264) dX8_init_8 rfl rfl rfl (by decide) rfl ?_
  refine wp_pR dX8_init_10 rfl rfl rfl rfl rfl rfl (Nat.le_of_ble_eq_true rfl) ?_
  refine wp_ld (v := .ref 55) dX8_init_13 rfl rfl rfl rfl ?_
  refine wp_cst (v := .int (792 : Int32)) dX8_init_14 rfl rfl ?_
  refine wq_na20 (m := 57) (l := 792) dX8_init_17 rfl rfl rfl (by decide) rfl ?_
  refine wp_pR dX8_init_19 rfl rfl rfl rfl rfl rfl (Nat.le_of_ble_eq_true rfl) ?_
  refine wp_ld (v := .ref 55) dX8_init_22 rfl rfl rfl rfl ?_
  refine wp_cst (v := .int (3 : Int32)) dX8_init_23 rfl rfl ?_
  refine wq_na22 (m := 58) (l := 3) dX8_init_24 rfl rfl rfl (by decide) rfl ?_
  refine wp_pR dX8_init_26 rfl rfl rfl rfl rfl rfl (Nat.le_of_ble_eq_true rfl) ?_
  refine wp_ld (v := .ref 55) dX8_init_29 rfl rfl rfl rfl ?_
  refine wp_cst (v := .int (400 : Int32)) dX8_init_30 rfl rfl ?_
  refine wq_na20 (m := 59) (l := 400) dX8_init_33 rfl rfl rfl (by decide) rfl ?_
  refine wp_pR dX8_init_35 rfl rfl rfl rfl rfl rfl (Nat.le_of_ble_eq_true rfl) ?_
  refine wp_ld (v := .ref 55) dX8_init_38 rfl rfl rfl rfl ?_
  refine wp_cst (v := .int (23 : Int32)) dX8_init_39 rfl rfl ?_
  refine wq_na20 (m := 60) (l := 23) dX8_init_41 rfl rfl rfl (by decide) rfl ?_
  refine wp_pR dX8_init_43 rfl rfl rfl rfl rfl rfl (Nat.le_of_ble_eq_true rfl) ?_
  refine wp_ld (v := .ref 55) dX8_init_46 rfl rfl rfl rfl ?_
  refine wp_cst (v := .int (23 : Int32)) dX8_init_47 rfl rfl ?_
  refine wq_na20 (m := 61) (l := 23) dX8_init_49 rfl rfl rfl (by decide) rfl ?_
  refine wp_pR dX8_init_51 rfl rfl rfl rfl rfl rfl (Nat.le_of_ble_eq_true rfl) ?_
  refine wp_ld (v := .ref 55) dX8_init_54 rfl rfl rfl rfl ?_
  refine wp_cst (v := .int (-1 : Int32)) dX8_init_55 rfl rfl ?_
  refine wp_pI dX8_init_56 rfl rfl rfl (by decide) rfl ?_
  refine wp_ld (v := .ref 55) dX8_init_59 rfl rfl rfl rfl ?_
  refine wp_cst (v := .int (288 : Int32)) dX8_init_60 rfl rfl ?_
  refine wq_na20 (m := 62) (l := 288) dX8_init_63 rfl rfl rfl (by decide) rfl ?_
  refine wp_pR dX8_init_65 rfl rfl rfl rfl rfl rfl (Nat.le_of_ble_eq_true rfl) ?_
  refine wp_ld (v := .ref 55) dX8_init_68 rfl rfl rfl rfl ?_
  refine wp_cst (v := .int (288 : Int32)) dX8_init_69 rfl rfl ?_
  refine wq_na20 (m := 63) (l := 288) dX8_init_72 rfl rfl rfl (by decide) rfl ?_
  refine wp_pR dX8_init_74 rfl rfl rfl rfl rfl rfl (Nat.le_of_ble_eq_true rfl) ?_
  refine wp_ld (v := .ref 55) dX8_init_77 rfl rfl rfl rfl ?_
  refine wp_cst (v := .int (288 : Int32)) dX8_init_78 rfl rfl ?_
  refine wq_na20 (m := 64) (l := 288) dX8_init_81 rfl rfl rfl (by decide) rfl ?_
  refine wp_pR dX8_init_83 rfl rfl rfl rfl rfl rfl (Nat.le_of_ble_eq_true rfl) ?_
  refine wp_ld (v := .ref 55) dX8_init_86 rfl rfl rfl rfl ?_
  refine wp_cst (v := .int (64 : Int32)) dX8_init_87 rfl rfl ?_
  refine wq_na20 (m := 65) (l := 64) dX8_init_89 rfl rfl rfl (by decide) rfl ?_
  refine wp_pR dX8_init_91 rfl rfl rfl rfl rfl rfl (Nat.le_of_ble_eq_true rfl) ?_
  refine wp_ld (v := .ref 55) dX8_init_94 rfl rfl rfl rfl ?_
  refine wp_cst (v := .int (64 : Int32)) dX8_init_95 rfl rfl ?_
  refine wq_na20 (m := 66) (l := 64) dX8_init_97 rfl rfl rfl (by decide) rfl ?_
  refine wp_pR dX8_init_99 rfl rfl rfl rfl rfl rfl (Nat.le_of_ble_eq_true rfl) ?_
  refine wp_ld (v := .ref 55) dX8_init_102 rfl rfl rfl rfl ?_
  refine wp_cst (v := .int (16 : Int32)) dX8_init_103 rfl rfl ?_
  refine wq_na20 (m := 67) (l := 16) dX8_init_105 rfl rfl rfl (by decide) rfl ?_
  refine wp_pR dX8_init_107 rfl rfl rfl rfl rfl rfl (Nat.le_of_ble_eq_true rfl) ?_
  refine wp_ld (v := .ref 55) dX8_init_110 rfl rfl rfl rfl ?_
  refine wp_cst (v := .int (4 : Int32)) dX8_init_111 rfl rfl ?_
  refine wq_na20 (m := 68) (l := 4) dX8_init_112 rfl rfl rfl (by decide) rfl ?_
  refine wp_pu (st' := [.ref 68, .ref 68, .ref 55]) dX8_init_114 rfl rfl ?_
  refine wp_cst (v := .int (0 : Int32)) dX8_init_115 rfl rfl ?_
  refine wp_cst (v := .int (-1 : Int32)) dX8_init_116 rfl rfl ?_
  refine wq_iast (j := 0) dX8_init_117 rfl rfl rfl ?_
  refine wp_pu (st' := [.ref 68, .ref 68, .ref 55]) dX8_init_118 rfl rfl ?_
  refine wp_cst (v := .int (1 : Int32)) dX8_init_119 rfl rfl ?_
  refine wp_cst (v := .int (-1 : Int32)) dX8_init_120 rfl rfl ?_
  refine wq_iast (j := 1) dX8_init_121 rfl rfl rfl ?_
  refine wp_pu (st' := [.ref 68, .ref 68, .ref 55]) dX8_init_122 rfl rfl ?_
  refine wp_cst (v := .int (2 : Int32)) dX8_init_123 rfl rfl ?_
  refine wp_cst (v := .int (-1 : Int32)) dX8_init_124 rfl rfl ?_
  refine wq_iast (j := 2) dX8_init_125 rfl rfl rfl ?_
  refine wp_pu (st' := [.ref 68, .ref 68, .ref 55]) dX8_init_126 rfl rfl ?_
  refine wp_cst (v := .int (3 : Int32)) dX8_init_127 rfl rfl ?_
  refine wp_cst (v := .int (-1 : Int32)) dX8_init_128 rfl rfl ?_
  refine wq_iast (j := 3) dX8_init_129 rfl rfl rfl ?_
  refine wp_pR dX8_init_130 rfl rfl rfl rfl rfl rfl (Nat.le_of_ble_eq_true rfl) ?_
  refine wp_ld (v := .ref 55) dX8_init_133 rfl rfl rfl rfl ?_
  refine wp_cst (v := .int (4 : Int32)) dX8_init_134 rfl rfl ?_
  refine wq_na20 (m := 69) (l := 4) dX8_init_135 rfl rfl rfl (by decide) rfl ?_
  refine wp_pR dX8_init_137 rfl rfl rfl rfl rfl rfl (Nat.le_of_ble_eq_true rfl) ?_
  refine wp_ld (v := .ref 55) dX8_init_140 rfl rfl rfl rfl ?_
  refine wp_cst (v := .int (48 : Int32)) dX8_init_141 rfl rfl ?_
  refine wq_na21 (m := 70) (l := 48) dX8_init_143 rfl rfl rfl (by decide) rfl ?_
  refine wp_pR dX8_init_145 rfl rfl rfl rfl rfl rfl (Nat.le_of_ble_eq_true rfl) ?_
  refine wp_ld (v := .ref 55) dX8_init_148 rfl rfl rfl rfl ?_
  refine wp_gr (b := 56) dX8_init_149 rfl rfl rfl rfl ?_
  refine wp_cst (v := .int (0 : Int32)) dX8_init_152 rfl rfl ?_
  refine wp_cst (v := .int (8 : Int32)) dX8_init_153 rfl rfl ?_
  refine wq_iast (j := 0) dX8_init_155 rfl rfl rfl ?_
  refine wp_ld (v := .ref 55) dX8_init_156 rfl rfl rfl rfl ?_
  refine wp_gr (b := 56) dX8_init_157 rfl rfl rfl rfl ?_
  refine wp_cst (v := .int (1 : Int32)) dX8_init_160 rfl rfl ?_
  refine wp_cst (v := .int (6 : Int32)) dX8_init_161 rfl rfl ?_
  refine wq_iast (j := 1) dX8_init_163 rfl rfl rfl ?_
  refine wp_ld (v := .ref 55) dX8_init_164 rfl rfl rfl rfl ?_
  refine wp_call (M' := mX8_plainLaw) (av := [.ref 55]) (rest := []) dX8_init_165 rfl rfl rfl rfl ?_
  show am_WP _ mX8_plainLaw 0 [(0, .ref 55)] [] _ _
  refine wp_ld (v := .ref 55) dX8_plainLaw_0 rfl rfl rfl rfl ?_
  refine wp_gr (b := 60) dX8_plainLaw_1 rfl rfl rfl rfl ?_
  refine wp_cst (v := .int (0 : Int32)) dX8_plainLaw_4 rfl rfl ?_
  refine wp_cst (v := .int (10 : Int32)) dX8_plainLaw_5 rfl rfl ?_
  refine wq_iast (j := 0) dX8_plainLaw_7 rfl rfl rfl ?_
  refine wp_ld (v := .ref 55) dX8_plainLaw_8 rfl rfl rfl rfl ?_
  refine wp_gr (b := 60) dX8_plainLaw_9 rfl rfl rfl rfl ?_
  refine wp_cst (v := .int (1 : Int32)) dX8_plainLaw_12 rfl rfl ?_
  refine wp_cst (v := .int (10 : Int32)) dX8_plainLaw_13 rfl rfl ?_
  refine wq_iast (j := 1) dX8_plainLaw_15 rfl rfl rfl ?_
  refine wp_ld (v := .ref 55) dX8_plainLaw_16 rfl rfl rfl rfl ?_
  refine wp_gr (b := 60) dX8_plainLaw_17 rfl rfl rfl rfl ?_
  refine wp_cst (v := .int (2 : Int32)) dX8_plainLaw_20 rfl rfl ?_
  refine wp_cst (v := .int (10 : Int32)) dX8_plainLaw_21 rfl rfl ?_
  refine wq_iast (j := 2) dX8_plainLaw_23 rfl rfl rfl ?_
  refine wp_ld (v := .ref 55) dX8_plainLaw_24 rfl rfl rfl rfl ?_
  refine wp_gr (b := 60) dX8_plainLaw_25 rfl rfl rfl rfl ?_
  refine wp_cst (v := .int (3 : Int32)) dX8_plainLaw_28 rfl rfl ?_
  refine wp_cst (v := .int (3 : Int32)) dX8_plainLaw_29 rfl rfl ?_
  refine wq_iast (j := 3) dX8_plainLaw_30 rfl rfl rfl ?_
  refine wp_ld (v := .ref 55) dX8_plainLaw_31 rfl rfl rfl rfl ?_
  refine wp_gr (b := 60) dX8_plainLaw_32 rfl rfl rfl rfl ?_
  refine wp_cst (v := .int (4 : Int32)) dX8_plainLaw_35 rfl rfl ?_
  refine wp_cst (v := .int (-1 : Int32)) dX8_plainLaw_36 rfl rfl ?_
  refine wq_iast (j := 4) dX8_plainLaw_37 rfl rfl rfl ?_
  refine wp_cst (v := .int (0 : Int32)) dX8_plainLaw_38 rfl rfl ?_
  refine wp_st (ls' := [(0, .ref 55), (1, .int (0 : Int32))]) dX8_plainLaw_39 rfl rfl rfl (Nat.le_of_ble_eq_true rfl) rfl ?_
  refine wp_ld (v := .int (0 : Int32)) dX8_plainLaw_40 rfl rfl rfl rfl ?_
  refine wp_cst (v := .int (9 : Int32)) dX8_plainLaw_41 rfl rfl ?_
  refine wp_ic_ge dX8_plainLaw_43 rfl (fun c => absurd c (by decide)) (fun _ => ?_)
  refine wp_ld (v := .ref 55) dX8_plainLaw_46 rfl rfl rfl rfl ?_
  refine wp_gr (b := 60) dX8_plainLaw_47 rfl rfl rfl rfl ?_
  refine wp_cst (v := .int (5 : Int32)) dX8_plainLaw_50 rfl rfl ?_
  refine wp_ld (v := .int (0 : Int32)) dX8_plainLaw_51 rfl rfl rfl rfl ?_
  refine wp_pu (st' := [.int (5 : Int32), .ref 60]) dX8_plainLaw_52 rfl rfl ?_
  refine wp_ld (v := .int (0 : Int32)) dX8_plainLaw_53 rfl rfl rfl rfl ?_
  refine wp_cst (v := .int (5 : Int32)) dX8_plainLaw_54 rfl rfl ?_
  refine wp_ic_ge dX8_plainLaw_55 rfl (fun c => absurd c (by decide)) (fun _ => ?_)
  refine wp_cst (v := .int (10 : Int32)) dX8_plainLaw_58 rfl rfl ?_
  refine wp_ld (v := .int (0 : Int32)) dX8_plainLaw_60 rfl rfl rfl rfl ?_
  refine wp_pu (st' := [.int (0 : Int32), .int (5 : Int32), .ref 60]) dX8_plainLaw_61 rfl rfl ?_
  refine wp_goto dX8_plainLaw_62 rfl ?_
  refine wq_iast (j := 5) dX8_plainLaw_99 rfl rfl rfl ?_
  refine wp_ld (v := .ref 55) dX8_plainLaw_100 rfl rfl rfl rfl ?_
  refine wp_gr (b := 60) dX8_plainLaw_101 rfl rfl rfl rfl ?_
  refine wp_cst (v := .int (14 : Int32)) dX8_plainLaw_104 rfl rfl ?_
  refine wp_ld (v := .int (0 : Int32)) dX8_plainLaw_106 rfl rfl rfl rfl ?_
  refine wp_pu (st' := [.int (14 : Int32), .ref 60]) dX8_plainLaw_107 rfl rfl ?_
  refine wp_ld (v := .int (0 : Int32)) dX8_plainLaw_108 rfl rfl rfl rfl ?_
  refine wp_if_ne dX8_plainLaw_109 rfl (fun c => absurd c (by decide)) (fun _ => ?_)
  refine wp_cst (v := .int (2 : Int32)) dX8_plainLaw_112 rfl rfl ?_
  refine wp_goto dX8_plainLaw_113 rfl ?_
  refine wq_iast (j := 14) dX8_plainLaw_188 rfl rfl rfl ?_
  refine wp_inc (v := (1 : Int32)) (ls' := [(0, .ref 55), (1, .int (1 : Int32))]) dX8_plainLaw_189 rfl (Nat.le_of_ble_eq_true rfl) rfl rfl ?_
  refine wp_goto dX8_plainLaw_192 rfl ?_
  refine wp_ld (v := .int (1 : Int32)) dX8_plainLaw_40 rfl rfl rfl rfl ?_
  refine wp_cst (v := .int (9 : Int32)) dX8_plainLaw_41 rfl rfl ?_
  refine wp_ic_ge dX8_plainLaw_43 rfl (fun c => absurd c (by decide)) (fun _ => ?_)
  refine wp_ld (v := .ref 55) dX8_plainLaw_46 rfl rfl rfl rfl ?_
  refine wp_gr (b := 60) dX8_plainLaw_47 rfl rfl rfl rfl ?_
  refine wp_cst (v := .int (5 : Int32)) dX8_plainLaw_50 rfl rfl ?_
  refine wp_ld (v := .int (1 : Int32)) dX8_plainLaw_51 rfl rfl rfl rfl ?_
  refine wp_pu (st' := [.int (6 : Int32), .ref 60]) dX8_plainLaw_52 rfl rfl ?_
  refine wp_ld (v := .int (1 : Int32)) dX8_plainLaw_53 rfl rfl rfl rfl ?_
  refine wp_cst (v := .int (5 : Int32)) dX8_plainLaw_54 rfl rfl ?_
  refine wp_ic_ge dX8_plainLaw_55 rfl (fun c => absurd c (by decide)) (fun _ => ?_)
  refine wp_cst (v := .int (10 : Int32)) dX8_plainLaw_58 rfl rfl ?_
  refine wp_ld (v := .int (1 : Int32)) dX8_plainLaw_60 rfl rfl rfl rfl ?_
  refine wp_pu (st' := [.int (10 : Int32), .int (6 : Int32), .ref 60]) dX8_plainLaw_61 rfl rfl ?_
  refine wp_goto dX8_plainLaw_62 rfl ?_
  refine wq_iast (j := 6) dX8_plainLaw_99 rfl rfl rfl ?_
  refine wp_ld (v := .ref 55) dX8_plainLaw_100 rfl rfl rfl rfl ?_
  refine wp_gr (b := 60) dX8_plainLaw_101 rfl rfl rfl rfl ?_
  refine wp_cst (v := .int (14 : Int32)) dX8_plainLaw_104 rfl rfl ?_
  refine wp_ld (v := .int (1 : Int32)) dX8_plainLaw_106 rfl rfl rfl rfl ?_
  refine wp_pu (st' := [.int (15 : Int32), .ref 60]) dX8_plainLaw_107 rfl rfl ?_
  refine wp_ld (v := .int (1 : Int32)) dX8_plainLaw_108 rfl rfl rfl rfl ?_
  refine wp_if_ne dX8_plainLaw_109 rfl (fun _ => ?_) (fun c => absurd c (by decide))
  refine wp_ld (v := .int (1 : Int32)) dX8_plainLaw_116 rfl rfl rfl rfl ?_
  refine wp_cst (v := .int (1 : Int32)) dX8_plainLaw_117 rfl rfl ?_
  refine wp_ic_ne dX8_plainLaw_118 rfl (fun c => absurd c (by decide)) (fun _ => ?_)
  refine wp_cst (v := .int (3 : Int32)) dX8_plainLaw_121 rfl rfl ?_
  refine wp_goto dX8_plainLaw_122 rfl ?_
  refine wq_iast (j := 15) dX8_plainLaw_188 rfl rfl rfl ?_
  refine wp_inc (v := (2 : Int32)) (ls' := [(0, .ref 55), (1, .int (2 : Int32))]) dX8_plainLaw_189 rfl (Nat.le_of_ble_eq_true rfl) rfl rfl ?_
  refine wp_goto dX8_plainLaw_192 rfl ?_
  refine wp_ld (v := .int (2 : Int32)) dX8_plainLaw_40 rfl rfl rfl rfl ?_
  refine wp_cst (v := .int (9 : Int32)) dX8_plainLaw_41 rfl rfl ?_
  refine wp_ic_ge dX8_plainLaw_43 rfl (fun c => absurd c (by decide)) (fun _ => ?_)
  refine wp_ld (v := .ref 55) dX8_plainLaw_46 rfl rfl rfl rfl ?_
  refine wp_gr (b := 60) dX8_plainLaw_47 rfl rfl rfl rfl ?_
  refine wp_cst (v := .int (5 : Int32)) dX8_plainLaw_50 rfl rfl ?_
  refine wp_ld (v := .int (2 : Int32)) dX8_plainLaw_51 rfl rfl rfl rfl ?_
  refine wp_pu (st' := [.int (7 : Int32), .ref 60]) dX8_plainLaw_52 rfl rfl ?_
  refine wp_ld (v := .int (2 : Int32)) dX8_plainLaw_53 rfl rfl rfl rfl ?_
  refine wp_cst (v := .int (5 : Int32)) dX8_plainLaw_54 rfl rfl ?_
  refine wp_ic_ge dX8_plainLaw_55 rfl (fun c => absurd c (by decide)) (fun _ => ?_)
  refine wp_cst (v := .int (10 : Int32)) dX8_plainLaw_58 rfl rfl ?_
  refine wp_ld (v := .int (2 : Int32)) dX8_plainLaw_60 rfl rfl rfl rfl ?_
  refine wp_pu (st' := [.int (20 : Int32), .int (7 : Int32), .ref 60]) dX8_plainLaw_61 rfl rfl ?_
  refine wp_goto dX8_plainLaw_62 rfl ?_
  refine wq_iast (j := 7) dX8_plainLaw_99 rfl rfl rfl ?_
  refine wp_ld (v := .ref 55) dX8_plainLaw_100 rfl rfl rfl rfl ?_
  refine wp_gr (b := 60) dX8_plainLaw_101 rfl rfl rfl rfl ?_
  refine wp_cst (v := .int (14 : Int32)) dX8_plainLaw_104 rfl rfl ?_
  refine wp_ld (v := .int (2 : Int32)) dX8_plainLaw_106 rfl rfl rfl rfl ?_
  refine wp_pu (st' := [.int (16 : Int32), .ref 60]) dX8_plainLaw_107 rfl rfl ?_
  refine wp_ld (v := .int (2 : Int32)) dX8_plainLaw_108 rfl rfl rfl rfl ?_
  refine wp_if_ne dX8_plainLaw_109 rfl (fun _ => ?_) (fun c => absurd c (by decide))
  refine wp_ld (v := .int (2 : Int32)) dX8_plainLaw_116 rfl rfl rfl rfl ?_
  refine wp_cst (v := .int (1 : Int32)) dX8_plainLaw_117 rfl rfl ?_
  refine wp_ic_ne dX8_plainLaw_118 rfl (fun _ => ?_) (fun c => absurd c (by decide))
  refine wp_ld (v := .int (2 : Int32)) dX8_plainLaw_125 rfl rfl rfl rfl ?_
  refine wp_cst (v := .int (2 : Int32)) dX8_plainLaw_126 rfl rfl ?_
  refine wp_ic_ne dX8_plainLaw_127 rfl (fun c => absurd c (by decide)) (fun _ => ?_)
  refine wp_cst (v := .int (4 : Int32)) dX8_plainLaw_130 rfl rfl ?_
  refine wp_goto dX8_plainLaw_131 rfl ?_
  refine wq_iast (j := 16) dX8_plainLaw_188 rfl rfl rfl ?_
  refine wp_inc (v := (3 : Int32)) (ls' := [(0, .ref 55), (1, .int (3 : Int32))]) dX8_plainLaw_189 rfl (Nat.le_of_ble_eq_true rfl) rfl rfl ?_
  refine wp_goto dX8_plainLaw_192 rfl ?_
  refine wp_ld (v := .int (3 : Int32)) dX8_plainLaw_40 rfl rfl rfl rfl ?_
  refine wp_cst (v := .int (9 : Int32)) dX8_plainLaw_41 rfl rfl ?_
  refine wp_ic_ge dX8_plainLaw_43 rfl (fun c => absurd c (by decide)) (fun _ => ?_)
  refine wp_ld (v := .ref 55) dX8_plainLaw_46 rfl rfl rfl rfl ?_
  refine wp_gr (b := 60) dX8_plainLaw_47 rfl rfl rfl rfl ?_
  refine wp_cst (v := .int (5 : Int32)) dX8_plainLaw_50 rfl rfl ?_
  refine wp_ld (v := .int (3 : Int32)) dX8_plainLaw_51 rfl rfl rfl rfl ?_
  refine wp_pu (st' := [.int (8 : Int32), .ref 60]) dX8_plainLaw_52 rfl rfl ?_
  refine wp_ld (v := .int (3 : Int32)) dX8_plainLaw_53 rfl rfl rfl rfl ?_
  refine wp_cst (v := .int (5 : Int32)) dX8_plainLaw_54 rfl rfl ?_
  refine wp_ic_ge dX8_plainLaw_55 rfl (fun c => absurd c (by decide)) (fun _ => ?_)
  refine wp_cst (v := .int (10 : Int32)) dX8_plainLaw_58 rfl rfl ?_
  refine wp_ld (v := .int (3 : Int32)) dX8_plainLaw_60 rfl rfl rfl rfl ?_
  refine wp_pu (st' := [.int (30 : Int32), .int (8 : Int32), .ref 60]) dX8_plainLaw_61 rfl rfl ?_
  refine wp_goto dX8_plainLaw_62 rfl ?_
  refine wq_iast (j := 8) dX8_plainLaw_99 rfl rfl rfl ?_
  refine wp_ld (v := .ref 55) dX8_plainLaw_100 rfl rfl rfl rfl ?_
  refine wp_gr (b := 60) dX8_plainLaw_101 rfl rfl rfl rfl ?_
  refine wp_cst (v := .int (14 : Int32)) dX8_plainLaw_104 rfl rfl ?_
  refine wp_ld (v := .int (3 : Int32)) dX8_plainLaw_106 rfl rfl rfl rfl ?_
  refine wp_pu (st' := [.int (17 : Int32), .ref 60]) dX8_plainLaw_107 rfl rfl ?_
  refine wp_ld (v := .int (3 : Int32)) dX8_plainLaw_108 rfl rfl rfl rfl ?_
  refine wp_if_ne dX8_plainLaw_109 rfl (fun _ => ?_) (fun c => absurd c (by decide))
  refine wp_ld (v := .int (3 : Int32)) dX8_plainLaw_116 rfl rfl rfl rfl ?_
  refine wp_cst (v := .int (1 : Int32)) dX8_plainLaw_117 rfl rfl ?_
  refine wp_ic_ne dX8_plainLaw_118 rfl (fun _ => ?_) (fun c => absurd c (by decide))
  refine wp_ld (v := .int (3 : Int32)) dX8_plainLaw_125 rfl rfl rfl rfl ?_
  refine wp_cst (v := .int (2 : Int32)) dX8_plainLaw_126 rfl rfl ?_
  refine wp_ic_ne dX8_plainLaw_127 rfl (fun _ => ?_) (fun c => absurd c (by decide))
  refine wp_ld (v := .int (3 : Int32)) dX8_plainLaw_134 rfl rfl rfl rfl ?_
  refine wp_cst (v := .int (3 : Int32)) dX8_plainLaw_135 rfl rfl ?_
  refine wp_ic_ne dX8_plainLaw_136 rfl (fun c => absurd c (by decide)) (fun _ => ?_)
  refine wp_cst (v := .int (6 : Int32)) dX8_plainLaw_139 rfl rfl ?_
  refine wp_goto dX8_plainLaw_141 rfl ?_
  refine wq_iast (j := 17) dX8_plainLaw_188 rfl rfl rfl ?_
  refine wp_inc (v := (4 : Int32)) (ls' := [(0, .ref 55), (1, .int (4 : Int32))]) dX8_plainLaw_189 rfl (Nat.le_of_ble_eq_true rfl) rfl rfl ?_
  refine wp_goto dX8_plainLaw_192 rfl ?_
  refine wp_ld (v := .int (4 : Int32)) dX8_plainLaw_40 rfl rfl rfl rfl ?_
  refine wp_cst (v := .int (9 : Int32)) dX8_plainLaw_41 rfl rfl ?_
  refine wp_ic_ge dX8_plainLaw_43 rfl (fun c => absurd c (by decide)) (fun _ => ?_)
  refine wp_ld (v := .ref 55) dX8_plainLaw_46 rfl rfl rfl rfl ?_
  refine wp_gr (b := 60) dX8_plainLaw_47 rfl rfl rfl rfl ?_
  refine wp_cst (v := .int (5 : Int32)) dX8_plainLaw_50 rfl rfl ?_
  refine wp_ld (v := .int (4 : Int32)) dX8_plainLaw_51 rfl rfl rfl rfl ?_
  refine wp_pu (st' := [.int (9 : Int32), .ref 60]) dX8_plainLaw_52 rfl rfl ?_
  refine wp_ld (v := .int (4 : Int32)) dX8_plainLaw_53 rfl rfl rfl rfl ?_
  refine wp_cst (v := .int (5 : Int32)) dX8_plainLaw_54 rfl rfl ?_
  refine wp_ic_ge dX8_plainLaw_55 rfl (fun c => absurd c (by decide)) (fun _ => ?_)
  refine wp_cst (v := .int (10 : Int32)) dX8_plainLaw_58 rfl rfl ?_
  refine wp_ld (v := .int (4 : Int32)) dX8_plainLaw_60 rfl rfl rfl rfl ?_
  refine wp_pu (st' := [.int (40 : Int32), .int (9 : Int32), .ref 60]) dX8_plainLaw_61 rfl rfl ?_
  refine wp_goto dX8_plainLaw_62 rfl ?_
  refine wq_iast (j := 9) dX8_plainLaw_99 rfl rfl rfl ?_
  refine wp_ld (v := .ref 55) dX8_plainLaw_100 rfl rfl rfl rfl ?_
  refine wp_gr (b := 60) dX8_plainLaw_101 rfl rfl rfl rfl ?_
  refine wp_cst (v := .int (14 : Int32)) dX8_plainLaw_104 rfl rfl ?_
  refine wp_ld (v := .int (4 : Int32)) dX8_plainLaw_106 rfl rfl rfl rfl ?_
  refine wp_pu (st' := [.int (18 : Int32), .ref 60]) dX8_plainLaw_107 rfl rfl ?_
  refine wp_ld (v := .int (4 : Int32)) dX8_plainLaw_108 rfl rfl rfl rfl ?_
  refine wp_if_ne dX8_plainLaw_109 rfl (fun _ => ?_) (fun c => absurd c (by decide))
  refine wp_ld (v := .int (4 : Int32)) dX8_plainLaw_116 rfl rfl rfl rfl ?_
  refine wp_cst (v := .int (1 : Int32)) dX8_plainLaw_117 rfl rfl ?_
  refine wp_ic_ne dX8_plainLaw_118 rfl (fun _ => ?_) (fun c => absurd c (by decide))
  refine wp_ld (v := .int (4 : Int32)) dX8_plainLaw_125 rfl rfl rfl rfl ?_
  refine wp_cst (v := .int (2 : Int32)) dX8_plainLaw_126 rfl rfl ?_
  refine wp_ic_ne dX8_plainLaw_127 rfl (fun _ => ?_) (fun c => absurd c (by decide))
  refine wp_ld (v := .int (4 : Int32)) dX8_plainLaw_134 rfl rfl rfl rfl ?_
  refine wp_cst (v := .int (3 : Int32)) dX8_plainLaw_135 rfl rfl ?_
  refine wp_ic_ne dX8_plainLaw_136 rfl (fun _ => ?_) (fun c => absurd c (by decide))
  refine wp_ld (v := .int (4 : Int32)) dX8_plainLaw_144 rfl rfl rfl rfl ?_
  refine wp_cst (v := .int (4 : Int32)) dX8_plainLaw_145 rfl rfl ?_
  refine wp_ic_ne dX8_plainLaw_146 rfl (fun c => absurd c (by decide)) (fun _ => ?_)
  refine wp_cst (v := .int (9 : Int32)) dX8_plainLaw_149 rfl rfl ?_
  refine wp_goto dX8_plainLaw_151 rfl ?_
  refine wq_iast (j := 18) dX8_plainLaw_188 rfl rfl rfl ?_
  refine wp_inc (v := (5 : Int32)) (ls' := [(0, .ref 55), (1, .int (5 : Int32))]) dX8_plainLaw_189 rfl (Nat.le_of_ble_eq_true rfl) rfl rfl ?_
  refine wp_goto dX8_plainLaw_192 rfl ?_
  refine wp_ld (v := .int (5 : Int32)) dX8_plainLaw_40 rfl rfl rfl rfl ?_
  refine wp_cst (v := .int (9 : Int32)) dX8_plainLaw_41 rfl rfl ?_
  refine wp_ic_ge dX8_plainLaw_43 rfl (fun c => absurd c (by decide)) (fun _ => ?_)
  refine wp_ld (v := .ref 55) dX8_plainLaw_46 rfl rfl rfl rfl ?_
  refine wp_gr (b := 60) dX8_plainLaw_47 rfl rfl rfl rfl ?_
  refine wp_cst (v := .int (5 : Int32)) dX8_plainLaw_50 rfl rfl ?_
  refine wp_ld (v := .int (5 : Int32)) dX8_plainLaw_51 rfl rfl rfl rfl ?_
  refine wp_pu (st' := [.int (10 : Int32), .ref 60]) dX8_plainLaw_52 rfl rfl ?_
  refine wp_ld (v := .int (5 : Int32)) dX8_plainLaw_53 rfl rfl rfl rfl ?_
  refine wp_cst (v := .int (5 : Int32)) dX8_plainLaw_54 rfl rfl ?_
  refine wp_ic_ge dX8_plainLaw_55 rfl (fun _ => ?_) (fun c => absurd c (by decide))
  refine wp_ld (v := .int (5 : Int32)) dX8_plainLaw_65 rfl rfl rfl rfl ?_
  refine wp_cst (v := .int (5 : Int32)) dX8_plainLaw_66 rfl rfl ?_
  refine wp_ic_ne dX8_plainLaw_67 rfl (fun c => absurd c (by decide)) (fun _ => ?_)
  refine wp_cst (v := .int (45 : Int32)) dX8_plainLaw_70 rfl rfl ?_
  refine wp_goto dX8_plainLaw_72 rfl ?_
  refine wq_iast (j := 10) dX8_plainLaw_99 rfl rfl rfl ?_
  refine wp_ld (v := .ref 55) dX8_plainLaw_100 rfl rfl rfl rfl ?_
  refine wp_gr (b := 60) dX8_plainLaw_101 rfl rfl rfl rfl ?_
  refine wp_cst (v := .int (14 : Int32)) dX8_plainLaw_104 rfl rfl ?_
  refine wp_ld (v := .int (5 : Int32)) dX8_plainLaw_106 rfl rfl rfl rfl ?_
  refine wp_pu (st' := [.int (19 : Int32), .ref 60]) dX8_plainLaw_107 rfl rfl ?_
  refine wp_ld (v := .int (5 : Int32)) dX8_plainLaw_108 rfl rfl rfl rfl ?_
  refine wp_if_ne dX8_plainLaw_109 rfl (fun _ => ?_) (fun c => absurd c (by decide))
  refine wp_ld (v := .int (5 : Int32)) dX8_plainLaw_116 rfl rfl rfl rfl ?_
  refine wp_cst (v := .int (1 : Int32)) dX8_plainLaw_117 rfl rfl ?_
  refine wp_ic_ne dX8_plainLaw_118 rfl (fun _ => ?_) (fun c => absurd c (by decide))
  refine wp_ld (v := .int (5 : Int32)) dX8_plainLaw_125 rfl rfl rfl rfl ?_
  refine wp_cst (v := .int (2 : Int32)) dX8_plainLaw_126 rfl rfl ?_
  refine wp_ic_ne dX8_plainLaw_127 rfl (fun _ => ?_) (fun c => absurd c (by decide))
  refine wp_ld (v := .int (5 : Int32)) dX8_plainLaw_134 rfl rfl rfl rfl ?_
  refine wp_cst (v := .int (3 : Int32)) dX8_plainLaw_135 rfl rfl ?_
  refine wp_ic_ne dX8_plainLaw_136 rfl (fun _ => ?_) (fun c => absurd c (by decide))
  refine wp_ld (v := .int (5 : Int32)) dX8_plainLaw_144 rfl rfl rfl rfl ?_
  refine wp_cst (v := .int (4 : Int32)) dX8_plainLaw_145 rfl rfl ?_
  refine wp_ic_ne dX8_plainLaw_146 rfl (fun _ => ?_) (fun c => absurd c (by decide))
  refine wp_ld (v := .int (5 : Int32)) dX8_plainLaw_154 rfl rfl rfl rfl ?_
  refine wp_cst (v := .int (5 : Int32)) dX8_plainLaw_155 rfl rfl ?_
  refine wp_ic_ne dX8_plainLaw_156 rfl (fun c => absurd c (by decide)) (fun _ => ?_)
  refine wp_cst (v := .int (14 : Int32)) dX8_plainLaw_159 rfl rfl ?_
  refine wp_goto dX8_plainLaw_161 rfl ?_
  refine wq_iast (j := 19) dX8_plainLaw_188 rfl rfl rfl ?_
  refine wp_inc (v := (6 : Int32)) (ls' := [(0, .ref 55), (1, .int (6 : Int32))]) dX8_plainLaw_189 rfl (Nat.le_of_ble_eq_true rfl) rfl rfl ?_
  refine wp_goto dX8_plainLaw_192 rfl ?_
  refine wp_ld (v := .int (6 : Int32)) dX8_plainLaw_40 rfl rfl rfl rfl ?_
  refine wp_cst (v := .int (9 : Int32)) dX8_plainLaw_41 rfl rfl ?_
  refine wp_ic_ge dX8_plainLaw_43 rfl (fun c => absurd c (by decide)) (fun _ => ?_)
  refine wp_ld (v := .ref 55) dX8_plainLaw_46 rfl rfl rfl rfl ?_
  refine wp_gr (b := 60) dX8_plainLaw_47 rfl rfl rfl rfl ?_
  refine wp_cst (v := .int (5 : Int32)) dX8_plainLaw_50 rfl rfl ?_
  refine wp_ld (v := .int (6 : Int32)) dX8_plainLaw_51 rfl rfl rfl rfl ?_
  refine wp_pu (st' := [.int (11 : Int32), .ref 60]) dX8_plainLaw_52 rfl rfl ?_
  refine wp_ld (v := .int (6 : Int32)) dX8_plainLaw_53 rfl rfl rfl rfl ?_
  refine wp_cst (v := .int (5 : Int32)) dX8_plainLaw_54 rfl rfl ?_
  refine wp_ic_ge dX8_plainLaw_55 rfl (fun _ => ?_) (fun c => absurd c (by decide))
  refine wp_ld (v := .int (6 : Int32)) dX8_plainLaw_65 rfl rfl rfl rfl ?_
  refine wp_cst (v := .int (5 : Int32)) dX8_plainLaw_66 rfl rfl ?_
  refine wp_ic_ne dX8_plainLaw_67 rfl (fun _ => ?_) (fun c => absurd c (by decide))
  refine wp_ld (v := .int (6 : Int32)) dX8_plainLaw_75 rfl rfl rfl rfl ?_
  refine wp_cst (v := .int (6 : Int32)) dX8_plainLaw_76 rfl rfl ?_
  refine wp_ic_ne dX8_plainLaw_78 rfl (fun c => absurd c (by decide)) (fun _ => ?_)
  refine wp_cst (v := .int (40 : Int32)) dX8_plainLaw_81 rfl rfl ?_
  refine wp_goto dX8_plainLaw_83 rfl ?_
  refine wq_iast (j := 11) dX8_plainLaw_99 rfl rfl rfl ?_
  refine wp_ld (v := .ref 55) dX8_plainLaw_100 rfl rfl rfl rfl ?_
  refine wp_gr (b := 60) dX8_plainLaw_101 rfl rfl rfl rfl ?_
  refine wp_cst (v := .int (14 : Int32)) dX8_plainLaw_104 rfl rfl ?_
  refine wp_ld (v := .int (6 : Int32)) dX8_plainLaw_106 rfl rfl rfl rfl ?_
  refine wp_pu (st' := [.int (20 : Int32), .ref 60]) dX8_plainLaw_107 rfl rfl ?_
  refine wp_ld (v := .int (6 : Int32)) dX8_plainLaw_108 rfl rfl rfl rfl ?_
  refine wp_if_ne dX8_plainLaw_109 rfl (fun _ => ?_) (fun c => absurd c (by decide))
  refine wp_ld (v := .int (6 : Int32)) dX8_plainLaw_116 rfl rfl rfl rfl ?_
  refine wp_cst (v := .int (1 : Int32)) dX8_plainLaw_117 rfl rfl ?_
  refine wp_ic_ne dX8_plainLaw_118 rfl (fun _ => ?_) (fun c => absurd c (by decide))
  refine wp_ld (v := .int (6 : Int32)) dX8_plainLaw_125 rfl rfl rfl rfl ?_
  refine wp_cst (v := .int (2 : Int32)) dX8_plainLaw_126 rfl rfl ?_
  refine wp_ic_ne dX8_plainLaw_127 rfl (fun _ => ?_) (fun c => absurd c (by decide))
  refine wp_ld (v := .int (6 : Int32)) dX8_plainLaw_134 rfl rfl rfl rfl ?_
  refine wp_cst (v := .int (3 : Int32)) dX8_plainLaw_135 rfl rfl ?_
  refine wp_ic_ne dX8_plainLaw_136 rfl (fun _ => ?_) (fun c => absurd c (by decide))
  refine wp_ld (v := .int (6 : Int32)) dX8_plainLaw_144 rfl rfl rfl rfl ?_
  refine wp_cst (v := .int (4 : Int32)) dX8_plainLaw_145 rfl rfl ?_
  refine wp_ic_ne dX8_plainLaw_146 rfl (fun _ => ?_) (fun c => absurd c (by decide))
  refine wp_ld (v := .int (6 : Int32)) dX8_plainLaw_154 rfl rfl rfl rfl ?_
  refine wp_cst (v := .int (5 : Int32)) dX8_plainLaw_155 rfl rfl ?_
  refine wp_ic_ne dX8_plainLaw_156 rfl (fun _ => ?_) (fun c => absurd c (by decide))
  refine wp_ld (v := .int (6 : Int32)) dX8_plainLaw_164 rfl rfl rfl rfl ?_
  refine wp_cst (v := .int (6 : Int32)) dX8_plainLaw_165 rfl rfl ?_
  refine wp_ic_ne dX8_plainLaw_167 rfl (fun c => absurd c (by decide)) (fun _ => ?_)
  refine wp_cst (v := .int (22 : Int32)) dX8_plainLaw_170 rfl rfl ?_
  refine wp_goto dX8_plainLaw_172 rfl ?_
  refine wq_iast (j := 20) dX8_plainLaw_188 rfl rfl rfl ?_
  refine wp_inc (v := (7 : Int32)) (ls' := [(0, .ref 55), (1, .int (7 : Int32))]) dX8_plainLaw_189 rfl (Nat.le_of_ble_eq_true rfl) rfl rfl ?_
  refine wp_goto dX8_plainLaw_192 rfl ?_
  refine wp_ld (v := .int (7 : Int32)) dX8_plainLaw_40 rfl rfl rfl rfl ?_
  refine wp_cst (v := .int (9 : Int32)) dX8_plainLaw_41 rfl rfl ?_
  refine wp_ic_ge dX8_plainLaw_43 rfl (fun c => absurd c (by decide)) (fun _ => ?_)
  refine wp_ld (v := .ref 55) dX8_plainLaw_46 rfl rfl rfl rfl ?_
  refine wp_gr (b := 60) dX8_plainLaw_47 rfl rfl rfl rfl ?_
  refine wp_cst (v := .int (5 : Int32)) dX8_plainLaw_50 rfl rfl ?_
  refine wp_ld (v := .int (7 : Int32)) dX8_plainLaw_51 rfl rfl rfl rfl ?_
  refine wp_pu (st' := [.int (12 : Int32), .ref 60]) dX8_plainLaw_52 rfl rfl ?_
  refine wp_ld (v := .int (7 : Int32)) dX8_plainLaw_53 rfl rfl rfl rfl ?_
  refine wp_cst (v := .int (5 : Int32)) dX8_plainLaw_54 rfl rfl ?_
  refine wp_ic_ge dX8_plainLaw_55 rfl (fun _ => ?_) (fun c => absurd c (by decide))
  refine wp_ld (v := .int (7 : Int32)) dX8_plainLaw_65 rfl rfl rfl rfl ?_
  refine wp_cst (v := .int (5 : Int32)) dX8_plainLaw_66 rfl rfl ?_
  refine wp_ic_ne dX8_plainLaw_67 rfl (fun _ => ?_) (fun c => absurd c (by decide))
  refine wp_ld (v := .int (7 : Int32)) dX8_plainLaw_75 rfl rfl rfl rfl ?_
  refine wp_cst (v := .int (6 : Int32)) dX8_plainLaw_76 rfl rfl ?_
  refine wp_ic_ne dX8_plainLaw_78 rfl (fun _ => ?_) (fun c => absurd c (by decide))
  refine wp_ld (v := .int (7 : Int32)) dX8_plainLaw_86 rfl rfl rfl rfl ?_
  refine wp_cst (v := .int (7 : Int32)) dX8_plainLaw_87 rfl rfl ?_
  refine wp_ic_ne dX8_plainLaw_89 rfl (fun c => absurd c (by decide)) (fun _ => ?_)
  refine wp_cst (v := .int (25 : Int32)) dX8_plainLaw_92 rfl rfl ?_
  refine wp_goto dX8_plainLaw_94 rfl ?_
  refine wq_iast (j := 12) dX8_plainLaw_99 rfl rfl rfl ?_
  refine wp_ld (v := .ref 55) dX8_plainLaw_100 rfl rfl rfl rfl ?_
  refine wp_gr (b := 60) dX8_plainLaw_101 rfl rfl rfl rfl ?_
  refine wp_cst (v := .int (14 : Int32)) dX8_plainLaw_104 rfl rfl ?_
  refine wp_ld (v := .int (7 : Int32)) dX8_plainLaw_106 rfl rfl rfl rfl ?_
  refine wp_pu (st' := [.int (21 : Int32), .ref 60]) dX8_plainLaw_107 rfl rfl ?_
  refine wp_ld (v := .int (7 : Int32)) dX8_plainLaw_108 rfl rfl rfl rfl ?_
  refine wp_if_ne dX8_plainLaw_109 rfl (fun _ => ?_) (fun c => absurd c (by decide))
  refine wp_ld (v := .int (7 : Int32)) dX8_plainLaw_116 rfl rfl rfl rfl ?_
  refine wp_cst (v := .int (1 : Int32)) dX8_plainLaw_117 rfl rfl ?_
  refine wp_ic_ne dX8_plainLaw_118 rfl (fun _ => ?_) (fun c => absurd c (by decide))
  refine wp_ld (v := .int (7 : Int32)) dX8_plainLaw_125 rfl rfl rfl rfl ?_
  refine wp_cst (v := .int (2 : Int32)) dX8_plainLaw_126 rfl rfl ?_
  refine wp_ic_ne dX8_plainLaw_127 rfl (fun _ => ?_) (fun c => absurd c (by decide))
  refine wp_ld (v := .int (7 : Int32)) dX8_plainLaw_134 rfl rfl rfl rfl ?_
  refine wp_cst (v := .int (3 : Int32)) dX8_plainLaw_135 rfl rfl ?_
  refine wp_ic_ne dX8_plainLaw_136 rfl (fun _ => ?_) (fun c => absurd c (by decide))
  refine wp_ld (v := .int (7 : Int32)) dX8_plainLaw_144 rfl rfl rfl rfl ?_
  refine wp_cst (v := .int (4 : Int32)) dX8_plainLaw_145 rfl rfl ?_
  refine wp_ic_ne dX8_plainLaw_146 rfl (fun _ => ?_) (fun c => absurd c (by decide))
  refine wp_ld (v := .int (7 : Int32)) dX8_plainLaw_154 rfl rfl rfl rfl ?_
  refine wp_cst (v := .int (5 : Int32)) dX8_plainLaw_155 rfl rfl ?_
  refine wp_ic_ne dX8_plainLaw_156 rfl (fun _ => ?_) (fun c => absurd c (by decide))
  refine wp_ld (v := .int (7 : Int32)) dX8_plainLaw_164 rfl rfl rfl rfl ?_
  refine wp_cst (v := .int (6 : Int32)) dX8_plainLaw_165 rfl rfl ?_
  refine wp_ic_ne dX8_plainLaw_167 rfl (fun _ => ?_) (fun c => absurd c (by decide))
  refine wp_ld (v := .int (7 : Int32)) dX8_plainLaw_175 rfl rfl rfl rfl ?_
  refine wp_cst (v := .int (7 : Int32)) dX8_plainLaw_176 rfl rfl ?_
  refine wp_ic_ne dX8_plainLaw_178 rfl (fun c => absurd c (by decide)) (fun _ => ?_)
  refine wp_cst (v := .int (34 : Int32)) dX8_plainLaw_181 rfl rfl ?_
  refine wp_goto dX8_plainLaw_183 rfl ?_
  refine wq_iast (j := 21) dX8_plainLaw_188 rfl rfl rfl ?_
  refine wp_inc (v := (8 : Int32)) (ls' := [(0, .ref 55), (1, .int (8 : Int32))]) dX8_plainLaw_189 rfl (Nat.le_of_ble_eq_true rfl) rfl rfl ?_
  refine wp_goto dX8_plainLaw_192 rfl ?_
  refine wp_ld (v := .int (8 : Int32)) dX8_plainLaw_40 rfl rfl rfl rfl ?_
  refine wp_cst (v := .int (9 : Int32)) dX8_plainLaw_41 rfl rfl ?_
  refine wp_ic_ge dX8_plainLaw_43 rfl (fun c => absurd c (by decide)) (fun _ => ?_)
  refine wp_ld (v := .ref 55) dX8_plainLaw_46 rfl rfl rfl rfl ?_
  refine wp_gr (b := 60) dX8_plainLaw_47 rfl rfl rfl rfl ?_
  refine wp_cst (v := .int (5 : Int32)) dX8_plainLaw_50 rfl rfl ?_
  refine wp_ld (v := .int (8 : Int32)) dX8_plainLaw_51 rfl rfl rfl rfl ?_
  refine wp_pu (st' := [.int (13 : Int32), .ref 60]) dX8_plainLaw_52 rfl rfl ?_
  refine wp_ld (v := .int (8 : Int32)) dX8_plainLaw_53 rfl rfl rfl rfl ?_
  refine wp_cst (v := .int (5 : Int32)) dX8_plainLaw_54 rfl rfl ?_
  refine wp_ic_ge dX8_plainLaw_55 rfl (fun _ => ?_) (fun c => absurd c (by decide))
  refine wp_ld (v := .int (8 : Int32)) dX8_plainLaw_65 rfl rfl rfl rfl ?_
  refine wp_cst (v := .int (5 : Int32)) dX8_plainLaw_66 rfl rfl ?_
  refine wp_ic_ne dX8_plainLaw_67 rfl (fun _ => ?_) (fun c => absurd c (by decide))
  refine wp_ld (v := .int (8 : Int32)) dX8_plainLaw_75 rfl rfl rfl rfl ?_
  refine wp_cst (v := .int (6 : Int32)) dX8_plainLaw_76 rfl rfl ?_
  refine wp_ic_ne dX8_plainLaw_78 rfl (fun _ => ?_) (fun c => absurd c (by decide))
  refine wp_ld (v := .int (8 : Int32)) dX8_plainLaw_86 rfl rfl rfl rfl ?_
  refine wp_cst (v := .int (7 : Int32)) dX8_plainLaw_87 rfl rfl ?_
  refine wp_ic_ne dX8_plainLaw_89 rfl (fun _ => ?_) (fun c => absurd c (by decide))
  refine wp_cst (v := .int (10 : Int32)) dX8_plainLaw_97 rfl rfl ?_
  refine wq_iast (j := 13) dX8_plainLaw_99 rfl rfl rfl ?_
  refine wp_ld (v := .ref 55) dX8_plainLaw_100 rfl rfl rfl rfl ?_
  refine wp_gr (b := 60) dX8_plainLaw_101 rfl rfl rfl rfl ?_
  refine wp_cst (v := .int (14 : Int32)) dX8_plainLaw_104 rfl rfl ?_
  refine wp_ld (v := .int (8 : Int32)) dX8_plainLaw_106 rfl rfl rfl rfl ?_
  refine wp_pu (st' := [.int (22 : Int32), .ref 60]) dX8_plainLaw_107 rfl rfl ?_
  refine wp_ld (v := .int (8 : Int32)) dX8_plainLaw_108 rfl rfl rfl rfl ?_
  refine wp_if_ne dX8_plainLaw_109 rfl (fun _ => ?_) (fun c => absurd c (by decide))
  refine wp_ld (v := .int (8 : Int32)) dX8_plainLaw_116 rfl rfl rfl rfl ?_
  refine wp_cst (v := .int (1 : Int32)) dX8_plainLaw_117 rfl rfl ?_
  refine wp_ic_ne dX8_plainLaw_118 rfl (fun _ => ?_) (fun c => absurd c (by decide))
  refine wp_ld (v := .int (8 : Int32)) dX8_plainLaw_125 rfl rfl rfl rfl ?_
  refine wp_cst (v := .int (2 : Int32)) dX8_plainLaw_126 rfl rfl ?_
  refine wp_ic_ne dX8_plainLaw_127 rfl (fun _ => ?_) (fun c => absurd c (by decide))
  refine wp_ld (v := .int (8 : Int32)) dX8_plainLaw_134 rfl rfl rfl rfl ?_
  refine wp_cst (v := .int (3 : Int32)) dX8_plainLaw_135 rfl rfl ?_
  refine wp_ic_ne dX8_plainLaw_136 rfl (fun _ => ?_) (fun c => absurd c (by decide))
  refine wp_ld (v := .int (8 : Int32)) dX8_plainLaw_144 rfl rfl rfl rfl ?_
  refine wp_cst (v := .int (4 : Int32)) dX8_plainLaw_145 rfl rfl ?_
  refine wp_ic_ne dX8_plainLaw_146 rfl (fun _ => ?_) (fun c => absurd c (by decide))
  refine wp_ld (v := .int (8 : Int32)) dX8_plainLaw_154 rfl rfl rfl rfl ?_
  refine wp_cst (v := .int (5 : Int32)) dX8_plainLaw_155 rfl rfl ?_
  refine wp_ic_ne dX8_plainLaw_156 rfl (fun _ => ?_) (fun c => absurd c (by decide))
  refine wp_ld (v := .int (8 : Int32)) dX8_plainLaw_164 rfl rfl rfl rfl ?_
  refine wp_cst (v := .int (6 : Int32)) dX8_plainLaw_165 rfl rfl ?_
  refine wp_ic_ne dX8_plainLaw_167 rfl (fun _ => ?_) (fun c => absurd c (by decide))
  refine wp_ld (v := .int (8 : Int32)) dX8_plainLaw_175 rfl rfl rfl rfl ?_
  refine wp_cst (v := .int (7 : Int32)) dX8_plainLaw_176 rfl rfl ?_
  refine wp_ic_ne dX8_plainLaw_178 rfl (fun _ => ?_) (fun c => absurd c (by decide))
  refine wp_cst (v := .int (50 : Int32)) dX8_plainLaw_186 rfl rfl ?_
  refine wq_iast (j := 22) dX8_plainLaw_188 rfl rfl rfl ?_
  refine wp_inc (v := (9 : Int32)) (ls' := [(0, .ref 55), (1, .int (9 : Int32))]) dX8_plainLaw_189 rfl (Nat.le_of_ble_eq_true rfl) rfl rfl ?_
  refine wp_goto dX8_plainLaw_192 rfl ?_
  refine wp_ld (v := .int (9 : Int32)) dX8_plainLaw_40 rfl rfl rfl rfl ?_
  refine wp_cst (v := .int (9 : Int32)) dX8_plainLaw_41 rfl rfl ?_
  refine wp_ic_ge dX8_plainLaw_43 rfl (fun _ => ?_) (fun c => absurd c (by decide))
  refine wp_end dX8_plainLaw_195 rfl rfl ?_
  show am_WP _ mX8_init 168 [(0, .ref 55)] [] _ _
  refine wp_cst (v := .int (0 : Int32)) dX8_init_168 rfl rfl ?_
  refine wp_st (ls' := [(0, .ref 55), (1, .int (0 : Int32))]) dX8_init_169 rfl rfl rfl (Nat.le_of_ble_eq_true rfl) rfl ?_
  refine wp_ld (v := .int (0 : Int32)) dX8_init_170 rfl rfl rfl rfl ?_
  refine wp_cst (v := .int (23 : Int32)) dX8_init_171 rfl rfl ?_
  refine wp_ic_ge dX8_init_173 rfl (fun c => absurd c (by decide)) (fun _ => ?_)
  refine wp_ld (v := .ref 55) dX8_init_176 rfl rfl rfl rfl ?_
  refine wp_gr (b := 56) dX8_init_177 rfl rfl rfl rfl ?_
  refine wp_cst (v := .int (8 : Int32)) dX8_init_180 rfl rfl ?_
  refine wp_ld (v := .int (0 : Int32)) dX8_init_182 rfl rfl rfl rfl ?_
  refine wp_pu (st' := [.int (8 : Int32), .ref 56]) dX8_init_183 rfl rfl ?_
  refine wp_ld (v := .ref 55) dX8_init_184 rfl rfl rfl rfl ?_
  refine wp_gr (b := 60) dX8_init_185 rfl rfl rfl rfl ?_
  refine wp_ld (v := .int (0 : Int32)) dX8_init_188 rfl rfl rfl rfl ?_
  refine wq_iald (v := (10 : Int32)) dX8_init_189 rfl rfl rfl ?_
  refine wq_iast (j := 8) dX8_init_190 rfl rfl rfl ?_
  refine wp_inc (v := (1 : Int32)) (ls' := [(0, .ref 55), (1, .int (1 : Int32))]) dX8_init_191 rfl (Nat.le_of_ble_eq_true rfl) rfl rfl ?_
  refine wp_goto dX8_init_194 rfl ?_
  refine wp_ld (v := .int (1 : Int32)) dX8_init_170 rfl rfl rfl rfl ?_
  refine wp_cst (v := .int (23 : Int32)) dX8_init_171 rfl rfl ?_
  refine wp_ic_ge dX8_init_173 rfl (fun c => absurd c (by decide)) (fun _ => ?_)
  refine wp_ld (v := .ref 55) dX8_init_176 rfl rfl rfl rfl ?_
  refine wp_gr (b := 56) dX8_init_177 rfl rfl rfl rfl ?_
  refine wp_cst (v := .int (8 : Int32)) dX8_init_180 rfl rfl ?_
  refine wp_ld (v := .int (1 : Int32)) dX8_init_182 rfl rfl rfl rfl ?_
  refine wp_pu (st' := [.int (9 : Int32), .ref 56]) dX8_init_183 rfl rfl ?_
  refine wp_ld (v := .ref 55) dX8_init_184 rfl rfl rfl rfl ?_
  refine wp_gr (b := 60) dX8_init_185 rfl rfl rfl rfl ?_
  refine wp_ld (v := .int (1 : Int32)) dX8_init_188 rfl rfl rfl rfl ?_
  refine wq_iald (v := (10 : Int32)) dX8_init_189 rfl rfl rfl ?_
  refine wq_iast (j := 9) dX8_init_190 rfl rfl rfl ?_
  refine wp_inc (v := (2 : Int32)) (ls' := [(0, .ref 55), (1, .int (2 : Int32))]) dX8_init_191 rfl (Nat.le_of_ble_eq_true rfl) rfl rfl ?_
  refine wp_goto dX8_init_194 rfl ?_
  refine wp_ld (v := .int (2 : Int32)) dX8_init_170 rfl rfl rfl rfl ?_
  refine wp_cst (v := .int (23 : Int32)) dX8_init_171 rfl rfl ?_
  refine wp_ic_ge dX8_init_173 rfl (fun c => absurd c (by decide)) (fun _ => ?_)
  refine wp_ld (v := .ref 55) dX8_init_176 rfl rfl rfl rfl ?_
  refine wp_gr (b := 56) dX8_init_177 rfl rfl rfl rfl ?_
  refine wp_cst (v := .int (8 : Int32)) dX8_init_180 rfl rfl ?_
  refine wp_ld (v := .int (2 : Int32)) dX8_init_182 rfl rfl rfl rfl ?_
  refine wp_pu (st' := [.int (10 : Int32), .ref 56]) dX8_init_183 rfl rfl ?_
  refine wp_ld (v := .ref 55) dX8_init_184 rfl rfl rfl rfl ?_
  refine wp_gr (b := 60) dX8_init_185 rfl rfl rfl rfl ?_
  refine wp_ld (v := .int (2 : Int32)) dX8_init_188 rfl rfl rfl rfl ?_
  refine wq_iald (v := (10 : Int32)) dX8_init_189 rfl rfl rfl ?_
  refine wq_iast (j := 10) dX8_init_190 rfl rfl rfl ?_
  refine wp_inc (v := (3 : Int32)) (ls' := [(0, .ref 55), (1, .int (3 : Int32))]) dX8_init_191 rfl (Nat.le_of_ble_eq_true rfl) rfl rfl ?_
  refine wp_goto dX8_init_194 rfl ?_
  refine wp_ld (v := .int (3 : Int32)) dX8_init_170 rfl rfl rfl rfl ?_
  refine wp_cst (v := .int (23 : Int32)) dX8_init_171 rfl rfl ?_
  refine wp_ic_ge dX8_init_173 rfl (fun c => absurd c (by decide)) (fun _ => ?_)
  refine wp_ld (v := .ref 55) dX8_init_176 rfl rfl rfl rfl ?_
  refine wp_gr (b := 56) dX8_init_177 rfl rfl rfl rfl ?_
  refine wp_cst (v := .int (8 : Int32)) dX8_init_180 rfl rfl ?_
  refine wp_ld (v := .int (3 : Int32)) dX8_init_182 rfl rfl rfl rfl ?_
  refine wp_pu (st' := [.int (11 : Int32), .ref 56]) dX8_init_183 rfl rfl ?_
  refine wp_ld (v := .ref 55) dX8_init_184 rfl rfl rfl rfl ?_
  refine wp_gr (b := 60) dX8_init_185 rfl rfl rfl rfl ?_
  refine wp_ld (v := .int (3 : Int32)) dX8_init_188 rfl rfl rfl rfl ?_
  refine wq_iald (v := (3 : Int32)) dX8_init_189 rfl rfl rfl ?_
  refine wq_iast (j := 11) dX8_init_190 rfl rfl rfl ?_
  refine wp_inc (v := (4 : Int32)) (ls' := [(0, .ref 55), (1, .int (4 : Int32))]) dX8_init_191 rfl (Nat.le_of_ble_eq_true rfl) rfl rfl ?_
  refine wp_goto dX8_init_194 rfl ?_
  refine wp_ld (v := .int (4 : Int32)) dX8_init_170 rfl rfl rfl rfl ?_
  refine wp_cst (v := .int (23 : Int32)) dX8_init_171 rfl rfl ?_
  refine wp_ic_ge dX8_init_173 rfl (fun c => absurd c (by decide)) (fun _ => ?_)
  refine wp_ld (v := .ref 55) dX8_init_176 rfl rfl rfl rfl ?_
  refine wp_gr (b := 56) dX8_init_177 rfl rfl rfl rfl ?_
  refine wp_cst (v := .int (8 : Int32)) dX8_init_180 rfl rfl ?_
  refine wp_ld (v := .int (4 : Int32)) dX8_init_182 rfl rfl rfl rfl ?_
  refine wp_pu (st' := [.int (12 : Int32), .ref 56]) dX8_init_183 rfl rfl ?_
  refine wp_ld (v := .ref 55) dX8_init_184 rfl rfl rfl rfl ?_
  refine wp_gr (b := 60) dX8_init_185 rfl rfl rfl rfl ?_
  refine wp_ld (v := .int (4 : Int32)) dX8_init_188 rfl rfl rfl rfl ?_
  refine wq_iald (v := (-1 : Int32)) dX8_init_189 rfl rfl rfl ?_
  refine wq_iast (j := 12) dX8_init_190 rfl rfl rfl ?_
  refine wp_inc (v := (5 : Int32)) (ls' := [(0, .ref 55), (1, .int (5 : Int32))]) dX8_init_191 rfl (Nat.le_of_ble_eq_true rfl) rfl rfl ?_
  refine wp_goto dX8_init_194 rfl ?_
  refine wp_ld (v := .int (5 : Int32)) dX8_init_170 rfl rfl rfl rfl ?_
  refine wp_cst (v := .int (23 : Int32)) dX8_init_171 rfl rfl ?_
  refine wp_ic_ge dX8_init_173 rfl (fun c => absurd c (by decide)) (fun _ => ?_)
  refine wp_ld (v := .ref 55) dX8_init_176 rfl rfl rfl rfl ?_
  refine wp_gr (b := 56) dX8_init_177 rfl rfl rfl rfl ?_
  refine wp_cst (v := .int (8 : Int32)) dX8_init_180 rfl rfl ?_
  refine wp_ld (v := .int (5 : Int32)) dX8_init_182 rfl rfl rfl rfl ?_
  refine wp_pu (st' := [.int (13 : Int32), .ref 56]) dX8_init_183 rfl rfl ?_
  refine wp_ld (v := .ref 55) dX8_init_184 rfl rfl rfl rfl ?_
  refine wp_gr (b := 60) dX8_init_185 rfl rfl rfl rfl ?_
  refine wp_ld (v := .int (5 : Int32)) dX8_init_188 rfl rfl rfl rfl ?_
  refine wq_iald (v := (0 : Int32)) dX8_init_189 rfl rfl rfl ?_
  refine wq_iast (j := 13) dX8_init_190 rfl rfl rfl ?_
  refine wp_inc (v := (6 : Int32)) (ls' := [(0, .ref 55), (1, .int (6 : Int32))]) dX8_init_191 rfl (Nat.le_of_ble_eq_true rfl) rfl rfl ?_
  refine wp_goto dX8_init_194 rfl ?_
  refine wp_ld (v := .int (6 : Int32)) dX8_init_170 rfl rfl rfl rfl ?_
  refine wp_cst (v := .int (23 : Int32)) dX8_init_171 rfl rfl ?_
  refine wp_ic_ge dX8_init_173 rfl (fun c => absurd c (by decide)) (fun _ => ?_)
  refine wp_ld (v := .ref 55) dX8_init_176 rfl rfl rfl rfl ?_
  refine wp_gr (b := 56) dX8_init_177 rfl rfl rfl rfl ?_
  refine wp_cst (v := .int (8 : Int32)) dX8_init_180 rfl rfl ?_
  refine wp_ld (v := .int (6 : Int32)) dX8_init_182 rfl rfl rfl rfl ?_
  refine wp_pu (st' := [.int (14 : Int32), .ref 56]) dX8_init_183 rfl rfl ?_
  refine wp_ld (v := .ref 55) dX8_init_184 rfl rfl rfl rfl ?_
  refine wp_gr (b := 60) dX8_init_185 rfl rfl rfl rfl ?_
  refine wp_ld (v := .int (6 : Int32)) dX8_init_188 rfl rfl rfl rfl ?_
  refine wq_iald (v := (10 : Int32)) dX8_init_189 rfl rfl rfl ?_
  refine wq_iast (j := 14) dX8_init_190 rfl rfl rfl ?_
  refine wp_inc (v := (7 : Int32)) (ls' := [(0, .ref 55), (1, .int (7 : Int32))]) dX8_init_191 rfl (Nat.le_of_ble_eq_true rfl) rfl rfl ?_
  refine wp_goto dX8_init_194 rfl ?_
  refine wp_ld (v := .int (7 : Int32)) dX8_init_170 rfl rfl rfl rfl ?_
  refine wp_cst (v := .int (23 : Int32)) dX8_init_171 rfl rfl ?_
  refine wp_ic_ge dX8_init_173 rfl (fun c => absurd c (by decide)) (fun _ => ?_)
  refine wp_ld (v := .ref 55) dX8_init_176 rfl rfl rfl rfl ?_
  refine wp_gr (b := 56) dX8_init_177 rfl rfl rfl rfl ?_
  refine wp_cst (v := .int (8 : Int32)) dX8_init_180 rfl rfl ?_
  refine wp_ld (v := .int (7 : Int32)) dX8_init_182 rfl rfl rfl rfl ?_
  refine wp_pu (st' := [.int (15 : Int32), .ref 56]) dX8_init_183 rfl rfl ?_
  refine wp_ld (v := .ref 55) dX8_init_184 rfl rfl rfl rfl ?_
  refine wp_gr (b := 60) dX8_init_185 rfl rfl rfl rfl ?_
  refine wp_ld (v := .int (7 : Int32)) dX8_init_188 rfl rfl rfl rfl ?_
  refine wq_iald (v := (20 : Int32)) dX8_init_189 rfl rfl rfl ?_
  refine wq_iast (j := 15) dX8_init_190 rfl rfl rfl ?_
  refine wp_inc (v := (8 : Int32)) (ls' := [(0, .ref 55), (1, .int (8 : Int32))]) dX8_init_191 rfl (Nat.le_of_ble_eq_true rfl) rfl rfl ?_
  refine wp_goto dX8_init_194 rfl ?_
  refine wp_ld (v := .int (8 : Int32)) dX8_init_170 rfl rfl rfl rfl ?_
  refine wp_cst (v := .int (23 : Int32)) dX8_init_171 rfl rfl ?_
  refine wp_ic_ge dX8_init_173 rfl (fun c => absurd c (by decide)) (fun _ => ?_)
  refine wp_ld (v := .ref 55) dX8_init_176 rfl rfl rfl rfl ?_
  refine wp_gr (b := 56) dX8_init_177 rfl rfl rfl rfl ?_
  refine wp_cst (v := .int (8 : Int32)) dX8_init_180 rfl rfl ?_
  refine wp_ld (v := .int (8 : Int32)) dX8_init_182 rfl rfl rfl rfl ?_
  refine wp_pu (st' := [.int (16 : Int32), .ref 56]) dX8_init_183 rfl rfl ?_
  refine wp_ld (v := .ref 55) dX8_init_184 rfl rfl rfl rfl ?_
  refine wp_gr (b := 60) dX8_init_185 rfl rfl rfl rfl ?_
  refine wp_ld (v := .int (8 : Int32)) dX8_init_188 rfl rfl rfl rfl ?_
  refine wq_iald (v := (30 : Int32)) dX8_init_189 rfl rfl rfl ?_
  refine wq_iast (j := 16) dX8_init_190 rfl rfl rfl ?_
  refine wp_inc (v := (9 : Int32)) (ls' := [(0, .ref 55), (1, .int (9 : Int32))]) dX8_init_191 rfl (Nat.le_of_ble_eq_true rfl) rfl rfl ?_
  refine wp_goto dX8_init_194 rfl ?_
  refine wp_ld (v := .int (9 : Int32)) dX8_init_170 rfl rfl rfl rfl ?_
  refine wp_cst (v := .int (23 : Int32)) dX8_init_171 rfl rfl ?_
  refine wp_ic_ge dX8_init_173 rfl (fun c => absurd c (by decide)) (fun _ => ?_)
  refine wp_ld (v := .ref 55) dX8_init_176 rfl rfl rfl rfl ?_
  refine wp_gr (b := 56) dX8_init_177 rfl rfl rfl rfl ?_
  refine wp_cst (v := .int (8 : Int32)) dX8_init_180 rfl rfl ?_
  refine wp_ld (v := .int (9 : Int32)) dX8_init_182 rfl rfl rfl rfl ?_
  refine wp_pu (st' := [.int (17 : Int32), .ref 56]) dX8_init_183 rfl rfl ?_
  refine wp_ld (v := .ref 55) dX8_init_184 rfl rfl rfl rfl ?_
  refine wp_gr (b := 60) dX8_init_185 rfl rfl rfl rfl ?_
  refine wp_ld (v := .int (9 : Int32)) dX8_init_188 rfl rfl rfl rfl ?_
  refine wq_iald (v := (40 : Int32)) dX8_init_189 rfl rfl rfl ?_
  refine wq_iast (j := 17) dX8_init_190 rfl rfl rfl ?_
  refine wp_inc (v := (10 : Int32)) (ls' := [(0, .ref 55), (1, .int (10 : Int32))]) dX8_init_191 rfl (Nat.le_of_ble_eq_true rfl) rfl rfl ?_
  refine wp_goto dX8_init_194 rfl ?_
  refine wp_ld (v := .int (10 : Int32)) dX8_init_170 rfl rfl rfl rfl ?_
  refine wp_cst (v := .int (23 : Int32)) dX8_init_171 rfl rfl ?_
  refine wp_ic_ge dX8_init_173 rfl (fun c => absurd c (by decide)) (fun _ => ?_)
  refine wp_ld (v := .ref 55) dX8_init_176 rfl rfl rfl rfl ?_
  refine wp_gr (b := 56) dX8_init_177 rfl rfl rfl rfl ?_
  refine wp_cst (v := .int (8 : Int32)) dX8_init_180 rfl rfl ?_
  refine wp_ld (v := .int (10 : Int32)) dX8_init_182 rfl rfl rfl rfl ?_
  refine wp_pu (st' := [.int (18 : Int32), .ref 56]) dX8_init_183 rfl rfl ?_
  refine wp_ld (v := .ref 55) dX8_init_184 rfl rfl rfl rfl ?_
  refine wp_gr (b := 60) dX8_init_185 rfl rfl rfl rfl ?_
  refine wp_ld (v := .int (10 : Int32)) dX8_init_188 rfl rfl rfl rfl ?_
  refine wq_iald (v := (45 : Int32)) dX8_init_189 rfl rfl rfl ?_
  refine wq_iast (j := 18) dX8_init_190 rfl rfl rfl ?_
  refine wp_inc (v := (11 : Int32)) (ls' := [(0, .ref 55), (1, .int (11 : Int32))]) dX8_init_191 rfl (Nat.le_of_ble_eq_true rfl) rfl rfl ?_
  refine wp_goto dX8_init_194 rfl ?_
  refine wp_ld (v := .int (11 : Int32)) dX8_init_170 rfl rfl rfl rfl ?_
  refine wp_cst (v := .int (23 : Int32)) dX8_init_171 rfl rfl ?_
  refine wp_ic_ge dX8_init_173 rfl (fun c => absurd c (by decide)) (fun _ => ?_)
  refine wp_ld (v := .ref 55) dX8_init_176 rfl rfl rfl rfl ?_
  refine wp_gr (b := 56) dX8_init_177 rfl rfl rfl rfl ?_
  refine wp_cst (v := .int (8 : Int32)) dX8_init_180 rfl rfl ?_
  refine wp_ld (v := .int (11 : Int32)) dX8_init_182 rfl rfl rfl rfl ?_
  refine wp_pu (st' := [.int (19 : Int32), .ref 56]) dX8_init_183 rfl rfl ?_
  refine wp_ld (v := .ref 55) dX8_init_184 rfl rfl rfl rfl ?_
  refine wp_gr (b := 60) dX8_init_185 rfl rfl rfl rfl ?_
  refine wp_ld (v := .int (11 : Int32)) dX8_init_188 rfl rfl rfl rfl ?_
  refine wq_iald (v := (40 : Int32)) dX8_init_189 rfl rfl rfl ?_
  refine wq_iast (j := 19) dX8_init_190 rfl rfl rfl ?_
  refine wp_inc (v := (12 : Int32)) (ls' := [(0, .ref 55), (1, .int (12 : Int32))]) dX8_init_191 rfl (Nat.le_of_ble_eq_true rfl) rfl rfl ?_
  refine wp_goto dX8_init_194 rfl ?_
  refine wp_ld (v := .int (12 : Int32)) dX8_init_170 rfl rfl rfl rfl ?_
  refine wp_cst (v := .int (23 : Int32)) dX8_init_171 rfl rfl ?_
  refine wp_ic_ge dX8_init_173 rfl (fun c => absurd c (by decide)) (fun _ => ?_)
  refine wp_ld (v := .ref 55) dX8_init_176 rfl rfl rfl rfl ?_
  refine wp_gr (b := 56) dX8_init_177 rfl rfl rfl rfl ?_
  refine wp_cst (v := .int (8 : Int32)) dX8_init_180 rfl rfl ?_
  refine wp_ld (v := .int (12 : Int32)) dX8_init_182 rfl rfl rfl rfl ?_
  refine wp_pu (st' := [.int (20 : Int32), .ref 56]) dX8_init_183 rfl rfl ?_
  refine wp_ld (v := .ref 55) dX8_init_184 rfl rfl rfl rfl ?_
  refine wp_gr (b := 60) dX8_init_185 rfl rfl rfl rfl ?_
  refine wp_ld (v := .int (12 : Int32)) dX8_init_188 rfl rfl rfl rfl ?_
  refine wq_iald (v := (25 : Int32)) dX8_init_189 rfl rfl rfl ?_
  refine wq_iast (j := 20) dX8_init_190 rfl rfl rfl ?_
  refine wp_inc (v := (13 : Int32)) (ls' := [(0, .ref 55), (1, .int (13 : Int32))]) dX8_init_191 rfl (Nat.le_of_ble_eq_true rfl) rfl rfl ?_
  refine wp_goto dX8_init_194 rfl ?_
  refine wp_ld (v := .int (13 : Int32)) dX8_init_170 rfl rfl rfl rfl ?_
  refine wp_cst (v := .int (23 : Int32)) dX8_init_171 rfl rfl ?_
  refine wp_ic_ge dX8_init_173 rfl (fun c => absurd c (by decide)) (fun _ => ?_)
  refine wp_ld (v := .ref 55) dX8_init_176 rfl rfl rfl rfl ?_
  refine wp_gr (b := 56) dX8_init_177 rfl rfl rfl rfl ?_
  refine wp_cst (v := .int (8 : Int32)) dX8_init_180 rfl rfl ?_
  refine wp_ld (v := .int (13 : Int32)) dX8_init_182 rfl rfl rfl rfl ?_
  refine wp_pu (st' := [.int (21 : Int32), .ref 56]) dX8_init_183 rfl rfl ?_
  refine wp_ld (v := .ref 55) dX8_init_184 rfl rfl rfl rfl ?_
  refine wp_gr (b := 60) dX8_init_185 rfl rfl rfl rfl ?_
  refine wp_ld (v := .int (13 : Int32)) dX8_init_188 rfl rfl rfl rfl ?_
  refine wq_iald (v := (10 : Int32)) dX8_init_189 rfl rfl rfl ?_
  refine wq_iast (j := 21) dX8_init_190 rfl rfl rfl ?_
  refine wp_inc (v := (14 : Int32)) (ls' := [(0, .ref 55), (1, .int (14 : Int32))]) dX8_init_191 rfl (Nat.le_of_ble_eq_true rfl) rfl rfl ?_
  refine wp_goto dX8_init_194 rfl ?_
  refine wp_ld (v := .int (14 : Int32)) dX8_init_170 rfl rfl rfl rfl ?_
  refine wp_cst (v := .int (23 : Int32)) dX8_init_171 rfl rfl ?_
  refine wp_ic_ge dX8_init_173 rfl (fun c => absurd c (by decide)) (fun _ => ?_)
  refine wp_ld (v := .ref 55) dX8_init_176 rfl rfl rfl rfl ?_
  refine wp_gr (b := 56) dX8_init_177 rfl rfl rfl rfl ?_
  refine wp_cst (v := .int (8 : Int32)) dX8_init_180 rfl rfl ?_
  refine wp_ld (v := .int (14 : Int32)) dX8_init_182 rfl rfl rfl rfl ?_
  refine wp_pu (st' := [.int (22 : Int32), .ref 56]) dX8_init_183 rfl rfl ?_
  refine wp_ld (v := .ref 55) dX8_init_184 rfl rfl rfl rfl ?_
  refine wp_gr (b := 60) dX8_init_185 rfl rfl rfl rfl ?_
  refine wp_ld (v := .int (14 : Int32)) dX8_init_188 rfl rfl rfl rfl ?_
  refine wq_iald (v := (2 : Int32)) dX8_init_189 rfl rfl rfl ?_
  refine wq_iast (j := 22) dX8_init_190 rfl rfl rfl ?_
  refine wp_inc (v := (15 : Int32)) (ls' := [(0, .ref 55), (1, .int (15 : Int32))]) dX8_init_191 rfl (Nat.le_of_ble_eq_true rfl) rfl rfl ?_
  refine wp_goto dX8_init_194 rfl ?_
  refine wp_ld (v := .int (15 : Int32)) dX8_init_170 rfl rfl rfl rfl ?_
  refine wp_cst (v := .int (23 : Int32)) dX8_init_171 rfl rfl ?_
  refine wp_ic_ge dX8_init_173 rfl (fun c => absurd c (by decide)) (fun _ => ?_)
  refine wp_ld (v := .ref 55) dX8_init_176 rfl rfl rfl rfl ?_
  refine wp_gr (b := 56) dX8_init_177 rfl rfl rfl rfl ?_
  refine wp_cst (v := .int (8 : Int32)) dX8_init_180 rfl rfl ?_
  refine wp_ld (v := .int (15 : Int32)) dX8_init_182 rfl rfl rfl rfl ?_
  refine wp_pu (st' := [.int (23 : Int32), .ref 56]) dX8_init_183 rfl rfl ?_
  refine wp_ld (v := .ref 55) dX8_init_184 rfl rfl rfl rfl ?_
  refine wp_gr (b := 60) dX8_init_185 rfl rfl rfl rfl ?_
  refine wp_ld (v := .int (15 : Int32)) dX8_init_188 rfl rfl rfl rfl ?_
  refine wq_iald (v := (3 : Int32)) dX8_init_189 rfl rfl rfl ?_
  refine wq_iast (j := 23) dX8_init_190 rfl rfl rfl ?_
  refine wp_inc (v := (16 : Int32)) (ls' := [(0, .ref 55), (1, .int (16 : Int32))]) dX8_init_191 rfl (Nat.le_of_ble_eq_true rfl) rfl rfl ?_
  refine wp_goto dX8_init_194 rfl ?_
  refine wp_ld (v := .int (16 : Int32)) dX8_init_170 rfl rfl rfl rfl ?_
  refine wp_cst (v := .int (23 : Int32)) dX8_init_171 rfl rfl ?_
  refine wp_ic_ge dX8_init_173 rfl (fun c => absurd c (by decide)) (fun _ => ?_)
  refine wp_ld (v := .ref 55) dX8_init_176 rfl rfl rfl rfl ?_
  refine wp_gr (b := 56) dX8_init_177 rfl rfl rfl rfl ?_
  refine wp_cst (v := .int (8 : Int32)) dX8_init_180 rfl rfl ?_
  refine wp_ld (v := .int (16 : Int32)) dX8_init_182 rfl rfl rfl rfl ?_
  refine wp_pu (st' := [.int (24 : Int32), .ref 56]) dX8_init_183 rfl rfl ?_
  refine wp_ld (v := .ref 55) dX8_init_184 rfl rfl rfl rfl ?_
  refine wp_gr (b := 60) dX8_init_185 rfl rfl rfl rfl ?_
  refine wp_ld (v := .int (16 : Int32)) dX8_init_188 rfl rfl rfl rfl ?_
  refine wq_iald (v := (4 : Int32)) dX8_init_189 rfl rfl rfl ?_
  refine wq_iast (j := 24) dX8_init_190 rfl rfl rfl ?_
  refine wp_inc (v := (17 : Int32)) (ls' := [(0, .ref 55), (1, .int (17 : Int32))]) dX8_init_191 rfl (Nat.le_of_ble_eq_true rfl) rfl rfl ?_
  refine wp_goto dX8_init_194 rfl ?_
  refine wp_ld (v := .int (17 : Int32)) dX8_init_170 rfl rfl rfl rfl ?_
  refine wp_cst (v := .int (23 : Int32)) dX8_init_171 rfl rfl ?_
  refine wp_ic_ge dX8_init_173 rfl (fun c => absurd c (by decide)) (fun _ => ?_)
  refine wp_ld (v := .ref 55) dX8_init_176 rfl rfl rfl rfl ?_
  refine wp_gr (b := 56) dX8_init_177 rfl rfl rfl rfl ?_
  refine wp_cst (v := .int (8 : Int32)) dX8_init_180 rfl rfl ?_
  refine wp_ld (v := .int (17 : Int32)) dX8_init_182 rfl rfl rfl rfl ?_
  refine wp_pu (st' := [.int (25 : Int32), .ref 56]) dX8_init_183 rfl rfl ?_
  refine wp_ld (v := .ref 55) dX8_init_184 rfl rfl rfl rfl ?_
  refine wp_gr (b := 60) dX8_init_185 rfl rfl rfl rfl ?_
  refine wp_ld (v := .int (17 : Int32)) dX8_init_188 rfl rfl rfl rfl ?_
  refine wq_iald (v := (6 : Int32)) dX8_init_189 rfl rfl rfl ?_
  refine wq_iast (j := 25) dX8_init_190 rfl rfl rfl ?_
  refine wp_inc (v := (18 : Int32)) (ls' := [(0, .ref 55), (1, .int (18 : Int32))]) dX8_init_191 rfl (Nat.le_of_ble_eq_true rfl) rfl rfl ?_
  refine wp_goto dX8_init_194 rfl ?_
  refine wp_ld (v := .int (18 : Int32)) dX8_init_170 rfl rfl rfl rfl ?_
  refine wp_cst (v := .int (23 : Int32)) dX8_init_171 rfl rfl ?_
  refine wp_ic_ge dX8_init_173 rfl (fun c => absurd c (by decide)) (fun _ => ?_)
  refine wp_ld (v := .ref 55) dX8_init_176 rfl rfl rfl rfl ?_
  refine wp_gr (b := 56) dX8_init_177 rfl rfl rfl rfl ?_
  refine wp_cst (v := .int (8 : Int32)) dX8_init_180 rfl rfl ?_
  refine wp_ld (v := .int (18 : Int32)) dX8_init_182 rfl rfl rfl rfl ?_
  refine wp_pu (st' := [.int (26 : Int32), .ref 56]) dX8_init_183 rfl rfl ?_
  refine wp_ld (v := .ref 55) dX8_init_184 rfl rfl rfl rfl ?_
  refine wp_gr (b := 60) dX8_init_185 rfl rfl rfl rfl ?_
  refine wp_ld (v := .int (18 : Int32)) dX8_init_188 rfl rfl rfl rfl ?_
  refine wq_iald (v := (9 : Int32)) dX8_init_189 rfl rfl rfl ?_
  refine wq_iast (j := 26) dX8_init_190 rfl rfl rfl ?_
  refine wp_inc (v := (19 : Int32)) (ls' := [(0, .ref 55), (1, .int (19 : Int32))]) dX8_init_191 rfl (Nat.le_of_ble_eq_true rfl) rfl rfl ?_
  refine wp_goto dX8_init_194 rfl ?_
  refine wp_ld (v := .int (19 : Int32)) dX8_init_170 rfl rfl rfl rfl ?_
  refine wp_cst (v := .int (23 : Int32)) dX8_init_171 rfl rfl ?_
  refine wp_ic_ge dX8_init_173 rfl (fun c => absurd c (by decide)) (fun _ => ?_)
  refine wp_ld (v := .ref 55) dX8_init_176 rfl rfl rfl rfl ?_
  refine wp_gr (b := 56) dX8_init_177 rfl rfl rfl rfl ?_
  refine wp_cst (v := .int (8 : Int32)) dX8_init_180 rfl rfl ?_
  refine wp_ld (v := .int (19 : Int32)) dX8_init_182 rfl rfl rfl rfl ?_
  refine wp_pu (st' := [.int (27 : Int32), .ref 56]) dX8_init_183 rfl rfl ?_
  refine wp_ld (v := .ref 55) dX8_init_184 rfl rfl rfl rfl ?_
  refine wp_gr (b := 60) dX8_init_185 rfl rfl rfl rfl ?_
  refine wp_ld (v := .int (19 : Int32)) dX8_init_188 rfl rfl rfl rfl ?_
  refine wq_iald (v := (14 : Int32)) dX8_init_189 rfl rfl rfl ?_
  refine wq_iast (j := 27) dX8_init_190 rfl rfl rfl ?_
  refine wp_inc (v := (20 : Int32)) (ls' := [(0, .ref 55), (1, .int (20 : Int32))]) dX8_init_191 rfl (Nat.le_of_ble_eq_true rfl) rfl rfl ?_
  refine wp_goto dX8_init_194 rfl ?_
  refine wp_ld (v := .int (20 : Int32)) dX8_init_170 rfl rfl rfl rfl ?_
  refine wp_cst (v := .int (23 : Int32)) dX8_init_171 rfl rfl ?_
  refine wp_ic_ge dX8_init_173 rfl (fun c => absurd c (by decide)) (fun _ => ?_)
  refine wp_ld (v := .ref 55) dX8_init_176 rfl rfl rfl rfl ?_
  refine wp_gr (b := 56) dX8_init_177 rfl rfl rfl rfl ?_
  refine wp_cst (v := .int (8 : Int32)) dX8_init_180 rfl rfl ?_
  refine wp_ld (v := .int (20 : Int32)) dX8_init_182 rfl rfl rfl rfl ?_
  refine wp_pu (st' := [.int (28 : Int32), .ref 56]) dX8_init_183 rfl rfl ?_
  refine wp_ld (v := .ref 55) dX8_init_184 rfl rfl rfl rfl ?_
  refine wp_gr (b := 60) dX8_init_185 rfl rfl rfl rfl ?_
  refine wp_ld (v := .int (20 : Int32)) dX8_init_188 rfl rfl rfl rfl ?_
  refine wq_iald (v := (22 : Int32)) dX8_init_189 rfl rfl rfl ?_
  refine wq_iast (j := 28) dX8_init_190 rfl rfl rfl ?_
  refine wp_inc (v := (21 : Int32)) (ls' := [(0, .ref 55), (1, .int (21 : Int32))]) dX8_init_191 rfl (Nat.le_of_ble_eq_true rfl) rfl rfl ?_
  refine wp_goto dX8_init_194 rfl ?_
  refine wp_ld (v := .int (21 : Int32)) dX8_init_170 rfl rfl rfl rfl ?_
  refine wp_cst (v := .int (23 : Int32)) dX8_init_171 rfl rfl ?_
  refine wp_ic_ge dX8_init_173 rfl (fun c => absurd c (by decide)) (fun _ => ?_)
  refine wp_ld (v := .ref 55) dX8_init_176 rfl rfl rfl rfl ?_
  refine wp_gr (b := 56) dX8_init_177 rfl rfl rfl rfl ?_
  refine wp_cst (v := .int (8 : Int32)) dX8_init_180 rfl rfl ?_
  refine wp_ld (v := .int (21 : Int32)) dX8_init_182 rfl rfl rfl rfl ?_
  refine wp_pu (st' := [.int (29 : Int32), .ref 56]) dX8_init_183 rfl rfl ?_
  refine wp_ld (v := .ref 55) dX8_init_184 rfl rfl rfl rfl ?_
  refine wp_gr (b := 60) dX8_init_185 rfl rfl rfl rfl ?_
  refine wp_ld (v := .int (21 : Int32)) dX8_init_188 rfl rfl rfl rfl ?_
  refine wq_iald (v := (34 : Int32)) dX8_init_189 rfl rfl rfl ?_
  refine wq_iast (j := 29) dX8_init_190 rfl rfl rfl ?_
  refine wp_inc (v := (22 : Int32)) (ls' := [(0, .ref 55), (1, .int (22 : Int32))]) dX8_init_191 rfl (Nat.le_of_ble_eq_true rfl) rfl rfl ?_
  refine wp_goto dX8_init_194 rfl ?_
  refine wp_ld (v := .int (22 : Int32)) dX8_init_170 rfl rfl rfl rfl ?_
  refine wp_cst (v := .int (23 : Int32)) dX8_init_171 rfl rfl ?_
  refine wp_ic_ge dX8_init_173 rfl (fun c => absurd c (by decide)) (fun _ => ?_)
  refine wp_ld (v := .ref 55) dX8_init_176 rfl rfl rfl rfl ?_
  refine wp_gr (b := 56) dX8_init_177 rfl rfl rfl rfl ?_
  refine wp_cst (v := .int (8 : Int32)) dX8_init_180 rfl rfl ?_
  refine wp_ld (v := .int (22 : Int32)) dX8_init_182 rfl rfl rfl rfl ?_
  refine wp_pu (st' := [.int (30 : Int32), .ref 56]) dX8_init_183 rfl rfl ?_
  refine wp_ld (v := .ref 55) dX8_init_184 rfl rfl rfl rfl ?_
  refine wp_gr (b := 60) dX8_init_185 rfl rfl rfl rfl ?_
  refine wp_ld (v := .int (22 : Int32)) dX8_init_188 rfl rfl rfl rfl ?_
  refine wq_iald (v := (50 : Int32)) dX8_init_189 rfl rfl rfl ?_
  refine wq_iast (j := 30) dX8_init_190 rfl rfl rfl ?_
  refine wp_inc (v := (23 : Int32)) (ls' := [(0, .ref 55), (1, .int (23 : Int32))]) dX8_init_191 rfl (Nat.le_of_ble_eq_true rfl) rfl rfl ?_
  refine wp_goto dX8_init_194 rfl ?_
  refine wp_ld (v := .int (23 : Int32)) dX8_init_170 rfl rfl rfl rfl ?_
  refine wp_cst (v := .int (23 : Int32)) dX8_init_171 rfl rfl ?_
  refine wp_ic_ge dX8_init_173 rfl (fun _ => ?_) (fun c => absurd c (by decide))
  refine wp_end dX8_init_197 rfl rfl ?_
  exact hQ
