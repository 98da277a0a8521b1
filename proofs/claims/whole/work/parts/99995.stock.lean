/-! ===== things made by constructors ===== -/
/-- a new thing at a told place -/
def am_nat (σ : am_S) (m kd len zs : Nat) : am_S := (am_w σ.1 m (fun _ => 0), am_w σ.2.1 m (fun _ => 0), am_w σ.2.2.1 m (fun _ => none), am_w σ.2.2.2.1 m (kd, len), m + 1, am_c σ + 1, am_z σ + zs)
/-- ints copied -/
def ax_cp (σ : am_S) (b a n : Nat) : am_S := am_sA σ b (va_cpy (am_I σ a) (am_I σ b) 0 0 n)
section NEW
variable {d : Nat} {M : am_M} {pc len : Nat} {ls ls' : am_Ls} {st st' : List Value} {σ σ' : am_S} {Q : am_O → am_S → Prop} {x ci m zs l kd a k z : Nat} {y v : Int32}
theorem nat_is (hn : am_n σ = m) : am_new σ kd l zs = am_nat σ m kd l zs := by subst hn; rfl
theorem wq_new (hd : decode (am_code M) pc = .ok (.new x, 3)) (ht : am_thr M pc (.new x) = none) (hf : am_find x (am_newT (am_own M)) = some ci) (hn : am_n σ = m) (hm : Nat.ble m 999999 = true) (hz : (am_fk ci).length = zs) (kk : am_WP d M (pc + 3) ls (.ref m :: st) (am_nat σ m ci 0 zs) Q) : am_WP d M pc ls st σ Q := by
  have hm := Nat.le_of_ble_eq_true hm
  refine wp_mem hd rfl ht rfl ?_ kk
  simp only [am_mem, hf]
  rw [if_pos (by omega), nat_is hn, hz, hn]
theorem wq_na20 (hd : decode (am_code M) pc = .ok (.newarray .int, 2)) (hn : am_n σ = m) (hm : Nat.ble m 999999 = true) (hy : y.toNatClampNeg = l) (h0 : ¬ y < 0) (hl : Nat.ble l 1000 = true) (kk : am_WP d M (pc + 2) ls (.ref m :: st) (am_nat σ m 20 l l) Q) : am_WP d M pc ls (.int y :: st) σ Q := by
  have hm := Nat.le_of_ble_eq_true hm
  have hl := Nat.le_of_ble_eq_true hl
  refine wp_mem hd rfl rfl rfl ?_ kk
  simp only [am_mem]
  rw [if_pos ⟨h0, by omega, by omega⟩, hy, nat_is hn, hn]
theorem wq_na21 (hd : decode (am_code M) pc = .ok (.newarray .long, 2)) (hn : am_n σ = m) (hm : Nat.ble m 999999 = true) (hy : y.toNatClampNeg = l) (h0 : ¬ y < 0) (hl : Nat.ble l 1000 = true) (kk : am_WP d M (pc + 2) ls (.ref m :: st) (am_nat σ m 21 l l) Q) : am_WP d M pc ls (.int y :: st) σ Q := by
  have hm := Nat.le_of_ble_eq_true hm
  have hl := Nat.le_of_ble_eq_true hl
  refine wp_mem hd rfl rfl rfl ?_ kk
  simp only [am_mem]
  rw [if_pos ⟨h0, by omega, by omega⟩, hy, nat_is hn, hn]
theorem wq_na22 (hd : decode (am_code M) pc = .ok (.newarray .boolean, 2)) (hn : am_n σ = m) (hm : Nat.ble m 999999 = true) (hy : y.toNatClampNeg = l) (h0 : ¬ y < 0) (hl : Nat.ble l 1000 = true) (kk : am_WP d M (pc + 2) ls (.ref m :: st) (am_nat σ m 22 l l) Q) : am_WP d M pc ls (.int y :: st) σ Q := by
  have hm := Nat.le_of_ble_eq_true hm
  have hl := Nat.le_of_ble_eq_true hl
  refine wp_mem hd rfl rfl rfl ?_ kk
  simp only [am_mem]
  rw [if_pos ⟨h0, by omega, by omega⟩, hy, nat_is hn, hn]
theorem wq_ana (hd : decode (am_code M) pc = .ok (.anewarray x, 3)) (hf : am_find x (am_anewT (am_own M)) = some kd) (hn : am_n σ = m) (hm : Nat.ble m 999999 = true) (hy : y.toNatClampNeg = l) (h0 : ¬ y < 0) (hl : Nat.ble l 1000 = true) (kk : am_WP d M (pc + 3) ls (.ref m :: st) (am_nat σ m kd l l) Q) : am_WP d M pc ls (.int y :: st) σ Q := by
  have hm := Nat.le_of_ble_eq_true hm
  have hl := Nat.le_of_ble_eq_true hl
  refine wp_mem hd rfl rfl rfl ?_ kk
  simp only [am_mem, hf]
  rw [if_pos ⟨h0, by omega, by omega⟩, hy, nat_is hn, hn]
theorem wq_pF (hd : decode (am_code M) pc = .ok (.putfield x, 3)) (hf : am_find x (am_fldT (am_own M)) = some (4, k)) (h0 : (am_fk 4)[k]? = some 0) (hn : am_fin 4 k = true) (hi : (am_name M).name = "<init>") (ho : am_own M = 4) (hk : am_K σ a = (4, z)) (kk : am_WP d M (pc + 3) ls st (am_sI σ a k v) Q) : am_WP d M pc ls (.int v :: .ref a :: st) σ Q := by
  refine wp_mem hd rfl rfl rfl ?_ kk
  simp only [am_mem, hf]
  rw [if_neg (by rw [hn]; intro h; exact absurd h.2.2.1 (by decide)), if_pos ⟨by rw [hk], h0, hn, hi, ho, trivial⟩]
theorem wq_obj {q : Nat × am_M} (hd : decode (am_code M) pc = .ok (.invokespecial x, 3)) (hf : am_find x (am_callT (am_own M)) = some (3, q)) (h3 : Nat.ble ((st.map fun v => v.category).sum) 8 = true) (kk : am_WP d M (pc + 3) ls st σ Q) : am_WP d M pc ls (.ref a :: st) σ Q := by
  obtain ⟨q1, q2⟩ := q
  refine wp_mem hd rfl rfl ?_ ?_ kk
  · unfold am_inv
    simp only [hf, Option.map_some]
    rw [if_neg (by intro h; exact absurd h.1 (by decide))]
  · simp only [am_mem, hf]
    rw [if_pos (Nat.le_of_ble_eq_true h3)]
end NEW

def nSt (b : Nat) (s : am_S) : am_S := am_sR (am_sI (am_sR (am_nat (am_nat (am_sR (am_sI (am_sR (am_nat (am_nat (am_sR (am_sI (am_sR (am_nat (am_nat (am_sR (am_sI (am_sR (am_nat (am_nat (am_sR (am_sI (am_sR (am_nat (am_nat (am_sR (am_sI (am_sR (am_nat (am_nat (am_sR (am_sI (am_sR (am_nat (am_nat (am_sR (am_sI (am_sR (am_nat (am_nat (am_sR (am_sI (am_sR (am_nat (am_nat (am_sR (am_sI (am_sR (am_nat (am_nat (am_sR (am_sI (am_sR (am_nat (am_nat (ax_cp (am_sR (am_sI (am_sR (am_nat (am_nat (am_sR (am_sI (am_sR (am_nat (am_nat (am_sR (am_sI (am_sR (am_nat (am_nat (am_sR (am_nat (am_sR (am_nat (am_sR (am_nat (am_sI (am_sI (am_nat (s) (b + 0) 5 0 11) (b + 0) 0 (8 : Int32)) (b + 0) 1 (6 : Int32)) (b + 1) 20 23 23) (b + 0) 3 (some (b + 1))) (b + 2) 23 6 6) (b + 0) 4 (some (b + 2))) (b + 3) 23 5 5) (b + 0) 6 (some (b + 3))) (b + 4) 4 0 3) (b + 5) 20 33 33) (b + 4) 0 (some (b + 5))) (b + 4) 1 (4 : Int32)) (b + 0) 8 (some (b + 4))) (b + 6) 4 0 3) (b + 7) 20 33 33) (b + 6) 0 (some (b + 7))) (b + 6) 1 (3 : Int32)) (b + 0) 9 (some (b + 6))) (b + 8) 4 0 3) (b + 9) 20 33 33) (b + 8) 0 (some (b + 9))) (b + 8) 1 (4 : Int32)) (b + 0) 10 (some (b + 8))) (b + 1) 3000000 23) (b + 10) 4 0 3) (b + 11) 20 33 33) (b + 10) 0 (some (b + 11))) (b + 10) 1 (11 : Int32)) (b + 2) 0 (some (b + 10))) (b + 12) 4 0 3) (b + 13) 20 33 33) (b + 12) 0 (some (b + 13))) (b + 12) 1 (11 : Int32)) (b + 2) 1 (some (b + 12))) (b + 14) 4 0 3) (b + 15) 20 33 33) (b + 14) 0 (some (b + 15))) (b + 14) 1 (11 : Int32)) (b + 2) 2 (some (b + 14))) (b + 16) 4 0 3) (b + 17) 20 33 33) (b + 16) 0 (some (b + 17))) (b + 16) 1 (11 : Int32)) (b + 2) 3 (some (b + 16))) (b + 18) 4 0 3) (b + 19) 20 33 33) (b + 18) 0 (some (b + 19))) (b + 18) 1 (11 : Int32)) (b + 2) 4 (some (b + 18))) (b + 20) 4 0 3) (b + 21) 20 33 33) (b + 20) 0 (some (b + 21))) (b + 20) 1 (11 : Int32)) (b + 2) 5 (some (b + 20))) (b + 22) 4 0 3) (b + 23) 20 33 33) (b + 22) 0 (some (b + 23))) (b + 22) 1 (4 : Int32)) (b + 3) 0 (some (b + 22))) (b + 24) 4 0 3) (b + 25) 20 33 33) (b + 24) 0 (some (b + 25))) (b + 24) 1 (4 : Int32)) (b + 3) 1 (some (b + 24))) (b + 26) 4 0 3) (b + 27) 20 33 33) (b + 26) 0 (some (b + 27))) (b + 26) 1 (4 : Int32)) (b + 3) 2 (some (b + 26))) (b + 28) 4 0 3) (b + 29) 20 33 33) (b + 28) 0 (some (b + 29))) (b + 28) 1 (4 : Int32)) (b + 3) 3 (some (b + 28))) (b + 30) 4 0 3) (b + 31) 20 33 33) (b + 30) 0 (some (b + 31))) (b + 30) 1 (4 : Int32)) (b + 3) 4 (some (b + 30))
section ST72
set_option maxRecDepth 100000 in
theorem st72 {d : Nat} {I : Nat → Nat → Int32} {L : Nat → Nat → Int64} {R : Nat → Nat → Option Nat} {K : Nat → Nat × Nat} {c z : Nat} {Q : am_O → am_S → Prop} (hF : K 3000000 = (19, 23)) (hQ : Q (.inl none) (nSt 72 (I, L, R, K, 72, c, z))) : am_WP (d + 1) mX5_init 0 [(0, .ref 72)] [] (am_nat (I, L, R, K, 72, c, z) 72 5 0 11) Q := by
  refine wp_ld (v := .ref 72) dX5_init_0 rfl rfl rfl rfl ?_
  refine wq_obj dX5_init_1 rfl rfl ?_
  refine wp_ld (v := .ref 72) dX5_init_4 rfl rfl rfl rfl ?_
  refine wp_cst (v := .int (8 : Int32)) dX5_init_5 rfl rfl ?_
  refine wp_pI dX5_init_7 rfl rfl rfl (by decide) rfl ?_
  refine wp_ld (v := .ref 72) dX5_init_10 rfl rfl rfl rfl ?_
  refine wp_cst (v := .int (6 : Int32)) dX5_init_11 rfl rfl ?_
  refine wp_pI dX5_init_13 rfl rfl rfl (by decide) rfl ?_
  refine wp_ld (v := .ref 72) dX5_init_16 rfl rfl rfl rfl ?_
  refine wp_cst (v := .int (23 : Int32)) dX5_init_17 rfl rfl ?_
  refine wq_na20 (m := 73) (l := 23) dX5_init_19 rfl rfl rfl (by decide) rfl ?_
  refine wp_pR dX5_init_21 rfl rfl rfl rfl rfl rfl (Nat.le_of_ble_eq_true rfl) ?_
  refine wp_ld (v := .ref 72) dX5_init_24 rfl rfl rfl rfl ?_
  refine wp_cst (v := .int (6 : Int32)) dX5_init_25 rfl rfl ?_
  refine wq_ana (m := 74) (l := 6) (kd := 23) dX5_init_27 rfl rfl rfl rfl (by decide) rfl ?_
  refine wp_pR dX5_init_30 rfl rfl rfl rfl rfl rfl (Nat.le_of_ble_eq_true rfl) ?_
  refine wp_ld (v := .ref 72) dX5_init_33 rfl rfl rfl rfl ?_
  refine wp_cst (v := .int (5 : Int32)) dX5_init_34 rfl rfl ?_
  refine wq_ana (m := 75) (l := 5) (kd := 23) dX5_init_35 rfl rfl rfl rfl (by decide) rfl ?_
  refine wp_pR dX5_init_38 rfl rfl rfl rfl rfl rfl (Nat.le_of_ble_eq_true rfl) ?_
  refine wp_ld (v := .ref 72) dX5_init_41 rfl rfl rfl rfl ?_
  refine wq_new (m := 76) dX5_init_42 rfl rfl rfl rfl rfl ?_
  refine wp_pu (st' := [.ref 76, .ref 76, .ref 72]) dX5_init_45 rfl rfl ?_
  refine wp_cst (v := .int (4 : Int32)) dX5_init_46 rfl rfl ?_
  refine wp_call (M' := mX4_init) (av := [.ref 76, .int (4 : Int32)]) (rest := [.ref 76, .ref 72]) dX5_init_47 rfl rfl rfl rfl ?_
  show am_WP _ mX4_init 0 [(0, .ref 76), (1, .int (4 : Int32))] [] _ _
  refine wp_ld (v := .ref 76) dX4_init_0 rfl rfl rfl rfl ?_
  refine wq_obj dX4_init_1 rfl rfl ?_
  refine wp_ld (v := .ref 76) dX4_init_4 rfl rfl rfl rfl ?_
  refine wp_cst (v := .int (33 : Int32)) dX4_init_5 rfl rfl ?_
  refine wq_na20 (m := 77) (l := 33) dX4_init_7 rfl rfl rfl (by decide) rfl ?_
  refine wp_pR dX4_init_9 rfl rfl rfl rfl rfl rfl (Nat.le_of_ble_eq_true rfl) ?_
  refine wp_ld (v := .ref 76) dX4_init_12 rfl rfl rfl rfl ?_
  refine wp_ld (v := .int (4 : Int32)) dX4_init_13 rfl rfl rfl rfl ?_
  refine wp_cst (v := .int (11 : Int32)) dX4_init_14 rfl rfl ?_
  refine wp_mem (st' := [.int (4 : Int32), .ref 76]) dX4_init_16 rfl rfl rfl rfl ?_
  refine wq_pF dX4_init_19 rfl rfl rfl rfl rfl rfl ?_
  refine wp_end dX4_init_22 rfl rfl ?_
  show am_WP _ mX5_init 50 [(0, .ref 72)] [.ref 76, .ref 72] _ _
  refine wp_pR dX5_init_50 rfl rfl rfl rfl rfl rfl (Nat.le_of_ble_eq_true rfl) ?_
  refine wp_ld (v := .ref 72) dX5_init_53 rfl rfl rfl rfl ?_
  refine wq_new (m := 78) dX5_init_54 rfl rfl rfl rfl rfl ?_
  refine wp_pu (st' := [.ref 78, .ref 78, .ref 72]) dX5_init_57 rfl rfl ?_
  refine wp_cst (v := .int (3 : Int32)) dX5_init_58 rfl rfl ?_
  refine wp_call (M' := mX4_init) (av := [.ref 78, .int (3 : Int32)]) (rest := [.ref 78, .ref 72]) dX5_init_59 rfl rfl rfl rfl ?_
  show am_WP _ mX4_init 0 [(0, .ref 78), (1, .int (3 : Int32))] [] _ _
  refine wp_ld (v := .ref 78) dX4_init_0 rfl rfl rfl rfl ?_
  refine wq_obj dX4_init_1 rfl rfl ?_
  refine wp_ld (v := .ref 78) dX4_init_4 rfl rfl rfl rfl ?_
  refine wp_cst (v := .int (33 : Int32)) dX4_init_5 rfl rfl ?_
  refine wq_na20 (m := 79) (l := 33) dX4_init_7 rfl rfl rfl (by decide) rfl ?_
  refine wp_pR dX4_init_9 rfl rfl rfl rfl rfl rfl (Nat.le_of_ble_eq_true rfl) ?_
  refine wp_ld (v := .ref 78) dX4_init_12 rfl rfl rfl rfl ?_
  refine wp_ld (v := .int (3 : Int32)) dX4_init_13 rfl rfl rfl rfl ?_
  refine wp_cst (v := .int (11 : Int32)) dX4_init_14 rfl rfl ?_
  refine wp_mem (st' := [.int (3 : Int32), .ref 78]) dX4_init_16 rfl rfl rfl rfl ?_
  refine wq_pF dX4_init_19 rfl rfl rfl rfl rfl rfl ?_
  refine wp_end dX4_init_22 rfl rfl ?_
  show am_WP _ mX5_init 62 [(0, .ref 72)] [.ref 78, .ref 72] _ _
  refine wp_pR dX5_init_62 rfl rfl rfl rfl rfl rfl (Nat.le_of_ble_eq_true rfl) ?_
  refine wp_ld (v := .ref 72) dX5_init_65 rfl rfl rfl rfl ?_
  refine wq_new (m := 80) dX5_init_66 rfl rfl rfl rfl rfl ?_
  refine wp_pu (st' := [.ref 80, .ref 80, .ref 72]) dX5_init_69 rfl rfl ?_
  refine wp_cst (v := .int (4 : Int32)) dX5_init_70 rfl rfl ?_
  refine wp_call (M' := mX4_init) (av := [.ref 80, .int (4 : Int32)]) (rest := [.ref 80, .ref 72]) dX5_init_71 rfl rfl rfl rfl ?_
  show am_WP _ mX4_init 0 [(0, .ref 80), (1, .int (4 : Int32))] [] _ _
  refine wp_ld (v := .ref 80) dX4_init_0 rfl rfl rfl rfl ?_
  refine wq_obj dX4_init_1 rfl rfl ?_
  refine wp_ld (v := .ref 80) dX4_init_4 rfl rfl rfl rfl ?_
  refine wp_cst (v := .int (33 : Int32)) dX4_init_5 rfl rfl ?_
  refine wq_na20 (m := 81) (l := 33) dX4_init_7 rfl rfl rfl (by decide) rfl ?_
  refine wp_pR dX4_init_9 rfl rfl rfl rfl rfl rfl (Nat.le_of_ble_eq_true rfl) ?_
  refine wp_ld (v := .ref 80) dX4_init_12 rfl rfl rfl rfl ?_
  refine wp_ld (v := .int (4 : Int32)) dX4_init_13 rfl rfl rfl rfl ?_
  refine wp_cst (v := .int (11 : Int32)) dX4_init_14 rfl rfl ?_
  refine wp_mem (st' := [.int (4 : Int32), .ref 80]) dX4_init_16 rfl rfl rfl rfl ?_
  refine wq_pF dX4_init_19 rfl rfl rfl rfl rfl rfl ?_
  refine wp_end dX4_init_22 rfl rfl ?_
  show am_WP _ mX5_init 74 [(0, .ref 72)] [.ref 80, .ref 72] _ _
  refine wp_pR dX5_init_74 rfl rfl rfl rfl rfl rfl (Nat.le_of_ble_eq_true rfl) ?_
  refine wp_cst (v := .ref 3000000) dX5_init_77 rfl rfl ?_
  refine wp_cst (v := .int (0 : Int32)) dX5_init_80 rfl rfl ?_
  refine wp_ld (v := .ref 72) dX5_init_81 rfl rfl rfl rfl ?_
  refine wp_gr (b := 73) dX5_init_82 rfl rfl rfl rfl ?_
  refine wp_cst (v := .int (0 : Int32)) dX5_init_85 rfl rfl ?_
  refine wp_cst (v := .int (23 : Int32)) dX5_init_86 rfl rfl ?_
  refine wq_ac (m := 23) dX5_init_88 rfl hF (by decide) rfl rfl rfl rfl (by decide) (by decide) (by decide) (by decide) ?_
  refine wp_cst (v := .int (0 : Int32)) dX5_init_91 rfl rfl ?_
  refine wp_st (ls' := [(0, .ref 72), (1, .int (0 : Int32))]) dX5_init_92 rfl rfl rfl (Nat.le_of_ble_eq_true rfl) rfl ?_
  refine wp_ld (v := .int (0 : Int32)) dX5_init_93 rfl rfl rfl rfl ?_
  refine wp_cst (v := .int (6 : Int32)) dX5_init_94 rfl rfl ?_
  refine wp_ic_ge dX5_init_96 rfl (fun c => absurd c (by decide)) (fun _ => ?_)
  refine wp_ld (v := .ref 72) dX5_init_99 rfl rfl rfl rfl ?_
  refine wp_gr (b := 74) dX5_init_100 rfl rfl rfl rfl ?_
  refine wp_ld (v := .int (0 : Int32)) dX5_init_103 rfl rfl rfl rfl ?_
  refine wq_new (m := 82) dX5_init_104 rfl rfl rfl rfl rfl ?_
  refine wp_pu (st' := [.ref 82, .ref 82, .int (0 : Int32), .ref 74]) dX5_init_107 rfl rfl ?_
  refine wp_cst (v := .int (11 : Int32)) dX5_init_108 rfl rfl ?_
  refine wp_call (M' := mX4_init) (av := [.ref 82, .int (11 : Int32)]) (rest := [.ref 82, .int (0 : Int32), .ref 74]) dX5_init_110 rfl rfl rfl rfl ?_
  show am_WP _ mX4_init 0 [(0, .ref 82), (1, .int (11 : Int32))] [] _ _
  refine wp_ld (v := .ref 82) dX4_init_0 rfl rfl rfl rfl ?_
  refine wq_obj dX4_init_1 rfl rfl ?_
  refine wp_ld (v := .ref 82) dX4_init_4 rfl rfl rfl rfl ?_
  refine wp_cst (v := .int (33 : Int32)) dX4_init_5 rfl rfl ?_
  refine wq_na20 (m := 83) (l := 33) dX4_init_7 rfl rfl rfl (by decide) rfl ?_
  refine wp_pR dX4_init_9 rfl rfl rfl rfl rfl rfl (Nat.le_of_ble_eq_true rfl) ?_
  refine wp_ld (v := .ref 82) dX4_init_12 rfl rfl rfl rfl ?_
  refine wp_ld (v := .int (11 : Int32)) dX4_init_13 rfl rfl rfl rfl ?_
  refine wp_cst (v := .int (11 : Int32)) dX4_init_14 rfl rfl ?_
  refine wp_mem (st' := [.int (11 : Int32), .ref 82]) dX4_init_16 rfl rfl rfl rfl ?_
  refine wq_pF dX4_init_19 rfl rfl rfl rfl rfl rfl ?_
  refine wp_end dX4_init_22 rfl rfl ?_
  show am_WP _ mX5_init 113 [(0, .ref 72), (1, .int (0 : Int32))] [.ref 82, .int (0 : Int32), .ref 74] _ _
  refine wp_aast dX5_init_113 rfl (by decide) rfl rfl rfl ?_
  show am_WP _ mX5_init 114 [(0, .ref 72), (1, .int (0 : Int32))] [] _ _
  refine wp_inc (v := (1 : Int32)) (ls' := [(0, .ref 72), (1, .int (1 : Int32))]) dX5_init_114 rfl (Nat.le_of_ble_eq_true rfl) rfl rfl ?_
  refine wp_goto dX5_init_117 rfl ?_
  refine wp_ld (v := .int (1 : Int32)) dX5_init_93 rfl rfl rfl rfl ?_
  refine wp_cst (v := .int (6 : Int32)) dX5_init_94 rfl rfl ?_
  refine wp_ic_ge dX5_init_96 rfl (fun c => absurd c (by decide)) (fun _ => ?_)
  refine wp_ld (v := .ref 72) dX5_init_99 rfl rfl rfl rfl ?_
  refine wp_gr (b := 74) dX5_init_100 rfl rfl rfl rfl ?_
  refine wp_ld (v := .int (1 : Int32)) dX5_init_103 rfl rfl rfl rfl ?_
  refine wq_new (m := 84) dX5_init_104 rfl rfl rfl rfl rfl ?_
  refine wp_pu (st' := [.ref 84, .ref 84, .int (1 : Int32), .ref 74]) dX5_init_107 rfl rfl ?_
  refine wp_cst (v := .int (11 : Int32)) dX5_init_108 rfl rfl ?_
  refine wp_call (M' := mX4_init) (av := [.ref 84, .int (11 : Int32)]) (rest := [.ref 84, .int (1 : Int32), .ref 74]) dX5_init_110 rfl rfl rfl rfl ?_
  show am_WP _ mX4_init 0 [(0, .ref 84), (1, .int (11 : Int32))] [] _ _
  refine wp_ld (v := .ref 84) dX4_init_0 rfl rfl rfl rfl ?_
  refine wq_obj dX4_init_1 rfl rfl ?_
  refine wp_ld (v := .ref 84) dX4_init_4 rfl rfl rfl rfl ?_
  refine wp_cst (v := .int (33 : Int32)) dX4_init_5 rfl rfl ?_
  refine wq_na20 (m := 85) (l := 33) dX4_init_7 rfl rfl rfl (by decide) rfl ?_
  refine wp_pR dX4_init_9 rfl rfl rfl rfl rfl rfl (Nat.le_of_ble_eq_true rfl) ?_
  refine wp_ld (v := .ref 84) dX4_init_12 rfl rfl rfl rfl ?_
  refine wp_ld (v := .int (11 : Int32)) dX4_init_13 rfl rfl rfl rfl ?_
  refine wp_cst (v := .int (11 : Int32)) dX4_init_14 rfl rfl ?_
  refine wp_mem (st' := [.int (11 : Int32), .ref 84]) dX4_init_16 rfl rfl rfl rfl ?_
  refine wq_pF dX4_init_19 rfl rfl rfl rfl rfl rfl ?_
  refine wp_end dX4_init_22 rfl rfl ?_
  show am_WP _ mX5_init 113 [(0, .ref 72), (1, .int (1 : Int32))] [.ref 84, .int (1 : Int32), .ref 74] _ _
  refine wp_aast dX5_init_113 rfl (by decide) rfl rfl rfl ?_
  show am_WP _ mX5_init 114 [(0, .ref 72), (1, .int (1 : Int32))] [] _ _
  refine wp_inc (v := (2 : Int32)) (ls' := [(0, .ref 72), (1, .int (2 : Int32))]) dX5_init_114 rfl (Nat.le_of_ble_eq_true rfl) rfl rfl ?_
  refine wp_goto dX5_init_117 rfl ?_
  refine wp_ld (v := .int (2 : Int32)) dX5_init_93 rfl rfl rfl rfl ?_
  refine wp_cst (v := .int (6 : Int32)) dX5_init_94 rfl rfl ?_
  refine wp_ic_ge dX5_init_96 rfl (fun c => absurd c (by decide)) (fun _ => ?_)
  refine wp_ld (v := .ref 72) dX5_init_99 rfl rfl rfl rfl ?_
  refine wp_gr (b := 74) dX5_init_100 rfl rfl rfl rfl ?_
  refine wp_ld (v := .int (2 : Int32)) dX5_init_103 rfl rfl rfl rfl ?_
  refine wq_new (m := 86) dX5_init_104 rfl rfl rfl rfl rfl ?_
  refine wp_pu (st' := [.ref 86, .ref 86, .int (2 : Int32), .ref 74]) dX5_init_107 rfl rfl ?_
  refine wp_cst (v := .int (11 : Int32)) dX5_init_108 rfl rfl ?_
  refine wp_call (M' := mX4_init) (av := [.ref 86, .int (11 : Int32)]) (rest := [.ref 86, .int (2 : Int32), .ref 74]) dX5_init_110 rfl rfl rfl rfl ?_
  show am_WP _ mX4_init 0 [(0, .ref 86), (1, .int (11 : Int32))] [] _ _
  refine wp_ld (v := .ref 86) dX4_init_0 rfl rfl rfl rfl ?_
  refine wq_obj dX4_init_1 rfl rfl ?_
  refine wp_ld (v := .ref 86) dX4_init_4 rfl rfl rfl rfl ?_
  refine wp_cst (v := .int (33 : Int32)) dX4_init_5 rfl rfl ?_
  refine wq_na20 (m := 87) (l := 33) dX4_init_7 rfl rfl rfl (by decide) rfl ?_
  refine wp_pR dX4_init_9 rfl rfl rfl rfl rfl rfl (Nat.le_of_ble_eq_true rfl) ?_
  refine wp_ld (v := .ref 86) dX4_init_12 rfl rfl rfl rfl ?_
  refine wp_ld (v := .int (11 : Int32)) dX4_init_13 rfl rfl rfl rfl ?_
  refine wp_cst (v := .int (11 : Int32)) dX4_init_14 rfl rfl ?_
  refine wp_mem (st' := [.int (11 : Int32), .ref 86]) dX4_init_16 rfl rfl rfl rfl ?_
  refine wq_pF dX4_init_19 rfl rfl rfl rfl rfl rfl ?_
  refine wp_end dX4_init_22 rfl rfl ?_
  show am_WP _ mX5_init 113 [(0, .ref 72), (1, .int (2 : Int32))] [.ref 86, .int (2 : Int32), .ref 74] _ _
  refine wp_aast dX5_init_113 rfl (by decide) rfl rfl rfl ?_
  show am_WP _ mX5_init 114 [(0, .ref 72), (1, .int (2 : Int32))] [] _ _
  refine wp_inc (v := (3 : Int32)) (ls' := [(0, .ref 72), (1, .int (3 : Int32))]) dX5_init_114 rfl (Nat.le_of_ble_eq_true rfl) rfl rfl ?_
  refine wp_goto dX5_init_117 rfl ?_
  refine wp_ld (v := .int (3 : Int32)) dX5_init_93 rfl rfl rfl rfl ?_
  refine wp_cst (v := .int (6 : Int32)) dX5_init_94 rfl rfl ?_
  refine wp_ic_ge dX5_init_96 rfl (fun c => absurd c (by decide)) (fun _ => ?_)
  refine wp_ld (v := .ref 72) dX5_init_99 rfl rfl rfl rfl ?_
  refine wp_gr (b := 74) dX5_init_100 rfl rfl rfl rfl ?_
  refine wp_ld (v := .int (3 : Int32)) dX5_init_103 rfl rfl rfl rfl ?_
  refine wq_new (m := 88) dX5_init_104 rfl rfl rfl rfl rfl ?_
  refine wp_pu (st' := [.ref 88, .ref 88, .int (3 : Int32), .ref 74]) dX5_init_107 rfl rfl ?_
  refine wp_cst (v := .int (11 : Int32)) dX5_init_108 rfl rfl ?_
  refine wp_call (M' := mX4_init) (av := [.ref 88, .int (11 : Int32)]) (rest := [.ref 88, .int (3 : Int32), .ref 74]) dX5_init_110 rfl rfl rfl rfl ?_
  show am_WP _ mX4_init 0 [(0, .ref 88), (1, .int (11 : Int32))] [] _ _
  refine wp_ld (v := .ref 88) dX4_init_0 rfl rfl rfl rfl ?_
  refine wq_obj dX4_init_1 rfl rfl ?_
  refine wp_ld (v := .ref 88) dX4_init_4 rfl rfl rfl rfl ?_
  refine wp_cst (v := .int (33 : Int32)) dX4_init_5 rfl rfl ?_
  refine wq_na20 (m := 89) (l := 33) dX4_init_7 rfl rfl rfl (by decide) rfl ?_
  refine wp_pR dX4_init_9 rfl rfl rfl rfl rfl rfl (Nat.le_of_ble_eq_true rfl) ?_
  refine wp_ld (v := .ref 88) dX4_init_12 rfl rfl rfl rfl ?_
  refine wp_ld (v := .int (11 : Int32)) dX4_init_13 rfl rfl rfl rfl ?_
  refine wp_cst (v := .int (11 : Int32)) dX4_init_14 rfl rfl ?_
  refine wp_mem (st' := [.int (11 : Int32), .ref 88]) dX4_init_16 rfl rfl rfl rfl ?_
  refine wq_pF dX4_init_19 rfl rfl rfl rfl rfl rfl ?_
  refine wp_end dX4_init_22 rfl rfl ?_
  show am_WP _ mX5_init 113 [(0, .ref 72), (1, .int (3 : Int32))] [.ref 88, .int (3 : Int32), .ref 74] _ _
  refine wp_aast dX5_init_113 rfl (by decide) rfl rfl rfl ?_
  show am_WP _ mX5_init 114 [(0, .ref 72), (1, .int (3 : Int32))] [] _ _
  refine wp_inc (v := (4 : Int32)) (ls' := [(0, .ref 72), (1, .int (4 : Int32))]) dX5_init_114 rfl (Nat.le_of_ble_eq_true rfl) rfl rfl ?_
  refine wp_goto dX5_init_117 rfl ?_
  refine wp_ld (v := .int (4 : Int32)) dX5_init_93 rfl rfl rfl rfl ?_
  refine wp_cst (v := .int (6 : Int32)) dX5_init_94 rfl rfl ?_
  refine wp_ic_ge dX5_init_96 rfl (fun c => absurd c (by decide)) (fun _ => ?_)
  refine wp_ld (v := .ref 72) dX5_init_99 rfl rfl rfl rfl ?_
  refine wp_gr (b := 74) dX5_init_100 rfl rfl rfl rfl ?_
  refine wp_ld (v := .int (4 : Int32)) dX5_init_103 rfl rfl rfl rfl ?_
  refine wq_new (m := 90) dX5_init_104 rfl rfl rfl rfl rfl ?_
  refine wp_pu (st' := [.ref 90, .ref 90, .int (4 : Int32), .ref 74]) dX5_init_107 rfl rfl ?_
  refine wp_cst (v := .int (11 : Int32)) dX5_init_108 rfl rfl ?_
  refine wp_call (M' := mX4_init) (av := [.ref 90, .int (11 : Int32)]) (rest := [.ref 90, .int (4 : Int32), .ref 74]) dX5_init_110 rfl rfl rfl rfl ?_
  show am_WP _ mX4_init 0 [(0, .ref 90), (1, .int (11 : Int32))] [] _ _
  refine wp_ld (v := .ref 90) dX4_init_0 rfl rfl rfl rfl ?_
  refine wq_obj dX4_init_1 rfl rfl ?_
  refine wp_ld (v := .ref 90) dX4_init_4 rfl rfl rfl rfl ?_
  refine wp_cst (v := .int (33 : Int32)) dX4_init_5 rfl rfl ?_
  refine wq_na20 (m := 91) (l := 33) dX4_init_7 rfl rfl rfl (by decide) rfl ?_
  refine wp_pR dX4_init_9 rfl rfl rfl rfl rfl rfl (Nat.le_of_ble_eq_true rfl) ?_
  refine wp_ld (v := .ref 90) dX4_init_12 rfl rfl rfl rfl ?_
  refine wp_ld (v := .int (11 : Int32)) dX4_init_13 rfl rfl rfl rfl ?_
  refine wp_cst (v := .int (11 : Int32)) dX4_init_14 rfl rfl ?_
  refine wp_mem (st' := [.int (11 : Int32), .ref 90]) dX4_init_16 rfl rfl rfl rfl ?_
  refine wq_pF dX4_init_19 rfl rfl rfl rfl rfl rfl ?_
  refine wp_end dX4_init_22 rfl rfl ?_
  show am_WP _ mX5_init 113 [(0, .ref 72), (1, .int (4 : Int32))] [.ref 90, .int (4 : Int32), .ref 74] _ _
  refine wp_aast dX5_init_113 rfl (by decide) rfl rfl rfl ?_
  show am_WP _ mX5_init 114 [(0, .ref 72), (1, .int (4 : Int32))] [] _ _
  refine wp_inc (v := (5 : Int32)) (ls' := [(0, .ref 72), (1, .int (5 : Int32))]) dX5_init_114 rfl (Nat.le_of_ble_eq_true rfl) rfl rfl ?_
  refine wp_goto dX5_init_117 rfl ?_
  refine wp_ld (v := .int (5 : Int32)) dX5_init_93 rfl rfl rfl rfl ?_
  refine wp_cst (v := .int (6 : Int32)) dX5_init_94 rfl rfl ?_
  refine wp_ic_ge dX5_init_96 rfl (fun c => absurd c (by decide)) (fun _ => ?_)
  refine wp_ld (v := .ref 72) dX5_init_99 rfl rfl rfl rfl ?_
  refine wp_gr (b := 74) dX5_init_100 rfl rfl rfl rfl ?_
  refine wp_ld (v := .int (5 : Int32)) dX5_init_103 rfl rfl rfl rfl ?_
  refine wq_new (m := 92) dX5_init_104 rfl rfl rfl rfl rfl ?_
  refine wp_pu (st' := [.ref 92, .ref 92, .int (5 : Int32), .ref 74]) dX5_init_107 rfl rfl ?_
  refine wp_cst (v := .int (11 : Int32)) dX5_init_108 rfl rfl ?_
  refine wp_call (M' := mX4_init) (av := [.ref 92, .int (11 : Int32)]) (rest := [.ref 92, .int (5 : Int32), .ref 74]) dX5_init_110 rfl rfl rfl rfl ?_
  show am_WP _ mX4_init 0 [(0, .ref 92), (1, .int (11 : Int32))] [] _ _
  refine wp_ld (v := .ref 92) dX4_init_0 rfl rfl rfl rfl ?_
  refine wq_obj dX4_init_1 rfl rfl ?_
  refine wp_ld (v := .ref 92) dX4_init_4 rfl rfl rfl rfl ?_
  refine wp_cst (v := .int (33 : Int32)) dX4_init_5 rfl rfl ?_
  refine wq_na20 (m := 93) (l := 33) dX4_init_7 rfl rfl rfl (by decide) rfl ?_
  refine wp_pR dX4_init_9 rfl rfl rfl rfl rfl rfl (Nat.le_of_ble_eq_true rfl) ?_
  refine wp_ld (v := .ref 92) dX4_init_12 rfl rfl rfl rfl ?_
  refine wp_ld (v := .int (11 : Int32)) dX4_init_13 rfl rfl rfl rfl ?_
  refine wp_cst (v := .int (11 : Int32)) dX4_init_14 rfl rfl ?_
  refine wp_mem (st' := [.int (11 : Int32), .ref 92]) dX4_init_16 rfl rfl rfl rfl ?_
  refine wq_pF dX4_init_19 rfl rfl rfl rfl rfl rfl ?_
  refine wp_end dX4_init_22 rfl rfl ?_
  show am_WP _ mX5_init 113 [(0, .ref 72), (1, .int (5 : Int32))] [.ref 92, .int (5 : Int32), .ref 74] _ _
  refine wp_aast dX5_init_113 rfl (by decide) rfl rfl rfl ?_
  show am_WP _ mX5_init 114 [(0, .ref 72), (1, .int (5 : Int32))] [] _ _
  refine wp_inc (v := (6 : Int32)) (ls' := [(0, .ref 72), (1, .int (6 : Int32))]) dX5_init_114 rfl (Nat.le_of_ble_eq_true rfl) rfl rfl ?_
  refine wp_goto dX5_init_117 rfl ?_
  refine wp_ld (v := .int (6 : Int32)) dX5_init_93 rfl rfl rfl rfl ?_
  refine wp_cst (v := .int (6 : Int32)) dX5_init_94 rfl rfl ?_
  refine wp_ic_ge dX5_init_96 rfl (fun _ => ?_) (fun c => absurd c (by decide))
  refine wp_cst (v := .int (0 : Int32)) dX5_init_120 rfl rfl ?_
  refine wp_st (ls' := [(0, .ref 72), (1, .int (0 : Int32))]) dX5_init_121 rfl rfl rfl (Nat.le_of_ble_eq_true rfl) rfl ?_
  refine wp_ld (v := .int (0 : Int32)) dX5_init_122 rfl rfl rfl rfl ?_
  refine wp_cst (v := .int (5 : Int32)) dX5_init_123 rfl rfl ?_
  refine wp_ic_ge dX5_init_124 rfl (fun c => absurd c (by decide)) (fun _ => ?_)
  refine wp_ld (v := .ref 72) dX5_init_127 rfl rfl rfl rfl ?_
  refine wp_gr (b := 75) dX5_init_128 rfl rfl rfl rfl ?_
  refine wp_ld (v := .int (0 : Int32)) dX5_init_131 rfl rfl rfl rfl ?_
  refine wq_new (m := 94) dX5_init_132 rfl rfl rfl rfl rfl ?_
  refine wp_pu (st' := [.ref 94, .ref 94, .int (0 : Int32), .ref 75]) dX5_init_135 rfl rfl ?_
  refine wp_cst (v := .int (4 : Int32)) dX5_init_136 rfl rfl ?_
  refine wp_call (M' := mX4_init) (av := [.ref 94, .int (4 : Int32)]) (rest := [.ref 94, .int (0 : Int32), .ref 75]) dX5_init_137 rfl rfl rfl rfl ?_
  show am_WP _ mX4_init 0 [(0, .ref 94), (1, .int (4 : Int32))] [] _ _
  refine wp_ld (v := .ref 94) dX4_init_0 rfl rfl rfl rfl ?_
  refine wq_obj dX4_init_1 rfl rfl ?_
  refine wp_ld (v := .ref 94) dX4_init_4 rfl rfl rfl rfl ?_
  refine wp_cst (v := .int (33 : Int32)) dX4_init_5 rfl rfl ?_
  refine wq_na20 (m := 95) (l := 33) dX4_init_7 rfl rfl rfl (by decide) rfl ?_
  refine wp_pR dX4_init_9 rfl rfl rfl rfl rfl rfl (Nat.le_of_ble_eq_true rfl) ?_
  refine wp_ld (v := .ref 94) dX4_init_12 rfl rfl rfl rfl ?_
  refine wp_ld (v := .int (4 : Int32)) dX4_init_13 rfl rfl rfl rfl ?_
  refine wp_cst (v := .int (11 : Int32)) dX4_init_14 rfl rfl ?_
  refine wp_mem (st' := [.int (4 : Int32), .ref 94]) dX4_init_16 rfl rfl rfl rfl ?_
  refine wq_pF dX4_init_19 rfl rfl rfl rfl rfl rfl ?_
  refine wp_end dX4_init_22 rfl rfl ?_
  show am_WP _ mX5_init 140 [(0, .ref 72), (1, .int (0 : Int32))] [.ref 94, .int (0 : Int32), .ref 75] _ _
  refine wp_aast dX5_init_140 rfl (by decide) rfl rfl rfl ?_
  show am_WP _ mX5_init 141 [(0, .ref 72), (1, .int (0 : Int32))] [] _ _
  refine wp_inc (v := (1 : Int32)) (ls' := [(0, .ref 72), (1, .int (1 : Int32))]) dX5_init_141 rfl (Nat.le_of_ble_eq_true rfl) rfl rfl ?_
  refine wp_goto dX5_init_144 rfl ?_
  refine wp_ld (v := .int (1 : Int32)) dX5_init_122 rfl rfl rfl rfl ?_
  refine wp_cst (v := .int (5 : Int32)) dX5_init_123 rfl rfl ?_
  refine wp_ic_ge dX5_init_124 rfl (fun c => absurd c (by decide)) (fun _ => ?_)
  refine wp_ld (v := .ref 72) dX5_init_127 rfl rfl rfl rfl ?_
  refine wp_gr (b := 75) dX5_init_128 rfl rfl rfl rfl ?_
  refine wp_ld (v := .int (1 : Int32)) dX5_init_131 rfl rfl rfl rfl ?_
  refine wq_new (m := 96) dX5_init_132 rfl rfl rfl rfl rfl ?_
  refine wp_pu (st' := [.ref 96, .ref 96, .int (1 : Int32), .ref 75]) dX5_init_135 rfl rfl ?_
  refine wp_cst (v := .int (4 : Int32)) dX5_init_136 rfl rfl ?_
  refine wp_call (M' := mX4_init) (av := [.ref 96, .int (4 : Int32)]) (rest := [.ref 96, .int (1 : Int32), .ref 75]) dX5_init_137 rfl rfl rfl rfl ?_
  show am_WP _ mX4_init 0 [(0, .ref 96), (1, .int (4 : Int32))] [] _ _
  refine wp_ld (v := .ref 96) dX4_init_0 rfl rfl rfl rfl ?_
  refine wq_obj dX4_init_1 rfl rfl ?_
  refine wp_ld (v := .ref 96) dX4_init_4 rfl rfl rfl rfl ?_
  refine wp_cst (v := .int (33 : Int32)) dX4_init_5 rfl rfl ?_
  refine wq_na20 (m := 97) (l := 33) dX4_init_7 rfl rfl rfl (by decide) rfl ?_
  refine wp_pR dX4_init_9 rfl rfl rfl rfl rfl rfl (Nat.le_of_ble_eq_true rfl) ?_
  refine wp_ld (v := .ref 96) dX4_init_12 rfl rfl rfl rfl ?_
  refine wp_ld (v := .int (4 : Int32)) dX4_init_13 rfl rfl rfl rfl ?_
  refine wp_cst (v := .int (11 : Int32)) dX4_init_14 rfl rfl ?_
  refine wp_mem (st' := [.int (4 : Int32), .ref 96]) dX4_init_16 rfl rfl rfl rfl ?_
  refine wq_pF dX4_init_19 rfl rfl rfl rfl rfl rfl ?_
  refine wp_end dX4_init_22 rfl rfl ?_
  show am_WP _ mX5_init 140 [(0, .ref 72), (1, .int (1 : Int32))] [.ref 96, .int (1 : Int32), .ref 75] _ _
  refine wp_aast dX5_init_140 rfl (by decide) rfl rfl rfl ?_
  show am_WP _ mX5_init 141 [(0, .ref 72), (1, .int (1 : Int32))] [] _ _
  refine wp_inc (v := (2 : Int32)) (ls' := [(0, .ref 72), (1, .int (2 : Int32))]) dX5_init_141 rfl (Nat.le_of_ble_eq_true rfl) rfl rfl ?_
  refine wp_goto dX5_init_144 rfl ?_
  refine wp_ld (v := .int (2 : Int32)) dX5_init_122 rfl rfl rfl rfl ?_
  refine wp_cst (v := .int (5 : Int32)) dX5_init_123 rfl rfl ?_
  refine wp_ic_ge dX5_init_124 rfl (fun c => absurd c (by decide)) (fun _ => ?_)
  refine wp_ld (v := .ref 72) dX5_init_127 rfl rfl rfl rfl ?_
  refine wp_gr (b := 75) dX5_init_128 rfl rfl rfl rfl ?_
  refine wp_ld (v := .int (2 : Int32)) dX5_init_131 rfl rfl rfl rfl ?_
  refine wq_new (m := 98) dX5_init_132 rfl rfl rfl rfl rfl ?_
  refine wp_pu (st' := [.ref 98, .ref 98, .int (2 : Int32), .ref 75]) dX5_init_135 rfl rfl ?_
  refine wp_cst (v := .int (4 : Int32)) dX5_init_136 rfl rfl ?_
  refine wp_call (M' := mX4_init) (av := [.ref 98, .int (4 : Int32)]) (rest := [.ref 98, .int (2 : Int32), .ref 75]) dX5_init_137 rfl rfl rfl rfl ?_
  show am_WP _ mX4_init 0 [(0, .ref 98), (1, .int (4 : Int32))] [] _ _
  refine wp_ld (v := .ref 98) dX4_init_0 rfl rfl rfl rfl ?_
  refine wq_obj dX4_init_1 rfl rfl ?_
  refine wp_ld (v := .ref 98) dX4_init_4 rfl rfl rfl rfl ?_
  refine wp_cst (v := .int (33 : Int32)) dX4_init_5 rfl rfl ?_
  refine wq_na20 (m := 99) (l := 33) dX4_init_7 rfl rfl rfl (by decide) rfl ?_
  refine wp_pR dX4_init_9 rfl rfl rfl rfl rfl rfl (Nat.le_of_ble_eq_true rfl) ?_
  refine wp_ld (v := .ref 98) dX4_init_12 rfl rfl rfl rfl ?_
  refine wp_ld (v := .int (4 : Int32)) dX4_init_13 rfl rfl rfl rfl ?_
  refine wp_cst (v := .int (11 : Int32)) dX4_init_14 rfl rfl ?_
  refine wp_mem (st' := [.int (4 : Int32), .ref 98]) dX4_init_16 rfl rfl rfl rfl ?_
  refine wq_pF dX4_init_19 rfl rfl rfl rfl rfl rfl ?_
  refine wp_end dX4_init_22 rfl rfl ?_
  show am_WP _ mX5_init 140 [(0, .ref 72), (1, .int (2 : Int32))] [.ref 98, .int (2 : Int32), .ref 75] _ _
  refine wp_aast dX5_init_140 rfl (by decide) rfl rfl rfl ?_
  show am_WP _ mX5_init 141 [(0, .ref 72), (1, .int (2 : Int32))] [] _ _
  refine wp_inc (v := (3 : Int32)) (ls' := [(0, .ref 72), (1, .int (3 : Int32))]) dX5_init_141 rfl (Nat.le_of_ble_eq_true rfl) rfl rfl ?_
  refine wp_goto dX5_init_144 rfl ?_
  refine wp_ld (v := .int (3 : Int32)) dX5_init_122 rfl rfl rfl rfl ?_
  refine wp_cst (v := .int (5 : Int32)) dX5_init_123 rfl rfl ?_
  refine wp_ic_ge dX5_init_124 rfl (fun c => absurd c (by decide)) (fun _ => ?_)
  refine wp_ld (v := .ref 72) dX5_init_127 rfl rfl rfl rfl ?_
  refine wp_gr (b := 75) dX5_init_128 rfl rfl rfl rfl ?_
  refine wp_ld (v := .int (3 : Int32)) dX5_init_131 rfl rfl rfl rfl ?_
  refine wq_new (m := 100) dX5_init_132 rfl rfl rfl rfl rfl ?_
  refine wp_pu (st' := [.ref 100, .ref 100, .int (3 : Int32), .ref 75]) dX5_init_135 rfl rfl ?_
  refine wp_cst (v := .int (4 : Int32)) dX5_init_136 rfl rfl ?_
  refine wp_call (M' := mX4_init) (av := [.ref 100, .int (4 : Int32)]) (rest := [.ref 100, .int (3 : Int32), .ref 75]) dX5_init_137 rfl rfl rfl rfl ?_
  show am_WP _ mX4_init 0 [(0, .ref 100), (1, .int (4 : Int32))] [] _ _
  refine wp_ld (v := .ref 100) dX4_init_0 rfl rfl rfl rfl ?_
  refine wq_obj dX4_init_1 rfl rfl ?_
  refine wp_ld (v := .ref 100) dX4_init_4 rfl rfl rfl rfl ?_
  refine wp_cst (v := .int (33 : Int32)) dX4_init_5 rfl rfl ?_
  refine wq_na20 (m := 101) (l := 33) dX4_init_7 rfl rfl rfl (by decide) rfl ?_
  refine wp_pR dX4_init_9 rfl rfl rfl rfl rfl rfl (Nat.le_of_ble_eq_true rfl) ?_
  refine wp_ld (v := .ref 100) dX4_init_12 rfl rfl rfl rfl ?_
  refine wp_ld (v := .int (4 : Int32)) dX4_init_13 rfl rfl rfl rfl ?_
  refine wp_cst (v := .int (11 : Int32)) dX4_init_14 rfl rfl ?_
  refine wp_mem (st' := [.int (4 : Int32), .ref 100]) dX4_init_16 rfl rfl rfl rfl ?_
  refine wq_pF dX4_init_19 rfl rfl rfl rfl rfl rfl ?_
  refine wp_end dX4_init_22 rfl rfl ?_
  show am_WP _ mX5_init 140 [(0, .ref 72), (1, .int (3 : Int32))] [.ref 100, .int (3 : Int32), .ref 75] _ _
  refine wp_aast dX5_init_140 rfl (by decide) rfl rfl rfl ?_
  show am_WP _ mX5_init 141 [(0, .ref 72), (1, .int (3 : Int32))] [] _ _
  refine wp_inc (v := (4 : Int32)) (ls' := [(0, .ref 72), (1, .int (4 : Int32))]) dX5_init_141 rfl (Nat.le_of_ble_eq_true rfl) rfl rfl ?_
  refine wp_goto dX5_init_144 rfl ?_
  refine wp_ld (v := .int (4 : Int32)) dX5_init_122 rfl rfl rfl rfl ?_
  refine wp_cst (v := .int (5 : Int32)) dX5_init_123 rfl rfl ?_
  refine wp_ic_ge dX5_init_124 rfl (fun c => absurd c (by decide)) (fun _ => ?_)
  refine wp_ld (v := .ref 72) dX5_init_127 rfl rfl rfl rfl ?_
  refine wp_gr (b := 75) dX5_init_128 rfl rfl rfl rfl ?_
  refine wp_ld (v := .int (4 : Int32)) dX5_init_131 rfl rfl rfl rfl ?_
  refine wq_new (m := 102) dX5_init_132 rfl rfl rfl rfl rfl ?_
  refine wp_pu (st' := [.ref 102, .ref 102, .int (4 : Int32), .ref 75]) dX5_init_135 rfl rfl ?_
  refine wp_cst (v := .int (4 : Int32)) dX5_init_136 rfl rfl ?_
  refine wp_call (M' := mX4_init) (av := [.ref 102, .int (4 : Int32)]) (rest := [.ref 102, .int (4 : Int32), .ref 75]) dX5_init_137 rfl rfl rfl rfl ?_
  show am_WP _ mX4_init 0 [(0, .ref 102), (1, .int (4 : Int32))] [] _ _
  refine wp_ld (v := .ref 102) dX4_init_0 rfl rfl rfl rfl ?_
  refine wq_obj dX4_init_1 rfl rfl ?_
  refine wp_ld (v := .ref 102) dX4_init_4 rfl rfl rfl rfl ?_
  refine wp_cst (v := .int (33 : Int32)) dX4_init_5 rfl rfl ?_
  refine wq_na20 (m := 103) (l := 33) dX4_init_7 rfl rfl rfl (by decide) rfl ?_
  refine wp_pR dX4_init_9 rfl rfl rfl rfl rfl rfl (Nat.le_of_ble_eq_true rfl) ?_
  refine wp_ld (v := .ref 102) dX4_init_12 rfl rfl rfl rfl ?_
  refine wp_ld (v := .int (4 : Int32)) dX4_init_13 rfl rfl rfl rfl ?_
  refine wp_cst (v := .int (11 : Int32)) dX4_init_14 rfl rfl ?_
  refine wp_mem (st' := [.int (4 : Int32), .ref 102]) dX4_init_16 rfl rfl rfl rfl ?_
  refine wq_pF dX4_init_19 rfl rfl rfl rfl rfl rfl ?_
  refine wp_end dX4_init_22 rfl rfl ?_
  show am_WP _ mX5_init 140 [(0, .ref 72), (1, .int (4 : Int32))] [.ref 102, .int (4 : Int32), .ref 75] _ _
  refine wp_aast dX5_init_140 rfl (by decide) rfl rfl rfl ?_
  show am_WP _ mX5_init 141 [(0, .ref 72), (1, .int (4 : Int32))] [] _ _
  refine wp_inc (v := (5 : Int32)) (ls' := [(0, .ref 72), (1, .int (5 : Int32))]) dX5_init_141 rfl (Nat.le_of_ble_eq_true rfl) rfl rfl ?_
  refine wp_goto dX5_init_144 rfl ?_
  refine wp_ld (v := .int (5 : Int32)) dX5_init_122 rfl rfl rfl rfl ?_
  refine wp_cst (v := .int (5 : Int32)) dX5_init_123 rfl rfl ?_
  refine wp_ic_ge dX5_init_124 rfl (fun _ => ?_) (fun c => absurd c (by decide))
  refine wp_end dX5_init_147 rfl rfl ?_
  exact hQ
end ST72
section ST104
set_option maxRecDepth 100000 in
theorem st104 {d : Nat} {I : Nat → Nat → Int32} {L : Nat → Nat → Int64} {R : Nat → Nat → Option Nat} {K : Nat → Nat × Nat} {c z : Nat} {Q : am_O → am_S → Prop} (hF : K 3000000 = (19, 23)) (hQ : Q (.inl none) (nSt 104 (I, L, R, K, 104, c, z))) : am_WP (d + 1) mX5_init 0 [(0, .ref 104)] [] (am_nat (I, L, R, K, 104, c, z) 104 5 0 11) Q := by
  refine wp_ld (v := .ref 104) dX5_init_0 rfl rfl rfl rfl ?_
  refine wq_obj dX5_init_1 rfl rfl ?_
  refine wp_ld (v := .ref 104) dX5_init_4 rfl rfl rfl rfl ?_
  refine wp_cst (v := .int (8 : Int32)) dX5_init_5 rfl rfl ?_
  refine wp_pI dX5_init_7 rfl rfl rfl (by decide) rfl ?_
  refine wp_ld (v := .ref 104) dX5_init_10 rfl rfl rfl rfl ?_
  refine wp_cst (v := .int (6 : Int32)) dX5_init_11 rfl rfl ?_
  refine wp_pI dX5_init_13 rfl rfl rfl (by decide) rfl ?_
  refine wp_ld (v := .ref 104) dX5_init_16 rfl rfl rfl rfl ?_
  refine wp_cst (v := .int (23 : Int32)) dX5_init_17 rfl rfl ?_
  refine wq_na20 (m := 105) (l := 23) dX5_init_19 rfl rfl rfl (by decide) rfl ?_
  refine wp_pR dX5_init_21 rfl rfl rfl rfl rfl rfl (Nat.le_of_ble_eq_true rfl) ?_
  refine wp_ld (v := .ref 104) dX5_init_24 rfl rfl rfl rfl ?_
  refine wp_cst (v := .int (6 : Int32)) dX5_init_25 rfl rfl ?_
  refine wq_ana (m := 106) (l := 6) (kd := 23) dX5_init_27 rfl rfl rfl rfl (by decide) rfl ?_
  refine wp_pR dX5_init_30 rfl rfl rfl rfl rfl rfl (Nat.le_of_ble_eq_true rfl) ?_
  refine wp_ld (v := .ref 104) dX5_init_33 rfl rfl rfl rfl ?_
  refine wp_cst (v := .int (5 : Int32)) dX5_init_34 rfl rfl ?_
  refine wq_ana (m := 107) (l := 5) (kd := 23) dX5_init_35 rfl rfl rfl rfl (by decide) rfl ?_
  refine wp_pR dX5_init_38 rfl rfl rfl rfl rfl rfl (Nat.le_of_ble_eq_true rfl) ?_
  refine wp_ld (v := .ref 104) dX5_init_41 rfl rfl rfl rfl ?_
  refine wq_new (m := 108) dX5_init_42 rfl rfl rfl rfl rfl ?_
  refine wp_pu (st' := [.ref 108, .ref 108, .ref 104]) dX5_init_45 rfl rfl ?_
  refine wp_cst (v := .int (4 : Int32)) dX5_init_46 rfl rfl ?_
  refine wp_call (M' := mX4_init) (av := [.ref 108, .int (4 : Int32)]) (rest := [.ref 108, .ref 104]) dX5_init_47 rfl rfl rfl rfl ?_
  show am_WP _ mX4_init 0 [(0, .ref 108), (1, .int (4 : Int32))] [] _ _
  refine wp_ld (v := .ref 108) dX4_init_0 rfl rfl rfl rfl ?_
  refine wq_obj dX4_init_1 rfl rfl ?_
  refine wp_ld (v := .ref 108) dX4_init_4 rfl rfl rfl rfl ?_
  refine wp_cst (v := .int (33 : Int32)) dX4_init_5 rfl rfl ?_
  refine wq_na20 (m := 109) (l := 33) dX4_init_7 rfl rfl rfl (by decide) rfl ?_
  refine wp_pR dX4_init_9 rfl rfl rfl rfl rfl rfl (Nat.le_of_ble_eq_true rfl) ?_
  refine wp_ld (v := .ref 108) dX4_init_12 rfl rfl rfl rfl ?_
  refine wp_ld (v := .int (4 : Int32)) dX4_init_13 rfl rfl rfl rfl ?_
  refine wp_cst (v := .int (11 : Int32)) dX4_init_14 rfl rfl ?_
  refine wp_mem (st' := [.int (4 : Int32), .ref 108]) dX4_init_16 rfl rfl rfl rfl ?_
  refine wq_pF dX4_init_19 rfl rfl rfl rfl rfl rfl ?_
  refine wp_end dX4_init_22 rfl rfl ?_
  show am_WP _ mX5_init 50 [(0, .ref 104)] [.ref 108, .ref 104] _ _
  refine wp_pR dX5_init_50 rfl rfl rfl rfl rfl rfl (Nat.le_of_ble_eq_true rfl) ?_
  refine wp_ld (v := .ref 104) dX5_init_53 rfl rfl rfl rfl ?_
  refine wq_new (m := 110) dX5_init_54 rfl rfl rfl rfl rfl ?_
  refine wp_pu (st' := [.ref 110, .ref 110, .ref 104]) dX5_init_57 rfl rfl ?_
  refine wp_cst (v := .int (3 : Int32)) dX5_init_58 rfl rfl ?_
  refine wp_call (M' := mX4_init) (av := [.ref 110, .int (3 : Int32)]) (rest := [.ref 110, .ref 104]) dX5_init_59 rfl rfl rfl rfl ?_
  show am_WP _ mX4_init 0 [(0, .ref 110), (1, .int (3 : Int32))] [] _ _
  refine wp_ld (v := .ref 110) dX4_init_0 rfl rfl rfl rfl ?_
  refine wq_obj dX4_init_1 rfl rfl ?_
  refine wp_ld (v := .ref 110) dX4_init_4 rfl rfl rfl rfl ?_
  refine wp_cst (v := .int (33 : Int32)) dX4_init_5 rfl rfl ?_
  refine wq_na20 (m := 111) (l := 33) dX4_init_7 rfl rfl rfl (by decide) rfl ?_
  refine wp_pR dX4_init_9 rfl rfl rfl rfl rfl rfl (Nat.le_of_ble_eq_true rfl) ?_
  refine wp_ld (v := .ref 110) dX4_init_12 rfl rfl rfl rfl ?_
  refine wp_ld (v := .int (3 : Int32)) dX4_init_13 rfl rfl rfl rfl ?_
  refine wp_cst (v := .int (11 : Int32)) dX4_init_14 rfl rfl ?_
  refine wp_mem (st' := [.int (3 : Int32), .ref 110]) dX4_init_16 rfl rfl rfl rfl ?_
  refine wq_pF dX4_init_19 rfl rfl rfl rfl rfl rfl ?_
  refine wp_end dX4_init_22 rfl rfl ?_
  show am_WP _ mX5_init 62 [(0, .ref 104)] [.ref 110, .ref 104] _ _
  refine wp_pR dX5_init_62 rfl rfl rfl rfl rfl rfl (Nat.le_of_ble_eq_true rfl) ?_
  refine wp_ld (v := .ref 104) dX5_init_65 rfl rfl rfl rfl ?_
  refine wq_new (m := 112) dX5_init_66 rfl rfl rfl rfl rfl ?_
  refine wp_pu (st' := [.ref 112, .ref 112, .ref 104]) dX5_init_69 rfl rfl ?_
  refine wp_cst (v := .int (4 : Int32)) dX5_init_70 rfl rfl ?_
  refine wp_call (M' := mX4_init) (av := [.ref 112, .int (4 : Int32)]) (rest := [.ref 112, .ref 104]) dX5_init_71 rfl rfl rfl rfl ?_
  show am_WP _ mX4_init 0 [(0, .ref 112), (1, .int (4 : Int32))] [] _ _
  refine wp_ld (v := .ref 112) dX4_init_0 rfl rfl rfl rfl ?_
  refine wq_obj dX4_init_1 rfl rfl ?_
  refine wp_ld (v := .ref 112) dX4_init_4 rfl rfl rfl rfl ?_
  refine wp_cst (v := .int (33 : Int32)) dX4_init_5 rfl rfl ?_
  refine wq_na20 (m := 113) (l := 33) dX4_init_7 rfl rfl rfl (by decide) rfl ?_
  refine wp_pR dX4_init_9 rfl rfl rfl rfl rfl rfl (Nat.le_of_ble_eq_true rfl) ?_
  refine wp_ld (v := .ref 112) dX4_init_12 rfl rfl rfl rfl ?_
  refine wp_ld (v := .int (4 : Int32)) dX4_init_13 rfl rfl rfl rfl ?_
  refine wp_cst (v := .int (11 : Int32)) dX4_init_14 rfl rfl ?_
  refine wp_mem (st' := [.int (4 : Int32), .ref 112]) dX4_init_16 rfl rfl rfl rfl ?_
  refine wq_pF dX4_init_19 rfl rfl rfl rfl rfl rfl ?_
  refine wp_end dX4_init_22 rfl rfl ?_
  show am_WP _ mX5_init 74 [(0, .ref 104)] [.ref 112, .ref 104] _ _
  refine wp_pR dX5_init_74 rfl rfl rfl rfl rfl rfl (Nat.le_of_ble_eq_true rfl) ?_
  refine wp_cst (v := .ref 3000000) dX5_init_77 rfl rfl ?_
  refine wp_cst (v := .int (0 : Int32)) dX5_init_80 rfl rfl ?_
  refine wp_ld (v := .ref 104) dX5_init_81 rfl rfl rfl rfl ?_
  refine wp_gr (b := 105) dX5_init_82 rfl rfl rfl rfl ?_
  refine wp_cst (v := .int (0 : Int32)) dX5_init_85 rfl rfl ?_
  refine wp_cst (v := .int (23 : Int32)) dX5_init_86 rfl rfl ?_
  refine wq_ac (m := 23) dX5_init_88 rfl hF (by decide) rfl rfl rfl rfl (by decide) (by decide) (by decide) (by decide) ?_
  refine wp_cst (v := .int (0 : Int32)) dX5_init_91 rfl rfl ?_
  refine wp_st (ls' := [(0, .ref 104), (1, .int (0 : Int32))]) dX5_init_92 rfl rfl rfl (Nat.le_of_ble_eq_true rfl) rfl ?_
  refine wp_ld (v := .int (0 : Int32)) dX5_init_93 rfl rfl rfl rfl ?_
  refine wp_cst (v := .int (6 : Int32)) dX5_init_94 rfl rfl ?_
  refine wp_ic_ge dX5_init_96 rfl (fun c => absurd c (by decide)) (fun _ => ?_)
  refine wp_ld (v := .ref 104) dX5_init_99 rfl rfl rfl rfl ?_
  refine wp_gr (b := 106) dX5_init_100 rfl rfl rfl rfl ?_
  refine wp_ld (v := .int (0 : Int32)) dX5_init_103 rfl rfl rfl rfl ?_
  refine wq_new (m := 114) dX5_init_104 rfl rfl rfl rfl rfl ?_
  refine wp_pu (st' := [.ref 114, .ref 114, .int (0 : Int32), .ref 106]) dX5_init_107 rfl rfl ?_
  refine wp_cst (v := .int (11 : Int32)) dX5_init_108 rfl rfl ?_
  refine wp_call (M' := mX4_init) (av := [.ref 114, .int (11 : Int32)]) (rest := [.ref 114, .int (0 : Int32), .ref 106]) dX5_init_110 rfl rfl rfl rfl ?_
  show am_WP _ mX4_init 0 [(0, .ref 114), (1, .int (11 : Int32))] [] _ _
  refine wp_ld (v := .ref 114) dX4_init_0 rfl rfl rfl rfl ?_
  refine wq_obj dX4_init_1 rfl rfl ?_
  refine wp_ld (v := .ref 114) dX4_init_4 rfl rfl rfl rfl ?_
  refine wp_cst (v := .int (33 : Int32)) dX4_init_5 rfl rfl ?_
  refine wq_na20 (m := 115) (l := 33) dX4_init_7 rfl rfl rfl (by decide) rfl ?_
  refine wp_pR dX4_init_9 rfl rfl rfl rfl rfl rfl (Nat.le_of_ble_eq_true rfl) ?_
  refine wp_ld (v := .ref 114) dX4_init_12 rfl rfl rfl rfl ?_
  refine wp_ld (v := .int (11 : Int32)) dX4_init_13 rfl rfl rfl rfl ?_
  refine wp_cst (v := .int (11 : Int32)) dX4_init_14 rfl rfl ?_
  refine wp_mem (st' := [.int (11 : Int32), .ref 114]) dX4_init_16 rfl rfl rfl rfl ?_
  refine wq_pF dX4_init_19 rfl rfl rfl rfl rfl rfl ?_
  refine wp_end dX4_init_22 rfl rfl ?_
  show am_WP _ mX5_init 113 [(0, .ref 104), (1, .int (0 : Int32))] [.ref 114, .int (0 : Int32), .ref 106] _ _
  refine wp_aast dX5_init_113 rfl (by decide) rfl rfl rfl ?_
  show am_WP _ mX5_init 114 [(0, .ref 104), (1, .int (0 : Int32))] [] _ _
  refine wp_inc (v := (1 : Int32)) (ls' := [(0, .ref 104), (1, .int (1 : Int32))]) dX5_init_114 rfl (Nat.le_of_ble_eq_true rfl) rfl rfl ?_
  refine wp_goto dX5_init_117 rfl ?_
  refine wp_ld (v := .int (1 : Int32)) dX5_init_93 rfl rfl rfl rfl ?_
  refine wp_cst (v := .int (6 : Int32)) dX5_init_94 rfl rfl ?_
  refine wp_ic_ge dX5_init_96 rfl (fun c => absurd c (by decide)) (fun _ => ?_)
  refine wp_ld (v := .ref 104) dX5_init_99 rfl rfl rfl rfl ?_
  refine wp_gr (b := 106) dX5_init_100 rfl rfl rfl rfl ?_
  refine wp_ld (v := .int (1 : Int32)) dX5_init_103 rfl rfl rfl rfl ?_
  refine wq_new (m := 116) dX5_init_104 rfl rfl rfl rfl rfl ?_
  refine wp_pu (st' := [.ref 116, .ref 116, .int (1 : Int32), .ref 106]) dX5_init_107 rfl rfl ?_
  refine wp_cst (v := .int (11 : Int32)) dX5_init_108 rfl rfl ?_
  refine wp_call (M' := mX4_init) (av := [.ref 116, .int (11 : Int32)]) (rest := [.ref 116, .int (1 : Int32), .ref 106]) dX5_init_110 rfl rfl rfl rfl ?_
  show am_WP _ mX4_init 0 [(0, .ref 116), (1, .int (11 : Int32))] [] _ _
  refine wp_ld (v := .ref 116) dX4_init_0 rfl rfl rfl rfl ?_
  refine wq_obj dX4_init_1 rfl rfl ?_
  refine wp_ld (v := .ref 116) dX4_init_4 rfl rfl rfl rfl ?_
  refine wp_cst (v := .int (33 : Int32)) dX4_init_5 rfl rfl ?_
  refine wq_na20 (m := 117) (l := 33) dX4_init_7 rfl rfl rfl (by decide) rfl ?_
  refine wp_pR dX4_init_9 rfl rfl rfl rfl rfl rfl (Nat.le_of_ble_eq_true rfl) ?_
  refine wp_ld (v := .ref 116) dX4_init_12 rfl rfl rfl rfl ?_
  refine wp_ld (v := .int (11 : Int32)) dX4_init_13 rfl rfl rfl rfl ?_
  refine wp_cst (v := .int (11 : Int32)) dX4_init_14 rfl rfl ?_
  refine wp_mem (st' := [.int (11 : Int32), .ref 116]) dX4_init_16 rfl rfl rfl rfl ?_
  refine wq_pF dX4_init_19 rfl rfl rfl rfl rfl rfl ?_
  refine wp_end dX4_init_22 rfl rfl ?_
  show am_WP _ mX5_init 113 [(0, .ref 104), (1, .int (1 : Int32))] [.ref 116, .int (1 : Int32), .ref 106] _ _
  refine wp_aast dX5_init_113 rfl (by decide) rfl rfl rfl ?_
  show am_WP _ mX5_init 114 [(0, .ref 104), (1, .int (1 : Int32))] [] _ _
  refine wp_inc (v := (2 : Int32)) (ls' := [(0, .ref 104), (1, .int (2 : Int32))]) dX5_init_114 rfl (Nat.le_of_ble_eq_true rfl) rfl rfl ?_
  refine wp_goto dX5_init_117 rfl ?_
  refine wp_ld (v := .int (2 : Int32)) dX5_init_93 rfl rfl rfl rfl ?_
  refine wp_cst (v := .int (6 : Int32)) dX5_init_94 rfl rfl ?_
  refine wp_ic_ge dX5_init_96 rfl (fun c => absurd c (by decide)) (fun _ => ?_)
  refine wp_ld (v := .ref 104) dX5_init_99 rfl rfl rfl rfl ?_
  refine wp_gr (b := 106) dX5_init_100 rfl rfl rfl rfl ?_
  refine wp_ld (v := .int (2 : Int32)) dX5_init_103 rfl rfl rfl rfl ?_
  refine wq_new (m := 118) dX5_init_104 rfl rfl rfl rfl rfl ?_
  refine wp_pu (st' := [.ref 118, .ref 118, .int (2 : Int32), .ref 106]) dX5_init_107 rfl rfl ?_
  refine wp_cst (v := .int (11 : Int32)) dX5_init_108 rfl rfl ?_
  refine wp_call (M' := mX4_init) (av := [.ref 118, .int (11 : Int32)]) (rest := [.ref 118, .int (2 : Int32), .ref 106]) dX5_init_110 rfl rfl rfl rfl ?_
  show am_WP _ mX4_init 0 [(0, .ref 118), (1, .int (11 : Int32))] [] _ _
  refine wp_ld (v := .ref 118) dX4_init_0 rfl rfl rfl rfl ?_
  refine wq_obj dX4_init_1 rfl rfl ?_
  refine wp_ld (v := .ref 118) dX4_init_4 rfl rfl rfl rfl ?_
  refine wp_cst (v := .int (33 : Int32)) dX4_init_5 rfl rfl ?_
  refine wq_na20 (m := 119) (l := 33) dX4_init_7 rfl rfl rfl (by decide) rfl ?_
  refine wp_pR dX4_init_9 rfl rfl rfl rfl rfl rfl (Nat.le_of_ble_eq_true rfl) ?_
  refine wp_ld (v := .ref 118) dX4_init_12 rfl rfl rfl rfl ?_
  refine wp_ld (v := .int (11 : Int32)) dX4_init_13 rfl rfl rfl rfl ?_
  refine wp_cst (v := .int (11 : Int32)) dX4_init_14 rfl rfl ?_
  refine wp_mem (st' := [.int (11 : Int32), .ref 118]) dX4_init_16 rfl rfl rfl rfl ?_
  refine wq_pF dX4_init_19 rfl rfl rfl rfl rfl rfl ?_
  refine wp_end dX4_init_22 rfl rfl ?_
  show am_WP _ mX5_init 113 [(0, .ref 104), (1, .int (2 : Int32))] [.ref 118, .int (2 : Int32), .ref 106] _ _
  refine wp_aast dX5_init_113 rfl (by decide) rfl rfl rfl ?_
  show am_WP _ mX5_init 114 [(0, .ref 104), (1, .int (2 : Int32))] [] _ _
  refine wp_inc (v := (3 : Int32)) (ls' := [(0, .ref 104), (1, .int (3 : Int32))]) dX5_init_114 rfl (Nat.le_of_ble_eq_true rfl) rfl rfl ?_
  refine wp_goto dX5_init_117 rfl ?_
  refine wp_ld (v := .int (3 : Int32)) dX5_init_93 rfl rfl rfl rfl ?_
  refine wp_cst (v := .int (6 : Int32)) dX5_init_94 rfl rfl ?_
  refine wp_ic_ge dX5_init_96 rfl (fun c => absurd c (by decide)) (fun _ => ?_)
  refine wp_ld (v := .ref 104) dX5_init_99 rfl rfl rfl rfl ?_
  refine wp_gr (b := 106) dX5_init_100 rfl rfl rfl rfl ?_
  refine wp_ld (v := .int (3 : Int32)) dX5_init_103 rfl rfl rfl rfl ?_
  refine wq_new (m := 120) dX5_init_104 rfl rfl rfl rfl rfl ?_
  refine wp_pu (st' := [.ref 120, .ref 120, .int (3 : Int32), .ref 106]) dX5_init_107 rfl rfl ?_
  refine wp_cst (v := .int (11 : Int32)) dX5_init_108 rfl rfl ?_
  refine wp_call (M' := mX4_init) (av := [.ref 120, .int (11 : Int32)]) (rest := [.ref 120, .int (3 : Int32), .ref 106]) dX5_init_110 rfl rfl rfl rfl ?_
  show am_WP _ mX4_init 0 [(0, .ref 120), (1, .int (11 : Int32))] [] _ _
  refine wp_ld (v := .ref 120) dX4_init_0 rfl rfl rfl rfl ?_
  refine wq_obj dX4_init_1 rfl rfl ?_
  refine wp_ld (v := .ref 120) dX4_init_4 rfl rfl rfl rfl ?_
  refine wp_cst (v := .int (33 : Int32)) dX4_init_5 rfl rfl ?_
  refine wq_na20 (m := 121) (l := 33) dX4_init_7 rfl rfl rfl (by decide) rfl ?_
  refine wp_pR dX4_init_9 rfl rfl rfl rfl rfl rfl (Nat.le_of_ble_eq_true rfl) ?_
  refine wp_ld (v := .ref 120) dX4_init_12 rfl rfl rfl rfl ?_
  refine wp_ld (v := .int (11 : Int32)) dX4_init_13 rfl rfl rfl rfl ?_
  refine wp_cst (v := .int (11 : Int32)) dX4_init_14 rfl rfl ?_
  refine wp_mem (st' := [.int (11 : Int32), .ref 120]) dX4_init_16 rfl rfl rfl rfl ?_
  refine wq_pF dX4_init_19 rfl rfl rfl rfl rfl rfl ?_
  refine wp_end dX4_init_22 rfl rfl ?_
  show am_WP _ mX5_init 113 [(0, .ref 104), (1, .int (3 : Int32))] [.ref 120, .int (3 : Int32), .ref 106] _ _
  refine wp_aast dX5_init_113 rfl (by decide) rfl rfl rfl ?_
  show am_WP _ mX5_init 114 [(0, .ref 104), (1, .int (3 : Int32))] [] _ _
  refine wp_inc (v := (4 : Int32)) (ls' := [(0, .ref 104), (1, .int (4 : Int32))]) dX5_init_114 rfl (Nat.le_of_ble_eq_true rfl) rfl rfl ?_
  refine wp_goto dX5_init_117 rfl ?_
  refine wp_ld (v := .int (4 : Int32)) dX5_init_93 rfl rfl rfl rfl ?_
  refine wp_cst (v := .int (6 : Int32)) dX5_init_94 rfl rfl ?_
  refine wp_ic_ge dX5_init_96 rfl (fun c => absurd c (by decide)) (fun _ => ?_)
  refine wp_ld (v := .ref 104) dX5_init_99 rfl rfl rfl rfl ?_
  refine wp_gr (b := 106) dX5_init_100 rfl rfl rfl rfl ?_
  refine wp_ld (v := .int (4 : Int32)) dX5_init_103 rfl rfl rfl rfl ?_
  refine wq_new (m := 122) dX5_init_104 rfl rfl rfl rfl rfl ?_
  refine wp_pu (st' := [.ref 122, .ref 122, .int (4 : Int32), .ref 106]) dX5_init_107 rfl rfl ?_
  refine wp_cst (v := .int (11 : Int32)) dX5_init_108 rfl rfl ?_
  refine wp_call (M' := mX4_init) (av := [.ref 122, .int (11 : Int32)]) (rest := [.ref 122, .int (4 : Int32), .ref 106]) dX5_init_110 rfl rfl rfl rfl ?_
  show am_WP _ mX4_init 0 [(0, .ref 122), (1, .int (11 : Int32))] [] _ _
  refine wp_ld (v := .ref 122) dX4_init_0 rfl rfl rfl rfl ?_
  refine wq_obj dX4_init_1 rfl rfl ?_
  refine wp_ld (v := .ref 122) dX4_init_4 rfl rfl rfl rfl ?_
  refine wp_cst (v := .int (33 : Int32)) dX4_init_5 rfl rfl ?_
  refine wq_na20 (m := 123) (l := 33) dX4_init_7 rfl rfl rfl (by decide) rfl ?_
  refine wp_pR dX4_init_9 rfl rfl rfl rfl rfl rfl (Nat.le_of_ble_eq_true rfl) ?_
  refine wp_ld (v := .ref 122) dX4_init_12 rfl rfl rfl rfl ?_
  refine wp_ld (v := .int (11 : Int32)) dX4_init_13 rfl rfl rfl rfl ?_
  refine wp_cst (v := .int (11 : Int32)) dX4_init_14 rfl rfl ?_
  refine wp_mem (st' := [.int (11 : Int32), .ref 122]) dX4_init_16 rfl rfl rfl rfl ?_
  refine wq_pF dX4_init_19 rfl rfl rfl rfl rfl rfl ?_
  refine wp_end dX4_init_22 rfl rfl ?_
  show am_WP _ mX5_init 113 [(0, .ref 104), (1, .int (4 : Int32))] [.ref 122, .int (4 : Int32), .ref 106] _ _
  refine wp_aast dX5_init_113 rfl (by decide) rfl rfl rfl ?_
  show am_WP _ mX5_init 114 [(0, .ref 104), (1, .int (4 : Int32))] [] _ _
  refine wp_inc (v := (5 : Int32)) (ls' := [(0, .ref 104), (1, .int (5 : Int32))]) dX5_init_114 rfl (Nat.le_of_ble_eq_true rfl) rfl rfl ?_
  refine wp_goto dX5_init_117 rfl ?_
  refine wp_ld (v := .int (5 : Int32)) dX5_init_93 rfl rfl rfl rfl ?_
  refine wp_cst (v := .int (6 : Int32)) dX5_init_94 rfl rfl ?_
  refine wp_ic_ge dX5_init_96 rfl (fun c => absurd c (by decide)) (fun _ => ?_)
  refine wp_ld (v := .ref 104) dX5_init_99 rfl rfl rfl rfl ?_
  refine wp_gr (b := 106) dX5_init_100 rfl rfl rfl rfl ?_
  refine wp_ld (v := .int (5 : Int32)) dX5_init_103 rfl rfl rfl rfl ?_
  refine wq_new (m := 124) dX5_init_104 rfl rfl rfl rfl rfl ?_
  refine wp_pu (st' := [.ref 124, .ref 124, .int (5 : Int32), .ref 106]) dX5_init_107 rfl rfl ?_
  refine wp_cst (v := .int (11 : Int32)) dX5_init_108 rfl rfl ?_
  refine wp_call (M' := mX4_init) (av := [.ref 124, .int (11 : Int32)]) (rest := [.ref 124, .int (5 : Int32), .ref 106]) dX5_init_110 rfl rfl rfl rfl ?_
  show am_WP _ mX4_init 0 [(0, .ref 124), (1, .int (11 : Int32))] [] _ _
  refine wp_ld (v := .ref 124) dX4_init_0 rfl rfl rfl rfl ?_
  refine wq_obj dX4_init_1 rfl rfl ?_
  refine wp_ld (v := .ref 124) dX4_init_4 rfl rfl rfl rfl ?_
  refine wp_cst (v := .int (33 : Int32)) dX4_init_5 rfl rfl ?_
  refine wq_na20 (m := 125) (l := 33) dX4_init_7 rfl rfl rfl (by decide) rfl ?_
  refine wp_pR dX4_init_9 rfl rfl rfl rfl rfl rfl (Nat.le_of_ble_eq_true rfl) ?_
  refine wp_ld (v := .ref 124) dX4_init_12 rfl rfl rfl rfl ?_
  refine wp_ld (v := .int (11 : Int32)) dX4_init_13 rfl rfl rfl rfl ?_
  refine wp_cst (v := .int (11 : Int32)) dX4_init_14 rfl rfl ?_
  refine wp_mem (st' := [.int (11 : Int32), .ref 124]) dX4_init_16 rfl rfl rfl rfl ?_
  refine wq_pF dX4_init_19 rfl rfl rfl rfl rfl rfl ?_
  refine wp_end dX4_init_22 rfl rfl ?_
  show am_WP _ mX5_init 113 [(0, .ref 104), (1, .int (5 : Int32))] [.ref 124, .int (5 : Int32), .ref 106] _ _
  refine wp_aast dX5_init_113 rfl (by decide) rfl rfl rfl ?_
  show am_WP _ mX5_init 114 [(0, .ref 104), (1, .int (5 : Int32))] [] _ _
  refine wp_inc (v := (6 : Int32)) (ls' := [(0, .ref 104), (1, .int (6 : Int32))]) dX5_init_114 rfl (Nat.le_of_ble_eq_true rfl) rfl rfl ?_
  refine wp_goto dX5_init_117 rfl ?_
  refine wp_ld (v := .int (6 : Int32)) dX5_init_93 rfl rfl rfl rfl ?_
  refine wp_cst (v := .int (6 : Int32)) dX5_init_94 rfl rfl ?_
  refine wp_ic_ge dX5_init_96 rfl (fun _ => ?_) (fun c => absurd c (by decide))
  refine wp_cst (v := .int (0 : Int32)) dX5_init_120 rfl rfl ?_
  refine wp_st (ls' := [(0, .ref 104), (1, .int (0 : Int32))]) dX5_init_121 rfl rfl rfl (Nat.le_of_ble_eq_true rfl) rfl ?_
  refine wp_ld (v := .int (0 : Int32)) dX5_init_122 rfl rfl rfl rfl ?_
  refine wp_cst (v := .int (5 : Int32)) dX5_init_123 rfl rfl ?_
  refine wp_ic_ge dX5_init_124 rfl (fun c => absurd c (by decide)) (fun _ => ?_)
  refine wp_ld (v := .ref 104) dX5_init_127 rfl rfl rfl rfl ?_
  refine wp_gr (b := 107) dX5_init_128 rfl rfl rfl rfl ?_
  refine wp_ld (v := .int (0 : Int32)) dX5_init_131 rfl rfl rfl rfl ?_
  refine wq_new (m := 126) dX5_init_132 rfl rfl rfl rfl rfl ?_
  refine wp_pu (st' := [.ref 126, .ref 126, .int (0 : Int32), .ref 107]) dX5_init_135 rfl rfl ?_
  refine wp_cst (v := .int (4 : Int32)) dX5_init_136 rfl rfl ?_
  refine wp_call (M' := mX4_init) (av := [.ref 126, .int (4 : Int32)]) (rest := [.ref 126, .int (0 : Int32), .ref 107]) dX5_init_137 rfl rfl rfl rfl ?_
  show am_WP _ mX4_init 0 [(0, .ref 126), (1, .int (4 : Int32))] [] _ _
  refine wp_ld (v := .ref 126) dX4_init_0 rfl rfl rfl rfl ?_
  refine wq_obj dX4_init_1 rfl rfl ?_
  refine wp_ld (v := .ref 126) dX4_init_4 rfl rfl rfl rfl ?_
  refine wp_cst (v := .int (33 : Int32)) dX4_init_5 rfl rfl ?_
  refine wq_na20 (m := 127) (l := 33) dX4_init_7 rfl rfl rfl (by decide) rfl ?_
  refine wp_pR dX4_init_9 rfl rfl rfl rfl rfl rfl (Nat.le_of_ble_eq_true rfl) ?_
  refine wp_ld (v := .ref 126) dX4_init_12 rfl rfl rfl rfl ?_
  refine wp_ld (v := .int (4 : Int32)) dX4_init_13 rfl rfl rfl rfl ?_
  refine wp_cst (v := .int (11 : Int32)) dX4_init_14 rfl rfl ?_
  refine wp_mem (st' := [.int (4 : Int32), .ref 126]) dX4_init_16 rfl rfl rfl rfl ?_
  refine wq_pF dX4_init_19 rfl rfl rfl rfl rfl rfl ?_
  refine wp_end dX4_init_22 rfl rfl ?_
  show am_WP _ mX5_init 140 [(0, .ref 104), (1, .int (0 : Int32))] [.ref 126, .int (0 : Int32), .ref 107] _ _
  refine wp_aast dX5_init_140 rfl (by decide) rfl rfl rfl ?_
  show am_WP _ mX5_init 141 [(0, .ref 104), (1, .int (0 : Int32))] [] _ _
  refine wp_inc (v := (1 : Int32)) (ls' := [(0, .ref 104), (1, .int (1 : Int32))]) dX5_init_141 rfl (Nat.le_of_ble_eq_true rfl) rfl rfl ?_
  refine wp_goto dX5_init_144 rfl ?_
  refine wp_ld (v := .int (1 : Int32)) dX5_init_122 rfl rfl rfl rfl ?_
  refine wp_cst (v := .int (5 : Int32)) dX5_init_123 rfl rfl ?_
  refine wp_ic_ge dX5_init_124 rfl (fun c => absurd c (by decide)) (fun _ => ?_)
  refine wp_ld (v := .ref 104) dX5_init_127 rfl rfl rfl rfl ?_
  refine wp_gr (b := 107) dX5_init_128 rfl rfl rfl rfl ?_
  refine wp_ld (v := .int (1 : Int32)) dX5_init_131 rfl rfl rfl rfl ?_
  refine wq_new (m := 128) dX5_init_132 rfl rfl rfl rfl rfl ?_
  refine wp_pu (st' := [.ref 128, .ref 128, .int (1 : Int32), .ref 107]) dX5_init_135 rfl rfl ?_
  refine wp_cst (v := .int (4 : Int32)) dX5_init_136 rfl rfl ?_
  refine wp_call (M' := mX4_init) (av := [.ref 128, .int (4 : Int32)]) (rest := [.ref 128, .int (1 : Int32), .ref 107]) dX5_init_137 rfl rfl rfl rfl ?_
  show am_WP _ mX4_init 0 [(0, .ref 128), (1, .int (4 : Int32))] [] _ _
  refine wp_ld (v := .ref 128) dX4_init_0 rfl rfl rfl rfl ?_
  refine wq_obj dX4_init_1 rfl rfl ?_
  refine wp_ld (v := .ref 128) dX4_init_4 rfl rfl rfl rfl ?_
  refine wp_cst (v := .int (33 : Int32)) dX4_init_5 rfl rfl ?_
  refine wq_na20 (m := 129) (l := 33) dX4_init_7 rfl rfl rfl (by decide) rfl ?_
  refine wp_pR dX4_init_9 rfl rfl rfl rfl rfl rfl (Nat.le_of_ble_eq_true rfl) ?_
  refine wp_ld (v := .ref 128) dX4_init_12 rfl rfl rfl rfl ?_
  refine wp_ld (v := .int (4 : Int32)) dX4_init_13 rfl rfl rfl rfl ?_
  refine wp_cst (v := .int (11 : Int32)) dX4_init_14 rfl rfl ?_
  refine wp_mem (st' := [.int (4 : Int32), .ref 128]) dX4_init_16 rfl rfl rfl rfl ?_
  refine wq_pF dX4_init_19 rfl rfl rfl rfl rfl rfl ?_
  refine wp_end dX4_init_22 rfl rfl ?_
  show am_WP _ mX5_init 140 [(0, .ref 104), (1, .int (1 : Int32))] [.ref 128, .int (1 : Int32), .ref 107] _ _
  refine wp_aast dX5_init_140 rfl (by decide) rfl rfl rfl ?_
  show am_WP _ mX5_init 141 [(0, .ref 104), (1, .int (1 : Int32))] [] _ _
  refine wp_inc (v := (2 : Int32)) (ls' := [(0, .ref 104), (1, .int (2 : Int32))]) dX5_init_141 rfl (Nat.le_of_ble_eq_true rfl) rfl rfl ?_
  refine wp_goto dX5_init_144 rfl ?_
  refine wp_ld (v := .int (2 : Int32)) dX5_init_122 rfl rfl rfl rfl ?_
  refine wp_cst (v := .int (5 : Int32)) dX5_init_123 rfl rfl ?_
  refine wp_ic_ge dX5_init_124 rfl (fun c => absurd c (by decide)) (fun _ => ?_)
  refine wp_ld (v := .ref 104) dX5_init_127 rfl rfl rfl rfl ?_
  refine wp_gr (b := 107) dX5_init_128 rfl rfl rfl rfl ?_
  refine wp_ld (v := .int (2 : Int32)) dX5_init_131 rfl rfl rfl rfl ?_
  refine wq_new (m := 130) dX5_init_132 rfl rfl rfl rfl rfl ?_
  refine wp_pu (st' := [.ref 130, .ref 130, .int (2 : Int32), .ref 107]) dX5_init_135 rfl rfl ?_
  refine wp_cst (v := .int (4 : Int32)) dX5_init_136 rfl rfl ?_
  refine wp_call (M' := mX4_init) (av := [.ref 130, .int (4 : Int32)]) (rest := [.ref 130, .int (2 : Int32), .ref 107]) dX5_init_137 rfl rfl rfl rfl ?_
  show am_WP _ mX4_init 0 [(0, .ref 130), (1, .int (4 : Int32))] [] _ _
  refine wp_ld (v := .ref 130) dX4_init_0 rfl rfl rfl rfl ?_
  refine wq_obj dX4_init_1 rfl rfl ?_
  refine wp_ld (v := .ref 130) dX4_init_4 rfl rfl rfl rfl ?_
  refine wp_cst (v := .int (33 : Int32)) dX4_init_5 rfl rfl ?_
  refine wq_na20 (m := 131) (l := 33) dX4_init_7 rfl rfl rfl (by decide) rfl ?_
  refine wp_pR dX4_init_9 rfl rfl rfl rfl rfl rfl (Nat.le_of_ble_eq_true rfl) ?_
  refine wp_ld (v := .ref 130) dX4_init_12 rfl rfl rfl rfl ?_
  refine wp_ld (v := .int (4 : Int32)) dX4_init_13 rfl rfl rfl rfl ?_
  refine wp_cst (v := .int (11 : Int32)) dX4_init_14 rfl rfl ?_
  refine wp_mem (st' := [.int (4 : Int32), .ref 130]) dX4_init_16 rfl rfl rfl rfl ?_
  refine wq_pF dX4_init_19 rfl rfl rfl rfl rfl rfl ?_
  refine wp_end dX4_init_22 rfl rfl ?_
  show am_WP _ mX5_init 140 [(0, .ref 104), (1, .int (2 : Int32))] [.ref 130, .int (2 : Int32), .ref 107] _ _
  refine wp_aast dX5_init_140 rfl (by decide) rfl rfl rfl ?_
  show am_WP _ mX5_init 141 [(0, .ref 104), (1, .int (2 : Int32))] [] _ _
  refine wp_inc (v := (3 : Int32)) (ls' := [(0, .ref 104), (1, .int (3 : Int32))]) dX5_init_141 rfl (Nat.le_of_ble_eq_true rfl) rfl rfl ?_
  refine wp_goto dX5_init_144 rfl ?_
  refine wp_ld (v := .int (3 : Int32)) dX5_init_122 rfl rfl rfl rfl ?_
  refine wp_cst (v := .int (5 : Int32)) dX5_init_123 rfl rfl ?_
  refine wp_ic_ge dX5_init_124 rfl (fun c => absurd c (by decide)) (fun _ => ?_)
  refine wp_ld (v := .ref 104) dX5_init_127 rfl rfl rfl rfl ?_
  refine wp_gr (b := 107) dX5_init_128 rfl rfl rfl rfl ?_
  refine wp_ld (v := .int (3 : Int32)) dX5_init_131 rfl rfl rfl rfl ?_
  refine wq_new (m := 132) dX5_init_132 rfl rfl rfl rfl rfl ?_
  refine wp_pu (st' := [.ref 132, .ref 132, .int (3 : Int32), .ref 107]) dX5_init_135 rfl rfl ?_
  refine wp_cst (v := .int (4 : Int32)) dX5_init_136 rfl rfl ?_
  refine wp_call (M' := mX4_init) (av := [.ref 132, .int (4 : Int32)]) (rest := [.ref 132, .int (3 : Int32), .ref 107]) dX5_init_137 rfl rfl rfl rfl ?_
  show am_WP _ mX4_init 0 [(0, .ref 132), (1, .int (4 : Int32))] [] _ _
  refine wp_ld (v := .ref 132) dX4_init_0 rfl rfl rfl rfl ?_
  refine wq_obj dX4_init_1 rfl rfl ?_
  refine wp_ld (v := .ref 132) dX4_init_4 rfl rfl rfl rfl ?_
  refine wp_cst (v := .int (33 : Int32)) dX4_init_5 rfl rfl ?_
  refine wq_na20 (m := 133) (l := 33) dX4_init_7 rfl rfl rfl (by decide) rfl ?_
  refine wp_pR dX4_init_9 rfl rfl rfl rfl rfl rfl (Nat.le_of_ble_eq_true rfl) ?_
  refine wp_ld (v := .ref 132) dX4_init_12 rfl rfl rfl rfl ?_
  refine wp_ld (v := .int (4 : Int32)) dX4_init_13 rfl rfl rfl rfl ?_
  refine wp_cst (v := .int (11 : Int32)) dX4_init_14 rfl rfl ?_
  refine wp_mem (st' := [.int (4 : Int32), .ref 132]) dX4_init_16 rfl rfl rfl rfl ?_
  refine wq_pF dX4_init_19 rfl rfl rfl rfl rfl rfl ?_
  refine wp_end dX4_init_22 rfl rfl ?_
  show am_WP _ mX5_init 140 [(0, .ref 104), (1, .int (3 : Int32))] [.ref 132, .int (3 : Int32), .ref 107] _ _
  refine wp_aast dX5_init_140 rfl (by decide) rfl rfl rfl ?_
  show am_WP _ mX5_init 141 [(0, .ref 104), (1, .int (3 : Int32))] [] _ _
  refine wp_inc (v := (4 : Int32)) (ls' := [(0, .ref 104), (1, .int (4 : Int32))]) dX5_init_141 rfl (Nat.le_of_ble_eq_true rfl) rfl rfl ?_
  refine wp_goto dX5_init_144 rfl ?_
  refine wp_ld (v := .int (4 : Int32)) dX5_init_122 rfl rfl rfl rfl ?_
  refine wp_cst (v := .int (5 : Int32)) dX5_init_123 rfl rfl ?_
  refine wp_ic_ge dX5_init_124 rfl (fun c => absurd c (by decide)) (fun _ => ?_)
  refine wp_ld (v := .ref 104) dX5_init_127 rfl rfl rfl rfl ?_
  refine wp_gr (b := 107) dX5_init_128 rfl rfl rfl rfl ?_
  refine wp_ld (v := .int (4 : Int32)) dX5_init_131 rfl rfl rfl rfl ?_
  refine wq_new (m := 134) dX5_init_132 rfl rfl rfl rfl rfl ?_
  refine wp_pu (st' := [.ref 134, .ref 134, .int (4 : Int32), .ref 107]) dX5_init_135 rfl rfl ?_
  refine wp_cst (v := .int (4 : Int32)) dX5_init_136 rfl rfl ?_
  refine wp_call (M' := mX4_init) (av := [.ref 134, .int (4 : Int32)]) (rest := [.ref 134, .int (4 : Int32), .ref 107]) dX5_init_137 rfl rfl rfl rfl ?_
  show am_WP _ mX4_init 0 [(0, .ref 134), (1, .int (4 : Int32))] [] _ _
  refine wp_ld (v := .ref 134) dX4_init_0 rfl rfl rfl rfl ?_
  refine wq_obj dX4_init_1 rfl rfl ?_
  refine wp_ld (v := .ref 134) dX4_init_4 rfl rfl rfl rfl ?_
  refine wp_cst (v := .int (33 : Int32)) dX4_init_5 rfl rfl ?_
  refine wq_na20 (m := 135) (l := 33) dX4_init_7 rfl rfl rfl (by decide) rfl ?_
  refine wp_pR dX4_init_9 rfl rfl rfl rfl rfl rfl (Nat.le_of_ble_eq_true rfl) ?_
  refine wp_ld (v := .ref 134) dX4_init_12 rfl rfl rfl rfl ?_
  refine wp_ld (v := .int (4 : Int32)) dX4_init_13 rfl rfl rfl rfl ?_
  refine wp_cst (v := .int (11 : Int32)) dX4_init_14 rfl rfl ?_
  refine wp_mem (st' := [.int (4 : Int32), .ref 134]) dX4_init_16 rfl rfl rfl rfl ?_
  refine wq_pF dX4_init_19 rfl rfl rfl rfl rfl rfl ?_
  refine wp_end dX4_init_22 rfl rfl ?_
  show am_WP _ mX5_init 140 [(0, .ref 104), (1, .int (4 : Int32))] [.ref 134, .int (4 : Int32), .ref 107] _ _
  refine wp_aast dX5_init_140 rfl (by decide) rfl rfl rfl ?_
  show am_WP _ mX5_init 141 [(0, .ref 104), (1, .int (4 : Int32))] [] _ _
  refine wp_inc (v := (5 : Int32)) (ls' := [(0, .ref 104), (1, .int (5 : Int32))]) dX5_init_141 rfl (Nat.le_of_ble_eq_true rfl) rfl rfl ?_
  refine wp_goto dX5_init_144 rfl ?_
  refine wp_ld (v := .int (5 : Int32)) dX5_init_122 rfl rfl rfl rfl ?_
  refine wp_cst (v := .int (5 : Int32)) dX5_init_123 rfl rfl ?_
  refine wp_ic_ge dX5_init_124 rfl (fun _ => ?_) (fun c => absurd c (by decide))
  refine wp_end dX5_init_147 rfl rfl ?_
  exact hQ
end ST104
section ST136
set_option maxRecDepth 100000 in
theorem st136 {d : Nat} {I : Nat → Nat → Int32} {L : Nat → Nat → Int64} {R : Nat → Nat → Option Nat} {K : Nat → Nat × Nat} {c z : Nat} {Q : am_O → am_S → Prop} (hF : K 3000000 = (19, 23)) (hQ : Q (.inl none) (nSt 136 (I, L, R, K, 136, c, z))) : am_WP (d + 1) mX5_init 0 [(0, .ref 136)] [] (am_nat (I, L, R, K, 136, c, z) 136 5 0 11) Q := by
  refine wp_ld (v := .ref 136) dX5_init_0 rfl rfl rfl rfl ?_
  refine wq_obj dX5_init_1 rfl rfl ?_
  refine wp_ld (v := .ref 136) dX5_init_4 rfl rfl rfl rfl ?_
  refine wp_cst (v := .int (8 : Int32)) dX5_init_5 rfl rfl ?_
  refine wp_pI dX5_init_7 rfl rfl rfl (by decide) rfl ?_
  refine wp_ld (v := .ref 136) dX5_init_10 rfl rfl rfl rfl ?_
  refine wp_cst (v := .int (6 : Int32)) dX5_init_11 rfl rfl ?_
  refine wp_pI dX5_init_13 rfl rfl rfl (by decide) rfl ?_
  refine wp_ld (v := .ref 136) dX5_init_16 rfl rfl rfl rfl ?_
  refine wp_cst (v := .int (23 : Int32)) dX5_init_17 rfl rfl ?_
  refine wq_na20 (m := 137) (l := 23) dX5_init_19 rfl rfl rfl (by decide) rfl ?_
  refine wp_pR dX5_init_21 rfl rfl rfl rfl rfl rfl (Nat.le_of_ble_eq_true rfl) ?_
  refine wp_ld (v := .ref 136) dX5_init_24 rfl rfl rfl rfl ?_
  refine wp_cst (v := .int (6 : Int32)) dX5_init_25 rfl rfl ?_
  refine wq_ana (m := 138) (l := 6) (kd := 23) dX5_init_27 rfl rfl rfl rfl (by decide) rfl ?_
  refine wp_pR dX5_init_30 rfl rfl rfl rfl rfl rfl (Nat.le_of_ble_eq_true rfl) ?_
  refine wp_ld (v := .ref 136) dX5_init_33 rfl rfl rfl rfl ?_
  refine wp_cst (v := .int (5 : Int32)) dX5_init_34 rfl rfl ?_
  refine wq_ana (m := 139) (l := 5) (kd := 23) dX5_init_35 rfl rfl rfl rfl (by decide) rfl ?_
  refine wp_pR dX5_init_38 rfl rfl rfl rfl rfl rfl (Nat.le_of_ble_eq_true rfl) ?_
  refine wp_ld (v := .ref 136) dX5_init_41 rfl rfl rfl rfl ?_
  refine wq_new (m := 140) dX5_init_42 rfl rfl rfl rfl rfl ?_
  refine wp_pu (st' := [.ref 140, .ref 140, .ref 136]) dX5_init_45 rfl rfl ?_
  refine wp_cst (v := .int (4 : Int32)) dX5_init_46 rfl rfl ?_
  refine wp_call (M' := mX4_init) (av := [.ref 140, .int (4 : Int32)]) (rest := [.ref 140, .ref 136]) dX5_init_47 rfl rfl rfl rfl ?_
  show am_WP _ mX4_init 0 [(0, .ref 140), (1, .int (4 : Int32))] [] _ _
  refine wp_ld (v := .ref 140) dX4_init_0 rfl rfl rfl rfl ?_
  refine wq_obj dX4_init_1 rfl rfl ?_
  refine wp_ld (v := .ref 140) dX4_init_4 rfl rfl rfl rfl ?_
  refine wp_cst (v := .int (33 : Int32)) dX4_init_5 rfl rfl ?_
  refine wq_na20 (m := 141) (l := 33) dX4_init_7 rfl rfl rfl (by decide) rfl ?_
  refine wp_pR dX4_init_9 rfl rfl rfl rfl rfl rfl (Nat.le_of_ble_eq_true rfl) ?_
  refine wp_ld (v := .ref 140) dX4_init_12 rfl rfl rfl rfl ?_
  refine wp_ld (v := .int (4 : Int32)) dX4_init_13 rfl rfl rfl rfl ?_
  refine wp_cst (v := .int (11 : Int32)) dX4_init_14 rfl rfl ?_
  refine wp_mem (st' := [.int (4 : Int32), .ref 140]) dX4_init_16 rfl rfl rfl rfl ?_
  refine wq_pF dX4_init_19 rfl rfl rfl rfl rfl rfl ?_
  refine wp_end dX4_init_22 rfl rfl ?_
  show am_WP _ mX5_init 50 [(0, .ref 136)] [.ref 140, .ref 136] _ _
  refine wp_pR dX5_init_50 rfl rfl rfl rfl rfl rfl (Nat.le_of_ble_eq_true rfl) ?_
  refine wp_ld (v := .ref 136) dX5_init_53 rfl rfl rfl rfl ?_
  refine wq_new (m := 142) dX5_init_54 rfl rfl rfl rfl rfl ?_
  refine wp_pu (st' := [.ref 142, .ref 142, .ref 136]) dX5_init_57 rfl rfl ?_
  refine wp_cst (v := .int (3 : Int32)) dX5_init_58 rfl rfl ?_
  refine wp_call (M' := mX4_init) (av := [.ref 142, .int (3 : Int32)]) (rest := [.ref 142, .ref 136]) dX5_init_59 rfl rfl rfl rfl ?_
  show am_WP _ mX4_init 0 [(0, .ref 142), (1, .int (3 : Int32))] [] _ _
  refine wp_ld (v := .ref 142) dX4_init_0 rfl rfl rfl rfl ?_
  refine wq_obj dX4_init_1 rfl rfl ?_
  refine wp_ld (v := .ref 142) dX4_init_4 rfl rfl rfl rfl ?_
  refine wp_cst (v := .int (33 : Int32)) dX4_init_5 rfl rfl ?_
  refine wq_na20 (m := 143) (l := 33) dX4_init_7 rfl rfl rfl (by decide) rfl ?_
  refine wp_pR dX4_init_9 rfl rfl rfl rfl rfl rfl (Nat.le_of_ble_eq_true rfl) ?_
  refine wp_ld (v := .ref 142) dX4_init_12 rfl rfl rfl rfl ?_
  refine wp_ld (v := .int (3 : Int32)) dX4_init_13 rfl rfl rfl rfl ?_
  refine wp_cst (v := .int (11 : Int32)) dX4_init_14 rfl rfl ?_
  refine wp_mem (st' := [.int (3 : Int32), .ref 142]) dX4_init_16 rfl rfl rfl rfl ?_
  refine wq_pF dX4_init_19 rfl rfl rfl rfl rfl rfl ?_
  refine wp_end dX4_init_22 rfl rfl ?_
  show am_WP _ mX5_init 62 [(0, .ref 136)] [.ref 142, .ref 136] _ _
  refine wp_pR dX5_init_62 rfl rfl rfl rfl rfl rfl (Nat.le_of_ble_eq_true rfl) ?_
  refine wp_ld (v := .ref 136) dX5_init_65 rfl rfl rfl rfl ?_
  refine wq_new (m := 144) dX5_init_66 rfl rfl rfl rfl rfl ?_
  refine wp_pu (st' := [.ref 144, .ref 144, .ref 136]) dX5_init_69 rfl rfl ?_
  refine wp_cst (v := .int (4 : Int32)) dX5_init_70 rfl rfl ?_
  refine wp_call (M' := mX4_init) (av := [.ref 144, .int (4 : Int32)]) (rest := [.ref 144, .ref 136]) dX5_init_71 rfl rfl rfl rfl ?_
  show am_WP _ mX4_init 0 [(0, .ref 144), (1, .int (4 : Int32))] [] _ _
  refine wp_ld (v := .ref 144) dX4_init_0 rfl rfl rfl rfl ?_
  refine wq_obj dX4_init_1 rfl rfl ?_
  refine wp_ld (v := .ref 144) dX4_init_4 rfl rfl rfl rfl ?_
  refine wp_cst (v := .int (33 : Int32)) dX4_init_5 rfl rfl ?_
  refine wq_na20 (m := 145) (l := 33) dX4_init_7 rfl rfl rfl (by decide) rfl ?_
  refine wp_pR dX4_init_9 rfl rfl rfl rfl rfl rfl (Nat.le_of_ble_eq_true rfl) ?_
  refine wp_ld (v := .ref 144) dX4_init_12 rfl rfl rfl rfl ?_
  refine wp_ld (v := .int (4 : Int32)) dX4_init_13 rfl rfl rfl rfl ?_
  refine wp_cst (v := .int (11 : Int32)) dX4_init_14 rfl rfl ?_
  refine wp_mem (st' := [.int (4 : Int32), .ref 144]) dX4_init_16 rfl rfl rfl rfl ?_
  refine wq_pF dX4_init_19 rfl rfl rfl rfl rfl rfl ?_
  refine wp_end dX4_init_22 rfl rfl ?_
  show am_WP _ mX5_init 74 [(0, .ref 136)] [.ref 144, .ref 136] _ _
  refine wp_pR dX5_init_74 rfl rfl rfl rfl rfl rfl (Nat.le_of_ble_eq_true rfl) ?_
  refine wp_cst (v := .ref 3000000) dX5_init_77 rfl rfl ?_
  refine wp_cst (v := .int (0 : Int32)) dX5_init_80 rfl rfl ?_
  refine wp_ld (v := .ref 136) dX5_init_81 rfl rfl rfl rfl ?_
  refine wp_gr (b := 137) dX5_init_82 rfl rfl rfl rfl ?_
  refine wp_cst (v := .int (0 : Int32)) dX5_init_85 rfl rfl ?_
  refine wp_cst (v := .int (23 : Int32)) dX5_init_86 rfl rfl ?_
  refine wq_ac (m := 23) dX5_init_88 rfl hF (by decide) rfl rfl rfl rfl (by decide) (by decide) (by decide) (by decide) ?_
  refine wp_cst (v := .int (0 : Int32)) dX5_init_91 rfl rfl ?_
  refine wp_st (ls' := [(0, .ref 136), (1, .int (0 : Int32))]) dX5_init_92 rfl rfl rfl (Nat.le_of_ble_eq_true rfl) rfl ?_
  refine wp_ld (v := .int (0 : Int32)) dX5_init_93 rfl rfl rfl rfl ?_
  refine wp_cst (v := .int (6 : Int32)) dX5_init_94 rfl rfl ?_
  refine wp_ic_ge dX5_init_96 rfl (fun c => absurd c (by decide)) (fun _ => ?_)
  refine wp_ld (v := .ref 136) dX5_init_99 rfl rfl rfl rfl ?_
  refine wp_gr (b := 138) dX5_init_100 rfl rfl rfl rfl ?_
  refine wp_ld (v := .int (0 : Int32)) dX5_init_103 rfl rfl rfl rfl ?_
  refine wq_new (m := 146) dX5_init_104 rfl rfl rfl rfl rfl ?_
  refine wp_pu (st' := [.ref 146, .ref 146, .int (0 : Int32), .ref 138]) dX5_init_107 rfl rfl ?_
  refine wp_cst (v := .int (11 : Int32)) dX5_init_108 rfl rfl ?_
  refine wp_call (M' := mX4_init) (av := [.ref 146, .int (11 : Int32)]) (rest := [.ref 146, .int (0 : Int32), .ref 138]) dX5_init_110 rfl rfl rfl rfl ?_
  show am_WP _ mX4_init 0 [(0, .ref 146), (1, .int (11 : Int32))] [] _ _
  refine wp_ld (v := .ref 146) dX4_init_0 rfl rfl rfl rfl ?_
  refine wq_obj dX4_init_1 rfl rfl ?_
  refine wp_ld (v := .ref 146) dX4_init_4 rfl rfl rfl rfl ?_
  refine wp_cst (v := .int (33 : Int32)) dX4_init_5 rfl rfl ?_
  refine wq_na20 (m := 147) (l := 33) dX4_init_7 rfl rfl rfl (by decide) rfl ?_
  refine wp_pR dX4_init_9 rfl rfl rfl rfl rfl rfl (Nat.le_of_ble_eq_true rfl) ?_
  refine wp_ld (v := .ref 146) dX4_init_12 rfl rfl rfl rfl ?_
  refine wp_ld (v := .int (11 : Int32)) dX4_init_13 rfl rfl rfl rfl ?_
  refine wp_cst (v := .int (11 : Int32)) dX4_init_14 rfl rfl ?_
  refine wp_mem (st' := [.int (11 : Int32), .ref 146]) dX4_init_16 rfl rfl rfl rfl ?_
  refine wq_pF dX4_init_19 rfl rfl rfl rfl rfl rfl ?_
  refine wp_end dX4_init_22 rfl rfl ?_
  show am_WP _ mX5_init 113 [(0, .ref 136), (1, .int (0 : Int32))] [.ref 146, .int (0 : Int32), .ref 138] _ _
  refine wp_aast dX5_init_113 rfl (by decide) rfl rfl rfl ?_
  show am_WP _ mX5_init 114 [(0, .ref 136), (1, .int (0 : Int32))] [] _ _
  refine wp_inc (v := (1 : Int32)) (ls' := [(0, .ref 136), (1, .int (1 : Int32))]) dX5_init_114 rfl (Nat.le_of_ble_eq_true rfl) rfl rfl ?_
  refine wp_goto dX5_init_117 rfl ?_
  refine wp_ld (v := .int (1 : Int32)) dX5_init_93 rfl rfl rfl rfl ?_
  refine wp_cst (v := .int (6 : Int32)) dX5_init_94 rfl rfl ?_
  refine wp_ic_ge dX5_init_96 rfl (fun c => absurd c (by decide)) (fun _ => ?_)
  refine wp_ld (v := .ref 136) dX5_init_99 rfl rfl rfl rfl ?_
  refine wp_gr (b := 138) dX5_init_100 rfl rfl rfl rfl ?_
  refine wp_ld (v := .int (1 : Int32)) dX5_init_103 rfl rfl rfl rfl ?_
  refine wq_new (m := 148) dX5_init_104 rfl rfl rfl rfl rfl ?_
  refine wp_pu (st' := [.ref 148, .ref 148, .int (1 : Int32), .ref 138]) dX5_init_107 rfl rfl ?_
  refine wp_cst (v := .int (11 : Int32)) dX5_init_108 rfl rfl ?_
  refine wp_call (M' := mX4_init) (av := [.ref 148, .int (11 : Int32)]) (rest := [.ref 148, .int (1 : Int32), .ref 138]) dX5_init_110 rfl rfl rfl rfl ?_
  show am_WP _ mX4_init 0 [(0, .ref 148), (1, .int (11 : Int32))] [] _ _
  refine wp_ld (v := .ref 148) dX4_init_0 rfl rfl rfl rfl ?_
  refine wq_obj dX4_init_1 rfl rfl ?_
  refine wp_ld (v := .ref 148) dX4_init_4 rfl rfl rfl rfl ?_
  refine wp_cst (v := .int (33 : Int32)) dX4_init_5 rfl rfl ?_
  refine wq_na20 (m := 149) (l := 33) dX4_init_7 rfl rfl rfl (by decide) rfl ?_
  refine wp_pR dX4_init_9 rfl rfl rfl rfl rfl rfl (Nat.le_of_ble_eq_true rfl) ?_
  refine wp_ld (v := .ref 148) dX4_init_12 rfl rfl rfl rfl ?_
  refine wp_ld (v := .int (11 : Int32)) dX4_init_13 rfl rfl rfl rfl ?_
  refine wp_cst (v := .int (11 : Int32)) dX4_init_14 rfl rfl ?_
  refine wp_mem (st' := [.int (11 : Int32), .ref 148]) dX4_init_16 rfl rfl rfl rfl ?_
  refine wq_pF dX4_init_19 rfl rfl rfl rfl rfl rfl ?_
  refine wp_end dX4_init_22 rfl rfl ?_
  show am_WP _ mX5_init 113 [(0, .ref 136), (1, .int (1 : Int32))] [.ref 148, .int (1 : Int32), .ref 138] _ _
  refine wp_aast dX5_init_113 rfl (by decide) rfl rfl rfl ?_
  show am_WP _ mX5_init 114 [(0, .ref 136), (1, .int (1 : Int32))] [] _ _
  refine wp_inc (v := (2 : Int32)) (ls' := [(0, .ref 136), (1, .int (2 : Int32))]) dX5_init_114 rfl (Nat.le_of_ble_eq_true rfl) rfl rfl ?_
  refine wp_goto dX5_init_117 rfl ?_
  refine wp_ld (v := .int (2 : Int32)) dX5_init_93 rfl rfl rfl rfl ?_
  refine wp_cst (v := .int (6 : Int32)) dX5_init_94 rfl rfl ?_
  refine wp_ic_ge dX5_init_96 rfl (fun c => absurd c (by decide)) (fun _ => ?_)
  refine wp_ld (v := .ref 136) dX5_init_99 rfl rfl rfl rfl ?_
  refine wp_gr (b := 138) dX5_init_100 rfl rfl rfl rfl ?_
  refine wp_ld (v := .int (2 : Int32)) dX5_init_103 rfl rfl rfl rfl ?_
  refine wq_new (m := 150) dX5_init_104 rfl rfl rfl rfl rfl ?_
  refine wp_pu (st' := [.ref 150, .ref 150, .int (2 : Int32), .ref 138]) dX5_init_107 rfl rfl ?_
  refine wp_cst (v := .int (11 : Int32)) dX5_init_108 rfl rfl ?_
  refine wp_call (M' := mX4_init) (av := [.ref 150, .int (11 : Int32)]) (rest := [.ref 150, .int (2 : Int32), .ref 138]) dX5_init_110 rfl rfl rfl rfl ?_
  show am_WP _ mX4_init 0 [(0, .ref 150), (1, .int (11 : Int32))] [] _ _
  refine wp_ld (v := .ref 150) dX4_init_0 rfl rfl rfl rfl ?_
  refine wq_obj dX4_init_1 rfl rfl ?_
  refine wp_ld (v := .ref 150) dX4_init_4 rfl rfl rfl rfl ?_
  refine wp_cst (v := .int (33 : Int32)) dX4_init_5 rfl rfl ?_
  refine wq_na20 (m := 151) (l := 33) dX4_init_7 rfl rfl rfl (by decide) rfl ?_
  refine wp_pR dX4_init_9 rfl rfl rfl rfl rfl rfl (Nat.le_of_ble_eq_true rfl) ?_
  refine wp_ld (v := .ref 150) dX4_init_12 rfl rfl rfl rfl ?_
  refine wp_ld (v := .int (11 : Int32)) dX4_init_13 rfl rfl rfl rfl ?_
  refine wp_cst (v := .int (11 : Int32)) dX4_init_14 rfl rfl ?_
  refine wp_mem (st' := [.int (11 : Int32), .ref 150]) dX4_init_16 rfl rfl rfl rfl ?_
  refine wq_pF dX4_init_19 rfl rfl rfl rfl rfl rfl ?_
  refine wp_end dX4_init_22 rfl rfl ?_
  show am_WP _ mX5_init 113 [(0, .ref 136), (1, .int (2 : Int32))] [.ref 150, .int (2 : Int32), .ref 138] _ _
  refine wp_aast dX5_init_113 rfl (by decide) rfl rfl rfl ?_
  show am_WP _ mX5_init 114 [(0, .ref 136), (1, .int (2 : Int32))] [] _ _
  refine wp_inc (v := (3 : Int32)) (ls' := [(0, .ref 136), (1, .int (3 : Int32))]) dX5_init_114 rfl (Nat.le_of_ble_eq_true rfl) rfl rfl ?_
  refine wp_goto dX5_init_117 rfl ?_
  refine wp_ld (v := .int (3 : Int32)) dX5_init_93 rfl rfl rfl rfl ?_
  refine wp_cst (v := .int (6 : Int32)) dX5_init_94 rfl rfl ?_
  refine wp_ic_ge dX5_init_96 rfl (fun c => absurd c (by decide)) (fun _ => ?_)
  refine wp_ld (v := .ref 136) dX5_init_99 rfl rfl rfl rfl ?_
  refine wp_gr (b := 138) dX5_init_100 rfl rfl rfl rfl ?_
  refine wp_ld (v := .int (3 : Int32)) dX5_init_103 rfl rfl rfl rfl ?_
  refine wq_new (m := 152) dX5_init_104 rfl rfl rfl rfl rfl ?_
  refine wp_pu (st' := [.ref 152, .ref 152, .int (3 : Int32), .ref 138]) dX5_init_107 rfl rfl ?_
  refine wp_cst (v := .int (11 : Int32)) dX5_init_108 rfl rfl ?_
  refine wp_call (M' := mX4_init) (av := [.ref 152, .int (11 : Int32)]) (rest := [.ref 152, .int (3 : Int32), .ref 138]) dX5_init_110 rfl rfl rfl rfl ?_
  show am_WP _ mX4_init 0 [(0, .ref 152), (1, .int (11 : Int32))] [] _ _
  refine wp_ld (v := .ref 152) dX4_init_0 rfl rfl rfl rfl ?_
  refine wq_obj dX4_init_1 rfl rfl ?_
  refine wp_ld (v := .ref 152) dX4_init_4 rfl rfl rfl rfl ?_
  refine wp_cst (v := .int (33 : Int32)) dX4_init_5 rfl rfl ?_
  refine wq_na20 (m := 153) (l := 33) dX4_init_7 rfl rfl rfl (by decide) rfl ?_
  refine wp_pR dX4_init_9 rfl rfl rfl rfl rfl rfl (Nat.le_of_ble_eq_true rfl) ?_
  refine wp_ld (v := .ref 152) dX4_init_12 rfl rfl rfl rfl ?_
  refine wp_ld (v := .int (11 : Int32)) dX4_init_13 rfl rfl rfl rfl ?_
  refine wp_cst (v := .int (11 : Int32)) dX4_init_14 rfl rfl ?_
  refine wp_mem (st' := [.int (11 : Int32), .ref 152]) dX4_init_16 rfl rfl rfl rfl ?_
  refine wq_pF dX4_init_19 rfl rfl rfl rfl rfl rfl ?_
  refine wp_end dX4_init_22 rfl rfl ?_
  show am_WP _ mX5_init 113 [(0, .ref 136), (1, .int (3 : Int32))] [.ref 152, .int (3 : Int32), .ref 138] _ _
  refine wp_aast dX5_init_113 rfl (by decide) rfl rfl rfl ?_
  show am_WP _ mX5_init 114 [(0, .ref 136), (1, .int (3 : Int32))] [] _ _
  refine wp_inc (v := (4 : Int32)) (ls' := [(0, .ref 136), (1, .int (4 : Int32))]) dX5_init_114 rfl (Nat.le_of_ble_eq_true rfl) rfl rfl ?_
  refine wp_goto dX5_init_117 rfl ?_
  refine wp_ld (v := .int (4 : Int32)) dX5_init_93 rfl rfl rfl rfl ?_
  refine wp_cst (v := .int (6 : Int32)) dX5_init_94 rfl rfl ?_
  refine wp_ic_ge dX5_init_96 rfl (fun c => absurd c (by decide)) (fun _ => ?_)
  refine wp_ld (v := .ref 136) dX5_init_99 rfl rfl rfl rfl ?_
  refine wp_gr (b := 138) dX5_init_100 rfl rfl rfl rfl ?_
  refine wp_ld (v := .int (4 : Int32)) dX5_init_103 rfl rfl rfl rfl ?_
  refine wq_new (m := 154) dX5_init_104 rfl rfl rfl rfl rfl ?_
  refine wp_pu (st' := [.ref 154, .ref 154, .int (4 : Int32), .ref 138]) dX5_init_107 rfl rfl ?_
  refine wp_cst (v := .int (11 : Int32)) dX5_init_108 rfl rfl ?_
  refine wp_call (M' := mX4_init) (av := [.ref 154, .int (11 : Int32)]) (rest := [.ref 154, .int (4 : Int32), .ref 138]) dX5_init_110 rfl rfl rfl rfl ?_
  show am_WP _ mX4_init 0 [(0, .ref 154), (1, .int (11 : Int32))] [] _ _
  refine wp_ld (v := .ref 154) dX4_init_0 rfl rfl rfl rfl ?_
  refine wq_obj dX4_init_1 rfl rfl ?_
  refine wp_ld (v := .ref 154) dX4_init_4 rfl rfl rfl rfl ?_
  refine wp_cst (v := .int (33 : Int32)) dX4_init_5 rfl rfl ?_
  refine wq_na20 (m := 155) (l := 33) dX4_init_7 rfl rfl rfl (by decide) rfl ?_
  refine wp_pR dX4_init_9 rfl rfl rfl rfl rfl rfl (Nat.le_of_ble_eq_true rfl) ?_
  refine wp_ld (v := .ref 154) dX4_init_12 rfl rfl rfl rfl ?_
  refine wp_ld (v := .int (11 : Int32)) dX4_init_13 rfl rfl rfl rfl ?_
  refine wp_cst (v := .int (11 : Int32)) dX4_init_14 rfl rfl ?_
  refine wp_mem (st' := [.int (11 : Int32), .ref 154]) dX4_init_16 rfl rfl rfl rfl ?_
  refine wq_pF dX4_init_19 rfl rfl rfl rfl rfl rfl ?_
  refine wp_end dX4_init_22 rfl rfl ?_
  show am_WP _ mX5_init 113 [(0, .ref 136), (1, .int (4 : Int32))] [.ref 154, .int (4 : Int32), .ref 138] _ _
  refine wp_aast dX5_init_113 rfl (by decide) rfl rfl rfl ?_
  show am_WP _ mX5_init 114 [(0, .ref 136), (1, .int (4 : Int32))] [] _ _
  refine wp_inc (v := (5 : Int32)) (ls' := [(0, .ref 136), (1, .int (5 : Int32))]) dX5_init_114 rfl (Nat.le_of_ble_eq_true rfl) rfl rfl ?_
  refine wp_goto dX5_init_117 rfl ?_
  refine wp_ld (v := .int (5 : Int32)) dX5_init_93 rfl rfl rfl rfl ?_
  refine wp_cst (v := .int (6 : Int32)) dX5_init_94 rfl rfl ?_
  refine wp_ic_ge dX5_init_96 rfl (fun c => absurd c (by decide)) (fun _ => ?_)
  refine wp_ld (v := .ref 136) dX5_init_99 rfl rfl rfl rfl ?_
  refine wp_gr (b := 138) dX5_init_100 rfl rfl rfl rfl ?_
  refine wp_ld (v := .int (5 : Int32)) dX5_init_103 rfl rfl rfl rfl ?_
  refine wq_new (m := 156) dX5_init_104 rfl rfl rfl rfl rfl ?_
  refine wp_pu (st' := [.ref 156, .ref 156, .int (5 : Int32), .ref 138]) dX5_init_107 rfl rfl ?_
  refine wp_cst (v := .int (11 : Int32)) dX5_init_108 rfl rfl ?_
  refine wp_call (M' := mX4_init) (av := [.ref 156, .int (11 : Int32)]) (rest := [.ref 156, .int (5 : Int32), .ref 138]) dX5_init_110 rfl rfl rfl rfl ?_
  show am_WP _ mX4_init 0 [(0, .ref 156), (1, .int (11 : Int32))] [] _ _
  refine wp_ld (v := .ref 156) dX4_init_0 rfl rfl rfl rfl ?_
  refine wq_obj dX4_init_1 rfl rfl ?_
  refine wp_ld (v := .ref 156) dX4_init_4 rfl rfl rfl rfl ?_
  refine wp_cst (v := .int (33 : Int32)) dX4_init_5 rfl rfl ?_
  refine wq_na20 (m := 157) (l := 33) dX4_init_7 rfl rfl rfl (by decide) rfl ?_
  refine wp_pR dX4_init_9 rfl rfl rfl rfl rfl rfl (Nat.le_of_ble_eq_true rfl) ?_
  refine wp_ld (v := .ref 156) dX4_init_12 rfl rfl rfl rfl ?_
  refine wp_ld (v := .int (11 : Int32)) dX4_init_13 rfl rfl rfl rfl ?_
  refine wp_cst (v := .int (11 : Int32)) dX4_init_14 rfl rfl ?_
  refine wp_mem (st' := [.int (11 : Int32), .ref 156]) dX4_init_16 rfl rfl rfl rfl ?_
  refine wq_pF dX4_init_19 rfl rfl rfl rfl rfl rfl ?_
  refine wp_end dX4_init_22 rfl rfl ?_
  show am_WP _ mX5_init 113 [(0, .ref 136), (1, .int (5 : Int32))] [.ref 156, .int (5 : Int32), .ref 138] _ _
  refine wp_aast dX5_init_113 rfl (by decide) rfl rfl rfl ?_
  show am_WP _ mX5_init 114 [(0, .ref 136), (1, .int (5 : Int32))] [] _ _
  refine wp_inc (v := (6 : Int32)) (ls' := [(0, .ref 136), (1, .int (6 : Int32))]) dX5_init_114 rfl (Nat.le_of_ble_eq_true rfl) rfl rfl ?_
  refine wp_goto dX5_init_117 rfl ?_
  refine wp_ld (v := .int (6 : Int32)) dX5_init_93 rfl rfl rfl rfl ?_
  refine wp_cst (v := .int (6 : Int32)) dX5_init_94 rfl rfl ?_
  refine wp_ic_ge dX5_init_96 rfl (fun _ => ?_) (fun c => absurd c (by decide))
  refine wp_cst (v := .int (0 : Int32)) dX5_init_120 rfl rfl ?_
  refine wp_st (ls' := [(0, .ref 136), (1, .int (0 : Int32))]) dX5_init_121 rfl rfl rfl (Nat.le_of_ble_eq_true rfl) rfl ?_
  refine wp_ld (v := .int (0 : Int32)) dX5_init_122 rfl rfl rfl rfl ?_
  refine wp_cst (v := .int (5 : Int32)) dX5_init_123 rfl rfl ?_
  refine wp_ic_ge dX5_init_124 rfl (fun c => absurd c (by decide)) (fun _ => ?_)
  refine wp_ld (v := .ref 136) dX5_init_127 rfl rfl rfl rfl ?_
  refine wp_gr (b := 139) dX5_init_128 rfl rfl rfl rfl ?_
  refine wp_ld (v := .int (0 : Int32)) dX5_init_131 rfl rfl rfl rfl ?_
  refine wq_new (m := 158) dX5_init_132 rfl rfl rfl rfl rfl ?_
  refine wp_pu (st' := [.ref 158, .ref 158, .int (0 : Int32), .ref 139]) dX5_init_135 rfl rfl ?_
  refine wp_cst (v := .int (4 : Int32)) dX5_init_136 rfl rfl ?_
  refine wp_call (M' := mX4_init) (av := [.ref 158, .int (4 : Int32)]) (rest := [.ref 158, .int (0 : Int32), .ref 139]) dX5_init_137 rfl rfl rfl rfl ?_
  show am_WP _ mX4_init 0 [(0, .ref 158), (1, .int (4 : Int32))] [] _ _
  refine wp_ld (v := .ref 158) dX4_init_0 rfl rfl rfl rfl ?_
  refine wq_obj dX4_init_1 rfl rfl ?_
  refine wp_ld (v := .ref 158) dX4_init_4 rfl rfl rfl rfl ?_
  refine wp_cst (v := .int (33 : Int32)) dX4_init_5 rfl rfl ?_
  refine wq_na20 (m := 159) (l := 33) dX4_init_7 rfl rfl rfl (by decide) rfl ?_
  refine wp_pR dX4_init_9 rfl rfl rfl rfl rfl rfl (Nat.le_of_ble_eq_true rfl) ?_
  refine wp_ld (v := .ref 158) dX4_init_12 rfl rfl rfl rfl ?_
  refine wp_ld (v := .int (4 : Int32)) dX4_init_13 rfl rfl rfl rfl ?_
  refine wp_cst (v := .int (11 : Int32)) dX4_init_14 rfl rfl ?_
  refine wp_mem (st' := [.int (4 : Int32), .ref 158]) dX4_init_16 rfl rfl rfl rfl ?_
  refine wq_pF dX4_init_19 rfl rfl rfl rfl rfl rfl ?_
  refine wp_end dX4_init_22 rfl rfl ?_
  show am_WP _ mX5_init 140 [(0, .ref 136), (1, .int (0 : Int32))] [.ref 158, .int (0 : Int32), .ref 139] _ _
  refine wp_aast dX5_init_140 rfl (by decide) rfl rfl rfl ?_
  show am_WP _ mX5_init 141 [(0, .ref 136), (1, .int (0 : Int32))] [] _ _
  refine wp_inc (v := (1 : Int32)) (ls' := [(0, .ref 136), (1, .int (1 : Int32))]) dX5_init_141 rfl (Nat.le_of_ble_eq_true rfl) rfl rfl ?_
  refine wp_goto dX5_init_144 rfl ?_
  refine wp_ld (v := .int (1 : Int32)) dX5_init_122 rfl rfl rfl rfl ?_
  refine wp_cst (v := .int (5 : Int32)) dX5_init_123 rfl rfl ?_
  refine wp_ic_ge dX5_init_124 rfl (fun c => absurd c (by decide)) (fun _ => ?_)
  refine wp_ld (v := .ref 136) dX5_init_127 rfl rfl rfl rfl ?_
  refine wp_gr (b := 139) dX5_init_128 rfl rfl rfl rfl ?_
  refine wp_ld (v := .int (1 : Int32)) dX5_init_131 rfl rfl rfl rfl ?_
  refine wq_new (m := 160) dX5_init_132 rfl rfl rfl rfl rfl ?_
  refine wp_pu (st' := [.ref 160, .ref 160, .int (1 : Int32), .ref 139]) dX5_init_135 rfl rfl ?_
  refine wp_cst (v := .int (4 : Int32)) dX5_init_136 rfl rfl ?_
  refine wp_call (M' := mX4_init) (av := [.ref 160, .int (4 : Int32)]) (rest := [.ref 160, .int (1 : Int32), .ref 139]) dX5_init_137 rfl rfl rfl rfl ?_
  show am_WP _ mX4_init 0 [(0, .ref 160), (1, .int (4 : Int32))] [] _ _
  refine wp_ld (v := .ref 160) dX4_init_0 rfl rfl rfl rfl ?_
  refine wq_obj dX4_init_1 rfl rfl ?_
  refine wp_ld (v := .ref 160) dX4_init_4 rfl rfl rfl rfl ?_
  refine wp_cst (v := .int (33 : Int32)) dX4_init_5 rfl rfl ?_
  refine wq_na20 (m := 161) (l := 33) dX4_init_7 rfl rfl rfl (by decide) rfl ?_
  refine wp_pR dX4_init_9 rfl rfl rfl rfl rfl rfl (Nat.le_of_ble_eq_true rfl) ?_
  refine wp_ld (v := .ref 160) dX4_init_12 rfl rfl rfl rfl ?_
  refine wp_ld (v := .int (4 : Int32)) dX4_init_13 rfl rfl rfl rfl ?_
  refine wp_cst (v := .int (11 : Int32)) dX4_init_14 rfl rfl ?_
  refine wp_mem (st' := [.int (4 : Int32), .ref 160]) dX4_init_16 rfl rfl rfl rfl ?_
  refine wq_pF dX4_init_19 rfl rfl rfl rfl rfl rfl ?_
  refine wp_end dX4_init_22 rfl rfl ?_
  show am_WP _ mX5_init 140 [(0, .ref 136), (1, .int (1 : Int32))] [.ref 160, .int (1 : Int32), .ref 139] _ _
  refine wp_aast dX5_init_140 rfl (by decide) rfl rfl rfl ?_
  show am_WP _ mX5_init 141 [(0, .ref 136), (1, .int (1 : Int32))] [] _ _
  refine wp_inc (v := (2 : Int32)) (ls' := [(0, .ref 136), (1, .int (2 : Int32))]) dX5_init_141 rfl (Nat.le_of_ble_eq_true rfl) rfl rfl ?_
  refine wp_goto dX5_init_144 rfl ?_
  refine wp_ld (v := .int (2 : Int32)) dX5_init_122 rfl rfl rfl rfl ?_
  refine wp_cst (v := .int (5 : Int32)) dX5_init_123 rfl rfl ?_
  refine wp_ic_ge dX5_init_124 rfl (fun c => absurd c (by decide)) (fun _ => ?_)
  refine wp_ld (v := .ref 136) dX5_init_127 rfl rfl rfl rfl ?_
  refine wp_gr (b := 139) dX5_init_128 rfl rfl rfl rfl ?_
  refine wp_ld (v := .int (2 : Int32)) dX5_init_131 rfl rfl rfl rfl ?_
  refine wq_new (m := 162) dX5_init_132 rfl rfl rfl rfl rfl ?_
  refine wp_pu (st' := [.ref 162, .ref 162, .int (2 : Int32), .ref 139]) dX5_init_135 rfl rfl ?_
  refine wp_cst (v := .int (4 : Int32)) dX5_init_136 rfl rfl ?_
  refine wp_call (M' := mX4_init) (av := [.ref 162, .int (4 : Int32)]) (rest := [.ref 162, .int (2 : Int32), .ref 139]) dX5_init_137 rfl rfl rfl rfl ?_
  show am_WP _ mX4_init 0 [(0, .ref 162), (1, .int (4 : Int32))] [] _ _
  refine wp_ld (v := .ref 162) dX4_init_0 rfl rfl rfl rfl ?_
  refine wq_obj dX4_init_1 rfl rfl ?_
  refine wp_ld (v := .ref 162) dX4_init_4 rfl rfl rfl rfl ?_
  refine wp_cst (v := .int (33 : Int32)) dX4_init_5 rfl rfl ?_
  refine wq_na20 (m := 163) (l := 33) dX4_init_7 rfl rfl rfl (by decide) rfl ?_
  refine wp_pR dX4_init_9 rfl rfl rfl rfl rfl rfl (Nat.le_of_ble_eq_true rfl) ?_
  refine wp_ld (v := .ref 162) dX4_init_12 rfl rfl rfl rfl ?_
  refine wp_ld (v := .int (4 : Int32)) dX4_init_13 rfl rfl rfl rfl ?_
  refine wp_cst (v := .int (11 : Int32)) dX4_init_14 rfl rfl ?_
  refine wp_mem (st' := [.int (4 : Int32), .ref 162]) dX4_init_16 rfl rfl rfl rfl ?_
  refine wq_pF dX4_init_19 rfl rfl rfl rfl rfl rfl ?_
  refine wp_end dX4_init_22 rfl rfl ?_
  show am_WP _ mX5_init 140 [(0, .ref 136), (1, .int (2 : Int32))] [.ref 162, .int (2 : Int32), .ref 139] _ _
  refine wp_aast dX5_init_140 rfl (by decide) rfl rfl rfl ?_
  show am_WP _ mX5_init 141 [(0, .ref 136), (1, .int (2 : Int32))] [] _ _
  refine wp_inc (v := (3 : Int32)) (ls' := [(0, .ref 136), (1, .int (3 : Int32))]) dX5_init_141 rfl (Nat.le_of_ble_eq_true rfl) rfl rfl ?_
  refine wp_goto dX5_init_144 rfl ?_
  refine wp_ld (v := .int (3 : Int32)) dX5_init_122 rfl rfl rfl rfl ?_
  refine wp_cst (v := .int (5 : Int32)) dX5_init_123 rfl rfl ?_
  refine wp_ic_ge dX5_init_124 rfl (fun c => absurd c (by decide)) (fun _ => ?_)
  refine wp_ld (v := .ref 136) dX5_init_127 rfl rfl rfl rfl ?_
  refine wp_gr (b := 139) dX5_init_128 rfl rfl rfl rfl ?_
  refine wp_ld (v := .int (3 : Int32)) dX5_init_131 rfl rfl rfl rfl ?_
  refine wq_new (m := 164) dX5_init_132 rfl rfl rfl rfl rfl ?_
  refine wp_pu (st' := [.ref 164, .ref 164, .int (3 : Int32), .ref 139]) dX5_init_135 rfl rfl ?_
  refine wp_cst (v := .int (4 : Int32)) dX5_init_136 rfl rfl ?_
  refine wp_call (M' := mX4_init) (av := [.ref 164, .int (4 : Int32)]) (rest := [.ref 164, .int (3 : Int32), .ref 139]) dX5_init_137 rfl rfl rfl rfl ?_
  show am_WP _ mX4_init 0 [(0, .ref 164), (1, .int (4 : Int32))] [] _ _
  refine wp_ld (v := .ref 164) dX4_init_0 rfl rfl rfl rfl ?_
  refine wq_obj dX4_init_1 rfl rfl ?_
  refine wp_ld (v := .ref 164) dX4_init_4 rfl rfl rfl rfl ?_
  refine wp_cst (v := .int (33 : Int32)) dX4_init_5 rfl rfl ?_
  refine wq_na20 (m := 165) (l := 33) dX4_init_7 rfl rfl rfl (by decide) rfl ?_
  refine wp_pR dX4_init_9 rfl rfl rfl rfl rfl rfl (Nat.le_of_ble_eq_true rfl) ?_
  refine wp_ld (v := .ref 164) dX4_init_12 rfl rfl rfl rfl ?_
  refine wp_ld (v := .int (4 : Int32)) dX4_init_13 rfl rfl rfl rfl ?_
  refine wp_cst (v := .int (11 : Int32)) dX4_init_14 rfl rfl ?_
  refine wp_mem (st' := [.int (4 : Int32), .ref 164]) dX4_init_16 rfl rfl rfl rfl ?_
  refine wq_pF dX4_init_19 rfl rfl rfl rfl rfl rfl ?_
  refine wp_end dX4_init_22 rfl rfl ?_
  show am_WP _ mX5_init 140 [(0, .ref 136), (1, .int (3 : Int32))] [.ref 164, .int (3 : Int32), .ref 139] _ _
  refine wp_aast dX5_init_140 rfl (by decide) rfl rfl rfl ?_
  show am_WP _ mX5_init 141 [(0, .ref 136), (1, .int (3 : Int32))] [] _ _
  refine wp_inc (v := (4 : Int32)) (ls' := [(0, .ref 136), (1, .int (4 : Int32))]) dX5_init_141 rfl (Nat.le_of_ble_eq_true rfl) rfl rfl ?_
  refine wp_goto dX5_init_144 rfl ?_
  refine wp_ld (v := .int (4 : Int32)) dX5_init_122 rfl rfl rfl rfl ?_
  refine wp_cst (v := .int (5 : Int32)) dX5_init_123 rfl rfl ?_
  refine wp_ic_ge dX5_init_124 rfl (fun c => absurd c (by decide)) (fun _ => ?_)
  refine wp_ld (v := .ref 136) dX5_init_127 rfl rfl rfl rfl ?_
  refine wp_gr (b := 139) dX5_init_128 rfl rfl rfl rfl ?_
  refine wp_ld (v := .int (4 : Int32)) dX5_init_131 rfl rfl rfl rfl ?_
  refine wq_new (m := 166) dX5_init_132 rfl rfl rfl rfl rfl ?_
  refine wp_pu (st' := [.ref 166, .ref 166, .int (4 : Int32), .ref 139]) dX5_init_135 rfl rfl ?_
  refine wp_cst (v := .int (4 : Int32)) dX5_init_136 rfl rfl ?_
  refine wp_call (M' := mX4_init) (av := [.ref 166, .int (4 : Int32)]) (rest := [.ref 166, .int (4 : Int32), .ref 139]) dX5_init_137 rfl rfl rfl rfl ?_
  show am_WP _ mX4_init 0 [(0, .ref 166), (1, .int (4 : Int32))] [] _ _
  refine wp_ld (v := .ref 166) dX4_init_0 rfl rfl rfl rfl ?_
  refine wq_obj dX4_init_1 rfl rfl ?_
  refine wp_ld (v := .ref 166) dX4_init_4 rfl rfl rfl rfl ?_
  refine wp_cst (v := .int (33 : Int32)) dX4_init_5 rfl rfl ?_
  refine wq_na20 (m := 167) (l := 33) dX4_init_7 rfl rfl rfl (by decide) rfl ?_
  refine wp_pR dX4_init_9 rfl rfl rfl rfl rfl rfl (Nat.le_of_ble_eq_true rfl) ?_
  refine wp_ld (v := .ref 166) dX4_init_12 rfl rfl rfl rfl ?_
  refine wp_ld (v := .int (4 : Int32)) dX4_init_13 rfl rfl rfl rfl ?_
  refine wp_cst (v := .int (11 : Int32)) dX4_init_14 rfl rfl ?_
  refine wp_mem (st' := [.int (4 : Int32), .ref 166]) dX4_init_16 rfl rfl rfl rfl ?_
  refine wq_pF dX4_init_19 rfl rfl rfl rfl rfl rfl ?_
  refine wp_end dX4_init_22 rfl rfl ?_
  show am_WP _ mX5_init 140 [(0, .ref 136), (1, .int (4 : Int32))] [.ref 166, .int (4 : Int32), .ref 139] _ _
  refine wp_aast dX5_init_140 rfl (by decide) rfl rfl rfl ?_
  show am_WP _ mX5_init 141 [(0, .ref 136), (1, .int (4 : Int32))] [] _ _
  refine wp_inc (v := (5 : Int32)) (ls' := [(0, .ref 136), (1, .int (5 : Int32))]) dX5_init_141 rfl (Nat.le_of_ble_eq_true rfl) rfl rfl ?_
  refine wp_goto dX5_init_144 rfl ?_
  refine wp_ld (v := .int (5 : Int32)) dX5_init_122 rfl rfl rfl rfl ?_
  refine wp_cst (v := .int (5 : Int32)) dX5_init_123 rfl rfl ?_
  refine wp_ic_ge dX5_init_124 rfl (fun _ => ?_) (fun c => absurd c (by decide))
  refine wp_end dX5_init_147 rfl rfl ?_
  exact hQ
end ST136
