/-! ===== every command ===== -/
section ARS
variable {k : Nat → Int32} {fc : am_F} {fm : am_S → am_F} {N : Nat} {g : Nat → Int32} {s s1 t t1 : am_S} {T : hT} {X : hX} {E : List Nat} {r : Nat → am_S → am_F} {p : Nat}
theorem armB {G : Int32 → am_S → am_FE Unit} (hC : cZ s T X) (hM : mZ s T X) (hx : txS s) (hK : (am_K s 2000000).2 = N) (hI : am_I s 2000000 = g) (W : ∀ t, mZ t T X → txS t → JG (fun v => some (Value.int v)) k s t fc (fm t)) (th : tH selF E fc) (hr : ∀ e ∈ E, ∀ s, r e s = some (.inl (some (.int (k e))), s)) (hk : ∀ e ∈ E, ¬ k e = 0)
    (hG : ∀ v1 s1, (am_K s1 2000000).2 = N → am_I s1 2000000 = g → G v1 s1 = am_bi (fm s1) (fun v2 s2 => am_bi (f_X8_thrown s2) (fun v3 s3 => if v3 = v1 then (if v1 = 0 then (am_jn (fun (e : Int64) s4 => if am_L s3 71 0 = e then some (.inr ((), s4)) else some (.inl (.inl (some (.int (0 : Int32))), s4))) (fun J => if v2 = 0 then J (0 : Int64) s3 else J (1 : Int64) s3)) else some (.inr ((), s3))) else some (.inl (.inl (some (.int (0 : Int32))), s3))))) :
    AR N g s (am_bi (am_xi fc (fun v2 s1 => am_jn (fun (e4 : Int64) s5 => some (.inl (some (.int (0 : Int32))), (am_sL s5 71 0 e4))) (fun J3 => if v2 = 0 then J3 (0 : Int64) s1 else J3 (1 : Int64) s1)) r) G) := by
  rcases core w_int hC hM hx hK hI W with ⟨v, s1, e1, e2, e3, e4⟩ | ⟨e, s1, v, e1, e2, e3, t1, e4, e5, e6⟩
  · rw [e1]
    show AR N g s (am_bi (if v = 0 then some (.inl (some (.int (0 : Int32))), (am_sL s1 71 0 (0 : Int64))) else some (.inl (some (.int (0 : Int32))), (am_sL s1 71 0 (1 : Int64)))) G)
    by_cases c : v = 0
    · obtain ⟨t1, z1, z2, z3, z4⟩ := e4 _ (pO_sL (V := 0))
      rw [if_pos c, bi_s, hG 0 (am_sL s1 71 0 0) e2 e3, z1, bi_s]
      unfold f_X8_thrown
      rw [bi_s, z2, if_pos rfl, if_pos rfl, jn_s, if_pos c]
      dsimp only
      rw [if_pos (by rw [z3, L_sL, if_pos ⟨rfl, rfl⟩])]
      exact ⟨t1, rfl, z4⟩
    · obtain ⟨t1, z1, z2, z3, z4⟩ := e4 _ (pO_sL (V := 1))
      rw [if_neg c, bi_s, hG 0 (am_sL s1 71 0 1) e2 e3, z1, bi_s]
      unfold f_X8_thrown
      rw [bi_s, z2, if_pos rfl, if_pos rfl, jn_s, if_neg c]
      dsimp only
      rw [if_pos (by rw [z3, L_sL, if_pos ⟨rfl, rfl⟩])]
      exact ⟨t1, rfl, z4⟩
  · have he := th _ e e1 rfl
    rw [e1]
    show AR N g s (am_bi (r e s1) G)
    rw [hr e he s1, bi_s, hG (k e) s1 e2 e3, e4, bi_s]
    unfold f_X8_thrown
    rw [bi_s, e5, if_pos rfl, if_neg (hk e he)]
    exact ⟨t1, rfl, e6⟩
theorem ar_208 (hv : IV N g s) (hp : p + 8 ≤ N) (hN : N ≤ 4096) : AR N g s (A_L_law__208 (oN p) s) := by
  obtain ⟨⟨T, X, oT, oX, hC, hM⟩, hx, hK, hI⟩ := hv
  have in1 : am_in (oN p + (1 : Int32)) N = true := by rw [oN_addL]; exact in_o (by omega) (by omega)
  have in2 : am_in (oN p + (2 : Int32)) N = true := by rw [oN_addL]; exact in_o (by omega) (by omega)
  unfold A_L_law__208
  rw [hK]
  rw [if_pos in1]
  rw [if_pos in2]
  rw [hI]
  refine armV (k := k01) (E := [0]) hC hM hx hK hI (fun t hM ht => (W_sheet hC hM oT oX).g) th_f_X7_sheet (fun e he s => by rw [List.mem_singleton] at he; subst he; rfl) (by decide) (fun v1 s1 h1 h2 => ?_)
  try dsimp only
  rw [h1]
  rw [if_pos in1]
  rw [if_pos in2]
  rw [h2]
  first | done | rfl
theorem ar_256 (hv : IV N g s) (hp : p + 8 ≤ N) (hN : N ≤ 4096) : AR N g s (A_L_law__256 (oN p) s) := by
  obtain ⟨⟨T, X, oT, oX, hC, hM⟩, hx, hK, hI⟩ := hv
  have in1 : am_in (oN p + (1 : Int32)) N = true := by rw [oN_addL]; exact in_o (by omega) (by omega)
  have in2 : am_in (oN p + (2 : Int32)) N = true := by rw [oN_addL]; exact in_o (by omega) (by omega)
  have in3 : am_in (oN p + (3 : Int32)) N = true := by rw [oN_addL]; exact in_o (by omega) (by omega)
  have in4 : am_in (oN p + (4 : Int32)) N = true := by rw [oN_addL]; exact in_o (by omega) (by omega)
  have in5 : am_in (oN p + (5 : Int32)) N = true := by rw [oN_addL]; exact in_o (by omega) (by omega)
  unfold A_L_law__256
  rw [hK]
  rw [if_pos in1]
  rw [if_pos in2]
  rw [if_pos in3]
  rw [if_pos in4]
  rw [if_pos in5]
  rw [hI]
  refine armD (k := k01) hC hM hx hK hI (fun t hM ht => (W_feed hC hM oT oX).g) th_f_X7_feed (fun v1 s1 h1 h2 => ?_)
  try dsimp only
  rw [h1]
  rw [if_pos in1]
  rw [if_pos in2]
  rw [if_pos in3]
  rw [if_pos in4]
  rw [if_pos in5]
  rw [h2]
  first | done | rfl
theorem ar_329 (hv : IV N g s) (hp : p + 8 ≤ N) (hN : N ≤ 4096) : AR N g s (A_L_law__329 (oN p) s) := by
  obtain ⟨⟨T, X, oT, oX, hC, hM⟩, hx, hK, hI⟩ := hv
  have in1 : am_in (oN p + (1 : Int32)) N = true := by rw [oN_addL]; exact in_o (by omega) (by omega)
  unfold A_L_law__329
  rw [hK]
  rw [if_pos in1]
  rw [hI]
  refine armI (k := k01) (E := [0]) hC hM hx hK hI (fun t hM ht => (W_way hC hM oT oX hx ht).g) th_f_X7_way (fun e he s => by rw [List.mem_singleton] at he; subst he; rfl) (by decide) (fun v1 s1 h1 h2 => ?_)
  try dsimp only
  rw [h1]
  rw [if_pos in1]
  rw [h2]
  first | done | rfl
theorem ar_385 (hv : IV N g s) (hp : p + 8 ≤ N) (hN : N ≤ 4096) : AR N g s (A_L_law__385 (oN p) s) := by
  obtain ⟨⟨T, X, oT, oX, hC, hM⟩, hx, hK, hI⟩ := hv
  have in1 : am_in (oN p + (1 : Int32)) N = true := by rw [oN_addL]; exact in_o (by omega) (by omega)
  unfold A_L_law__385
  rw [hK]
  rw [if_pos in1]
  rw [hI]
  refine armI (k := k01) (E := [0]) hC hM hx hK hI (fun t hM ht => (W_law hC hM oT oX hx ht).g) th_f_X7_law (fun e he s => by rw [List.mem_singleton] at he; subst he; rfl) (by decide) (fun v1 s1 h1 h2 => ?_)
  try dsimp only
  rw [h1]
  rw [if_pos in1]
  rw [h2]
  first | done | rfl
theorem ar_441 (hv : IV N g s) (hp : p + 8 ≤ N) (hN : N ≤ 4096) : AR N g s (A_L_law__441 (oN p) s) := by
  obtain ⟨⟨T, X, oT, oX, hC, hM⟩, hx, hK, hI⟩ := hv
  have in1 : am_in (oN p + (1 : Int32)) N = true := by rw [oN_addL]; exact in_o (by omega) (by omega)
  unfold A_L_law__441
  rw [hK]
  rw [if_pos in1]
  rw [hI]
  refine armD (k := k01) hC hM hx hK hI (fun t hM ht => (W_fault hC hM oT oX).g) th_f_X7_fault (fun v1 s1 h1 h2 => ?_)
  try dsimp only
  rw [h1]
  rw [if_pos in1]
  rw [h2]
  first | done | rfl
theorem ar_466 (hv : IV N g s) (hp : p + 8 ≤ N) (hN : N ≤ 4096) : AR N g s (A_L_law__466 (oN p) s) := by
  obtain ⟨⟨T, X, oT, oX, hC, hM⟩, hx, hK, hI⟩ := hv
  have in1 : am_in (oN p + (1 : Int32)) N = true := by rw [oN_addL]; exact in_o (by omega) (by omega)
  have in2 : am_in (oN p + (2 : Int32)) N = true := by rw [oN_addL]; exact in_o (by omega) (by omega)
  unfold A_L_law__466
  rw [hK]
  rw [if_pos in1]
  rw [if_pos in2]
  rw [hI]
  refine armI (k := k312) (E := [3]) hC hM hx hK hI (fun t hM ht => (JW_q hC hM oT oX (J_fold hC.1 oT hM.1)).g) th_f_X7_fold (fun e he s => by rw [List.mem_singleton] at he; subst he; rfl) (by decide) (fun v1 s1 h1 h2 => ?_)
  try dsimp only
  rw [h1]
  rw [if_pos in1]
  rw [if_pos in2]
  rw [h2]
  first | done | rfl
theorem ar_534 (hv : IV N g s) (hp : p + 8 ≤ N) (hN : N ≤ 4096) : AR N g s (A_L_law__534 (oN p) s) := by
  obtain ⟨⟨T, X, oT, oX, hC, hM⟩, hx, hK, hI⟩ := hv
  have in1 : am_in (oN p + (1 : Int32)) N = true := by rw [oN_addL]; exact in_o (by omega) (by omega)
  unfold A_L_law__534
  rw [hK]
  rw [if_pos in1]
  rw [hI]
  refine armI (k := k312) (E := [3]) hC hM hx hK hI (fun t hM ht => (JW_q hC hM oT oX (J_breaks hC.1 oT hM.1)).g) th_f_X7_breaks (fun e he s => by rw [List.mem_singleton] at he; subst he; rfl) (by decide) (fun v1 s1 h1 h2 => ?_)
  try dsimp only
  rw [h1]
  rw [if_pos in1]
  rw [h2]
  first | done | rfl
theorem ar_590 (hv : IV N g s) (hp : p + 8 ≤ N) (hN : N ≤ 4096) : AR N g s (A_L_law__590 (oN p) s) := by
  obtain ⟨⟨T, X, oT, oX, hC, hM⟩, hx, hK, hI⟩ := hv
  have in1 : am_in (oN p + (1 : Int32)) N = true := by rw [oN_addL]; exact in_o (by omega) (by omega)
  have in2 : am_in (oN p + (2 : Int32)) N = true := by rw [oN_addL]; exact in_o (by omega) (by omega)
  unfold A_L_law__590
  rw [hK]
  rw [if_pos in1]
  rw [if_pos in2]
  rw [hI]
  refine armI (k := k312) (E := [0, 1, 3]) hC hM hx hK hI (fun t hM ht => (JW_q hC hM oT oX (J_make hC.1 oT hM.1)).g) th_f_X7_make (fun e he s => by simp only [List.mem_cons, List.not_mem_nil, or_false] at he; rcases he with h | h | h <;> subst h <;> rfl) (by decide) (fun v1 s1 h1 h2 => ?_)
  try dsimp only
  rw [h1]
  rw [if_pos in1]
  rw [if_pos in2]
  rw [h2]
  first | done | rfl
theorem ar_658 (hv : IV N g s) (hp : p + 8 ≤ N) (hN : N ≤ 4096) : AR N g s (A_L_law__658 (oN p) s) := by
  obtain ⟨⟨T, X, oT, oX, hC, hM⟩, hx, hK, hI⟩ := hv
  have in1 : am_in (oN p + (1 : Int32)) N = true := by rw [oN_addL]; exact in_o (by omega) (by omega)
  have in2 : am_in (oN p + (2 : Int32)) N = true := by rw [oN_addL]; exact in_o (by omega) (by omega)
  have in3 : am_in (oN p + (3 : Int32)) N = true := by rw [oN_addL]; exact in_o (by omega) (by omega)
  unfold A_L_law__658
  rw [hK]
  rw [if_pos in1]
  rw [if_pos in2]
  rw [if_pos in3]
  rw [hI]
  refine armI (k := k312) (E := [1, 3]) hC hM hx hK hI (fun t hM ht => (JW_q hC hM oT oX (J_layers hC.1 oT hM.1)).g) th_f_X7_layers (fun e he s => by simp only [List.mem_cons, List.not_mem_nil, or_false] at he; rcases he with h | h <;> subst h <;> rfl) (by decide) (fun v1 s1 h1 h2 => ?_)
  try dsimp only
  rw [h1]
  rw [if_pos in1]
  rw [if_pos in2]
  rw [if_pos in3]
  rw [h2]
  first | done | rfl
theorem ar_738 (hv : IV N g s) (hp : p + 8 ≤ N) (hN : N ≤ 4096) : AR N g s (A_L_law__738 (oN p) s) := by
  obtain ⟨⟨T, X, oT, oX, hC, hM⟩, hx, hK, hI⟩ := hv
  have in1 : am_in (oN p + (1 : Int32)) N = true := by rw [oN_addL]; exact in_o (by omega) (by omega)
  have in2 : am_in (oN p + (2 : Int32)) N = true := by rw [oN_addL]; exact in_o (by omega) (by omega)
  have in3 : am_in (oN p + (3 : Int32)) N = true := by rw [oN_addL]; exact in_o (by omega) (by omega)
  have in4 : am_in (oN p + (4 : Int32)) N = true := by rw [oN_addL]; exact in_o (by omega) (by omega)
  have in5 : am_in (oN p + (5 : Int32)) N = true := by rw [oN_addL]; exact in_o (by omega) (by omega)
  unfold A_L_law__738
  rw [hK]
  rw [if_pos in1]
  rw [if_pos in2]
  rw [if_pos in3]
  rw [if_pos in4]
  rw [if_pos in5]
  rw [hI]
  refine armI (k := k312) (E := [0, 1, 3]) hC hM hx hK hI (fun t hM ht => (JW_q hC hM oT oX (J_fly hC.1 oT hC.2.1 hM.1 hM.2.1)).g) th_f_X7_fly (fun e he s => by simp only [List.mem_cons, List.not_mem_nil, or_false] at he; rcases he with h | h | h <;> subst h <;> rfl) (by decide) (fun v1 s1 h1 h2 => ?_)
  try dsimp only
  rw [h1]
  rw [if_pos in1]
  rw [if_pos in2]
  rw [if_pos in3]
  rw [if_pos in4]
  rw [if_pos in5]
  rw [h2]
  first | done | rfl
theorem ar_842 (hv : IV N g s) (hp : p + 8 ≤ N) (hN : N ≤ 4096) : AR N g s (A_L_law__842 (oN p) s) := by
  obtain ⟨⟨T, X, oT, oX, hC, hM⟩, hx, hK, hI⟩ := hv
  have in1 : am_in (oN p + (1 : Int32)) N = true := by rw [oN_addL]; exact in_o (by omega) (by omega)
  have in2 : am_in (oN p + (2 : Int32)) N = true := by rw [oN_addL]; exact in_o (by omega) (by omega)
  have in3 : am_in (oN p + (3 : Int32)) N = true := by rw [oN_addL]; exact in_o (by omega) (by omega)
  have in4 : am_in (oN p + (4 : Int32)) N = true := by rw [oN_addL]; exact in_o (by omega) (by omega)
  have in5 : am_in (oN p + (5 : Int32)) N = true := by rw [oN_addL]; exact in_o (by omega) (by omega)
  have in6 : am_in (oN p + (6 : Int32)) N = true := by rw [oN_addL]; exact in_o (by omega) (by omega)
  unfold A_L_law__842
  rw [hK]
  rw [if_pos in1]
  rw [if_pos in2]
  rw [if_pos in3]
  rw [if_pos in4]
  rw [if_pos in5]
  rw [if_pos in6]
  rw [hI]
  refine armI (k := k312) (E := [0, 1, 3]) hC hM hx hK hI (fun t hM ht => (JW_q hC hM oT oX (J_at hC.1 oT hC.2.1 hM.1 hM.2.1)).g) th_f_X7_at (fun e he s => by simp only [List.mem_cons, List.not_mem_nil, or_false] at he; rcases he with h | h | h <;> subst h <;> rfl) (by decide) (fun v1 s1 h1 h2 => ?_)
  try dsimp only
  rw [h1]
  rw [if_pos in1]
  rw [if_pos in2]
  rw [if_pos in3]
  rw [if_pos in4]
  rw [if_pos in5]
  rw [if_pos in6]
  rw [h2]
  first | done | rfl
theorem ar_960 (hv : IV N g s) (hp : p + 8 ≤ N) (hN : N ≤ 4096) : AR N g s (A_L_law__960 (oN p) s) := by
  obtain ⟨⟨T, X, oT, oX, hC, hM⟩, hx, hK, hI⟩ := hv
  have in1 : am_in (oN p + (1 : Int32)) N = true := by rw [oN_addL]; exact in_o (by omega) (by omega)
  have in2 : am_in (oN p + (2 : Int32)) N = true := by rw [oN_addL]; exact in_o (by omega) (by omega)
  have in3 : am_in (oN p + (3 : Int32)) N = true := by rw [oN_addL]; exact in_o (by omega) (by omega)
  unfold A_L_law__960
  rw [hK]
  rw [if_pos in1]
  rw [if_pos in2]
  rw [if_pos in3]
  rw [hI]
  refine armI (k := k01) (E := [0]) hC hM hx hK hI (fun t hM ht => (W_draught hC hM oT oX).g) th_f_X7_draught (fun e he s => by rw [List.mem_singleton] at he; subst he; rfl) (by decide) (fun v1 s1 h1 h2 => ?_)
  try dsimp only
  rw [h1]
  rw [if_pos in1]
  rw [if_pos in2]
  rw [if_pos in3]
  rw [h2]
  first | done | rfl
theorem ar_1040 (hv : IV N g s) (hp : p + 8 ≤ N) (hN : N ≤ 4096) : AR N g s (A_L_law__1040 (oN p) s) := by
  obtain ⟨⟨T, X, oT, oX, hC, hM⟩, hx, hK, hI⟩ := hv
  have in1 : am_in (oN p + (1 : Int32)) N = true := by rw [oN_addL]; exact in_o (by omega) (by omega)
  have in2 : am_in (oN p + (2 : Int32)) N = true := by rw [oN_addL]; exact in_o (by omega) (by omega)
  unfold A_L_law__1040
  rw [hK]
  rw [if_pos in1]
  rw [if_pos in2]
  rw [hI]
  refine armI (k := k01) (E := [0]) hC hM hx hK hI (fun t hM ht => (W_crate hC hM oT oX).g) th_f_X7_crate (fun e he s => by rw [List.mem_singleton] at he; subst he; rfl) (by decide) (fun v1 s1 h1 h2 => ?_)
  try dsimp only
  rw [h1]
  rw [if_pos in1]
  rw [if_pos in2]
  rw [h2]
  first | done | rfl
theorem ar_1108 (hv : IV N g s) (hp : p + 8 ≤ N) (hN : N ≤ 4096) : AR N g s (A_L_law__1108 (oN p) s) := by
  obtain ⟨⟨T, X, oT, oX, hC, hM⟩, hx, hK, hI⟩ := hv
  unfold A_L_law__1108
  refine armD (k := k01) hC hM hx hK hI (fun t hM ht => (W_still hC hM oT oX).g) th_f_X7_still (fun v1 s1 h1 h2 => ?_)
  first | done | rfl
theorem ar_1121 (hv : IV N g s) (hp : p + 8 ≤ N) (hN : N ≤ 4096) : AR N g s (A_L_law__1121 (oN p) s) := by
  obtain ⟨⟨T, X, oT, oX, hC, hM⟩, hx, hK, hI⟩ := hv
  have in1 : am_in (oN p + (1 : Int32)) N = true := by rw [oN_addL]; exact in_o (by omega) (by omega)
  unfold A_L_law__1121
  rw [hK]
  rw [if_pos in1]
  rw [hI]
  refine armI (k := k01) (E := [0]) hC hM hx hK hI (fun t hM ht => (W_damp hC hM oT oX).g) th_f_X7_damp (fun e he s => by rw [List.mem_singleton] at he; subst he; rfl) (by decide) (fun v1 s1 h1 h2 => ?_)
  try dsimp only
  rw [h1]
  rw [if_pos in1]
  rw [h2]
  first | done | rfl
theorem ar_1177 (hv : IV N g s) (hp : p + 8 ≤ N) (hN : N ≤ 4096) : AR N g s (A_L_law__1177 (oN p) s) := by
  obtain ⟨⟨T, X, oT, oX, hC, hM⟩, hx, hK, hI⟩ := hv
  have in1 : am_in (oN p + (1 : Int32)) N = true := by rw [oN_addL]; exact in_o (by omega) (by omega)
  have in2 : am_in (oN p + (2 : Int32)) N = true := by rw [oN_addL]; exact in_o (by omega) (by omega)
  have in3 : am_in (oN p + (3 : Int32)) N = true := by rw [oN_addL]; exact in_o (by omega) (by omega)
  have in4 : am_in (oN p + (4 : Int32)) N = true := by rw [oN_addL]; exact in_o (by omega) (by omega)
  unfold A_L_law__1177
  rw [hK]
  rw [if_pos in1]
  rw [if_pos in2]
  rw [if_pos in3]
  rw [if_pos in4]
  rw [jb]
  rw [hI]
  refine armI (k := k312) (E := [0, 1, 3]) hC hM hx hK hI (fun t hM ht => (JW_q hC hM oT oX (J_slant hC.1 oT hC.2.1 hM.1 hM.2.1)).g) th_f_X7_slant (fun e he s => by simp only [List.mem_cons, List.not_mem_nil, or_false] at he; rcases he with h | h | h <;> subst h <;> rfl) (by decide) (fun v1 s1 h1 h2 => ?_)
  try dsimp only
  rw [h1]
  rw [if_pos in1]
  rw [if_pos in2]
  rw [if_pos in3]
  rw [if_pos in4]
  rw [jb]
  rw [h2]
  first | done | rfl
theorem ar_1285 (hv : IV N g s) (hp : p + 8 ≤ N) (hN : N ≤ 4096) : AR N g s (A_L_law__1285 (oN p) s) := by
  obtain ⟨⟨T, X, oT, oX, hC, hM⟩, hx, hK, hI⟩ := hv
  have in1 : am_in (oN p + (1 : Int32)) N = true := by rw [oN_addL]; exact in_o (by omega) (by omega)
  have in2 : am_in (oN p + (2 : Int32)) N = true := by rw [oN_addL]; exact in_o (by omega) (by omega)
  have in3 : am_in (oN p + (3 : Int32)) N = true := by rw [oN_addL]; exact in_o (by omega) (by omega)
  unfold A_L_law__1285
  rw [hK]
  rw [if_pos in1]
  rw [if_pos in2]
  rw [if_pos in3]
  rw [hI]
  refine armI (k := k312) (E := [0, 1, 3]) hC hM hx hK hI (fun t hM ht => (JW_q hC hM oT oX (J_rest hC.1 oT hC.2.1 hM.1 hM.2.1)).g) th_f_X7_rest (fun e he s => by simp only [List.mem_cons, List.not_mem_nil, or_false] at he; rcases he with h | h | h <;> subst h <;> rfl) (by decide) (fun v1 s1 h1 h2 => ?_)
  try dsimp only
  rw [h1]
  rw [if_pos in1]
  rw [if_pos in2]
  rw [if_pos in3]
  rw [h2]
  first | done | rfl
theorem ar_1365 (hv : IV N g s) (hp : p + 8 ≤ N) (hN : N ≤ 4096) : AR N g s (A_L_law__1365 (oN p) s) := by
  obtain ⟨⟨T, X, oT, oX, hC, hM⟩, hx, hK, hI⟩ := hv
  have in1 : am_in (oN p + (1 : Int32)) N = true := by rw [oN_addL]; exact in_o (by omega) (by omega)
  have in2 : am_in (oN p + (2 : Int32)) N = true := by rw [oN_addL]; exact in_o (by omega) (by omega)
  unfold A_L_law__1365
  rw [hK]
  rw [if_pos in1]
  rw [if_pos in2]
  rw [hI]
  refine armI (k := k312) (E := [0, 1, 3]) hC hM hx hK hI (fun t hM ht => (JW_q hC hM oT oX (J_why hC.1 oT hC.2.1 hM.1 hM.2.1)).g) th_f_X7_why (fun e he s => by simp only [List.mem_cons, List.not_mem_nil, or_false] at he; rcases he with h | h | h <;> subst h <;> rfl) (by decide) (fun v1 s1 h1 h2 => ?_)
  try dsimp only
  rw [h1]
  rw [if_pos in1]
  rw [if_pos in2]
  rw [h2]
  first | done | rfl
theorem ar_1433 (hv : IV N g s) (hp : p + 8 ≤ N) (hN : N ≤ 4096) : AR N g s (A_L_law__1433 (oN p) s) := by
  obtain ⟨⟨T, X, oT, oX, hC, hM⟩, hx, hK, hI⟩ := hv
  unfold A_L_law__1433
  refine armD (k := k01) hC hM hx hK hI (fun t hM ht => (W_hand hC hM oT oX).g) th_f_X7_hand (fun v1 s1 h1 h2 => ?_)
  first | done | rfl
theorem ar_1446 (hv : IV N g s) (hp : p + 8 ≤ N) (hN : N ≤ 4096) : AR N g s (A_L_law__1446 (oN p) s) := by
  obtain ⟨⟨T, X, oT, oX, hC, hM⟩, hx, hK, hI⟩ := hv
  have in1 : am_in (oN p + (1 : Int32)) N = true := by rw [oN_addL]; exact in_o (by omega) (by omega)
  have in2 : am_in (oN p + (2 : Int32)) N = true := by rw [oN_addL]; exact in_o (by omega) (by omega)
  have in3 : am_in (oN p + (3 : Int32)) N = true := by rw [oN_addL]; exact in_o (by omega) (by omega)
  have in4 : am_in (oN p + (4 : Int32)) N = true := by rw [oN_addL]; exact in_o (by omega) (by omega)
  unfold A_L_law__1446
  rw [hK]
  rw [if_pos in1]
  rw [if_pos in2]
  rw [if_pos in3]
  rw [if_pos in4]
  rw [hI]
  refine armI (k := k3102) (E := [0, 3]) hC hM hx hK hI (fun t hM ht => (W_toss hC hM oT oX).g) th_f_X7_toss (fun e he s => by simp only [List.mem_cons, List.not_mem_nil, or_false] at he; rcases he with h | h <;> subst h <;> rfl) (by decide) (fun v1 s1 h1 h2 => ?_)
  try dsimp only
  rw [h1]
  rw [if_pos in1]
  rw [if_pos in2]
  rw [if_pos in3]
  rw [if_pos in4]
  rw [h2]
  first | done | rfl
theorem ar_1538 (hv : IV N g s) (hp : p + 8 ≤ N) (hN : N ≤ 4096) : AR N g s (A_L_law__1538 (oN p) s) := by
  obtain ⟨⟨T, X, oT, oX, hC, hM⟩, hx, hK, hI⟩ := hv
  have in1 : am_in (oN p + (1 : Int32)) N = true := by rw [oN_addL]; exact in_o (by omega) (by omega)
  have in2 : am_in (oN p + (2 : Int32)) N = true := by rw [oN_addL]; exact in_o (by omega) (by omega)
  have in3 : am_in (oN p + (3 : Int32)) N = true := by rw [oN_addL]; exact in_o (by omega) (by omega)
  have in4 : am_in (oN p + (4 : Int32)) N = true := by rw [oN_addL]; exact in_o (by omega) (by omega)
  unfold A_L_law__1538
  rw [hK]
  rw [if_pos in1]
  rw [if_pos in2]
  rw [if_pos in3]
  rw [if_pos in4]
  rw [jb]
  rw [hI]
  refine armL (k := k312) (E := [0, 1, 3]) hC hM hx hK hI (fun t hM ht => (JW_q hC hM oT oX (J_reach hC.1 oT hC.2.1 hM.1 hM.2.1)).g) th_f_X7_reach (fun e he s => by simp only [List.mem_cons, List.not_mem_nil, or_false] at he; rcases he with h | h | h <;> subst h <;> rfl) (by decide) (fun v1 s1 h1 h2 => ?_)
  try dsimp only
  rw [h1]
  rw [if_pos in1]
  rw [if_pos in2]
  rw [if_pos in3]
  rw [if_pos in4]
  rw [jb]
  rw [h2]
  first | done | rfl
theorem ar_1645 (hv : IV N g s) (hp : p + 8 ≤ N) (hN : N ≤ 4096) : AR N g s (A_L_law__1645 (oN p) s) := by
  obtain ⟨⟨T, X, oT, oX, hC, hM⟩, hx, hK, hI⟩ := hv
  have in1 : am_in (oN p + (1 : Int32)) N = true := by rw [oN_addL]; exact in_o (by omega) (by omega)
  have in2 : am_in (oN p + (2 : Int32)) N = true := by rw [oN_addL]; exact in_o (by omega) (by omega)
  have in3 : am_in (oN p + (3 : Int32)) N = true := by rw [oN_addL]; exact in_o (by omega) (by omega)
  unfold A_L_law__1645
  rw [hK]
  rw [if_pos in1]
  rw [if_pos in2]
  rw [if_pos in3]
  rw [jb]
  rw [hI]
  refine armI (k := k312) (E := [1, 3]) hC hM hx hK hI (fun t hM ht => (JW_q hC hM oT oX (J_ears hC.1 oT hC.2.1 hM.1 hM.2.1)).g) th_f_X7_ears (fun e he s => by simp only [List.mem_cons, List.not_mem_nil, or_false] at he; rcases he with h | h <;> subst h <;> rfl) (by decide) (fun v1 s1 h1 h2 => ?_)
  try dsimp only
  rw [h1]
  rw [if_pos in1]
  rw [if_pos in2]
  rw [if_pos in3]
  rw [jb]
  rw [h2]
  first | done | rfl
theorem ar_1741 (hv : IV N g s) (hp : p + 8 ≤ N) (hN : N ≤ 4096) : AR N g s (A_L_law__1741 (oN p) s) := by
  obtain ⟨⟨T, X, oT, oX, hC, hM⟩, hx, hK, hI⟩ := hv
  have in1 : am_in (oN p + (1 : Int32)) N = true := by rw [oN_addL]; exact in_o (by omega) (by omega)
  have in2 : am_in (oN p + (2 : Int32)) N = true := by rw [oN_addL]; exact in_o (by omega) (by omega)
  unfold A_L_law__1741
  rw [hK]
  rw [if_pos in1]
  rw [if_pos in2]
  rw [jb]
  rw [hI]
  refine armI (k := k312) (E := [3]) hC hM hx hK hI (fun t hM ht => (JW_q hC hM oT oX (J_best hC.1 oT hC.2.1 hM.1 hM.2.1)).g) th_f_X7_best (fun e he s => by rw [List.mem_singleton] at he; subst he; rfl) (by decide) (fun v1 s1 h1 h2 => ?_)
  try dsimp only
  rw [h1]
  rw [if_pos in1]
  rw [if_pos in2]
  rw [jb]
  rw [h2]
  first | done | rfl
theorem ar_1825 (hv : IV N g s) (hp : p + 8 ≤ N) (hN : N ≤ 4096) : AR N g s (A_L_law__1825 (oN p) s) := by
  obtain ⟨⟨T, X, oT, oX, hC, hM⟩, hx, hK, hI⟩ := hv
  have in1 : am_in (oN p + (1 : Int32)) N = true := by rw [oN_addL]; exact in_o (by omega) (by omega)
  have in2 : am_in (oN p + (2 : Int32)) N = true := by rw [oN_addL]; exact in_o (by omega) (by omega)
  have in3 : am_in (oN p + (3 : Int32)) N = true := by rw [oN_addL]; exact in_o (by omega) (by omega)
  have in4 : am_in (oN p + (4 : Int32)) N = true := by rw [oN_addL]; exact in_o (by omega) (by omega)
  have in5 : am_in (oN p + (5 : Int32)) N = true := by rw [oN_addL]; exact in_o (by omega) (by omega)
  unfold A_L_law__1825
  rw [hK]
  rw [if_pos in1]
  rw [if_pos in2]
  rw [if_pos in3]
  rw [if_pos in4]
  rw [jb]
  rw [hK]
  rw [if_pos in5]
  rw [hI]
  refine armL (k := k312) (E := [0, 1, 3]) hC hM hx hK hI (fun t hM ht => (W_change hC hM oT oX).g) th_f_X7_change (fun e he s => by simp only [List.mem_cons, List.not_mem_nil, or_false] at he; rcases he with h | h | h <;> subst h <;> rfl) (by decide) (fun v1 s1 h1 h2 => ?_)
  try dsimp only
  rw [h1]
  rw [if_pos in1]
  rw [if_pos in2]
  rw [if_pos in3]
  rw [if_pos in4]
  rw [jb]
  rw [h1]
  rw [if_pos in5]
  rw [h2]
  first | done | rfl
theorem ar_1944 (hv : IV N g s) (hp : p + 8 ≤ N) (hN : N ≤ 4096) : AR N g s (A_L_law__1944 (oN p) s) := by
  obtain ⟨⟨T, X, oT, oX, hC, hM⟩, hx, hK, hI⟩ := hv
  have in1 : am_in (oN p + (1 : Int32)) N = true := by rw [oN_addL]; exact in_o (by omega) (by omega)
  have in2 : am_in (oN p + (2 : Int32)) N = true := by rw [oN_addL]; exact in_o (by omega) (by omega)
  have in3 : am_in (oN p + (3 : Int32)) N = true := by rw [oN_addL]; exact in_o (by omega) (by omega)
  have in4 : am_in (oN p + (4 : Int32)) N = true := by rw [oN_addL]; exact in_o (by omega) (by omega)
  unfold A_L_law__1944
  rw [hK]
  rw [if_pos in1]
  rw [if_pos in2]
  rw [if_pos in3]
  rw [if_pos in4]
  rw [jb]
  rw [hI]
  refine armI (k := k312) (E := [0, 1, 3]) hC hM hx hK hI (fun t hM ht => (W_mend hC hM oT oX).g) th_f_X7_mend (fun e he s => by simp only [List.mem_cons, List.not_mem_nil, or_false] at he; rcases he with h | h | h <;> subst h <;> rfl) (by decide) (fun v1 s1 h1 h2 => ?_)
  try dsimp only
  rw [h1]
  rw [if_pos in1]
  rw [if_pos in2]
  rw [if_pos in3]
  rw [if_pos in4]
  rw [jb]
  rw [h2]
  first | done | rfl
theorem ar_2052 (hv : IV N g s) (hp : p + 8 ≤ N) (hN : N ≤ 4096) : AR N g s (A_L_law__2052 (oN p) s) := by
  obtain ⟨⟨T, X, oT, oX, hC, hM⟩, hx, hK, hI⟩ := hv
  have in1 : am_in (oN p + (1 : Int32)) N = true := by rw [oN_addL]; exact in_o (by omega) (by omega)
  have in2 : am_in (oN p + (2 : Int32)) N = true := by rw [oN_addL]; exact in_o (by omega) (by omega)
  have in3 : am_in (oN p + (3 : Int32)) N = true := by rw [oN_addL]; exact in_o (by omega) (by omega)
  have in4 : am_in (oN p + (4 : Int32)) N = true := by rw [oN_addL]; exact in_o (by omega) (by omega)
  have in5 : am_in (oN p + (5 : Int32)) N = true := by rw [oN_addL]; exact in_o (by omega) (by omega)
  have in6 : am_in (oN p + (6 : Int32)) N = true := by rw [oN_addL]; exact in_o (by omega) (by omega)
  have in7 : am_in (oN p + (7 : Int32)) N = true := by rw [oN_addL]; exact in_o (by omega) (by omega)
  unfold A_L_law__2052
  rw [hK]
  rw [if_pos in1]
  rw [if_pos in2]
  rw [if_pos in3]
  rw [if_pos in4]
  rw [if_pos in5]
  rw [if_pos in6]
  rw [if_pos in7]
  rw [hI]
  refine armB (k := k312) (E := [0, 1, 3]) hC hM hx hK hI (fun t hM ht => (JW_q hC hM oT oX (J_hoop hC.1 oT hC.2.1 hM.1 hM.2.1)).g) th_f_X7_hoop (fun e he s => by simp only [List.mem_cons, List.not_mem_nil, or_false] at he; rcases he with h | h | h <;> subst h <;> rfl) (by decide) (fun v1 s1 h1 h2 => ?_)
  try dsimp only
  rw [h1]
  rw [if_pos in1]
  rw [if_pos in2]
  rw [if_pos in3]
  rw [if_pos in4]
  rw [if_pos in5]
  rw [if_pos in6]
  rw [if_pos in7]
  rw [h2]
  first | done | rfl
theorem ar_2191 (hv : IV N g s) (hp : p + 8 ≤ N) (hN : N ≤ 4096) : AR N g s (A_L_law__2191 (oN p) s) := by
  obtain ⟨⟨T, X, oT, oX, hC, hM⟩, hx, hK, hI⟩ := hv
  have in1 : am_in (oN p + (1 : Int32)) N = true := by rw [oN_addL]; exact in_o (by omega) (by omega)
  have in2 : am_in (oN p + (2 : Int32)) N = true := by rw [oN_addL]; exact in_o (by omega) (by omega)
  have in3 : am_in (oN p + (3 : Int32)) N = true := by rw [oN_addL]; exact in_o (by omega) (by omega)
  have in4 : am_in (oN p + (4 : Int32)) N = true := by rw [oN_addL]; exact in_o (by omega) (by omega)
  have in5 : am_in (oN p + (5 : Int32)) N = true := by rw [oN_addL]; exact in_o (by omega) (by omega)
  have in6 : am_in (oN p + (6 : Int32)) N = true := by rw [oN_addL]; exact in_o (by omega) (by omega)
  have in7 : am_in (oN p + (7 : Int32)) N = true := by rw [oN_addL]; exact in_o (by omega) (by omega)
  unfold A_L_law__2191
  rw [hK]
  rw [if_pos in1]
  rw [if_pos in2]
  rw [if_pos in3]
  rw [if_pos in4]
  rw [if_pos in5]
  rw [if_pos in6]
  rw [if_pos in7]
  rw [hI]
  refine armL (k := k312) (E := [0, 1, 3]) hC hM hx hK hI (fun t hM ht => (JW_q hC hM oT oX (J_odds hC.1 oT hC.2.1 hM.1 hM.2.1)).g) th_f_X7_odds (fun e he s => by simp only [List.mem_cons, List.not_mem_nil, or_false] at he; rcases he with h | h | h <;> subst h <;> rfl) (by decide) (fun v1 s1 h1 h2 => ?_)
  try dsimp only
  rw [h1]
  rw [if_pos in1]
  rw [if_pos in2]
  rw [if_pos in3]
  rw [if_pos in4]
  rw [if_pos in5]
  rw [if_pos in6]
  rw [if_pos in7]
  rw [h2]
  first | done | rfl
theorem ar_2322 (hv : IV N g s) (hp : p + 8 ≤ N) (hN : N ≤ 4096) : AR N g s (A_L_law__2322 (oN p) s) := by
  obtain ⟨⟨T, X, oT, oX, hC, hM⟩, hx, hK, hI⟩ := hv
  have in1 : am_in (oN p + (1 : Int32)) N = true := by rw [oN_addL]; exact in_o (by omega) (by omega)
  have in2 : am_in (oN p + (2 : Int32)) N = true := by rw [oN_addL]; exact in_o (by omega) (by omega)
  have in3 : am_in (oN p + (3 : Int32)) N = true := by rw [oN_addL]; exact in_o (by omega) (by omega)
  unfold A_L_law__2322
  rw [hK]
  rw [if_pos in1]
  rw [if_pos in2]
  rw [if_pos in3]
  rw [hI]
  refine armI (k := k3102) (E := [0, 3]) hC hM hx hK hI (fun t hM ht => (W_enter hC hM oT oX).g) th_f_X7_enter (fun e he s => by simp only [List.mem_cons, List.not_mem_nil, or_false] at he; rcases he with h | h <;> subst h <;> rfl) (by decide) (fun v1 s1 h1 h2 => ?_)
  try dsimp only
  rw [h1]
  rw [if_pos in1]
  rw [if_pos in2]
  rw [if_pos in3]
  rw [h2]
  first | done | rfl
theorem ar_2402 (hv : IV N g s) (hp : p + 8 ≤ N) (hN : N ≤ 4096) : AR N g s (A_L_law__2402 (oN p) s) := by
  obtain ⟨⟨T, X, oT, oX, hC, hM⟩, hx, hK, hI⟩ := hv
  have in1 : am_in (oN p + (1 : Int32)) N = true := by rw [oN_addL]; exact in_o (by omega) (by omega)
  unfold A_L_law__2402
  rw [hK]
  rw [if_pos in1]
  rw [hI]
  refine armL (k := k312) (E := [3]) hC hM hx hK hI (fun t hM ht => (JW_q hC hM oT oX (J_wins hC.1 oT hC.2.1 hM.1 hM.2.1)).g) th_f_X7_wins (fun e he s => by rw [List.mem_singleton] at he; subst he; rfl) (by decide) (fun v1 s1 h1 h2 => ?_)
  try dsimp only
  rw [h1]
  rw [if_pos in1]
  rw [h2]
  first | done | rfl
theorem ar_2457 (hv : IV N g s) (hp : p + 8 ≤ N) (hN : N ≤ 4096) : AR N g s (A_L_law__2457 (oN p) s) := by
  obtain ⟨⟨T, X, oT, oX, hC, hM⟩, hx, hK, hI⟩ := hv
  have in1 : am_in (oN p + (1 : Int32)) N = true := by rw [oN_addL]; exact in_o (by omega) (by omega)
  have in2 : am_in (oN p + (2 : Int32)) N = true := by rw [oN_addL]; exact in_o (by omega) (by omega)
  have in3 : am_in (oN p + (3 : Int32)) N = true := by rw [oN_addL]; exact in_o (by omega) (by omega)
  have in4 : am_in (oN p + (4 : Int32)) N = true := by rw [oN_addL]; exact in_o (by omega) (by omega)
  have in5 : am_in (oN p + (5 : Int32)) N = true := by rw [oN_addL]; exact in_o (by omega) (by omega)
  have in6 : am_in (oN p + (6 : Int32)) N = true := by rw [oN_addL]; exact in_o (by omega) (by omega)
  unfold A_L_law__2457
  rw [hK]
  rw [if_pos in1]
  rw [if_pos in2]
  rw [if_pos in3]
  rw [if_pos in4]
  rw [jb]
  rw [hK]
  rw [if_pos in5]
  rw [if_pos in6]
  rw [hI]
  refine armI (k := k312) (E := [0, 1, 3]) hC hM hx hK hI (fun t hM ht => (JW_q hC hM oT oX (J_hours hC.1 oT hC.2.1 hM.1 hM.2.1)).g) th_f_X7_hours (fun e he s => by simp only [List.mem_cons, List.not_mem_nil, or_false] at he; rcases he with h | h | h <;> subst h <;> rfl) (by decide) (fun v1 s1 h1 h2 => ?_)
  try dsimp only
  rw [h1]
  rw [if_pos in1]
  rw [if_pos in2]
  rw [if_pos in3]
  rw [if_pos in4]
  rw [jb]
  rw [h1]
  rw [if_pos in5]
  rw [if_pos in6]
  rw [h2]
  first | done | rfl
theorem ar_2611 (hv : IV N g s) (hp : p + 8 ≤ N) (hN : N ≤ 4096) : AR N g s (A_L_law__2611 (oN p) s) := by
  obtain ⟨⟨T, X, oT, oX, hC, hM⟩, hx, hK, hI⟩ := hv
  have in1 : am_in (oN p + (1 : Int32)) N = true := by rw [oN_addL]; exact in_o (by omega) (by omega)
  have in2 : am_in (oN p + (2 : Int32)) N = true := by rw [oN_addL]; exact in_o (by omega) (by omega)
  have in3 : am_in (oN p + (3 : Int32)) N = true := by rw [oN_addL]; exact in_o (by omega) (by omega)
  have in4 : am_in (oN p + (4 : Int32)) N = true := by rw [oN_addL]; exact in_o (by omega) (by omega)
  have in5 : am_in (oN p + (5 : Int32)) N = true := by rw [oN_addL]; exact in_o (by omega) (by omega)
  unfold A_L_law__2611
  rw [hK]
  rw [if_pos in1]
  rw [if_pos in2]
  rw [if_pos in3]
  rw [if_pos in4]
  rw [if_pos in5]
  rw [hI]
  refine armI (k := k312) (E := [0, 1, 3]) hC hM hx hK hI (fun t hM ht => (JW_q hC hM oT oX (J_seen hC.1 oT hC.2.1 hM.1 hM.2.1)).g) th_f_X7_seen (fun e he s => by simp only [List.mem_cons, List.not_mem_nil, or_false] at he; rcases he with h | h | h <;> subst h <;> rfl) (by decide) (fun v1 s1 h1 h2 => ?_)
  try dsimp only
  rw [h1]
  rw [if_pos in1]
  rw [if_pos in2]
  rw [if_pos in3]
  rw [if_pos in4]
  rw [if_pos in5]
  rw [h2]
  first | done | rfl
theorem ar_2715 (hv : IV N g s) (hp : p + 8 ≤ N) (hN : N ≤ 4096) : AR N g s (A_L_law__2715 (oN p) s) := by
  obtain ⟨⟨T, X, oT, oX, hC, hM⟩, hx, hK, hI⟩ := hv
  have in1 : am_in (oN p + (1 : Int32)) N = true := by rw [oN_addL]; exact in_o (by omega) (by omega)
  have in2 : am_in (oN p + (2 : Int32)) N = true := by rw [oN_addL]; exact in_o (by omega) (by omega)
  have in3 : am_in (oN p + (3 : Int32)) N = true := by rw [oN_addL]; exact in_o (by omega) (by omega)
  unfold A_L_law__2715
  rw [hK]
  rw [if_pos in1]
  rw [if_pos in2]
  rw [if_pos in3]
  rw [hI]
  refine armD (k := k312) hC hM hx hK hI (fun t hM ht => (JW_q hC hM oT oX (J_found hC.1 oT hC.2.1 hM.1)).g) th_f_X7_found (fun v1 s1 h1 h2 => ?_)
  try dsimp only
  rw [h1]
  rw [if_pos in1]
  rw [if_pos in2]
  rw [if_pos in3]
  rw [h2]
  first | done | rfl
theorem ar_2764 (hv : IV N g s) (hp : p + 8 ≤ N) (hN : N ≤ 4096) : AR N g s (A_L_law__2764 (oN p) s) := by
  obtain ⟨⟨T, X, oT, oX, hC, hM⟩, hx, hK, hI⟩ := hv
  have in1 : am_in (oN p + (1 : Int32)) N = true := by rw [oN_addL]; exact in_o (by omega) (by omega)
  have in2 : am_in (oN p + (2 : Int32)) N = true := by rw [oN_addL]; exact in_o (by omega) (by omega)
  have in3 : am_in (oN p + (3 : Int32)) N = true := by rw [oN_addL]; exact in_o (by omega) (by omega)
  unfold A_L_law__2764
  rw [hK]
  rw [if_pos in1]
  rw [if_pos in2]
  rw [if_pos in3]
  rw [hI]
  refine armV (k := k3102) (E := [0, 3]) hC hM hx hK hI (fun t hM ht => (W_tray hC hM oT oX).g) th_f_X7_tray (fun e he s => by simp only [List.mem_cons, List.not_mem_nil, or_false] at he; rcases he with h | h <;> subst h <;> rfl) (by decide) (fun v1 s1 h1 h2 => ?_)
  try dsimp only
  rw [h1]
  rw [if_pos in1]
  rw [if_pos in2]
  rw [if_pos in3]
  rw [h2]
  first | done | rfl
theorem ar_2824 (hv : IV N g s) (hp : p + 8 ≤ N) (hN : N ≤ 4096) : AR N g s (A_L_law__2824 (oN p) s) := by
  obtain ⟨⟨T, X, oT, oX, hC, hM⟩, hx, hK, hI⟩ := hv
  have in1 : am_in (oN p + (1 : Int32)) N = true := by rw [oN_addL]; exact in_o (by omega) (by omega)
  have in2 : am_in (oN p + (2 : Int32)) N = true := by rw [oN_addL]; exact in_o (by omega) (by omega)
  have in3 : am_in (oN p + (3 : Int32)) N = true := by rw [oN_addL]; exact in_o (by omega) (by omega)
  have in4 : am_in (oN p + (4 : Int32)) N = true := by rw [oN_addL]; exact in_o (by omega) (by omega)
  unfold A_L_law__2824
  rw [hK]
  rw [if_pos in1]
  rw [if_pos in2]
  rw [if_pos in3]
  rw [if_pos in4]
  rw [hI]
  refine armL (k := kW) (E := [1, 2, 3]) hC hM hx hK hI (fun t hM ht => (W_write hC hM oT oX).g) th_f_X7_write (fun e he s => by simp only [List.mem_cons, List.not_mem_nil, or_false] at he; rcases he with h | h | h <;> subst h <;> rfl) (by decide) (fun v1 s1 h1 h2 => ?_)
  try dsimp only
  rw [h1]
  rw [if_pos in1]
  rw [if_pos in2]
  rw [if_pos in3]
  rw [if_pos in4]
  rw [h2]
  first | done | rfl
theorem ar_2935 (hv : IV N g s) (hp : p + 8 ≤ N) (hN : N ≤ 4096) : AR N g s (A_L_law__2935 (oN p) s) := by
  obtain ⟨⟨T, X, oT, oX, hC, hM⟩, hx, hK, hI⟩ := hv
  have in1 : am_in (oN p + (1 : Int32)) N = true := by rw [oN_addL]; exact in_o (by omega) (by omega)
  have in2 : am_in (oN p + (2 : Int32)) N = true := by rw [oN_addL]; exact in_o (by omega) (by omega)
  unfold A_L_law__2935
  rw [hK]
  rw [if_pos in1]
  rw [if_pos in2]
  rw [hI]
  refine armI (k := kW) (E := [0, 1, 2, 3]) hC hM hx hK hI (fun t hM ht => (W_take hC hM oT oX).g) th_f_X7_take (fun e he s => by simp only [List.mem_cons, List.not_mem_nil, or_false] at he; rcases he with h | h | h | h <;> subst h <;> rfl) (by decide) (fun v1 s1 h1 h2 => ?_)
  try dsimp only
  rw [h1]
  rw [if_pos in1]
  rw [if_pos in2]
  rw [h2]
  first | done | rfl
theorem ar_3003 (hv : IV N g s) (hp : p + 8 ≤ N) (hN : N ≤ 4096) : AR N g s (A_L_law__3003 (oN p) s) := by
  obtain ⟨⟨T, X, oT, oX, hC, hM⟩, hx, hK, hI⟩ := hv
  have in1 : am_in (oN p + (1 : Int32)) N = true := by rw [oN_addL]; exact in_o (by omega) (by omega)
  unfold A_L_law__3003
  rw [hK]
  rw [if_pos in1]
  rw [hI]
  refine armV (k := k312) (E := [3]) hC hM hx hK hI (fun t hM ht => W_image hC hM oT oX) th_f_X7_image (fun e he s => by rw [List.mem_singleton] at he; subst he; rfl) (by decide) (fun v1 s1 h1 h2 => ?_)
  try dsimp only
  rw [h1]
  rw [if_pos in1]
  rw [h2]
  first | done | rfl
theorem ar_3039 (hv : IV N g s) (hp : p + 8 ≤ N) (hN : N ≤ 4096) : AR N g s (A_L_law__3039 (oN p) s) := by
  obtain ⟨⟨T, X, oT, oX, hC, hM⟩, hx, hK, hI⟩ := hv
  have in1 : am_in (oN p + (1 : Int32)) N = true := by rw [oN_addL]; exact in_o (by omega) (by omega)
  unfold A_L_law__3039
  rw [hK]
  rw [if_pos in1]
  rw [hI]
  refine armV (k := k312) (E := [1, 3]) hC hM hx hK hI (fun t hM ht => (W_restore hC hM oT oX).g) th_f_X7_restore (fun e he s => by simp only [List.mem_cons, List.not_mem_nil, or_false] at he; rcases he with h | h <;> subst h <;> rfl) (by decide) (fun v1 s1 h1 h2 => ?_)
  try dsimp only
  rw [h1]
  rw [if_pos in1]
  rw [h2]
  first | done | rfl
theorem ar_3075 (hv : IV N g s) (hp : p + 8 ≤ N) (hN : N ≤ 4096) : AR N g s (A_L_law__3075 (oN p) s) := by
  obtain ⟨⟨T, X, oT, oX, hC, hM⟩, hx, hK, hI⟩ := hv
  have in1 : am_in (oN p + (1 : Int32)) N = true := by rw [oN_addL]; exact in_o (by omega) (by omega)
  unfold A_L_law__3075
  rw [hK]
  rw [if_pos in1]
  rw [hI]
  refine armD (k := k01) hC hM hx hK hI (fun t hM ht => (W_count hC hM oT oX).g) th_f_X7_count (fun v1 s1 h1 h2 => ?_)
  try dsimp only
  rw [h1]
  rw [if_pos in1]
  rw [h2]
  first | done | rfl
end ARS
