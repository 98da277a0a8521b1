/-! ===== the law from its entry ===== -/
section RUN
theorem hgn' {d : Nat} {σ : am_S} {Q : am_O → am_S → Prop} (hn : am_n σ = 0) (hF : am_K σ 3000000 = (19, 23)) (hQ : Q (.inl none) (nHg σ)) : am_WP (d + 3) mX7_init 0 [(0, .ref 0)] [] (am_nat σ 0 7 0 11) Q := by
  obtain ⟨I, L, R, K, n, c, z⟩ := σ
  have hn : n = 0 := hn
  subst hn
  exact hgn hF hQ
theorem mdn' {d : Nat} {σ : am_S} {Q : am_O → am_S → Prop} (hn : am_n σ = 55) (hQ : Q (.inl none) (nMd σ)) : am_WP (d + 3) mX8_init 0 [(0, .ref 55)] [] (am_nat σ 55 8 0 54) Q := by
  obtain ⟨I, L, R, K, n, c, z⟩ := σ
  have hn : n = 55 := hn
  subst hn
  exact mdn hQ
/-- the state at the loop's head -/
def st0 (σ : am_S) : am_S := am_nat (nMd (nHg σ)) 71 21 1 1
def T0 : hT := (8, 6, 0, lF, [], [], [], [], [])
def X0 : hX := (0, fun _ => 0, 0, -1, fun _ => (-1, 0, fun _ => 0), fun _ => none)
/-- what the heap holds before the law begins -/
def B0 (N : Nat) (g : Nat → Int32) (σ : am_S) : Prop := am_n σ = 0 ∧ (∀ a, 1000000 ≤ a → a ≠ 2000000 → am_K σ a = am_k0 a) ∧ am_K σ 2000000 = (19, N) ∧ am_I σ 2000000 = g ∧ txS σ ∧ stS σ ∧ cF σ
variable {N : Nat} {g : Nat → Int32} {σ : am_S}
def sP (σ σ' : am_S) : Prop := ∀ a, 72 ≤ a → am_I σ' a = am_I σ a ∧ am_L σ' a = am_L σ a ∧ am_R σ' a = am_R σ a ∧ am_K σ' a = am_K σ a
theorem sP.refl : sP σ σ := fun _ _ => ⟨rfl, rfl, rfl, rfl⟩
theorem sP.nat {σ' : am_S} {m kd l z : Nat} (hm : Nat.ble m 71 = true) (h : sP σ σ') : sP σ (am_nat σ' m kd l z) := by
  intro a ha
  obtain ⟨h1, h2, h3, h4⟩ := h a ha
  have hm := Nat.le_of_ble_eq_true hm
  have hne : ¬ a = m := by omega
  exact ⟨(w_ne hne).trans h1, (w_ne hne).trans h2, (w_ne hne).trans h3, (w_ne hne).trans h4⟩
theorem sP.sR {σ' : am_S} {m k : Nat} {r : Option Nat} (hm : Nat.ble m 71 = true) (h : sP σ σ') : sP σ (am_sR σ' m k r) := by
  intro a ha
  obtain ⟨h1, h2, h3, h4⟩ := h a ha
  have hm := Nat.le_of_ble_eq_true hm
  have hne : ¬ a = m := by omega
  exact ⟨h1, h2, (u_ne hne).trans h3, h4⟩
theorem sP.sI {σ' : am_S} {m k : Nat} {v : Int32} (hm : Nat.ble m 71 = true) (h : sP σ σ') : sP σ (am_sI σ' m k v) := by
  intro a ha
  obtain ⟨h1, h2, h3, h4⟩ := h a ha
  have hm := Nat.le_of_ble_eq_true hm
  have hne : ¬ a = m := by omega
  exact ⟨(u_ne hne).trans h1, h2, h3, h4⟩
theorem sP.cp {σ' : am_S} {m k n : Nat} (hm : Nat.ble m 71 = true) (h : sP σ σ') : sP σ (ax_cp σ' m k n) := by
  intro a ha
  obtain ⟨h1, h2, h3, h4⟩ := h a ha
  have hm := Nat.le_of_ble_eq_true hm
  have hne : ¬ a = m := by omega
  exact ⟨(w_ne hne).trans h1, h2, h3, h4⟩
set_option maxRecDepth 100000 in
theorem st0_out : sP σ (st0 σ) := by
  unfold st0 nMd nHg
  repeat' (first | exact sP.refl | (refine sP.nat rfl ?_) | (refine sP.sR rfl ?_) | (refine sP.sI rfl ?_) | (refine sP.cp rfl ?_))
set_option maxRecDepth 100000 in
theorem st0_K : ∀ a, a < 72 → am_K (st0 σ) a = am_k0 a := fun a ha => match a, ha with
  | 0, _ => rfl
  | 1, _ => rfl
  | 2, _ => rfl
  | 3, _ => rfl
  | 4, _ => rfl
  | 5, _ => rfl
  | 6, _ => rfl
  | 7, _ => rfl
  | 8, _ => rfl
  | 9, _ => rfl
  | 10, _ => rfl
  | 11, _ => rfl
  | 12, _ => rfl
  | 13, _ => rfl
  | 14, _ => rfl
  | 15, _ => rfl
  | 16, _ => rfl
  | 17, _ => rfl
  | 18, _ => rfl
  | 19, _ => rfl
  | 20, _ => rfl
  | 21, _ => rfl
  | 22, _ => rfl
  | 23, _ => rfl
  | 24, _ => rfl
  | 25, _ => rfl
  | 26, _ => rfl
  | 27, _ => rfl
  | 28, _ => rfl
  | 29, _ => rfl
  | 30, _ => rfl
  | 31, _ => rfl
  | 32, _ => rfl
  | 33, _ => rfl
  | 34, _ => rfl
  | 35, _ => rfl
  | 36, _ => rfl
  | 37, _ => rfl
  | 38, _ => rfl
  | 39, _ => rfl
  | 40, _ => rfl
  | 41, _ => rfl
  | 42, _ => rfl
  | 43, _ => rfl
  | 44, _ => rfl
  | 45, _ => rfl
  | 46, _ => rfl
  | 47, _ => rfl
  | 48, _ => rfl
  | 49, _ => rfl
  | 50, _ => rfl
  | 51, _ => rfl
  | 52, _ => rfl
  | 53, _ => rfl
  | 54, _ => rfl
  | 55, _ => rfl
  | 56, _ => rfl
  | 57, _ => rfl
  | 58, _ => rfl
  | 59, _ => rfl
  | 60, _ => rfl
  | 61, _ => rfl
  | 62, _ => rfl
  | 63, _ => rfl
  | 64, _ => rfl
  | 65, _ => rfl
  | 66, _ => rfl
  | 67, _ => rfl
  | 68, _ => rfl
  | 69, _ => rfl
  | 70, _ => rfl
  | 71, _ => rfl
  | a + 72, h => absurd h (by omega)
set_option maxRecDepth 100000 in
theorem st0_R : ∀ a k, a < 72 → am_R (st0 σ) a k = am_r0 a k := fun a k ha => match a, ha with
  | 0, _ => match k with
    | 0 => rfl
    | 1 => rfl
    | 2 => rfl
    | 3 => rfl
    | 4 => rfl
    | 5 => rfl
    | 6 => rfl
    | 7 => rfl
    | 8 => rfl
    | 9 => rfl
    | 10 => rfl
    | k + 11 => rfl
  | 1, _ => match k with
    | 0 => rfl
    | 1 => rfl
    | 2 => rfl
    | 3 => rfl
    | 4 => rfl
    | 5 => rfl
    | 6 => rfl
    | 7 => rfl
    | 8 => rfl
    | 9 => rfl
    | 10 => rfl
    | k + 11 => rfl
  | 2, _ => rfl
  | 3, _ => match k with
    | 0 => rfl
    | 1 => rfl
    | 2 => rfl
    | 3 => rfl
    | 4 => rfl
    | 5 => rfl
    | k + 6 => rfl
  | 4, _ => match k with
    | 0 => rfl
    | 1 => rfl
    | 2 => rfl
    | 3 => rfl
    | 4 => rfl
    | k + 5 => rfl
  | 5, _ => match k with
    | 0 => rfl
    | k + 1 => rfl
  | 6, _ => rfl
  | 7, _ => match k with
    | 0 => rfl
    | k + 1 => rfl
  | 8, _ => rfl
  | 9, _ => match k with
    | 0 => rfl
    | k + 1 => rfl
  | 10, _ => rfl
  | 11, _ => match k with
    | 0 => rfl
    | k + 1 => rfl
  | 12, _ => rfl
  | 13, _ => match k with
    | 0 => rfl
    | k + 1 => rfl
  | 14, _ => rfl
  | 15, _ => match k with
    | 0 => rfl
    | k + 1 => rfl
  | 16, _ => rfl
  | 17, _ => match k with
    | 0 => rfl
    | k + 1 => rfl
  | 18, _ => rfl
  | 19, _ => match k with
    | 0 => rfl
    | k + 1 => rfl
  | 20, _ => rfl
  | 21, _ => match k with
    | 0 => rfl
    | k + 1 => rfl
  | 22, _ => rfl
  | 23, _ => match k with
    | 0 => rfl
    | k + 1 => rfl
  | 24, _ => rfl
  | 25, _ => match k with
    | 0 => rfl
    | k + 1 => rfl
  | 26, _ => rfl
  | 27, _ => match k with
    | 0 => rfl
    | k + 1 => rfl
  | 28, _ => rfl
  | 29, _ => match k with
    | 0 => rfl
    | k + 1 => rfl
  | 30, _ => rfl
  | 31, _ => match k with
    | 0 => rfl
    | k + 1 => rfl
  | 32, _ => rfl
  | 33, _ => rfl
  | 34, _ => match k with
    | 0 => rfl
    | k + 1 => rfl
  | 35, _ => rfl
  | 36, _ => match k with
    | 0 => rfl
    | 1 => rfl
    | 2 => rfl
    | 3 => rfl
    | k + 4 => rfl
  | 37, _ => match k with
    | 0 => rfl
    | k + 1 => rfl
  | 38, _ => rfl
  | 39, _ => match k with
    | 0 => rfl
    | k + 1 => rfl
  | 40, _ => rfl
  | 41, _ => match k with
    | 0 => rfl
    | 1 => rfl
    | k + 2 => rfl
  | 42, _ => match k with
    | 0 => rfl
    | k + 1 => rfl
  | 43, _ => rfl
  | 44, _ => rfl
  | 45, _ => rfl
  | 46, _ => rfl
  | 47, _ => match k with
    | 0 => rfl
    | k + 1 => rfl
  | 48, _ => rfl
  | 49, _ => match k with
    | 0 => rfl
    | k + 1 => rfl
  | 50, _ => rfl
  | 51, _ => match k with
    | 0 => rfl
    | k + 1 => rfl
  | 52, _ => rfl
  | 53, _ => match k with
    | 0 => rfl
    | k + 1 => rfl
  | 54, _ => rfl
  | 55, _ => match k with
    | 0 => rfl
    | 1 => rfl
    | 2 => rfl
    | 3 => rfl
    | 4 => rfl
    | 5 => rfl
    | 6 => rfl
    | 7 => rfl
    | 8 => rfl
    | 9 => rfl
    | 10 => rfl
    | 11 => rfl
    | 12 => rfl
    | 13 => rfl
    | 14 => rfl
    | 15 => rfl
    | 16 => rfl
    | 17 => rfl
    | 18 => rfl
    | 19 => rfl
    | 20 => rfl
    | 21 => rfl
    | 22 => rfl
    | 23 => rfl
    | 24 => rfl
    | 25 => rfl
    | 26 => rfl
    | 27 => rfl
    | 28 => rfl
    | 29 => rfl
    | 30 => rfl
    | 31 => rfl
    | 32 => rfl
    | 33 => rfl
    | 34 => rfl
    | 35 => rfl
    | 36 => rfl
    | 37 => rfl
    | 38 => rfl
    | 39 => rfl
    | 40 => rfl
    | 41 => rfl
    | 42 => rfl
    | 43 => rfl
    | 44 => rfl
    | 45 => rfl
    | 46 => rfl
    | 47 => rfl
    | 48 => rfl
    | 49 => rfl
    | 50 => rfl
    | 51 => rfl
    | 52 => rfl
    | 53 => rfl
    | k + 54 => rfl
  | 56, _ => rfl
  | 57, _ => rfl
  | 58, _ => rfl
  | 59, _ => rfl
  | 60, _ => rfl
  | 61, _ => rfl
  | 62, _ => rfl
  | 63, _ => rfl
  | 64, _ => rfl
  | 65, _ => rfl
  | 66, _ => rfl
  | 67, _ => rfl
  | 68, _ => rfl
  | 69, _ => rfl
  | 70, _ => rfl
  | 71, _ => rfl
  | a + 72, h => absurd h (by omega)
theorem st0_sh (h : B0 N g σ) : am_sh N 72 (st0 σ) := by
  obtain ⟨h1, h2, h3, h4, h5, h6, h7⟩ := h
  have o := st0_out (σ := σ)
  refine ⟨Or.inl rfl, rfl, st0_K, fun a ha hb => by rw [(o a (by omega)).2.2.2]; exact h2 a ha hb, by rw [(o 2000000 (by omega)).2.2.2]; exact h3, fun a k ha _ => st0_R a k ha, fun k b e => ?_⟩
  rw [st0_R 33 k (by omega)] at e
  cases e
set_option maxRecDepth 100000 in
theorem st0_law : ∀ k, k < 23 → am_I (st0 σ) 56 (lp k) = lF k := fun k hk => match k, hk with
  | 0, _ => rfl
  | 1, _ => rfl
  | 2, _ => rfl
  | 3, _ => rfl
  | 4, _ => rfl
  | 5, _ => rfl
  | 6, _ => rfl
  | 7, _ => rfl
  | 8, _ => rfl
  | 9, _ => rfl
  | 10, _ => rfl
  | 11, _ => rfl
  | 12, _ => rfl
  | 13, _ => rfl
  | 14, _ => rfl
  | 15, _ => rfl
  | 16, _ => rfl
  | 17, _ => rfl
  | 18, _ => rfl
  | 19, _ => rfl
  | 20, _ => rfl
  | 21, _ => rfl
  | 22, _ => rfl
  | k + 23, h => absurd h (by omega)
set_option maxRecDepth 100000 in
theorem st0_rule (hs : stS σ) : ∀ k, k < 23 → am_I (st0 σ) 2 k = lF k := by
  intro k hk
  show va_cpy (am_I σ 3000000) (fun _ => 0) 0 0 23 k = _
  unfold va_cpy
  rw [if_pos (by omega), show 0 + (k - 0) = k by omega]
  exact hs.1 k hk
set_option maxRecDepth 100000 in
theorem st0_lim : cLim (st0 σ) 1 := by
  refine ⟨fun w hw => ?_, fun w hw => ?_, rfl, rfl, rfl⟩
  · exact match w, hw with
    | 0, _ => rfl
    | 1, _ => rfl
    | 2, _ => rfl
    | 3, _ => rfl
    | 4, _ => rfl
    | 5, _ => rfl
    | w + 6, h => absurd h (by omega)
  · exact match w, hw with
    | 0, _ => rfl
    | 1, _ => rfl
    | 2, _ => rfl
    | 3, _ => rfl
    | 4, _ => rfl
    | w + 5, h => absurd h (by omega)
set_option maxRecDepth 100000 in
theorem st0_trC : trC (st0 σ) (fun _ => (-1, 0, fun _ => 0)) := fun j hj => match j, hj with
  | 0, _ => ⟨rfl, rfl, fun _ _ => rfl⟩
  | 1, _ => ⟨rfl, rfl, fun _ _ => rfl⟩
  | 2, _ => ⟨rfl, rfl, fun _ _ => rfl⟩
  | 3, _ => ⟨rfl, rfl, fun _ _ => rfl⟩
  | j + 4, h => absurd h (by omega)
set_option maxRecDepth 100000 in
theorem st0_trM : trM (st0 σ) (fun _ => (-1, 0, fun _ => 0)) := fun j hj => match j, hj with
  | 0, _ => ⟨rfl, rfl, fun _ _ => rfl⟩
  | 1, _ => ⟨rfl, rfl, fun _ _ => rfl⟩
  | 2, _ => ⟨rfl, rfl, fun _ _ => rfl⟩
  | 3, _ => ⟨rfl, rfl, fun _ _ => rfl⟩
  | j + 4, h => absurd h (by omega)
theorem nil3 {f : Nat → Int32} {p w : Nat} : hp3 f p w [] := fun i q h => by cases h
theorem nil2 {f : Nat → Int32} {p w : Nat} : hp2 f p w [] := fun i q h => by cases h
set_option maxRecDepth 100000 in
theorem st0_tC (hs : stS σ) : tC (st0 σ) 1 T0 :=
  ⟨⟨rfl, rfl, rfl, st0_rule hs⟩, ⟨rfl, fun w q h => by cases h⟩, ⟨rfl, fun w q h => by cases h⟩, ⟨rfl, nil3⟩, ⟨rfl, nil2⟩, ⟨rfl, nil3⟩, st0_lim⟩
set_option maxRecDepth 100000 in
theorem st0_tM : tM (am_I (st0 σ) 56) T0 :=
  ⟨⟨rfl, rfl, rfl, st0_law⟩, ⟨rfl, fun w q h => by cases h⟩, ⟨rfl, fun w q h => by cases h⟩, ⟨rfl, nil3⟩, ⟨rfl, nil2⟩, ⟨rfl, nil3⟩⟩
theorem T0_ok : tO T0 := by
  refine ⟨by decide, by decide, by decide, lF_ok, ⟨by decide, fun q h => by cases h⟩, ⟨by decide, fun q h => by cases h⟩, ⟨by decide, fun q h => by cases h⟩, ⟨by decide, fun q h => by cases h⟩, ⟨by decide, fun q h => by cases h⟩⟩
theorem X0_ok : xO X0 := ⟨⟨by decide, fun k h => absurd h (Nat.not_lt_zero k)⟩, fun j hj => Or.inl rfl, fun i h hi e => by cases e⟩
set_option maxRecDepth 100000 in
theorem st0_IV (h : B0 N g σ) : IV N g (st0 σ) := by
  obtain ⟨h1, h2, h3, h4, h5, h6, h7⟩ := h
  have o := st0_out (σ := σ)
  refine ⟨⟨T0, X0, T0_ok, X0_ok, ⟨st0_tC h6, ⟨⟨fun k hk => ?_, fun k hk => ?_⟩, rfl⟩, ?_, ⟨rfl, fun k hk => absurd hk (Nat.not_lt_zero k), rfl, rfl⟩, st0_trC, ⟨fun i hi => Or.inl ⟨by rw [st0_R 33 i (by omega)]; rfl, rfl⟩, fun i j b hi hj e _ => ?_, rfl⟩⟩, ⟨st0_tM, ⟨rfl, Or.inl rfl⟩, ⟨rfl, fun k hk => absurd hk (Nat.not_lt_zero k), rfl, rfl⟩, st0_trM, fun i hi => Or.inl ⟨rfl, rfl⟩⟩⟩, ?_, ?_, ?_⟩
  · rw [(o 3000005 (by omega)).1]; exact h7.1 k hk
  · rw [(o 3000006 (by omega)).1]; exact h7.2 k hk
  · unfold stS
    rw [(o 3000000 (by omega)).1, (o 3000001 (by omega)).1, (o 3000002 (by omega)).1, (o 3000003 (by omega)).1, (o 3000004 (by omega)).1]
    exact h6
  · rw [st0_R 33 i (by omega)] at e; cases e
  · exact h5.same (fun a ha => (o a (by omega)).1)
  · rw [(o 2000000 (by omega)).2.2.2, h3]
  · rw [(o 2000000 (by omega)).1]; exact h4
theorem st0_c : am_c (st0 σ) = am_c σ + 72 := rfl
set_option maxRecDepth 100000 in
theorem st0_z : am_z (st0 σ) ≤ am_z σ + 5000 := by
  have : am_z (st0 σ) = am_z σ + 4349 := rfl
  omega
/-- the law, from its entry to its end -/
theorem law_run {d : Nat} (h : B0 N g σ) (hN : N ≤ 4096) : ∃ n σ1, am_run n (d + 11) mL_law_ 0 [(0, .ref 2000000)] [] σ = some (.inl (some (.int 1)), σ1) ∧ am_c σ1 ≤ am_c σ + 20000 ∧ am_z σ1 ≤ am_z σ + 600000 := by
  obtain ⟨s1, z1, z2, z3⟩ := loop_in (g := g) hN 512 ax_fuel 0 (st0 σ) (by rw [ax_fuel_is]; omega) (by omega) (by omega) (st0_IV h)
  have key : am_WP (d + 11) mL_law_ 0 [(0, .ref 2000000)] [] σ (fun o s => o = .inl (some (.int 1)) ∧ s = s1) := by
    refine wq_new (m := 0) dL_law__0 rfl rfl h.1 rfl rfl ?_
    refine wp_pu (st' := [.ref 0, .ref 0]) dL_law__3 rfl rfl ?_
    refine wp_call (M' := mX7_init) (av := [.ref 0]) (rest := [.ref 0]) dL_law__4 rfl rfl rfl rfl ?_
    refine hgn' (d := d + 7) h.1 (h.2.1 3000000 (by omega) (by omega)) ?_
    show am_WP (d + 11) mL_law_ 7 [(0, .ref 2000000)] [.ref 0] (nHg σ) _
    refine wp_st (ls' := [(0, .ref 2000000), (1, .ref 0)]) dL_law__7 rfl rfl rfl (Nat.le_of_ble_eq_true rfl) rfl ?_
    refine wq_new (m := 55) dL_law__8 rfl rfl rfl rfl rfl ?_
    refine wp_pu (st' := [.ref 55, .ref 55]) dL_law__11 rfl rfl ?_
    refine wp_call (M' := mX8_init) (av := [.ref 55]) (rest := [.ref 55]) dL_law__12 rfl rfl rfl rfl ?_
    refine mdn' (d := d + 7) rfl ?_
    show am_WP (d + 11) mL_law_ 15 [(0, .ref 2000000), (1, .ref 0)] [.ref 55] (nMd (nHg σ)) _
    refine wp_st (ls' := [(0, .ref 2000000), (1, .ref 0), (2, .ref 55)]) dL_law__15 rfl rfl rfl (Nat.le_of_ble_eq_true rfl) rfl ?_
    refine wp_cst (v := .int (1 : Int32)) dL_law__16 rfl rfl ?_
    refine wq_na21 (m := 71) (l := 1) dL_law__17 rfl rfl rfl (by decide) rfl ?_
    refine wp_st (ls' := [(0, .ref 2000000), (1, .ref 0), (2, .ref 55), (3, .ref 71)]) dL_law__19 rfl rfl rfl (Nat.le_of_ble_eq_true rfl) rfl ?_
    refine wp_cst (v := .int (0 : Int32)) dL_law__20 rfl rfl ?_
    refine wp_st (ls' := [(0, .ref 2000000), (1, .ref 0), (2, .ref 55), (3, .ref 71), (4, .int (0 : Int32))]) dL_law__21 rfl rfl rfl (Nat.le_of_ble_eq_true rfl) rfl ?_
    refine q_L_law__23 ax_fuel (N := N) (P := fun r => r = .inr ((), s1)) ⟨72, st0_sh h⟩ ⟨_, z1, rfl⟩ (fun o s e _ => by cases e) (fun e s q _ => ?_)
    cases q
    refine wp_cst (v := .int (1 : Int32)) dL_law__3106 rfl rfl ?_
    exact wp_end dL_law__3107 rfl (am_end_b rfl (Or.inr rfl)) ⟨rfl, rfl⟩
  obtain ⟨n, o, σ1, hr, ho, hs⟩ := key
  subst ho hs
  have c0 := st0_c (σ := σ)
  have c1 := st0_z (σ := σ)
  exact ⟨n, σ1, hr, by omega, by omega⟩
end RUN
