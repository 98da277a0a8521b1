/-! ===== the law's entry ===== -/
section WST
variable {s : State} {b L : Nat} {args : Array Value} {A : Nat → Prop}
theorem w_of {w : Cond} {i : Nat} (hts : ∀ w ∈ lw_tbl, w.before args s = true) (h : lw_tbl[i]? = some w) : w.before args s = true := hts w (List.mem_of_getElem? h)
theorem f_of {w : Cond} {i : Nat} (hs : ∀ w ∈ flN, w.before args s = true) (h : flN[i]? = some w) : w.before args s = true := hs w (List.mem_of_getElem? h)
theorem arr_of {tm : Term} {n : Nat} {f : Nat → Int32} (hn : n < 2 ^ 31) (hA : ∀ a : Nat, a < s.heap.size → ¬ A a) (h : ∀ c ∈ arSeg tm n f, c.before args s = true) : ∃ t : Nat, tm.eval args s none [] s = some (.ref t) ∧ va_T .int t n (fun j => .int (f j)) A s s.heap := by
  unfold arSeg at h
  refine va_Tof hn (h _ List.mem_cons_self) (va_eqt (h _ (List.mem_cons_of_mem _ List.mem_cons_self))) (fun j hj => va_eqt (h _ (List.mem_cons_of_mem _ (List.mem_cons_of_mem _ (List.mem_map.mpr ⟨j, List.mem_range.mpr hj, rfl⟩))))) hA
theorem str_of {tm : Term} {w : List Int32} (hw : w.length < 100) (hc : ∀ j, j < w.length → ∃ c : Nat, c < 128 ∧ (w[j]?).getD 0 = nI c) (hA : ∀ a : Nat, a < s.heap.size → ¬ A a) (h : ∀ c ∈ stSeg tm w, c.before args s = true) : ∃ a : Nat, tm.eval args s none [] s = some (.ref a) ∧ am_Str a w.length (fun j => (w[j]?).getD 0) A s s.heap := by
  unfold stSeg at h
  obtain ⟨adK, adV, h1, h2⟩ := vk_Sof (args := args) (s := s) (N := 1) (tm := fun _ => tm) (len := [w.length]) (byt := [w]) (A := A)
    (fun i hi => by obtain rfl : i = 0 := by omega
                    show w.length < 2 ^ 31
                    omega)
    (fun i hi => h _ List.mem_cons_self)
    (fun i hi => h _ (List.mem_cons_of_mem _ List.mem_cons_self))
    (fun i hi => h _ (List.mem_cons_of_mem _ (List.mem_cons_of_mem _ List.mem_cons_self)))
    (fun i hi => by obtain rfl : i = 0 := by omega
                    exact h _ (List.mem_cons_of_mem _ (List.mem_cons_of_mem _ (List.mem_cons_of_mem _ List.mem_cons_self))))
    (fun i hi j hj => by
      obtain rfl : i = 0 := by omega
      have hj : j < w.length := hj
      have e : (([w] : List (List Int32)).getD 0 []).getD j 0 = (w[j]?).getD 0 := by rw [show ([w] : List (List Int32)).getD 0 [] = w from rfl, List.getD_eq_getElem?_getD]
      rw [e]
      exact h _ (List.mem_cons_of_mem _ (List.mem_cons_of_mem _ (List.mem_cons_of_mem _ (List.mem_cons_of_mem _ (List.mem_map.mpr ⟨j, List.mem_range.mpr hj, rfl⟩))))))
    (fun i j hi hj hij => absurd (show i = j by omega) hij) hA
  obtain ⟨q1, q2, q3, q4⟩ := h1.1 0 (by omega)
  refine ⟨adK 0, h2 0 (by omega), q1, q2, hw, adV 0, fun j => (w[j]?).getD 0, q3, ?_, fun j hj => ?_⟩
  · have e : (fun j => Value.int ((([w] : List (List Int32)).getD 0 []).getD j 0)) = (fun j => Value.int ((w[j]?).getD 0)) := by
      funext j
      rw [show ([w] : List (List Int32)).getD 0 [] = w from rfl, List.getD_eq_getElem?_getD]
    rw [e] at q4
    exact q4
  · obtain ⟨c, c1, c2⟩ := hc j hj
    exact ⟨c, c1, c2, c2⟩
theorem wd_asc : ∀ j, j < 10 → ∀ k, k < (wd j).length → ((wd j)[k]?).getD 0 = nI ((((wd j)[k]?).getD 0).toNatClampNeg) ∧ (((wd j)[k]?).getD 0).toNatClampNeg < 128 := by decide +kernel
theorem find_in {k v : Nat} : ∀ {l : List (Nat × Nat)}, am_find k l = some v → (k, v) ∈ l := by
  intro l
  induction l with
  | nil => intro h; cases h
  | cons q l ih =>
    intro h
    unfold am_find at h
    by_cases c : q.1 = k
    · rw [if_pos c] at h
      cases h
      rw [← c]
      exact List.mem_cons_self
    · rw [if_neg c] at h
      exact List.mem_cons_of_mem _ (ih h)
theorem sr3 : ∀ q ∈ am_srT 3, q.2 - 1000000 < 20 ∧ q = (kS (q.2 - 1000000), 1000000 + (q.2 - 1000000)) ∧ oS' (q.2 - 1000000) = am_cn 3 := by decide +kernel
theorem sr8 : ∀ q ∈ am_srT 8, q.2 - 1000000 < 20 ∧ q = (kS (q.2 - 1000000), 1000000 + (q.2 - 1000000)) ∧ oS' (q.2 - 1000000) = am_cn 8 := by decide +kernel
theorem sr_cases (o : Nat) : o = 3 ∨ o = 8 ∨ am_srT o = [] := by
  by_cases h : o = 3
  · exact Or.inl h
  · by_cases h2 : o = 8
    · exact Or.inr (Or.inl h2)
    · refine Or.inr (Or.inr ?_)
      unfold am_srT
      split
      · exact absurd rfl h
      · exact absurd rfl h2
      · rfl
theorem k0_19 {a m : Nat} (ha : 1000000 ≤ a) (h : am_k0 a = (19, m)) : ∃ j, j < 7 ∧ a = 3000000 + j ∧ m = sN j := by
  unfold am_k0 at h
  rw [if_neg (by omega), if_neg (by omega), if_neg (by omega)] at h
  by_cases c1 : a < 1000020
  · rw [if_pos c1] at h; cases h
  · rw [if_neg c1] at h
    by_cases c2 : a < 3000000
    · rw [if_pos c2] at h; cases h
    · rw [if_neg c2] at h
      by_cases c3 : a < 3000007
      · rw [if_pos c3] at h
        obtain ⟨j, rfl⟩ : ∃ j, a = 3000000 + j := ⟨a - 3000000, by omega⟩
        rw [show 3000000 + j - 3000000 = j by omega] at h
        exact ⟨j, by omega, rfl, (congrArg Prod.snd h).symm⟩
      · rw [if_neg c3] at h; cases h
theorem k0_18 {a m : Nat} (h : am_k0 a = (18, m)) : ∃ j, j < 20 ∧ a = 1000000 + j ∧ m = (wd (j % 10)).length := by
  have := k0_txt (a := a) (by rw [h])
  obtain ⟨j, rfl⟩ : ∃ j, a = 1000000 + j := ⟨a - 1000000, by omega⟩
  rw [k0w j (by omega)] at h
  cases h
  exact ⟨j, by omega, rfl, rfl⟩
def fK0 (L a : Nat) : Nat × Nat := if a < 1000000 then (99, 0) else if a = 2000000 then (19, L) else am_k0 a
def fI0 (xs : Nat → Int32) (a : Nat) : Nat → Int32 := if a = 2000000 then xs else if a < 1000020 then (fun k => ((wd ((a - 1000000) % 10))[k]?).getD 0) else sF (a - 3000000)
def sg0 (L : Nat) (xs : Nat → Int32) : am_S := (fI0 xs, fun _ _ => 0, fun _ _ => none, fK0 L, 0, 0, 0)
theorem sF_cF : (∀ k, k < 17 → (sF 5 k).toInt = qn k) ∧ (∀ k, k < 16 → (sF 6 k).toInt = rs k) := by decide +kernel
theorem sg0_B {xs : Nat → Int32} : B0 L xs (sg0 L xs) := by
  refine ⟨rfl, fun a ha hb => ?_, ?_, ?_, ?_, ⟨fun k hk => rfl, fun k hk => rfl, fun k hk => rfl, fun k hk => rfl, fun k hk => rfl⟩, ⟨fun k hk => sF_cF.1 k hk, fun k hk => sF_cF.2 k hk⟩⟩
  · show fK0 L a = _
    unfold fK0
    rw [if_neg (by omega), if_neg hb]
  · show fK0 L 2000000 = _
    unfold fK0
    rw [if_neg (by omega), if_pos rfl]
  · show fI0 xs 2000000 = _
    unfold fI0
    rw [if_pos rfl]
  · intro j hj k hk
    show fI0 xs (1000000 + j) k = _
    unfold fI0
    rw [if_neg (by omega), if_pos (by omega), show 1000000 + j - 1000000 = j by omega]
theorem sg0_k {a : Nat} : ¬ am_real (fK0 L a).1 := by
  unfold fK0 am_real
  by_cases c : a < 1000000
  · rw [if_pos c]; omega
  · rw [if_neg c]
    by_cases c2 : a = 2000000
    · rw [if_pos c2]; omega
    · rw [if_neg c2]
      have := k0_big (a := a) (by omega)
      omega
end WST
section WS2
variable {s : State} {b L : Nat} {A : Nat → Prop}
theorem str_all (hA : ∀ a : Nat, a < s.heap.size → ¬ A a) (hts : ∀ w ∈ lw_tbl, w.before #[Value.ref b] s = true) (hs : ∀ w ∈ flN, w.before #[Value.ref b] s = true) : ∀ j, ∃ a : Nat, j < 20 → (am_Str a (wd (j % 10)).length (fun k => ((wd (j % 10))[k]?).getD 0) A s s.heap ∧ ∃ tx, vk_R (oS' j) (kS j) tx a s) := by
  have key : ∀ {j i k n : Nat} {tx : String}, j < 20 → (flN.drop k).take n = stSeg (tmS j) (wd (j % 10)) → lw_tbl[i]? = some (Cond.stringRef (oS' j) (kS j) tx) → ∃ a : Nat, j < 20 → (am_Str a (wd (j % 10)).length (fun k => ((wd (j % 10))[k]?).getD 0) A s s.heap ∧ ∃ tx, vk_R (oS' j) (kS j) tx a s) := by
    intro j i k n tx hj h1 h2
    obtain ⟨a, q1, q2⟩ := str_of (tm := tmS j) (w := wd (j % 10)) (by have := wdl j hj; omega) (fun k hk => ⟨_, (wd_asc (j % 10) (by omega) k hk).2, (wd_asc (j % 10) (by omega) k hk).1⟩) hA (fun c hc => hs c (seg_mem h1 c hc))
    exact ⟨a, fun _ => ⟨q2, tx, vk_R.of (w_of hts h2) q1⟩⟩
  intro j
  by_cases hj : j < 20
  · match j, hj with
    | 0, _ => exact key (j := 0) (by omega) sgS0 srS0
    | 1, _ => exact key (j := 1) (by omega) sgS1 srS1
    | 2, _ => exact key (j := 2) (by omega) sgS2 srS2
    | 3, _ => exact key (j := 3) (by omega) sgS3 srS3
    | 4, _ => exact key (j := 4) (by omega) sgS4 srS4
    | 5, _ => exact key (j := 5) (by omega) sgS5 srS5
    | 6, _ => exact key (j := 6) (by omega) sgS6 srS6
    | 7, _ => exact key (j := 7) (by omega) sgS7 srS7
    | 8, _ => exact key (j := 8) (by omega) sgS8 srS8
    | 9, _ => exact key (j := 9) (by omega) sgS9 srS9
    | 10, _ => exact key (j := 10) (by omega) sgS10 srS10
    | 11, _ => exact key (j := 11) (by omega) sgS11 srS11
    | 12, _ => exact key (j := 12) (by omega) sgS12 srS12
    | 13, _ => exact key (j := 13) (by omega) sgS13 srS13
    | 14, _ => exact key (j := 14) (by omega) sgS14 srS14
    | 15, _ => exact key (j := 15) (by omega) sgS15 srS15
    | 16, _ => exact key (j := 16) (by omega) sgS16 srS16
    | 17, _ => exact key (j := 17) (by omega) sgS17 srS17
    | 18, _ => exact key (j := 18) (by omega) sgS18 srS18
    | 19, _ => exact key (j := 19) (by omega) sgS19 srS19
    | j + 20, h => omega
  · exact ⟨0, fun h => absurd h hj⟩
theorem sta_all (hA : ∀ a : Nat, a < s.heap.size → ¬ A a) (hts : ∀ w ∈ lw_tbl, w.before #[Value.ref b] s = true) (hs : ∀ w ∈ flN, w.before #[Value.ref b] s = true) : ∀ j, ∃ a : Nat, j < 7 → (va_T .int a (sN j) (fun k => .int (sF j k)) A s s.heap ∧ va_Z RX7 (am_sn j) "[I" (.ref a) A s s.heap) := by
  have key : ∀ {j i k n : Nat}, (flN.drop k).take n = arSeg (tmT j) (sN j) (sF j) → lw_tbl[i]? = some (Cond.laysStatic RX7 (am_sn j) "[I") → sN j < 2 ^ 31 → ∃ a : Nat, j < 7 → (va_T .int a (sN j) (fun k => .int (sF j k)) A s s.heap ∧ va_Z RX7 (am_sn j) "[I" (.ref a) A s s.heap) := by
    intro j i k n h1 h2 h3
    obtain ⟨a, q1, q2⟩ := arr_of (tm := tmT j) (n := sN j) (f := sF j) h3 hA (fun c hc => hs c (seg_mem h1 c hc))
    exact ⟨a, fun _ => ⟨q2, va_Zof (w_of hts h2) (w_of hts in7) q1 hA⟩⟩
  intro j
  by_cases hj : j < 7
  · match j, hj with
    | 0, _ => exact key (j := 0) sgT0 lsT0 (by decide)
    | 1, _ => exact key (j := 1) sgT1 lsT1 (by decide)
    | 2, _ => exact key (j := 2) sgT2 lsT2 (by decide)
    | 3, _ => exact key (j := 3) sgT3 lsT3 (by decide)
    | 4, _ => exact key (j := 4) sgT4 lsT4 (by decide)
    | 5, _ => exact key (j := 5) sgT5 lsT5 (by decide)
    | 6, _ => exact key (j := 6) sgT6 lsT6 (by decide)
    | j + 7, h => omega
  · exact ⟨0, fun h => absurd h hj⟩
theorem thr_all (hts : ∀ w ∈ lw_tbl, w.before #[Value.ref b] s = true) (hs : ∀ w ∈ flN, w.before #[Value.ref b] s = true) : ∀ k ∈ ([255, 312, 361, 368, 373, 384, 390, 392, 394, 396, 398, 403, 405] : List Nat), ∃ tx sa, vk_R RX7 k tx sa s := by
  have key : ∀ {k i j : Nat} {tx : String}, flN[i]? = some (Cond.exactly (.string RX7 k) "java/lang/String") → lw_tbl[j]? = some (Cond.stringRef RX7 k tx) → ∃ tx sa, vk_R RX7 k tx sa s := by
    intro k i j tx h1 h2
    obtain ⟨a, c, cA, kA, q1, q2, q3, q4, q5, q6, -⟩ := Cond.exactly_spec (args := #[Value.ref b]) (first := s) (o := none) (s := s) (idx := []) (t := .string RX7 k) (cls := "java/lang/String") (f_of hs h1)
    exact ⟨tx, a, vk_R.of (w_of hts h2) q1⟩
  intro k hk
  simp only [List.mem_cons, List.not_mem_nil, or_false] at hk
  rcases hk with e | e | e | e | e | e | e | e | e | e | e | e | e
  · subst e; exact key sgX255 srX255
  · subst e; exact key sgX312 srX312
  · subst e; exact key sgX361 srX361
  · subst e; exact key sgX368 srX368
  · subst e; exact key sgX373 srX373
  · subst e; exact key sgX384 srX384
  · subst e; exact key sgX390 srX390
  · subst e; exact key sgX392 srX392
  · subst e; exact key sgX394 srX394
  · subst e; exact key sgX396 srX396
  · subst e; exact key sgX398 srX398
  · subst e; exact key sgX403 srX403
  · subst e; exact key sgX405 srX405
theorem thr_kt : ∀ q ∈ am_thrT, q.2.1 ∈ ([255, 312, 361, 368, 373, 384, 390, 392, 394, 396, 398, 403, 405] : List Nat) := by decide +kernel
theorem nc_all (hs : ∀ w ∈ flN, w.before #[Value.ref b] s = true) : ∀ i j, i < 4 → j < 4 → i ≠ j → va_Nc (am_ex i) (am_ex j) s := by
  intro i j hi hj hij
  match i, j, hi, hj, hij with
  | 0, 0, _, _, h => exact absurd rfl h
  | 0, 1, _, _, _ => exact va_Nc.of (f_of hs sgN01)
  | 0, 2, _, _, _ => exact va_Nc.of (f_of hs sgN02)
  | 0, 3, _, _, _ => exact va_Nc.of (f_of hs sgN03)
  | 1, 0, _, _, _ => exact va_Nc.of (f_of hs sgN10)
  | 1, 1, _, _, h => exact absurd rfl h
  | 1, 2, _, _, _ => exact va_Nc.of (f_of hs sgN12)
  | 1, 3, _, _, _ => exact va_Nc.of (f_of hs sgN13)
  | 2, 0, _, _, _ => exact va_Nc.of (f_of hs sgN20)
  | 2, 1, _, _, _ => exact va_Nc.of (f_of hs sgN21)
  | 2, 2, _, _, h => exact absurd rfl h
  | 2, 3, _, _, _ => exact va_Nc.of (f_of hs sgN23)
  | 3, 0, _, _, _ => exact va_Nc.of (f_of hs sgN30)
  | 3, 1, _, _, _ => exact va_Nc.of (f_of hs sgN31)
  | 3, 2, _, _, _ => exact va_Nc.of (f_of hs sgN32)
  | 3, 3, _, _, h => exact absurd rfl h
  | i + 4, j, h, _, _ => omega
  | 0, j + 4, _, h, _ => omega
  | 1, j + 4, _, h, _ => omega
  | 2, j + 4, _, h, _ => omega
  | 3, j + 4, _, h, _ => omega
theorem cls_all (hts : ∀ w ∈ lw_tbl, w.before #[Value.ref b] s = true) : ∃ (D : va_G) (cy : Nat → ClassId), va_K D vwCl (am_tys cy) s := by
  obtain ⟨c0, i0, k0⟩ := u_known (C := RX0) (T := TX0) (N := 4) (n := 4) hts (zc_in us0) (w_of hts ins0)
  obtain ⟨c1, i1, k1⟩ := u_known (C := RX1) (T := TX1) (N := 16) (n := 16) hts (zc_in us1) (w_of hts ins1)
  obtain ⟨c2, i2, k2⟩ := u_known (C := RX2) (T := TX2) (N := 9) (n := 9) hts (zc_in us2) (w_of hts ins2)
  obtain ⟨c3, i3, k3⟩ := u_known (C := RX3) (T := TX3) (N := 9) (n := 9) hts (zc_in us3) (w_of hts ins3)
  obtain ⟨c4, i4, k4⟩ := u_known (C := RX4) (T := TX4) (N := 3) (n := 3) hts (zc_in us4) (w_of hts ins4)
  obtain ⟨c5, i5, k5⟩ := u_known (C := RX5) (T := TX5) (N := 11) (n := 11) hts (zc_in us5) (w_of hts ins5)
  obtain ⟨c6, i6, k6⟩ := u_known (C := RX6) (T := TX6) (N := 3) (n := 3) hts (zc_in us6) (w_of hts ins6)
  obtain ⟨c7, i7, k7⟩ := u_known (C := RX7) (T := TX7) (N := 11) (n := 11) hts (zc_in us7) (w_of hts ins7)
  obtain ⟨c8, i8, k8⟩ := u_known (C := RX8) (T := TX8) (N := 54) (n := 54) hts (zc_in us8) (w_of hts ins8)
  obtain ⟨x20, k20, y20, f20, g20, h20⟩ := Cond.arrayClass_spec (w_of hts ac_int)
  obtain ⟨x21, k21, y21, f21, g21, h21⟩ := Cond.arrayClass_spec (w_of hts ac_long)
  obtain ⟨x22, k22, y22, f22, g22, h22⟩ := Cond.arrayClass_spec (w_of hts ac_boolean)
  obtain ⟨y23, x23, k23, e23, f23, g23, h23, l23⟩ := Cond.arrayOver_spec (w_of hts ao4)
  obtain ⟨y24, x24, k24, e24, f24, g24, h24, l24⟩ := Cond.arrayOver_spec (w_of hts ao5)
  obtain ⟨y25, x25, k25, e25, f25, g25, h25, l25⟩ := Cond.arrayOver_spec (w_of hts ao6)
  refine ⟨(fun k => match k with | 0 => c0 | 1 => c1 | 2 => c2 | 3 => c3 | 4 => c4 | 5 => c5 | 6 => c6 | 7 => c7 | _ => c8, fun k => match k with | 0 => i0 | 1 => i1 | 2 => i2 | 3 => i3 | 4 => i4 | 5 => i5 | 6 => i6 | 7 => i7 | _ => i8), fun k => match k with | 20 => x20 | 21 => x21 | 22 => x22 | 23 => x23 | 24 => x24 | _ => x25, ?_, ?_⟩
  · intro c q hq
    match c, hq with
    | 0, hq => cases hq; exact k0
    | 1, hq => cases hq; exact k1
    | 2, hq => cases hq; exact k2
    | 3, hq => cases hq; exact k3
    | 4, hq => cases hq; exact k4
    | 5, hq => cases hq; exact k5
    | 6, hq => cases hq; exact k6
    | 7, hq => cases hq; exact k7
    | 8, hq => cases hq; exact k8
    | c + 9, hq => simp [vwCl] at hq
  · intro k q hq
    match k, hq with
    | 0, hq => cases hq; exact ⟨fun n z => ⟨fun k h => (by cases h), k20, g20, y20, h20⟩, f20⟩
    | 1, hq => cases hq; exact ⟨fun n z => ⟨fun k h => (by cases h), k21, g21, y21, h21⟩, f21⟩
    | 2, hq => cases hq; exact ⟨fun n z => ⟨fun k h => (by cases h), k22, g22, y22, h22⟩, f22⟩
    | 3, hq => cases hq; exact ⟨fun n z => ⟨fun k h => (by cases h), k23, g23, y23, h23⟩, k23, y23, g23, h23, e23, l23⟩
    | 4, hq => cases hq; exact ⟨fun n z => ⟨fun k h => (by cases h), k24, g24, y24, h24⟩, k24, y24, g24, h24, e24, l24⟩
    | 5, hq => cases hq; exact ⟨fun n z => ⟨fun k h => (by cases h), k25, g25, y25, h25⟩, k25, y25, g25, h25, e25, l25⟩
    | k + 6, hq => simp [am_tys] at hq
theorem G_all {xs : Nat → Int32} (hX : va_X b L xs s s.heap) (hbl : b < s.heap.size) (hts : ∀ w ∈ lw_tbl, w.before #[Value.ref b] s = true) (hs : ∀ w ∈ flN, w.before #[Value.ref b] s = true) : ∃ (D : va_G) (cy : Nat → ClassId) (adF : Nat → Nat), adF 2000000 = b ∧ am_G D cy (fun q => s.heap.size ≤ q) adF (fK0 L) (fI0 xs) s s.heap := by
  have hA : ∀ a : Nat, a < s.heap.size → ¬ (fun q : Nat => s.heap.size ≤ q) a := fun a h => Nat.not_le.mpr h
  obtain ⟨D, cy, hK⟩ := cls_all hts
  obtain ⟨adS, hS⟩ := Classical.axiomOfChoice (str_all hA hts hs)
  obtain ⟨adT, hT⟩ := Classical.axiomOfChoice (sta_all hA hts hs)
  have eS : ∀ j, j < 20 → (if 1000000 + j = 2000000 then b else if 1000000 + j < 1000020 then adS (1000000 + j - 1000000) else adT (1000000 + j - 3000000)) = adS j := by
    intro j hj
    rw [if_neg (by omega), if_pos (by omega), show 1000000 + j - 1000000 = j by omega]
  have eT : ∀ j, j < 7 → (if 3000000 + j = 2000000 then b else if 3000000 + j < 1000020 then adS (3000000 + j - 1000000) else adT (3000000 + j - 3000000)) = adT j := by
    intro j hj
    rw [if_neg (by omega), if_neg (by omega), show 3000000 + j - 3000000 = j by omega]
  refine ⟨D, cy, fun a => if a = 2000000 then b else if a < 1000020 then adS (a - 1000000) else adT (a - 3000000), if_pos rfl, ?_, hK, ?_, ?_, ?_, ?_, ?_, ⟨vx_Zqof (w_of hts lsU) (w_of hts inT) (f_of hs sgU) hA, vx_Zqof (w_of hts lsV) (w_of hts inT) (f_of hs sgV) hA⟩, nc_all hs, ⟨va_AO.of (w_of hts ao4), va_AO.of (w_of hts ao5), va_AO.of (w_of hts ao6)⟩, ?_, va_Zof (w_of hts lsC) (w_of hts inS) (va_eqi (f_of hs sgC)) hA, va_Zqof (w_of hts lsP) (w_of hts inP) (f_of hs sgP) hA⟩
  · intro w hw
    exact va_tabs (am_T_on hw) rfl (hts w (List.mem_filter.mp hw).1)
  · intro a m e
    unfold fK0 at e
    by_cases c : a < 1000000
    · rw [if_pos c] at e; cases e
    · rw [if_neg c] at e
      by_cases c2 : a = 2000000
      · rw [if_pos c2] at e
        have em : m = L := by cases e; rfl
        subst em c2
        dsimp only
        rw [if_pos rfl]
        obtain ⟨scr, q1, q2, q3, q4, q5⟩ := hX
        refine ⟨scr, q1, q2, q3, by omega, by rw [q4], fun j hj => ?_, hA b hbl⟩
        rw [q5 j hj]
        unfold fI0
        rw [if_pos rfl]
      · rw [if_neg c2] at e
        obtain ⟨j, hj, rfl, rfl⟩ := k0_19 (by omega) e
        dsimp only
        rw [eT j hj]
        have ef : fI0 xs (3000000 + j) = sF j := by
          unfold fI0
          rw [if_neg (by omega), if_neg (by omega), show 3000000 + j - 3000000 = j by omega]
        rw [ef]
        exact (hT j hj).1
  · intro a m e
    unfold fK0 at e
    by_cases c : a < 1000000
    · rw [if_pos c] at e; cases e
    · rw [if_neg c] at e
      by_cases c2 : a = 2000000
      · rw [if_pos c2] at e; cases e
      · rw [if_neg c2] at e
        obtain ⟨j, hj, rfl, rfl⟩ := k0_18 e
        dsimp only
        rw [eS j hj]
        have ef : fI0 xs (1000000 + j) = (fun k => ((wd (j % 10))[k]?).getD 0) := by
          unfold fI0
          rw [if_neg (by omega), if_pos (by omega), show 1000000 + j - 1000000 = j by omega]
        rw [ef]
        exact (hS j hj).1
  · intro o k v e
    have hm := find_in e
    rcases sr_cases o with h | h | h
    · subst h
      obtain ⟨q1, q2, q3⟩ := sr3 _ hm
      dsimp only at q1 q2 q3 ⊢
      obtain ⟨j, rfl⟩ : ∃ j, v = 1000000 + j := ⟨v - 1000000, congrArg Prod.snd q2⟩
      rw [show 1000000 + j - 1000000 = j by omega] at q1 q2 q3
      have ek : k = kS j := congrArg Prod.fst q2
      obtain ⟨tx, ht⟩ := (hS j q1).2
      rw [eS j q1, ← q3, ek]
      exact ⟨tx, ht⟩
    · subst h
      obtain ⟨q1, q2, q3⟩ := sr8 _ hm
      dsimp only at q1 q2 q3 ⊢
      obtain ⟨j, rfl⟩ : ∃ j, v = 1000000 + j := ⟨v - 1000000, congrArg Prod.snd q2⟩
      rw [show 1000000 + j - 1000000 = j by omega] at q1 q2 q3
      have ek : k = kS j := congrArg Prod.fst q2
      obtain ⟨tx, ht⟩ := (hS j q1).2
      rw [eS j q1, ← q3, ek]
      exact ⟨tx, ht⟩
    · rw [h] at hm; cases hm
  · intro q hq
    exact thr_all hts hs _ (thr_kt q hq)
  · intro j hj
    dsimp only
    rw [eT j hj]
    exact (hT j hj).2
  · intro ty ht
    rcases ht with h | h | h
    · subst h; have h0 : (Cond.arrayClass .int).before #[Value.ref b] s = true := w_of hts ac_int
      exact h0
    · subst h; have h0 : (Cond.arrayClass .long).before #[Value.ref b] s = true := w_of hts ac_long
      exact h0
    · subst h; have h0 : (Cond.arrayClass .boolean).before #[Value.ref b] s = true := w_of hts ac_boolean
      exact h0
end WS2
