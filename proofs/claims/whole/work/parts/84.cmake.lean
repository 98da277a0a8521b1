/-! ===== the class's make ===== -/
/-- the paper is measured -/
def cM (s : am_S) (P : Ppr) : Prop := (∃ G, cP s G P.1 P.2.1 (ct P.2.2)) ∧ am_I s 37 4 = oN (sm (fA P.2.2) 288) ∧ am_I s 37 5 = oN P.2.2.length ∧ am_I s 37 6 = oN (sm (fF P.2.2) 288) ∧ am_I s 37 7 = oN (sm (fW P.2.2) 288) ∧ am_I s 37 8 = lever P.2.2
section MB
variable {R C : Nat} {l : List Pos}
theorem sm_fA_le : sm (fA l) 288 ≤ 288 := by
  have h1 : sm (fA l) 288 ≤ sm (fun _ => 1) 288 := sm_le (fun k _ => by unfold fA; split <;> omega)
  have h2 : ∀ n, sm (fun _ => 1) n = n := fun n => by
    induction n with
    | zero => rfl
    | succ n ih => show sm (fun _ => 1) n + 1 = n + 1; rw [ih]
  rw [h2] at h1
  exact h1
theorem sm_fW_le : sm (fW l) 288 ≤ 13536 := by
  have h1 : sm (fW l) 288 ≤ sm (fun _ => 47) 288 := sm_le (fun k hk => by unfold fW; split <;> omega)
  have h2 : ∀ n, sm (fun _ => 47) n = 47 * n := fun n => by
    induction n with
    | zero => rfl
    | succ n ih => show sm (fun _ => 47) n + 47 = 47 * (n + 1); rw [ih]; omega
  rw [h2] at h1
  exact h1
theorem sm_fF_le (h : onP R C l) (hR : R ≤ 24) (hC : C ≤ 12) : sm (fF l) 288 ≤ l.length * 47 := by
  have h1 : sm (fF l) 288 ≤ sm (fun k => cnk l k * 47) 288 := sm_le (fun k hk => by unfold fF; exact Nat.mul_le_mul_left _ (by omega))
  rw [sm_mul, sm_cnk hR hC h] at h1
  exact h1
theorem sm_fA_pos (h : onP R C l) (hR : R ≤ 24) (hC : C ≤ 12) (hl : 1 ≤ l.length) : 1 ≤ sm (fA l) 288 := by
  apply Nat.le_of_not_lt
  intro hlt
  have h0 : sm (fA l) 288 = 0 := by omega
  have hz : ∀ n, sm (fA l) n = 0 → ∀ k, k < n → fA l k = 0 := by
    intro n
    induction n with
    | zero => intro _ k hk; exact absurd hk (Nat.not_lt_zero _)
    | succ n ih =>
      intro hs k hk
      have hs' : sm (fA l) n + fA l n = 0 := hs
      by_cases e : k = n
      · rw [e]; omega
      · exact ih (by omega) k (by omega)
  have h2 : sm (cnk l) 288 = sm (fun _ => 0) 288 := sm_ext (fun k hk => by
    have := hz 288 h0 k hk
    unfold fA at this
    split at this
    · assumption
    · exact absurd this (by decide))
  have h3 : ∀ n, sm (fun _ => 0) n = 0 := fun n => by
    induction n with
    | zero => rfl
    | succ n ih => show sm (fun _ => 0) n + 0 = 0; rw [ih]
  rw [sm_cnk hR hC h, h3] at h2
  omega
theorem oI (n : Nat) : oN n = Int32.ofInt n := Int32.ofInt_eq_ofNat.symm
theorem lever_32 (h : onP R C l) (hR : R ≤ 24) (hC : C ≤ 12) (hl : 1 ≤ l.length) (hl2 : l.length ≤ 288) : ((10 : Int32) * (oN (sm (fW l) 288) * oN l.length - oN (sm (fF l) 288) * oN (sm (fA l) 288))) / (oN (sm (fA l) 288) * oN l.length) = lever l := by
  have b1 := sm_fW_le (l := l)
  have b2 := sm_fF_le h hR hC
  have b3 := sm_fA_le (l := l)
  have b4 := sm_fA_pos h hR hC hl
  unfold lever
  rw [oI, oI, oI, oI, ← Int32.ofInt_mul, ← Int32.ofInt_mul, ← Int32.ofInt_mul, ← Int32.ofInt_sub, show (10 : Int32) = Int32.ofInt 10 from rfl, ← Int32.ofInt_mul]
  have c1 : sm (fW l) 288 * l.length ≤ 13536 * 288 := Nat.mul_le_mul b1 hl2
  have c2 : sm (fF l) 288 * sm (fA l) 288 ≤ (288 * 47) * 288 := Nat.mul_le_mul (by omega) b3
  have c3 : sm (fA l) 288 * l.length ≤ 288 * 288 := Nat.mul_le_mul b3 hl2
  have d1 : ((sm (fW l) 288 : Int) * l.length) = ((sm (fW l) 288 * l.length : Nat) : Int) := by rw [Int.natCast_mul]
  have d2 : ((sm (fF l) 288 : Int) * (sm (fA l) 288 : Int)) = ((sm (fF l) 288 * sm (fA l) 288 : Nat) : Int) := by rw [Int.natCast_mul]
  have d3 : ((sm (fA l) 288 : Int) * l.length) = ((sm (fA l) 288 * l.length : Nat) : Int) := by rw [Int.natCast_mul]
  rw [d1, d2, d3]
  have m1 : Int32.minValue.toInt = -2147483648 := rfl
  have m2 : Int32.maxValue.toInt = 2147483647 := rfl
  exact (Int32.ofInt_tdiv (by rw [m1]; omega) (by rw [m2]; omega) (by rw [m1]; omega) (by rw [m2]; omega)).symm
theorem cnt_range {f : Nat → Pos} {y : Pos} {k0 : Nat} (hf : ∀ k, f k = y ↔ k = k0) : ∀ n, ((List.range n).map f).count y = if k0 < n then 1 else 0 := by
  intro n
  induction n with
  | zero => rfl
  | succ n ih =>
    rw [List.range_succ, List.map_append, List.count_append, ih, List.map_cons, List.map_nil, List.count_cons, List.count_nil]
    by_cases e : n = k0
    · have e2 : (f n == y) = true := by rw [beq_iff_eq]; exact (hf n).mpr e
      rw [if_pos e2, if_neg (by omega), if_pos (by omega)]
    · have e2 : ¬ (f n == y) = true := by rw [beq_iff_eq]; exact fun hh => e ((hf n).mp hh)
      rw [if_neg e2]
      by_cases e3 : k0 < n
      · rw [if_pos e3, if_pos (by omega)]
      · rw [if_neg e3, if_neg (by omega)]
theorem flat_cnt {r c : Nat} (hr : r < R) (hc : c < C) : (flat R C).2.2.count (r, c) = 1 := by
  unfold flat
  show ((List.range (R * C)).map (fun k => (k / C, k % C))).count (r, c) = 1
  rw [cnt_range (k0 := r * C + c)]
  · rw [if_pos]
    have : (r + 1) * C ≤ R * C := Nat.mul_le_mul_right _ hr
    rw [Nat.add_mul] at this
    omega
  · intro k
    rw [Prod.mk.injEq]
    constructor
    · rintro ⟨h1, h2⟩
      have := Nat.div_add_mod k C
      rw [h1, h2, Nat.mul_comm] at this
      omega
    · intro h1
      subst h1
      refine ⟨?_, ?_⟩
      · rw [Nat.add_comm, Nat.add_mul_div_right _ _ (by omega), Nat.div_eq_of_lt hc, Nat.zero_add]
      · rw [Nat.add_comm, Nat.add_mul_mod_self_right, Nat.mod_eq_of_lt hc]
theorem flat_on : onP R C (flat R C).2.2 := by
  intro p hp
  obtain ⟨k, hk, e⟩ := List.mem_map.mp hp
  rw [List.mem_range] at hk
  subst e
  have hC : 0 < C := by
    apply Nat.pos_of_ne_zero
    intro h0
    rw [h0, Nat.mul_zero] at hk
    omega
  exact ⟨Nat.div_lt_of_lt_mul (by rw [Nat.mul_comm]; exact hk), Nat.mod_lt _ hC⟩
theorem flat_ok (h1 : 4 ≤ R) (h2 : R ≤ 24) (h3 : 3 ≤ C) (h4 : C ≤ 12) : okP (flat R C) := by
  refine ⟨by show 1 ≤ R; omega, h2, by show 1 ≤ C; omega, h4, flat_on, ?_, ?_, ?_⟩
  · rw [fits_iff]
    rintro ⟨r, c⟩
    by_cases ho : R ≤ r ∨ C ≤ c
    · rw [ct_off flat_on ho]; omega
    · rw [flat_cnt (by omega) (by omega)]; omega
  · show 1 ≤ ((List.range (R * C)).map (fun k => (k / C, k % C))).length
    rw [List.length_map, List.length_range]
    have := Nat.mul_le_mul h1 h3
    omega
  · show ((List.range (R * C)).map (fun k => (k / C, k % C))).length ≤ 288
    rw [List.length_map, List.length_range]
    exact Nat.mul_le_mul h2 h4
end MB
section CM
variable {s : am_S} {G R C : Nat} {l : List Pos} {P : Ppr}
theorem c_weigh (hk : okP P) (hp : cP s G P.1 P.2.1 (ct P.2.2)) : ∃ s', f_X2_weigh s = some (.inl none, s') ∧ fr [37] s s' ∧ cM s' P := by
  obtain ⟨k1, k2, k3, k4, k5, k6, k7, k8⟩ := hk
  unfold f_X2_weigh
  obtain ⟨s1, w1, w2, w3, w4, w5, w6, w7⟩ := weigh_out (G := G) k6 k5 ax_fuel 0 (am_sI (am_sI (am_sI (am_sI s 37 4 0) 37 5 0) 37 6 0) 37 7 0) (by rw [ax_fuel_is]; omega) (by omega) ((((hp.field (by omega)).field (by omega)).field (by omega)).field (by omega)) ⟨by rw [I_sI, if_neg (by omega), I_sI, if_neg (by omega), I_sI, if_neg (by omega), I_sI, if_pos ⟨rfl, rfl⟩]; rfl, by rw [I_sI, if_neg (by omega), I_sI, if_neg (by omega), I_sI, if_pos ⟨rfl, rfl⟩]; rfl, by rw [I_sI, if_neg (by omega), I_sI, if_pos ⟨rfl, rfl⟩]; rfl, by rw [I_sI, if_pos ⟨rfl, rfl⟩]; rfl⟩
  have w1' : L_X2_weigh_22 ax_fuel 0 (am_sI (am_sI (am_sI (am_sI s 37 4 0) 37 5 0) 37 6 0) 37 7 0) = some (.inr ((), s1)) := w1
  rw [w1']
  rw [← all_off k5 k2 k4 fA (fun k hk => fA0 hk)] at w4
  rw [← all_off k5 k2 k4 cnk (fun k hk => hk), sm_cnk k2 k4 k5] at w5
  rw [← all_off k5 k2 k4 fF (fun k hk => fF0 hk)] at w6
  rw [← all_off k5 k2 k4 fW (fun k hk => fW0 hk)] at w7
  simp only [am_lm, am_jn]
  have b3 := sm_fA_le (l := P.2.2)
  have b4 := sm_fA_pos k5 k2 k4 k7
  have c3 : sm (fA P.2.2) 288 * P.2.2.length ≤ 288 * 288 := Nat.mul_le_mul b3 k8
  have c4 : 1 * 1 ≤ sm (fA P.2.2) 288 * P.2.2.length := Nat.mul_le_mul b4 k7
  have f1 : fr [37] s s1 := ((((fr.refl.sI (by simp)).sI (by simp)).sI (by simp)).sI (by simp)).trans w2
  rw [w4, w5, w6, w7]
  have n1 : ¬ oN (sm (fA P.2.2) 288) * oN P.2.2.length ≤ 0 := by
    rw [oN_mul]
    intro hh
    have := (oN_leL (k := 0) (by omega) (by show 0 < 2147483648; omega)).mp hh
    have : sm (fA P.2.2) 288 * P.2.2.length ≤ 0 := this
    omega
  have n2 : ¬ oN (sm (fA P.2.2) 288) * oN P.2.2.length = 0 := by
    rw [oN_mul]
    intro hh
    have := (oN_eqL (k := 0) (by omega) (by show 0 < 2147483648; omega)).mp hh
    have : sm (fA P.2.2) 288 * P.2.2.length = 0 := this
    omega
  rw [if_neg n1, if_pos n2, lever_32 k5 k2 k4 k7 k8]
  refine ⟨_, rfl, f1.sI (by simp), ⟨G, w3.field (by omega)⟩, ?_, ?_, ?_, ?_, ?_⟩
  · rw [I_sI, if_neg (by omega)]; exact w4
  · rw [I_sI, if_neg (by omega)]; exact w5
  · rw [I_sI, if_neg (by omega)]; exact w6
  · rw [I_sI, if_neg (by omega)]; exact w7
  · rw [I_sI, if_pos ⟨rfl, rfl⟩]
theorem spread_in : ∀ (m k : Nat) (s : am_S), 288 - k < m → k ≤ 288 → (∀ j, j < k → am_I s 38 j = 1) →
    ∃ s', L_X2_spread_17 m (oN k) s = some (.inr ((), s')) ∧ fr [38] s s' ∧ ∀ j, j < 288 → am_I s' 38 j = 1 := by
  intro m
  induction m with
  | zero => intro k s hm; exact absurd hm (Nat.not_lt_zero _)
  | succ m ih =>
    intro k s hm hk hp
    rw [L_X2_spread_17]
    by_cases e : 288 ≤ k
    · rw [if_pos ((oN_leR (by omega) (by omega)).mpr e)]
      exact ⟨s, rfl, fr.refl, fun j hj => hp j (by omega)⟩
    · rw [if_neg (fun hh => e ((oN_leR (by omega) (by omega)).mp hh)), if_pos (by rw [am_in_oN (by omega)]; exact decide_eq_true (by omega)), oN_nat (by omega), oN_addL]
      obtain ⟨s', z1, z2, z3⟩ := ih (k + 1) (am_sI s 38 k 1) (by omega) (by omega) (by
        intro j hj
        rw [I_sI]
        by_cases e2 : j = k
        · rw [if_pos ⟨rfl, e2⟩]
        · rw [if_neg (fun hh => e2 hh.2)]; exact hp j (by omega))
      exact ⟨s', z1, (fr.refl.sI (by simp)).trans z2, z3⟩
theorem c_spread (h1 : R ≤ 24) (h2 : C ≤ 12) : ∃ s', f_X2_spread (oN R) (oN C) s = some (.inl none, s') ∧ fr [37, 38] s s' ∧ cP s' 0 R C (ct (flat R C).2.2) := by
  unfold f_X2_spread
  obtain ⟨s1, w1, w2, w3⟩ := spread_in ax_fuel 0 (am_sI (am_sI (am_sI s 37 1 0) 37 2 (oN R)) 37 3 (oN C)) (by rw [ax_fuel_is]; omega) (by omega) (fun j hj => absurd hj (Nat.not_lt_zero _))
  have w1' : L_X2_spread_17 ax_fuel 0 (am_sI (am_sI (am_sI s 37 1 0) 37 2 (oN R)) 37 3 (oN C)) = some (.inr ((), s1)) := w1
  rw [w1']
  simp only [am_lm]
  refine ⟨s1, rfl, ?_, ?_⟩
  · exact ((((fr.refl.sI (by simp)).sI (by simp)).sI (by simp)) : fr [37, 38] s _).trans (w2.mono (by decide))
  · refine ⟨?_, ?_, ?_, by omega, h2, ?_⟩
    · rw [w2.I (by decide), I_sI, if_neg (by omega), I_sI, if_neg (by omega), I_sI, if_pos ⟨rfl, rfl⟩]; rfl
    · rw [w2.I (by decide), I_sI, if_neg (by omega), I_sI, if_pos ⟨rfl, rfl⟩]
    · rw [w2.I (by decide), I_sI, if_pos ⟨rfl, rfl⟩]
    · intro r c hr hc
      rw [w3 _ (by omega)]
      unfold ct
      rw [flat_cnt hr hc]
      rfl
/-- the folds of a Rows, one behind another -/
def n2 (q : T2) : Nat × Nat := (q.1.toNatClampNeg, q.2.toNatClampNeg)
theorem okF_n2 {q : T2} (h : okF q) : q.1 = oN (n2 q).1 ∧ q.2 = oN (n2 q).2 ∧ (n2 q).1 ≤ 2 ∧ (n2 q).2 ≤ 12 := by
  obtain ⟨⟨a1, a2⟩, b1, b2⟩ := h
  obtain ⟨m1, e1, e2, e3⟩ := oN_of a1
  obtain ⟨m2, f1, f2, f3⟩ := oN_of (show 0 ≤ q.2.toInt by omega)
  unfold n2
  rw [e1, f1, oN_nat e3, oN_nat f3]
  exact ⟨rfl, rfl, by omega, by omega⟩
theorem foldAll_in {a : Nat} {fs : List T2} (ha : a ≠ 37 ∧ a ≠ 38 ∧ a + 1 ≠ 37 ∧ a + 1 ≠ 38) (hl : fs.length ≤ 11) (hok : ∀ q ∈ fs, okF q) : ∀ (m i : Nat) (s : am_S) (P : Ppr) (G : Nat), fs.length - i < m → i ≤ fs.length → cR2 s a fs → okP P → cP s G P.1 P.2.1 (ct P.2.2) →
    ∃ s', fr [37, 38] s s' ∧ ((∃ j, fos ((fs.drop i).map n2) i P = .inl j ∧ L_X2_foldAll_9 m a (oN i) s = some (.inl (.inl (some (.int (oN j))), s')) ∧ j ≤ 11) ∨
      (∃ P' G', fos ((fs.drop i).map n2) i P = .inr P' ∧ L_X2_foldAll_9 m a (oN i) s = some (.inr ((), s')) ∧ okP P' ∧ cP s' G' P'.1 P'.2.1 (ct P'.2.2))) := by
  intro m
  induction m with
  | zero => intro i s P G hm; exact absurd hm (Nat.not_lt_zero _)
  | succ m ih =>
    intro i s P G hm hi hc hk hp
    rw [L_X2_foldAll_9, hc.1]
    by_cases e : fs.length ≤ i
    · rw [if_pos ((oN_le (by omega) (by omega)).mpr e)]
      have : fs.drop i = [] := List.drop_eq_nil_of_le e
      rw [this]
      exact ⟨s, fr.refl, Or.inr ⟨P, G, rfl, rfl, hk, hp⟩⟩
    · rw [if_neg (fun hh => e ((oN_le (by omega) (by omega)).mp hh))]
      have hi2 : i < fs.length := by omega
      have hd : fs.drop i = fs[i] :: fs.drop (i + 1) := List.drop_eq_getElem_cons hi2
      have hg : fs[i]? = some fs[i] := List.getElem?_eq_getElem hi2
      obtain ⟨g1, g2⟩ := hc.2 i fs[i] hg
      rw [Nat.zero_add] at g1 g2
      have ok := okF_n2 (hok _ (List.getElem_mem hi2))
      rw [f_get0 (by omega)]
      simp only [am_bi]
      rw [f_get1 (by omega)]
      simp only
      rw [g1, g2, ok.1, ok.2.1, hd, List.map_cons]
      obtain ⟨s1, q1, ⟨P1, G1, q2, q3, q4⟩ | ⟨q2, q3⟩⟩ := c_fold (n := (n2 fs[i]).2) hp hk ok.2.2.1 (by omega)
      · rw [q3]
        simp only
        rw [if_neg (by decide), oN_addL]
        have hc1 : cR2 s1 a fs := hc.same (by rw [q1.I (by simp; omega)]) (by rw [q1.I (by simp; omega)])
        obtain ⟨s', z1, z2⟩ := ih (i + 1) s1 P1 G1 (by omega) (by omega) hc1 (fo_ok hk q2) q4
        refine ⟨s', q1.trans z1, ?_⟩
        have ef : fos (n2 fs[i] :: (fs.drop (i + 1)).map n2) i P = fos ((fs.drop (i + 1)).map n2) (i + 1) P1 := by
          rw [fos, q2]
        rw [ef]
        exact z2
      · rw [q3]
        simp only
        rw [if_pos trivial]
        refine ⟨s1, q1, Or.inl ⟨i, ?_, rfl, by omega⟩⟩
        rw [fos, q2]
theorem c_break {a : Nat} {fs : List T2} {R C : Nat} (ha : a ≠ 37 ∧ a ≠ 38 ∧ a + 1 ≠ 37 ∧ a + 1 ≠ 38) (hl : fs.length ≤ 11) (hok : ∀ q ∈ fs, okF q) (hc : cR2 s a fs) (h1 : am_I s 1 0 = oN R) (h2 : am_I s 1 1 = oN C) (r1 : 4 ≤ R) (r2 : R ≤ 24) (c1 : 3 ≤ C) (c2 : C ≤ 12) :
    ∃ s', fr [37, 38] s s' ∧ ((∃ j, fos (fs.map n2) 0 (flat R C) = .inl j ∧ f_X7_breakOf a s = some (.inl (some (.int (oN j))), s') ∧ j ≤ 11) ∨
      (∃ P, fos (fs.map n2) 0 (flat R C) = .inr P ∧ f_X7_breakOf a s = some (.inl (some (.int (-1))), s') ∧ okP P ∧ cM s' P)) := by
  unfold f_X7_breakOf f_X2_foldAll
  rw [h1, h2]
  obtain ⟨s1, w1, w2, w3⟩ := c_spread (s := s) r2 c2
  rw [w1]
  simp only [am_bu]
  have hc1 : cR2 s1 a fs := hc.same (by rw [w2.I (by simp; omega)]) (by rw [w2.I (by simp; omega)])
  obtain ⟨s2, z1, z2⟩ := foldAll_in ha hl hok ax_fuel 0 s1 (flat R C) 0 (by rw [ax_fuel_is]; omega) (by omega) hc1 (flat_ok r1 r2 c1 c2) w3
  rw [List.drop_zero] at z2
  rcases z2 with ⟨j, e1, e2, e3⟩ | ⟨P, G, e1, e2, e3, e4⟩
  · have e2' : L_X2_foldAll_9 ax_fuel a 0 s1 = some (.inl (.inl (some (.int (oN j))), s2)) := e2
    rw [e2']
    exact ⟨s2, w2.trans z1, Or.inl ⟨j, e1, rfl, e3⟩⟩
  · have e2' : L_X2_foldAll_9 ax_fuel a 0 s1 = some (.inr ((), s2)) := e2
    rw [e2']
    obtain ⟨s3, y1, y2, y3⟩ := c_weigh e3 e4
    simp only [am_lm]
    rw [y1]
    exact ⟨s3, (w2.trans z1).trans (y2.mono (by decide)), Or.inr ⟨P, e1, rfl, e3, y3⟩⟩
end CM
