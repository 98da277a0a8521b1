/-! ===== what is measured of a paper ===== -/
def sm (f : Nat → Nat) : Nat → Nat
  | 0 => 0
  | n + 1 => sm f n + f n
def cnk (l : List Pos) (k : Nat) : Nat := l.count (k / 12, k % 12)
def fA (l : List Pos) (k : Nat) : Nat := if cnk l k = 0 then 0 else 1
def fF (l : List Pos) (k : Nat) : Nat := cnk l k * (2 * (k / 12) + 1)
def fW (l : List Pos) (k : Nat) : Nat := if cnk l k = 0 then 0 else 2 * (k / 12) + 1
def lever (l : List Pos) : Int32 := Int32.ofInt ((10 * ((sm (fW l) 288 : Int) * l.length - (sm (fF l) 288 : Int) * (sm (fA l) 288 : Int))).tdiv ((sm (fA l) 288 : Int) * l.length))
def flat (R C : Nat) : Ppr := (R, C, (List.range (R * C)).map (fun k => (k / C, k % C)))
section SM
variable {f g : Nat → Nat} {n m : Nat} {l : List Pos} {R C : Nat}
theorem sm_le (h : ∀ k, k < n → f k ≤ g k) : sm f n ≤ sm g n := by
  induction n with
  | zero => exact Nat.le_refl _
  | succ n ih => have := ih (fun k hk => h k (by omega)); have := h n (by omega); unfold sm; omega
theorem sm_add : sm (fun k => f k + g k) n = sm f n + sm g n := by
  induction n with
  | zero => rfl
  | succ n ih => unfold sm; rw [ih]; omega
theorem sm_mul {c : Nat} : sm (fun k => f k * c) n = sm f n * c := by
  induction n with
  | zero => unfold sm; omega
  | succ n ih => unfold sm; rw [ih, Nat.add_mul]
theorem sm_ext (h : ∀ k, k < n → f k = g k) : sm f n = sm g n := by
  induction n with
  | zero => rfl
  | succ n ih => unfold sm; rw [ih (fun k hk => h k (by omega)), h n (by omega)]
theorem sm_one {j : Nat} : sm (fun k => if k = j then 1 else 0) n = if j < n then 1 else 0 := by
  induction n with
  | zero => rfl
  | succ n ih =>
    unfold sm
    rw [ih]
    by_cases h1 : j < n
    · rw [if_pos h1, if_neg (by omega), if_pos (by omega)]
    · rw [if_neg h1]
      by_cases h2 : n = j
      · rw [if_pos h2, if_pos (by omega)]
      · rw [if_neg h2, if_neg (by omega)]
theorem sm_flat (h : ∀ k, n ≤ k → k < m → f k = 0) (hnm : n ≤ m) : sm f m = sm f n := by
  induction m with
  | zero => have : n = 0 := by omega
            subst this; rfl
  | succ m ih =>
    by_cases e : n = m + 1
    · rw [e]
    · show sm f m + f m = sm f n
      rw [ih (fun k h1 h2 => h k h1 (by omega)) (by omega), h m (by omega) (by omega), Nat.add_zero]
theorem cnk_is {r c : Nat} (hc : c < 12) : cnk l (12 * r + c) = l.count (r, c) := by
  unfold cnk
  rw [show (12 * r + c) / 12 = r by omega, show (12 * r + c) % 12 = c by omega]
theorem sm_cnk (hR : R ≤ 24) (hC : C ≤ 12) : ∀ {l : List Pos}, onP R C l → sm (cnk l) 288 = l.length
  | [], _ => by
    have : sm (cnk []) 288 = sm (fun _ => 0) 288 := sm_ext (fun k _ => rfl)
    rw [this]
    have z : ∀ n, sm (fun _ => 0) n = 0 := fun n => by
      induction n with
      | zero => rfl
      | succ n ih => unfold sm; rw [ih]
    exact z 288
  | p :: l, h => by
    have h1 := h p List.mem_cons_self
    have h2 := sm_cnk hR hC (l := l) (fun q hq => h q (List.mem_cons_of_mem _ hq))
    have e : sm (cnk (p :: l)) 288 = sm (fun k => cnk l k + if k = 12 * p.1 + p.2 then 1 else 0) 288 := by
      apply sm_ext
      intro k _
      unfold cnk
      rw [List.count_cons]
      congr 1
      obtain ⟨a, b⟩ := p
      simp only at h1
      by_cases hk : k = 12 * a + b
      · have e1 : ((a, b) == (k / 12, k % 12)) = true := by
          rw [beq_iff_eq, Prod.mk.injEq]; omega
        rw [if_pos e1, if_pos hk]
      · have e1 : ¬ ((a, b) == (k / 12, k % 12)) = true := by
          rw [beq_iff_eq, Prod.mk.injEq]; omega
        rw [if_neg e1, if_neg hk]
    rw [e, sm_add, h2, sm_one, if_pos (by omega), List.length_cons]
theorem cnk_off (h : onP R C l) (hC : C ≤ 12) {k : Nat} (ho : 12 * R ≤ k ∨ C ≤ k % 12) : cnk l k = 0 := by
  unfold cnk
  exact ct_off h (by omega)
theorem row_off (h : onP R C l) (hC : C ≤ 12) (F : List Pos → Nat → Nat) (h0 : ∀ k, cnk l k = 0 → F l k = 0) {r : Nat} : sm (F l) (12 * (r + 1)) = sm (F l) (12 * r + C) :=
  sm_flat (fun k h1 h2 => h0 k (cnk_off h hC (by omega))) (by omega)
theorem all_off (h : onP R C l) (hR : R ≤ 24) (hC : C ≤ 12) (F : List Pos → Nat → Nat) (h0 : ∀ k, cnk l k = 0 → F l k = 0) : sm (F l) 288 = sm (F l) (12 * R) :=
  sm_flat (fun k h1 h2 => h0 k (cnk_off h hC (by omega))) (by omega)
theorem fA0 {k : Nat} (h : cnk l k = 0) : fA l k = 0 := by unfold fA; rw [if_pos h]
theorem fF0 {k : Nat} (h : cnk l k = 0) : fF l k = 0 := by unfold fF; rw [h, Nat.zero_mul]
theorem fW0 {k : Nat} (h : cnk l k = 0) : fW l k = 0 := by unfold fW; rw [if_pos h]
end SM
/-- the class's measures, so far -/
def cW (s : am_S) (l : List Pos) (k : Nat) : Prop := am_I s 37 4 = oN (sm (fA l) k) ∧ am_I s 37 5 = oN (sm (cnk l) k) ∧ am_I s 37 6 = oN (sm (fF l) k) ∧ am_I s 37 7 = oN (sm (fW l) k)
section WG
variable {s : am_S} {G R C : Nat} {l : List Pos} {h : Nat → Nat → Nat}
theorem cP.field {j : Nat} {v : Int32} (hp : cP s G R C h) (hj : 4 ≤ j) : cP (am_sI s 37 j v) G R C h := by
  obtain ⟨p1, p2, p3, p4, p5, p6⟩ := hp
  exact ⟨by rw [I_sI, if_neg (by omega)]; exact p1, by rw [I_sI, if_neg (by omega)]; exact p2, by rw [I_sI, if_neg (by omega)]; exact p3, p4, p5, fun r c hr hc => by rw [I_ne (by decide)]; exact p6 r c hr hc⟩
theorem layers_in {r c : Nat} (hp : cP s G R C h) (hr : r < R) (hc : c < C) : f_X2_layersAt (oN r) (oN c) s = some (.inl (some (.int (oN (h r c)))), s) := by
  have h4 := hp.2.2.2.1
  have h5 := hp.2.2.2.2.1
  unfold f_X2_layersAt
  rw [if_neg (by rw [oN_nonneg (by omega)]; exact id), hp.2.1, if_neg (fun hh => absurd ((oN_le (by omega) (by omega)).mp hh) (by omega)), if_neg (by rw [oN_nonneg (by omega)]; exact id), hp.2.2.1, if_pos ((oN_lt (by omega) (by omega)).mpr hc), place_is hp]
  simp only [am_bi]
  rw [if_neg (by rw [oN_nonneg (by omega)]; exact id), if_neg (by rw [oN_leR (by omega) (by omega)]; omega), if_pos (by rw [am_in_oN (by omega)]; exact decide_eq_true (by omega)), oN_nat (by omega), hp.2.2.2.2.2 r c hr hc]
theorem weigh_in {r : Nat} (hr : r < R) (hf : fits l = true) : ∀ (m c : Nat) (s : am_S), C - c < m → c ≤ C → cP s G R C (ct l) → cW s l (12 * r + c) →
    ∃ s', L_X2_weigh_38 m (oN r) (oN (2 * r + 1)) (oN c) s = some (.inr ((), s')) ∧ fr [37] s s' ∧ cP s' G R C (ct l) ∧ cW s' l (12 * r + C) := by
  intro m
  induction m with
  | zero => intro c s hm; exact absurd hm (Nat.not_lt_zero _)
  | succ m ih =>
    intro c s hm hc hp hw
    have hC := hp.2.2.2.2.1
    have hR := hp.2.2.2.1
    rw [L_X2_weigh_38, hp.2.2.1]
    by_cases e : C ≤ c
    · rw [if_pos ((oN_le (by omega) (by omega)).mpr e)]
      have : c = C := by omega
      subst this
      exact ⟨s, rfl, fr.refl, hp, hw⟩
    · rw [if_neg (fun hh => e ((oN_le (by omega) (by omega)).mp hh)), layers_in hp hr (by omega)]
      simp only [am_bi]
      have hk : cnk l (12 * r + c) = ct l r c := cnk_is (by omega)
      have hb : ct l r c ≤ 32 := fits_iff.mp hf (r, c)
      obtain ⟨w1, w2, w3, w4⟩ := hw
      by_cases e2 : ct l r c = 0
      · rw [if_pos ((oN_leL (k := 0) (by omega) (by show 0 < 2147483648; omega)).mpr (by rw [e2]; exact Nat.le_refl _)), oN_addL]
        refine ih (c + 1) s (by omega) (by omega) hp ⟨?_, ?_, ?_, ?_⟩
        · rw [w1, ← Nat.add_assoc]; show _ = oN (sm (fA l) (12 * r + c) + fA l (12 * r + c)); rw [fA0 (by rw [hk]; exact e2), Nat.add_zero]
        · rw [w2, ← Nat.add_assoc]; show _ = oN (sm (cnk l) (12 * r + c) + cnk l (12 * r + c)); rw [hk, e2, Nat.add_zero]
        · rw [w3, ← Nat.add_assoc]; show _ = oN (sm (fF l) (12 * r + c) + fF l (12 * r + c)); rw [fF0 (by rw [hk]; exact e2), Nat.add_zero]
        · rw [w4, ← Nat.add_assoc]; show _ = oN (sm (fW l) (12 * r + c) + fW l (12 * r + c)); rw [fW0 (by rw [hk]; exact e2), Nat.add_zero]
      · rw [if_neg (fun hh => absurd ((oN_leL (k := 0) (by omega) (by show 0 < 2147483648; omega)).mp hh) (by show ¬ ct l r c ≤ 0; omega)), oN_addL, w1, w2, w3, w4, oN_addL, oN_add, oN_mul, oN_add, oN_add]
        have hd : (12 * r + c) / 12 = r := by omega
        obtain ⟨s', z1, z2, z3, z4⟩ := ih (c + 1) (am_sI (am_sI (am_sI (am_sI s 37 4 (oN (sm (fA l) (12 * r + c) + 1))) 37 5 (oN (sm (cnk l) (12 * r + c) + ct l r c))) 37 6 (oN (sm (fF l) (12 * r + c) + ct l r c * (2 * r + 1)))) 37 7 (oN (sm (fW l) (12 * r + c) + (2 * r + 1)))) (by omega) (by omega) ((((hp.field (by omega)).field (by omega)).field (by omega)).field (by omega)) ⟨by
            rw [I_sI, if_neg (by omega), I_sI, if_neg (by omega), I_sI, if_neg (by omega), I_sI, if_pos ⟨rfl, rfl⟩]
            show _ = oN (sm (fA l) (12 * r + c) + fA l (12 * r + c))
            unfold fA; rw [hk, if_neg e2], by
            rw [I_sI, if_neg (by omega), I_sI, if_neg (by omega), I_sI, if_pos ⟨rfl, rfl⟩]
            show _ = oN (sm (cnk l) (12 * r + c) + cnk l (12 * r + c))
            rw [hk], by
            rw [I_sI, if_neg (by omega), I_sI, if_pos ⟨rfl, rfl⟩]
            show _ = oN (sm (fF l) (12 * r + c) + fF l (12 * r + c))
            unfold fF; rw [hk, hd], by
            rw [I_sI, if_pos ⟨rfl, rfl⟩]
            show _ = oN (sm (fW l) (12 * r + c) + fW l (12 * r + c))
            unfold fW; rw [hk, if_neg e2, hd]⟩
        exact ⟨s', z1, ((((fr.refl.sI (by simp)).sI (by simp)).sI (by simp)).sI (by simp)).trans z2, z3, z4⟩
theorem weigh_out (hf : fits l = true) (hon : onP R C l) : ∀ (m r : Nat) (s : am_S), R - r < m → r ≤ R → cP s G R C (ct l) → cW s l (12 * r) →
    ∃ s', L_X2_weigh_22 m (oN r) s = some (.inr ((), s')) ∧ fr [37] s s' ∧ cP s' G R C (ct l) ∧ cW s' l (12 * R) := by
  intro m
  induction m with
  | zero => intro c s hm; exact absurd hm (Nat.not_lt_zero _)
  | succ m ih =>
    intro r s hm hr hp hw
    have hC := hp.2.2.2.2.1
    have hR := hp.2.2.2.1
    rw [L_X2_weigh_22, hp.2.1]
    by_cases e : R ≤ r
    · rw [if_pos ((oN_le (by omega) (by omega)).mpr e)]
      have : r = R := by omega
      subst this
      exact ⟨s, rfl, fr.refl, hp, hw⟩
    · rw [if_neg (fun hh => e ((oN_le (by omega) (by omega)).mp hh)), oN_mulR, oN_addL]
      obtain ⟨s1, z1, z2, z3, z4⟩ := weigh_in (show r < R by omega) hf ax_fuel 0 s (by rw [ax_fuel_is]; omega) (by omega) hp hw
      have z1' : L_X2_weigh_38 ax_fuel (Int32.ofNat r) (Int32.ofNat (OfNat.ofNat 2 * r + OfNat.ofNat 1)) 0 s = some (.inr ((), s1)) := z1
      rw [z1']
      simp only [am_ll, oN_addL]
      obtain ⟨s', y1, y2, y3, y4⟩ := ih (r + 1) s1 (by omega) (by omega) z3 ⟨by rw [z4.1, row_off hon hC fA (fun k hk => fA0 hk)], by rw [z4.2.1, row_off hon hC cnk (fun k hk => hk)], by rw [z4.2.2.1, row_off hon hC fF (fun k hk => fF0 hk)], by rw [z4.2.2.2, row_off hon hC fW (fun k hk => fW0 hk)]⟩
      exact ⟨s', y1, z2.trans y2, y3, y4⟩
end WG
