/-! ===== the model's paper: where each cell lies ===== -/
def mP (s : am_S) (P : Ppr) : Prop := am_I s 55 21 = oN P.1 ∧ am_I s 55 22 = oN P.2.1 ∧ am_I s 55 20 = oN P.2.2.length ∧ ∀ k p, P.2.2[k]? = some p → am_I s 62 k = oN p.1 ∧ am_I s 63 k = oN p.2
/-- the first k are mapped -/
def mLf (s : am_S) (l : List Pos) (f : Pos → Pos) (k : Nat) : Prop := ∀ j p, l[j]? = some p → (j < k → am_I s 62 j = oN (f p).1 ∧ am_I s 63 j = oN (f p).2) ∧ (k ≤ j → am_I s 62 j = oN p.1 ∧ am_I s 63 j = oN p.2)
section MF
variable {s : am_S} {R C n : Nat} {l : List Pos} {P : Ppr}
theorem mLf_start {f : Pos → Pos} (h : ∀ k p, l[k]? = some p → am_I s 62 k = oN p.1 ∧ am_I s 63 k = oN p.2) : mLf s l f 0 :=
  fun j p hj => ⟨fun h0 => absurd h0 (Nat.not_lt_zero _), fun _ => h j p hj⟩
theorem mLf_end {f : Pos → Pos} (h : mLf s l f l.length) : ∀ k p, (l.map f)[k]? = some p → am_I s 62 k = oN p.1 ∧ am_I s 63 k = oN p.2 := by
  intro k p hk
  rw [List.getElem?_map] at hk
  cases hq : l[k]? with
  | none => rw [hq] at hk; cases hk
  | some q =>
    rw [hq] at hk
    cases hk
    exact (h k q hq).1 (List.getElem?_eq_some_iff.mp hq).1
theorem mLf_step {f : Pos → Pos} {k : Nat} {p : Pos} {s' : am_S} (h : mLf s l f k) (hp : l[k]? = some p) (e1 : am_I s' 62 k = oN (f p).1) (e2 : am_I s' 63 k = oN (f p).2) (e : ∀ j, j ≠ k → am_I s' 62 j = am_I s 62 j ∧ am_I s' 63 j = am_I s 63 j) : mLf s' l f (k + 1) := by
  intro j q hj
  by_cases ej : j = k
  · subst ej
    rw [hp] at hj
    cases hj
    exact ⟨fun _ => ⟨e1, e2⟩, fun h0 => absurd h0 (by omega)⟩
  · have h1 := h j q hj
    have h2 := e j ej
    rw [h2.1, h2.2]
    exact ⟨fun h0 => h1.1 (by omega), fun h0 => h1.2 (by omega)⟩
theorem flat_in (hR : R ≤ 24) (hC : C ≤ 12) {r : Nat} (hr : r < R) : ∀ (m c : Nat) (s : am_S), C - c < m → c ≤ C → am_I s 55 22 = oN C → am_I s 55 20 = oN (r * C + c) → (∀ k, k < r * C + c → am_I s 62 k = oN (k / C) ∧ am_I s 63 k = oN (k % C)) →
    ∃ s', L_X8_flat_37 m (oN r) (oN c) s = some (.inr ((), s')) ∧ fr [55, 62, 63] s s' ∧ (∀ j, j ≠ 20 → am_I s' 55 j = am_I s 55 j) ∧ am_I s' 55 20 = oN ((r + 1) * C) ∧ (∀ k, k < (r + 1) * C → am_I s' 62 k = oN (k / C) ∧ am_I s' 63 k = oN (k % C)) := by
  intro m
  induction m with
  | zero => intro c s hm; exact absurd hm (Nat.not_lt_zero _)
  | succ m ih =>
    intro c s hm hc h22 h20 hk
    have hb : (r + 1) * C ≤ 24 * 12 := Nat.mul_le_mul (by omega) hC
    rw [Nat.add_mul, Nat.one_mul] at hb
    rw [L_X8_flat_37, h22]
    by_cases e : C ≤ c
    · rw [if_pos ((oN_le (by omega) (by omega)).mpr e)]
      have : c = C := by omega
      subst this
      refine ⟨s, rfl, fr.refl, fun j _ => rfl, ?_, ?_⟩
      · rw [h20, Nat.add_mul, Nat.one_mul]
      · intro k h1; rw [Nat.add_mul, Nat.one_mul] at h1; exact hk k h1
    · rw [if_neg (fun hh => e ((oN_le (by omega) (by omega)).mp hh)), h20, if_pos (by rw [am_in_oN (by omega)]; exact decide_eq_true (by omega)), if_pos (by rw [am_in_oN (by omega)]; exact decide_eq_true (by omega)), oN_nat (by omega), oN_addL, oN_addL]
      obtain ⟨s', z1, z2, z3, z4, z5⟩ := ih (c + 1) (am_sI (am_sI (am_sI s 62 (r * C + c) (oN r)) 63 (r * C + c) (oN c)) 55 20 (oN (r * C + c + 1))) (by omega) (by omega) (by rw [I_sI, if_neg (by omega), I_ne (by decide), I_ne (by decide)]; exact h22) (by rw [I_sI, if_pos ⟨rfl, rfl⟩, Nat.add_assoc]) (by
        intro k h1
        rw [I_ne (by decide), I_ne (by decide), I_sI, I_ne (by decide), I_sI, I_ne (by decide)]
        by_cases ek : k = r * C + c
        · rw [if_pos ⟨rfl, ek⟩, if_pos ⟨rfl, ek⟩, ek]
          rw [Nat.add_comm (r * C) c, Nat.add_mul_div_right _ _ (by omega), Nat.div_eq_of_lt (by omega), Nat.zero_add, Nat.add_mul_mod_self_right, Nat.mod_eq_of_lt (by omega)]
          exact ⟨rfl, rfl⟩
        · rw [if_neg (fun hh => ek hh.2), if_neg (fun hh => ek hh.2)]
          exact hk k (by omega))
      refine ⟨s', z1, (((fr.refl.sI (by simp)).sI (by simp)).sI (by simp)).trans z2, ?_, z4, z5⟩
      intro j hj
      rw [z3 j hj, I_sI, if_neg (by omega), I_ne (by decide), I_ne (by decide)]
theorem flat_out (hR : R ≤ 24) (hC : C ≤ 12) : ∀ (m r : Nat) (s : am_S), R - r < m → r ≤ R → am_I s 55 21 = oN R → am_I s 55 22 = oN C → am_I s 55 20 = oN (r * C) → (∀ k, k < r * C → am_I s 62 k = oN (k / C) ∧ am_I s 63 k = oN (k % C)) →
    ∃ s', L_X8_flat_27 m (oN r) s = some (.inr ((), s')) ∧ fr [55, 62, 63] s s' ∧ (∀ j, j ≠ 20 → am_I s' 55 j = am_I s 55 j) ∧ am_I s' 55 20 = oN (R * C) ∧ (∀ k, k < R * C → am_I s' 62 k = oN (k / C) ∧ am_I s' 63 k = oN (k % C)) := by
  intro m
  induction m with
  | zero => intro c s hm; exact absurd hm (Nat.not_lt_zero _)
  | succ m ih =>
    intro r s hm hr h21 h22 h20 hk
    rw [L_X8_flat_27, h21]
    by_cases e : R ≤ r
    · rw [if_pos ((oN_le (by omega) (by omega)).mpr e)]
      have : r = R := by omega
      subst this
      exact ⟨s, rfl, fr.refl, fun j _ => rfl, h20, hk⟩
    · rw [if_neg (fun hh => e ((oN_le (by omega) (by omega)).mp hh))]
      obtain ⟨s1, z1, z2, z3, z4, z5⟩ := flat_in hR hC (show r < R by omega) ax_fuel 0 s (by rw [ax_fuel_is]; omega) (by omega) h22 h20 hk
      have z1' : L_X8_flat_37 ax_fuel (Int32.ofNat r) 0 s = some (.inr ((), s1)) := z1
      rw [z1']
      simp only [am_ll, oN_addL]
      obtain ⟨s', y1, y2, y3, y4, y5⟩ := ih (r + 1) s1 (by omega) (by omega) (by rw [z3 21 (by omega)]; exact h21) (by rw [z3 22 (by omega)]; exact h22) z4 z5
      exact ⟨s', y1, z2.trans y2, fun j hj => (y3 j hj).trans (z3 j hj), y4, y5⟩
theorem m_flat (h0 : am_I s 56 0 = oN R) (h1 : am_I s 56 1 = oN C) (hR : R ≤ 24) (hC : C ≤ 12) : ∃ s', f_X8_flat s = some (.inl none, s') ∧ fr [55, 62, 63] s s' ∧ mP s' (flat R C) ∧ (∀ j, j ≠ 20 → j ≠ 21 → j ≠ 22 → am_I s' 55 j = am_I s 55 j) := by
  unfold f_X8_flat
  rw [h0, h1]
  obtain ⟨s1, z1, z2, z3, z4, z5⟩ := flat_out hR hC ax_fuel 0 (am_sI (am_sI (am_sI s 55 21 (oN R)) 55 22 (oN C)) 55 20 0) (by rw [ax_fuel_is]; omega) (by omega) (by rw [I_sI, if_neg (by omega), I_sI, if_neg (by omega), I_sI, if_pos ⟨rfl, rfl⟩]) (by rw [I_sI, if_neg (by omega), I_sI, if_pos ⟨rfl, rfl⟩]) (by rw [I_sI, if_pos ⟨rfl, rfl⟩, Nat.zero_mul]; rfl) (by intro k hk; rw [Nat.zero_mul] at hk; exact absurd hk (Nat.not_lt_zero _))
  have z1' : L_X8_flat_27 ax_fuel 0 (am_sI (am_sI (am_sI s 55 21 (oN R)) 55 22 (oN C)) 55 20 0) = some (.inr ((), s1)) := z1
  rw [z1']
  simp only [am_lm]
  refine ⟨s1, rfl, (((fr.refl.sI (by simp)).sI (by simp)).sI (by simp)).trans z2, ⟨?_, ?_, ?_, ?_⟩, ?_⟩
  · rw [z3 21 (by omega), I_sI, if_neg (by omega), I_sI, if_neg (by omega), I_sI, if_pos ⟨rfl, rfl⟩]; rfl
  · rw [z3 22 (by omega), I_sI, if_neg (by omega), I_sI, if_pos ⟨rfl, rfl⟩]; rfl
  · rw [z4]; show _ = oN ((List.range (R * C)).map (fun k => (k / C, k % C))).length; rw [List.length_map, List.length_range]
  · intro k p hk
    have hk' : ((List.range (R * C)).map (fun k => (k / C, k % C)))[k]? = some p := hk
    have hl := (List.getElem?_eq_some_iff.mp hk').1
    rw [List.length_map, List.length_range] at hl
    rw [List.getElem?_map, List.getElem?_range hl] at hk'
    cases hk'
    exact z5 k hl
  · intro j h1 h2 h3
    rw [z3 j h1, I_sI, if_neg (by omega), I_sI, if_neg (by omega), I_sI, if_neg (by omega)]
theorem mnose_in (hR : R ≤ 24) (hon : onP R C l) (hn : n ≤ 12) (hl : l.length ≤ 288) : ∀ (m k : Nat) (s : am_S), l.length - k < m → k ≤ l.length → am_I s 55 20 = oN l.length → mLf s l (pf_nose n) k →
    ∃ s', L_X8_nose_2 m (oN n) (oN k) s = some (.inr ((), s')) ∧ fr [62] s s' ∧ mLf s' l (pf_nose n) l.length := by
  intro m
  induction m with
  | zero => intro c s hm; exact absurd hm (Nat.not_lt_zero _)
  | succ m ih =>
    intro k s hm hk h20 hL
    rw [L_X8_nose_2, h20]
    by_cases e : l.length ≤ k
    · rw [if_pos ((oN_le (by omega) (by omega)).mpr e)]
      have : k = l.length := by omega
      subst this
      exact ⟨s, rfl, fr.refl, hL⟩
    · have hin : am_in (oN k) 288 = true := by rw [am_in_oN (by omega)]; exact decide_eq_true (by omega)
      have hk2 : k < l.length := by omega
      have hg : l[k]? = some l[k] := List.getElem?_eq_getElem hk2
      obtain ⟨g1, g2⟩ := (hL k _ hg).2 (Nat.le_refl _)
      have hq := hon _ (List.getElem_mem hk2)
      rw [if_neg (fun hh => e ((oN_le (by omega) (by omega)).mp hh)), if_pos hin, oN_nat (by omega), g1]
      simp only [am_jn, if_pos hin, oN_addL]
      by_cases e2 : n ≤ l[k].1
      · rw [if_pos ((oN_le (by omega) (by omega)).mpr e2), oN_sub e2]
        obtain ⟨s', z1, z2, z3⟩ := ih (k + 1) (am_sI s 62 k (oN (l[k].1 - n))) (by omega) (by omega) (by rw [I_ne (by decide)]; exact h20) (mLf_step hL hg (by rw [I_sI, if_pos ⟨rfl, rfl⟩]; unfold pf_nose; rw [if_neg (by omega)]) (by rw [I_ne (by decide)]; exact g2) (fun j hj => ⟨by rw [I_sI, if_neg (fun hh => hj hh.2)], by rw [I_ne (by decide)]⟩))
        exact ⟨s', z1, (fr.refl.sI (by simp)).trans z2, z3⟩
      · rw [if_neg (fun hh => e2 ((oN_le (by omega) (by omega)).mp hh)), oN_subL (show (OfNat.ofNat 1 : Nat) ≤ n by show 1 ≤ n; omega), oN_sub (show l[k].1 ≤ n - OfNat.ofNat 1 by show l[k].1 ≤ n - 1; omega)]
        obtain ⟨s', z1, z2, z3⟩ := ih (k + 1) (am_sI s 62 k (oN (n - 1 - l[k].1))) (by omega) (by omega) (by rw [I_ne (by decide)]; exact h20) (mLf_step hL hg (by rw [I_sI, if_pos ⟨rfl, rfl⟩]; unfold pf_nose; rw [if_pos (by omega)]) (by rw [I_ne (by decide)]; exact g2) (fun j hj => ⟨by rw [I_sI, if_neg (fun hh => hj hh.2)], by rw [I_ne (by decide)]⟩))
        exact ⟨s', z1, (fr.refl.sI (by simp)).trans z2, z3⟩
theorem mside_in {left : Nat} (hC : C ≤ 12) (hon : onP R C l) (hn : left ≤ 12) (hl2 : C ≤ 2 * left) (hl : l.length ≤ 288) : ∀ (m k : Nat) (s : am_S), l.length - k < m → k ≤ l.length → am_I s 55 20 = oN l.length → mLf s l (pf_side left) k →
    ∃ s', L_X8_side_9 m (oN left) (oN k) s = some (.inr ((), s')) ∧ fr [63] s s' ∧ mLf s' l (pf_side left) l.length := by
  intro m
  induction m with
  | zero => intro c s hm; exact absurd hm (Nat.not_lt_zero _)
  | succ m ih =>
    intro k s hm hk h20 hL
    rw [L_X8_side_9, h20]
    by_cases e : l.length ≤ k
    · rw [if_pos ((oN_le (by omega) (by omega)).mpr e)]
      have : k = l.length := by omega
      subst this
      exact ⟨s, rfl, fr.refl, hL⟩
    · have hin : am_in (oN k) 288 = true := by rw [am_in_oN (by omega)]; exact decide_eq_true (by omega)
      have hk2 : k < l.length := by omega
      have hg : l[k]? = some l[k] := List.getElem?_eq_getElem hk2
      obtain ⟨g1, g2⟩ := (hL k _ hg).2 (Nat.le_refl _)
      have hq := hon _ (List.getElem_mem hk2)
      rw [if_neg (fun hh => e ((oN_le (by omega) (by omega)).mp hh)), if_pos hin, oN_nat (by omega), g2]
      simp only [am_jn, if_pos hin, oN_addL]
      by_cases e2 : left ≤ l[k].2
      · have e3 : ((2 : Int32) * oN left - 1) - oN l[k].2 = oN (2 * left - 1 - l[k].2) := by
          rw [oN_mulR, oN_subL (by show 1 ≤ 2 * left; omega), oN_sub (by show l[k].2 ≤ 2 * left - 1; omega)]
        rw [if_pos ((oN_le (by omega) (by omega)).mpr e2), e3]
        obtain ⟨s', z1, z2, z3⟩ := ih (k + 1) (am_sI s 63 k (oN (2 * left - 1 - l[k].2))) (by omega) (by omega) (by rw [I_ne (by decide)]; exact h20) (mLf_step hL hg (by rw [I_ne (by decide)]; exact g1) (by rw [I_sI, if_pos ⟨rfl, rfl⟩]; unfold pf_side; rw [if_neg (by omega)]) (fun j hj => ⟨by rw [I_ne (by decide)], by rw [I_sI, if_neg (fun hh => hj hh.2)]⟩))
        exact ⟨s', z1, (fr.refl.sI (by simp)).trans z2, z3⟩
      · rw [if_neg (fun hh => e2 ((oN_le (by omega) (by omega)).mp hh))]
        obtain ⟨s', z1, z2, z3⟩ := ih (k + 1) (am_sI s 63 k (oN l[k].2)) (by omega) (by omega) (by rw [I_ne (by decide)]; exact h20) (mLf_step hL hg (by rw [I_ne (by decide)]; exact g1) (by rw [I_sI, if_pos ⟨rfl, rfl⟩]; unfold pf_side; rw [if_pos (by omega)]) (fun j hj => ⟨by rw [I_ne (by decide)], by rw [I_sI, if_neg (fun hh => hj hh.2)]⟩))
        exact ⟨s', z1, (fr.refl.sI (by simp)).trans z2, z3⟩
theorem mcorner_in (hC : C ≤ 12) (hR : R ≤ 24) (hon : onP R C l) (h2n : 2 ≤ n) (hn : n ≤ C) (hl : l.length ≤ 288) : ∀ (m k : Nat) (s : am_S), l.length - k < m → k ≤ l.length → am_I s 55 20 = oN l.length → am_I s 55 22 = oN C → mLf s l (pf_corner C n) k →
    ∃ s', L_X8_corner_2 m (oN n) (oN k) s = some (.inr ((), s')) ∧ fr [62, 63] s s' ∧ mLf s' l (pf_corner C n) l.length := by
  intro m
  induction m with
  | zero => intro c s hm; exact absurd hm (Nat.not_lt_zero _)
  | succ m ih =>
    intro k s hm hk h20 h22 hL
    rw [L_X8_corner_2, h20]
    by_cases e : l.length ≤ k
    · rw [if_pos ((oN_le (by omega) (by omega)).mpr e)]
      have : k = l.length := by omega
      subst this
      exact ⟨s, rfl, fr.refl, hL⟩
    · have hin : am_in (oN k) 288 = true := by rw [am_in_oN (by omega)]; exact decide_eq_true (by omega)
      have hk2 : k < l.length := by omega
      have hg : l[k]? = some l[k] := List.getElem?_eq_getElem hk2
      obtain ⟨g1, g2⟩ := (hL k _ hg).2 (Nat.le_refl _)
      have hq := hon _ (List.getElem_mem hk2)
      have e1 : (oN C - 1) - oN l[k].2 = oN (C - 1 - l[k].2) := by rw [oN_subL (by show 1 ≤ C; omega), oN_sub (by show l[k].2 ≤ C - 1; omega)]
      have e2 : oN n - 1 = oN (n - 1) := by rw [oN_subL (by show 1 ≤ n; omega)]
      rw [if_neg (fun hh => e ((oN_le (by omega) (by omega)).mp hh)), if_pos hin, if_pos hin, oN_nat (by omega), g1, g2, h22, e1, e2, oN_add]
      by_cases e3 : l[k].1 + (C - 1 - l[k].2) < n - 1
      · have e4 : oN (n - 1) - oN (C - 1 - l[k].2) = oN (n - 1 - (C - 1 - l[k].2)) := oN_sub (by omega)
        have e5 : (oN C - oN n) + oN l[k].1 = oN (C - n + l[k].1) := by rw [oN_sub hn, oN_add]
        rw [if_pos ((oN_lt (by omega) (by omega)).mpr e3), e4]
        simp only [ax_le, if_pos hin, oN_addL, e5]
        have ef : pf_corner C n l[k] = (n - 1 - (C - 1 - l[k].2), C - n + l[k].1) := by unfold pf_corner; rw [if_pos e3]
        obtain ⟨s', z1, z2, z3⟩ := ih (k + 1) (am_sI (am_sI s 62 k (oN (n - 1 - (C - 1 - l[k].2)))) 63 k (oN (C - n + l[k].1))) (by omega) (by omega) (by rw [I_ne (by decide), I_ne (by decide)]; exact h20) (by rw [I_ne (by decide), I_ne (by decide)]; exact h22) (mLf_step hL hg (by rw [I_ne (by decide), I_sI, if_pos ⟨rfl, rfl⟩, ef]) (by rw [I_sI, if_pos ⟨rfl, rfl⟩, ef]) (fun j hj => ⟨by rw [I_ne (by decide), I_sI, if_neg (fun hh => hj hh.2)], by rw [I_sI, if_neg (fun hh => hj hh.2), I_ne (by decide)]⟩))
        exact ⟨s', z1, ((fr.refl.sI (by simp)).sI (by simp)).trans z2, z3⟩
      · rw [if_neg (fun hh => e3 ((oN_lt (by omega) (by omega)).mp hh)), oN_addL]
        have ef : pf_corner C n l[k] = l[k] := by unfold pf_corner; rw [if_neg e3]
        exact ih (k + 1) s (by omega) (by omega) h20 h22 (mLf_step hL hg (by rw [ef]; exact g1) (by rw [ef]; exact g2) (fun j hj => ⟨rfl, rfl⟩))
end MF
