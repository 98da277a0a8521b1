/-! ===== the class's paper: layers cell by cell ===== -/
def cP (s : am_S) (G R C : Nat) (h : Nat → Nat → Nat) : Prop := am_I s 37 1 = oN G ∧ am_I s 37 2 = oN R ∧ am_I s 37 3 = oN C ∧ G + R ≤ 24 ∧ C ≤ 12 ∧ ∀ r c, r < R → c < C → am_I s 38 ((G + r) * 12 + c) = oN (h r c)
def mv1 (h : Nat → Nat → Nat) (r1 c1 r2 c2 : Nat) : Nat → Nat → Nat := fun r c => if r = r1 ∧ c = c1 then 0 else if r = r2 ∧ c = c2 then h r c + h r1 c1 else h r c
section CP
variable {s s' : am_S} {G R C n k r c d r1 c1 r2 c2 a b f t : Nat} {h h' : Nat → Nat → Nat}
theorem cP.congr (hp : cP s G R C h) (e : ∀ r c, r < R → c < C → h r c = h' r c) : cP s G R C h' :=
  ⟨hp.1, hp.2.1, hp.2.2.1, hp.2.2.2.1, hp.2.2.2.2.1, fun r c hr hc => by rw [← e r c hr hc]; exact hp.2.2.2.2.2 r c hr hc⟩
theorem lay_is (hf : f < 288) (ht : t < 288) (ne : f ≠ t) (ha : am_I s 38 f = oN a) (hb : am_I s 38 t = oN b) (ha1 : a ≤ 100) (hb1 : b ≤ 100) : f_X2_lay (oN f) (oN t) s = some (.inl (some (.int (if b + a ≤ 32 then 1 else 0))), am_sI (am_sI s 38 t (oN (b + a))) 38 f 0) := by
  unfold f_X2_lay
  have i1 : am_in (oN f) 288 = true := by rw [am_in_oN (by omega)]; exact decide_eq_true hf
  have i2 : am_in (oN t) 288 = true := by rw [am_in_oN (by omega)]; exact decide_eq_true ht
  rw [if_neg (by rw [oN_nonneg (by omega)]; exact id), if_neg (by rw [oN_leR (by omega) (by omega)]; omega), if_neg (by rw [oN_nonneg (by omega)]; exact id), if_pos ((oN_ltL (by omega) (by omega)).mpr (by omega)), if_pos i2, if_pos i1, if_pos i2, if_pos i1, if_pos i2, oN_nat (by omega), oN_nat (by omega), ha, hb, oN_add]
  have e : am_I (am_sI (am_sI s 38 t (Int32.ofNat (b + a))) 38 f 0) 38 t = Int32.ofNat (b + a) := by rw [I_sI, if_neg (by omega), I_sI, if_pos ⟨rfl, rfl⟩]
  rw [e]
  by_cases hc : b + a ≤ 32
  · rw [if_neg (by rw [oN_ltR (by omega) (by omega)]; omega), if_pos hc]
  · rw [if_pos ((oN_ltR (by omega) (by omega)).mpr (by omega)), if_neg hc]
theorem place_is (hp : cP s G R C h) : f_X2_placeOf (oN r) (oN c) s = some (.inl (some (.int (oN ((G + r) * 12 + c)))), s) := by
  unfold f_X2_placeOf
  rw [hp.1, oN_add, oN_mulL, oN_add]
theorem cP_lay (hp : cP s G R C h) (hr1 : r1 < R) (hc1 : c1 < C) (hr2 : r2 < R) (hc2 : c2 < C) (ne : ¬ (r1 = r2 ∧ c1 = c2)) (hb : ∀ r c, r < R → c < C → h r c ≤ 100) :
    f_X2_lay (oN ((G + r1) * 12 + c1)) (oN ((G + r2) * 12 + c2)) s = some (.inl (some (.int (if h r2 c2 + h r1 c1 ≤ 32 then 1 else 0))), am_sI (am_sI s 38 ((G + r2) * 12 + c2) (oN (h r2 c2 + h r1 c1))) 38 ((G + r1) * 12 + c1) 0) ∧
    cP (am_sI (am_sI s 38 ((G + r2) * 12 + c2) (oN (h r2 c2 + h r1 c1))) 38 ((G + r1) * 12 + c1) 0) G R C (mv1 h r1 c1 r2 c2) := by
  obtain ⟨p1, p2, p3, p4, p5, p6⟩ := hp
  refine ⟨lay_is (by omega) (by omega) (by omega) (p6 r1 c1 hr1 hc1) (p6 r2 c2 hr2 hc2) (hb _ _ hr1 hc1) (hb _ _ hr2 hc2), ?_⟩
  refine ⟨by rw [I_ne (by decide), I_ne (by decide)]; exact p1, by rw [I_ne (by decide), I_ne (by decide)]; exact p2, by rw [I_ne (by decide), I_ne (by decide)]; exact p3, p4, p5, ?_⟩
  intro r c hr hc
  rw [I_sI, I_sI]
  unfold mv1
  by_cases e1 : r = r1 ∧ c = c1
  · rw [if_pos e1, if_pos ⟨rfl, by rw [e1.1, e1.2]⟩]; rfl
  · rw [if_neg e1, if_neg (by omega)]
    by_cases e2 : r = r2 ∧ c = c2
    · rw [if_pos e2, if_pos ⟨rfl, by rw [e2.1, e2.2]⟩, e2.1, e2.2]
    · rw [if_neg e2, if_neg (by omega)]
      exact p6 r c hr hc
theorem lay_fr : fr [38] s (am_sI (am_sI s 38 a (oN b)) 38 c 0) := (fr.refl.sI (by simp)).sI (by simp)

/-! nose -/
def nz (n : Nat) (h : Nat → Nat → Nat) (k c : Nat) : Nat → Nat → Nat := fun r c' => if r < k ∨ (r = k ∧ c' < c) then 0 else if r < 2 * n ∧ n ≤ r ∧ (2 * n - 1 - r < k ∨ (2 * n - 1 - r = k ∧ c' < c)) then h r c' + h (2 * n - 1 - r) c' else h r c'
theorem nz_b (hb : ∀ r c, r < R → c < C → h r c ≤ 32) (hn : 2 * n ≤ R) (hr : r < R) (hc : c < C) {k c0 : Nat} : nz n h k c0 r c ≤ 100 := by
  unfold nz
  have h1 := hb r c hr hc
  split
  · omega
  · split
    next hq => have h2 := hb (2 * n - 1 - r) c (by omega) hc; omega
    next => omega
theorem nz_step {k c0 : Nat} (hk : k < n) : ∀ r c, mv1 (nz n h k c0) k c0 (2 * n - 1 - k) c0 r c = nz n h k (c0 + 1) r c := by
  intro r c
  unfold mv1 nz
  by_cases e1 : r = k ∧ c = c0
  · rw [if_pos e1, if_pos (by omega)]
  · rw [if_neg e1]
    by_cases e2 : r = 2 * n - 1 - k ∧ c = c0
    · rw [if_pos e2, if_neg (by omega), if_neg (by omega), if_neg (by omega), if_neg (by omega), if_neg (by omega), if_pos (by omega), e2.1, e2.2, show 2 * n - 1 - (2 * n - 1 - k) = k by omega]
    · rw [if_neg e2]
      repeat' split
      all_goals first | rfl | (exfalso; omega)
theorem nose_in (hb : ∀ r c, r < R → c < C → h r c ≤ 32) (hn : 2 * n ≤ R) (hk : k < n) (hR : R ≤ 24) : ∀ (m c : Nat) (s : am_S), C - c < m → c ≤ C → cP s G R C (nz n h k c) →
    (∃ s', L_X2_foldNose_26 m (oN n) (oN k) (oN c) s = some (.inr ((), s')) ∧ fr [38] s s' ∧ cP s' G R C (nz n h k C) ∧ ∀ c', c ≤ c' → c' < C → h (2 * n - 1 - k) c' + h k c' ≤ 32) ∨
    (∃ s', L_X2_foldNose_26 m (oN n) (oN k) (oN c) s = some (.inl (.inl (some (.int 0)), s')) ∧ fr [38] s s' ∧ ∃ c', c' < C ∧ 32 < h (2 * n - 1 - k) c' + h k c')
  := by
  intro m
  induction m with
  | zero => intro c s hm; exact absurd hm (Nat.not_lt_zero _)
  | succ m ih =>
    intro c s hm hc hp
    have hC := hp.2.2.2.2.1
    rw [L_X2_foldNose_26, hp.2.2.1]
    by_cases e : C ≤ c
    · rw [if_pos ((oN_le (by omega) (by omega)).mpr e)]
      have : c = C := by omega
      subst this
      exact Or.inl ⟨s, rfl, fr.refl, hp, fun c' h1 h2 => absurd h1 (by omega)⟩
    · rw [if_neg (fun hh => e ((oN_le (by omega) (by omega)).mp hh))]
      obtain ⟨q1, q2⟩ := cP_lay hp (r1 := k) (c1 := c) (r2 := 2 * n - 1 - k) (c2 := c) (by omega) (by omega) (by omega) (by omega) (by omega) (fun r c hr hc => nz_b hb hn hr hc)
      have v1 : nz n h k c k c = h k c := by unfold nz; rw [if_neg (by omega), if_neg (by omega)]
      have v2 : nz n h k c (2 * n - 1 - k) c = h (2 * n - 1 - k) c := by unfold nz; rw [if_neg (by omega), if_neg (by omega)]
      rw [v1, v2] at q1 q2
      have e1 : ((2 : Int32) * oN n - 1) - oN k = oN (2 * n - 1 - k) := by
        rw [oN_mulR, oN_subL (by show 1 ≤ 2 * n; omega), oN_sub (by show k ≤ 2 * n - 1; omega)]
      rw [e1, place_is hp]
      simp only [am_bi]
      rw [place_is hp]
      simp only
      rw [q1]
      simp only
      by_cases e3 : h (2 * n - 1 - k) c + h k c ≤ 32
      · rw [if_pos e3, if_neg (by decide), oN_addL]
        have q3 := q2.congr (fun r c _ _ => nz_step hk r c)
        rcases ih (c + 1) _ (by omega) (by omega) q3 with ⟨s', w1, w2, w3, w4⟩ | ⟨s', w1, w2, w3⟩
        · refine Or.inl ⟨s', w1, lay_fr.trans w2, w3, ?_⟩
          intro c' h1 h2
          by_cases e4 : c' = c
          · rw [e4]; exact e3
          · exact w4 c' (by omega) h2
        · exact Or.inr ⟨s', w1, lay_fr.trans w2, w3⟩
      · rw [if_neg e3, if_pos rfl]
        exact Or.inr ⟨_, rfl, lay_fr, c, by omega, by omega⟩
theorem nose_out (hb : ∀ r c, r < R → c < C → h r c ≤ 32) (hn : 2 * n ≤ R) (hR : R ≤ 24) (hC : C ≤ 12) : ∀ (m k : Nat) (s : am_S), n - k < m → k ≤ n → cP s G R C (nz n h k 0) →
    (∃ s', L_X2_foldNose_19 m (oN n) (oN k) s = some (.inr ((), s')) ∧ fr [38] s s' ∧ cP s' G R C (nz n h n 0) ∧ ∀ k' c', k ≤ k' → k' < n → c' < C → h (2 * n - 1 - k') c' + h k' c' ≤ 32) ∨
    (∃ s', L_X2_foldNose_19 m (oN n) (oN k) s = some (.inl (.inl (some (.int 0)), s')) ∧ fr [38] s s' ∧ ∃ k' c', k' < n ∧ c' < C ∧ 32 < h (2 * n - 1 - k') c' + h k' c')
  := by
  intro m
  induction m with
  | zero => intro k s hm; exact absurd hm (Nat.not_lt_zero _)
  | succ m ih =>
    intro k s hm hk hp
    rw [L_X2_foldNose_19]
    by_cases e : n ≤ k
    · rw [if_pos ((oN_le (by omega) (by omega)).mpr e)]
      have : k = n := by omega
      subst this
      exact Or.inl ⟨s, rfl, fr.refl, hp, fun k' c' h1 h2 => absurd h1 (by omega)⟩
    · rw [if_neg (fun hh => e ((oN_le (by omega) (by omega)).mp hh))]
      rcases nose_in (G := G) hb hn (show k < n by omega) hR ax_fuel 0 s (by rw [ax_fuel_is]; omega) (by omega) hp with ⟨s1, w1, w2, w3, w4⟩ | ⟨s1, w1, w2, c', w3, w4⟩
      · rw [show (0 : Int32) = oN 0 from rfl, w1]
        simp only [am_ll, oN_addL]
        have q3 : cP s1 G R C (nz n h (k + 1) 0) := w3.congr (by
          intro r c hr hc
          unfold nz
          repeat' split
          all_goals first | rfl | (exfalso; omega))
        rcases ih (k + 1) s1 (by omega) (by omega) q3 with ⟨s', z1, z2, z3, z4⟩ | ⟨s', z1, z2, z3⟩
        · refine Or.inl ⟨s', z1, w2.trans z2, z3, ?_⟩
          intro k' c' h1 h2 h3
          by_cases e4 : k' = k
          · rw [e4]; exact w4 c' (by omega) h3
          · exact z4 k' c' (by omega) h2 h3
        · exact Or.inr ⟨s', z1, w2.trans z2, z3⟩
      · rw [show (0 : Int32) = oN 0 from rfl, w1]
        simp only [am_ll]
        exact Or.inr ⟨s1, rfl, w2, k, c', by omega, w3, w4⟩

/-! side -/
def sz (C n : Nat) (h : Nat → Nat → Nat) (k r0 : Nat) : Nat → Nat → Nat := fun r c => if C - 1 - c < k ∨ (C - 1 - c = k ∧ r < r0) then 0 else if C - 2 * n ≤ c ∧ c < C - n ∧ (c - (C - 2 * n) < k ∨ (c - (C - 2 * n) = k ∧ r < r0)) then h r c + h r (2 * (C - n) - 1 - c) else h r c
theorem sz_b (hb : ∀ r c, r < R → c < C → h r c ≤ 32) (hn : 2 * n ≤ C) (hr : r < R) (hc : c < C) {k r0 : Nat} : sz C n h k r0 r c ≤ 100 := by
  unfold sz
  have h1 := hb r c hr hc
  split
  · omega
  · split
    next hq => have h2 := hb r (2 * (C - n) - 1 - c) hr (by omega); omega
    next => omega
theorem sz_step {k r0 : Nat} (hk : k < n) (hn : 2 * n ≤ C) : ∀ r c, c < C → mv1 (sz C n h k r0) r0 (C - 1 - k) r0 (C - 2 * n + k) r c = sz C n h k (r0 + 1) r c := by
  intro r c hc
  unfold mv1 sz
  by_cases e1 : r = r0 ∧ c = C - 1 - k
  · rw [if_pos e1, if_pos (by omega)]
  · rw [if_neg e1]
    by_cases e2 : r = r0 ∧ c = C - 2 * n + k
    · rw [if_pos e2, if_neg (by omega), if_neg (by omega), if_neg (by omega), if_neg (by omega), if_neg (by omega), if_pos (by omega), e2.1, e2.2, show 2 * (C - n) - 1 - (C - 2 * n + k) = C - 1 - k by omega]
    · rw [if_neg e2]
      repeat' split
      all_goals first | rfl | (exfalso; omega)
theorem side_in (hb : ∀ r c, r < R → c < C → h r c ≤ 32) (hn : 2 * n ≤ C) (hk : k < n) (hR : R ≤ 24) : ∀ (m r : Nat) (s : am_S), R - r < m → r ≤ R → cP s G R C (sz C n h k r) →
    (∃ s', L_X2_foldSide_26 m (oN n) (oN k) (oN r) s = some (.inr ((), s')) ∧ fr [38] s s' ∧ cP s' G R C (sz C n h k R) ∧ ∀ r', r ≤ r' → r' < R → h r' (C - 2 * n + k) + h r' (C - 1 - k) ≤ 32) ∨
    (∃ s', L_X2_foldSide_26 m (oN n) (oN k) (oN r) s = some (.inl (.inl (some (.int 0)), s')) ∧ fr [38] s s' ∧ ∃ r', r' < R ∧ 32 < h r' (C - 2 * n + k) + h r' (C - 1 - k)) := by
  intro m
  induction m with
  | zero => intro r s hm; exact absurd hm (Nat.not_lt_zero _)
  | succ m ih =>
    intro r s hm hr hp
    have hC := hp.2.2.2.2.1
    rw [L_X2_foldSide_26, hp.2.1]
    by_cases e : R ≤ r
    · rw [if_pos ((oN_le (by omega) (by omega)).mpr e)]
      have : r = R := by omega
      subst this
      exact Or.inl ⟨s, rfl, fr.refl, hp, fun c' h1 h2 => absurd h1 (by omega)⟩
    · rw [if_neg (fun hh => e ((oN_le (by omega) (by omega)).mp hh))]
      obtain ⟨q1, q2⟩ := cP_lay hp (r1 := r) (c1 := C - 1 - k) (r2 := r) (c2 := C - 2 * n + k) (by omega) (by omega) (by omega) (by omega) (by omega) (fun r c hr hc => sz_b hb hn hr hc)
      have v1 : sz C n h k r r (C - 1 - k) = h r (C - 1 - k) := by unfold sz; rw [if_neg (by omega), if_neg (by omega)]
      have v2 : sz C n h k r r (C - 2 * n + k) = h r (C - 2 * n + k) := by unfold sz; rw [if_neg (by omega), if_neg (by omega)]
      rw [v1, v2] at q1 q2
      have e1 : (oN C - 1) - oN k = oN (C - 1 - k) := by
        rw [oN_subL (by show 1 ≤ C; omega), oN_sub (by show k ≤ C - 1; omega)]
      have e2 : (oN C - 2 * oN n) + oN k = oN (C - 2 * n + k) := by
        rw [oN_mulR, oN_sub (by show 2 * n ≤ C; omega), oN_add]
      rw [hp.2.2.1, e1, place_is hp]
      simp only [am_bi]
      rw [hp.2.2.1, e2, place_is hp]
      simp only
      rw [q1]
      simp only
      by_cases e3 : h r (C - 2 * n + k) + h r (C - 1 - k) ≤ 32
      · rw [if_pos e3, if_neg (by decide), oN_addL]
        have q3 := q2.congr (fun r c _ hc => sz_step hk hn r c hc)
        rcases ih (r + 1) _ (by omega) (by omega) q3 with ⟨s', w1, w2, w3, w4⟩ | ⟨s', w1, w2, w3⟩
        · refine Or.inl ⟨s', w1, lay_fr.trans w2, w3, ?_⟩
          intro r' h1 h2
          by_cases e4 : r' = r
          · rw [e4]; exact e3
          · exact w4 r' (by omega) h2
        · exact Or.inr ⟨s', w1, lay_fr.trans w2, w3⟩
      · rw [if_neg e3, if_pos rfl]
        exact Or.inr ⟨_, rfl, lay_fr, r, by omega, by omega⟩
theorem side_out (hb : ∀ r c, r < R → c < C → h r c ≤ 32) (hn : 2 * n ≤ C) (hR : R ≤ 24) (hC : C ≤ 12) : ∀ (m k : Nat) (s : am_S), n - k < m → k ≤ n → cP s G R C (sz C n h k 0) →
    (∃ s', L_X2_foldSide_19 m (oN n) (oN k) s = some (.inr ((), s')) ∧ fr [38] s s' ∧ cP s' G R C (sz C n h n 0) ∧ ∀ k' r', k ≤ k' → k' < n → r' < R → h r' (C - 2 * n + k') + h r' (C - 1 - k') ≤ 32) ∨
    (∃ s', L_X2_foldSide_19 m (oN n) (oN k) s = some (.inl (.inl (some (.int 0)), s')) ∧ fr [38] s s' ∧ ∃ k' r', k' < n ∧ r' < R ∧ 32 < h r' (C - 2 * n + k') + h r' (C - 1 - k')) := by
  intro m
  induction m with
  | zero => intro k s hm; exact absurd hm (Nat.not_lt_zero _)
  | succ m ih =>
    intro k s hm hk hp
    rw [L_X2_foldSide_19]
    by_cases e : n ≤ k
    · rw [if_pos ((oN_le (by omega) (by omega)).mpr e)]
      have : k = n := by omega
      subst this
      exact Or.inl ⟨s, rfl, fr.refl, hp, fun k' c' h1 h2 => absurd h1 (by omega)⟩
    · rw [if_neg (fun hh => e ((oN_le (by omega) (by omega)).mp hh))]
      rcases side_in (G := G) hb hn (show k < n by omega) hR ax_fuel 0 s (by rw [ax_fuel_is]; omega) (by omega) hp with ⟨s1, w1, w2, w3, w4⟩ | ⟨s1, w1, w2, c', w3, w4⟩
      · rw [show (0 : Int32) = oN 0 from rfl, w1]
        simp only [am_ll, oN_addL]
        have q3 : cP s1 G R C (sz C n h (k + 1) 0) := w3.congr (by
          intro r c hr hc
          unfold sz
          repeat' split
          all_goals first | rfl | (exfalso; omega))
        rcases ih (k + 1) s1 (by omega) (by omega) q3 with ⟨s', z1, z2, z3, z4⟩ | ⟨s', z1, z2, z3⟩
        · refine Or.inl ⟨s', z1, w2.trans z2, z3, ?_⟩
          intro k' c' h1 h2 h3
          by_cases e4 : k' = k
          · rw [e4]; exact w4 c' (by omega) h3
          · exact z4 k' c' (by omega) h2 h3
        · exact Or.inr ⟨s', z1, w2.trans z2, z3⟩
      · rw [show (0 : Int32) = oN 0 from rfl, w1]
        simp only [am_ll]
        exact Or.inr ⟨s1, rfl, w2, k, c', by omega, w3, w4⟩
/-! corner -/
def cz (C n : Nat) (h : Nat → Nat → Nat) (r0 d0 : Nat) : Nat → Nat → Nat := fun r c => if r + (C - 1 - c) < n - 1 ∧ (r < r0 ∨ (r = r0 ∧ C - 1 - c < d0)) then 0 else if r ≤ n - 1 ∧ C - n ≤ c ∧ (c - (C - n)) + (n - 1 - r) < n - 1 ∧ (c - (C - n) < r0 ∨ (c - (C - n) = r0 ∧ n - 1 - r < d0)) then h r c + h (c - (C - n)) (C - 1 - (n - 1 - r)) else h r c
theorem cz_b (hb : ∀ r c, r < R → c < C → h r c ≤ 32) (hR : n ≤ R) (hC : n ≤ C) (hr : r < R) (hc : c < C) {k r0 : Nat} : cz C n h k r0 r c ≤ 100 := by
  unfold cz
  have h1 := hb r c hr hc
  split
  · omega
  · split
    next hq => have h2 := hb (c - (C - n)) (C - 1 - (n - 1 - r)) (by omega) (by omega); omega
    next => omega
theorem cz_step {r0 d0 : Nat} (hk : r0 + d0 < n - 1) (hC : n ≤ C) : ∀ r c, c < C → mv1 (cz C n h r0 d0) r0 (C - 1 - d0) (n - 1 - d0) (C - 1 - (n - 1 - r0)) r c = cz C n h r0 (d0 + 1) r c := by
  intro r c hc
  unfold mv1 cz
  by_cases e1 : r = r0 ∧ c = C - 1 - d0
  · rw [if_pos e1, if_pos (by omega)]
  · rw [if_neg e1]
    by_cases e2 : r = n - 1 - d0 ∧ c = C - 1 - (n - 1 - r0)
    · rw [if_pos e2, if_neg (by omega), if_neg (by omega), if_neg (by omega), if_neg (by omega), if_neg (by omega), if_pos (by omega), e2.1, e2.2, show C - 1 - (n - 1 - r0) - (C - n) = r0 by omega, show C - 1 - (n - 1 - (n - 1 - d0)) = C - 1 - d0 by omega]
    · rw [if_neg e2]
      repeat' split
      all_goals first | rfl | (exfalso; omega)
theorem corner_in (hb : ∀ r c, r < R → c < C → h r c ≤ 32) (hnR : n ≤ R) (hnC : n ≤ C) (hk : r < n - 1) (hR : R ≤ 24) : ∀ (m d : Nat) (s : am_S), n - d < m → r + d ≤ n - 1 → cP s G R C (cz C n h r d) →
    (∃ s', L_X2_foldCorner_42 m (oN n) (oN (C - 1)) (oN r) (oN d) s = some (.inr ((), s')) ∧ fr [38] s s' ∧ cP s' G R C (cz C n h (r + 1) 0) ∧ ∀ d', d ≤ d' → r + d' < n - 1 → h (n - 1 - d') (C - 1 - (n - 1 - r)) + h r (C - 1 - d') ≤ 32) ∨
    (∃ s', L_X2_foldCorner_42 m (oN n) (oN (C - 1)) (oN r) (oN d) s = some (.inl (.inl (some (.int 0)), s')) ∧ fr [38] s s' ∧ ∃ d', r + d' < n - 1 ∧ 32 < h (n - 1 - d') (C - 1 - (n - 1 - r)) + h r (C - 1 - d')) := by
  intro m
  induction m with
  | zero => intro d s hm; exact absurd hm (Nat.not_lt_zero _)
  | succ m ih =>
    intro d s hm hd hp
    have hC := hp.2.2.2.2.1
    have e0 : oN n - 1 = oN (n - 1) := by rw [oN_subL (by show 1 ≤ n; omega)]
    rw [L_X2_foldCorner_42, e0, oN_add]
    by_cases e : n - 1 ≤ r + d
    · rw [if_pos ((oN_le (by omega) (by omega)).mpr e)]
      refine Or.inl ⟨s, rfl, fr.refl, hp.congr ?_, fun c' h1 h2 => absurd h1 (by omega)⟩
      intro r' c' hr' hc'
      unfold cz
      repeat' split
      all_goals first | rfl | (exfalso; omega)
    · rw [if_neg (fun hh => e ((oN_le (by omega) (by omega)).mp hh))]
      obtain ⟨q1, q2⟩ := cP_lay hp (r1 := r) (c1 := C - 1 - d) (r2 := n - 1 - d) (c2 := C - 1 - (n - 1 - r)) (by omega) (by omega) (by omega) (by omega) (by omega) (fun r c hr hc => cz_b hb hnR hnC hr hc)
      have v1 : cz C n h r d r (C - 1 - d) = h r (C - 1 - d) := by unfold cz; rw [if_neg (by omega), if_neg (by omega)]
      have v2 : cz C n h r d (n - 1 - d) (C - 1 - (n - 1 - r)) = h (n - 1 - d) (C - 1 - (n - 1 - r)) := by unfold cz; rw [if_neg (by omega), if_neg (by omega)]
      rw [v1, v2] at q1 q2
      have e1 : oN (C - 1) - oN d = oN (C - 1 - d) := oN_sub (by omega)
      have e2 : oN (n - 1) - oN d = oN (n - 1 - d) := oN_sub (by omega)
      have e3 : oN (n - 1) - oN r = oN (n - 1 - r) := oN_sub (by omega)
      have e4 : oN (C - 1) - oN (n - 1 - r) = oN (C - 1 - (n - 1 - r)) := oN_sub (by omega)
      rw [e1, place_is hp]
      simp only [am_bi]
      rw [e2, e3, e4, place_is hp]
      simp only
      rw [q1]
      simp only
      by_cases e5 : h (n - 1 - d) (C - 1 - (n - 1 - r)) + h r (C - 1 - d) ≤ 32
      · rw [if_pos e5, if_neg (by decide), oN_addL]
        have q3 := q2.congr (fun r' c' _ hc => cz_step (show r + d < n - 1 by omega) hnC r' c' hc)
        rcases ih (d + 1) _ (by omega) (by omega) q3 with ⟨s', w1, w2, w3, w4⟩ | ⟨s', w1, w2, w3⟩
        · refine Or.inl ⟨s', w1, lay_fr.trans w2, w3, ?_⟩
          intro d' h1 h2
          by_cases e6 : d' = d
          · rw [e6]; exact e5
          · exact w4 d' (by omega) h2
        · exact Or.inr ⟨s', w1, lay_fr.trans w2, w3⟩
      · rw [if_neg e5, if_pos rfl]
        exact Or.inr ⟨_, rfl, lay_fr, d, by omega, by omega⟩
theorem corner_out (hb : ∀ r c, r < R → c < C → h r c ≤ 32) (hnR : n ≤ R) (hnC : n ≤ C) (h2n : 2 ≤ n) (hR : R ≤ 24) (hC : C ≤ 12) : ∀ (m r : Nat) (s : am_S), n - r < m → r ≤ n - 1 → cP s G R C (cz C n h r 0) →
    (∃ s', L_X2_foldCorner_32 m (oN n) (oN (C - 1)) (oN r) s = some (.inr ((), s')) ∧ fr [38] s s' ∧ cP s' G R C (cz C n h (n - 1) 0) ∧ ∀ r' d', r ≤ r' → r' + d' < n - 1 → h (n - 1 - d') (C - 1 - (n - 1 - r')) + h r' (C - 1 - d') ≤ 32) ∨
    (∃ s', L_X2_foldCorner_32 m (oN n) (oN (C - 1)) (oN r) s = some (.inl (.inl (some (.int 0)), s')) ∧ fr [38] s s' ∧ ∃ r' d', r' + d' < n - 1 ∧ 32 < h (n - 1 - d') (C - 1 - (n - 1 - r')) + h r' (C - 1 - d')) := by
  intro m
  induction m with
  | zero => intro r s hm; exact absurd hm (Nat.not_lt_zero _)
  | succ m ih =>
    intro r s hm hr hp
    have e0 : oN n - 1 = oN (n - 1) := by rw [oN_subL (by show 1 ≤ n; omega)]
    rw [L_X2_foldCorner_32, e0]
    by_cases e : n - 1 ≤ r
    · rw [if_pos ((oN_le (by omega) (by omega)).mpr e)]
      have : r = n - 1 := by omega
      subst this
      exact Or.inl ⟨s, rfl, fr.refl, hp, fun k' c' h1 h2 => absurd h1 (by omega)⟩
    · rw [if_neg (fun hh => e ((oN_le (by omega) (by omega)).mp hh))]
      rcases corner_in (G := G) hb hnR hnC (show r < n - 1 by omega) hR ax_fuel 0 s (by rw [ax_fuel_is]; omega) (by omega) hp with ⟨s1, w1, w2, w3, w4⟩ | ⟨s1, w1, w2, c', w3, w4⟩
      · rw [show (0 : Int32) = oN 0 from rfl, w1]
        simp only [am_ll, oN_addL]
        rcases ih (r + 1) s1 (by omega) (by omega) w3 with ⟨s', z1, z2, z3, z4⟩ | ⟨s', z1, z2, z3⟩
        · refine Or.inl ⟨s', z1, w2.trans z2, z3, ?_⟩
          intro r' d' h1 h2
          by_cases e4 : r' = r
          · rw [e4]; exact w4 d' (by omega) (by omega)
          · exact z4 r' d' (by omega) h2
        · exact Or.inr ⟨s', z1, w2.trans z2, z3⟩
      · rw [show (0 : Int32) = oN 0 from rfl, w1]
        simp only [am_ll]
        exact Or.inr ⟨s1, rfl, w2, r, c', w3, w4⟩

end CP
