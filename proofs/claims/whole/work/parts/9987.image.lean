/-! ===== a Stock copied to another; images ===== -/
section IMG
variable {s s1 s2 t t1 : am_S} {A B : List Nat} {T T' : hT} {X X' : hX} {x y z x1 x2 x3 x4 x5 : Int32} {a b n : Nat} {r c d : Int32} {lw : Nat → Int32} {wy : List (List T2)} {hd : List (List T3)} {dr : List T3} {cr : List T2} {en : List T3} {tt tt' : Nat → Int32}
theorem mS.same (h : mS tt r c d lw wy hd dr cr en) (oS : okS r c d lw wy hd dr cr en) (e : ∀ k, k < 264 → tt' k = tt k) : mS tt' r c d lw wy hd dr cr en := by
  obtain ⟨b1, b2, b3, b4, b5, b6, b7⟩ := oB oS
  obtain ⟨⟨h1, h2, h3, h4⟩, ⟨h5, h6⟩, ⟨h7, h8⟩, ⟨h9, h10⟩, ⟨h11, h12⟩, ⟨h13, h14⟩⟩ := h
  exact ⟨⟨(e 0 (by omega)).trans h1, (e 1 (by omega)).trans h2, (e 7 (by omega)).trans h3, fun k hk => (e _ (by unfold lp; split <;> omega)).trans (h4 k hk)⟩, ⟨(e 2 (by omega)).trans h5, fun w q hq => by
    have hl := (List.getElem?_eq_some_iff.mp hq).1
    have hq2 := b2 w q hq
    exact ⟨(e _ (by omega)).trans (h6 w q hq).1, (h6 w q hq).2.same (fun i k hi hk => e _ (by omega))⟩⟩, ⟨(e 3 (by omega)).trans h7, fun w q hq => by
    have hl := (List.getElem?_eq_some_iff.mp hq).1
    have hq2 := b4 w q hq
    exact ⟨(e _ (by omega)).trans (h8 w q hq).1, (h8 w q hq).2.same (fun i k hi hk => e _ (by omega))⟩⟩, ⟨(e 4 (by omega)).trans h9, h10.same (fun i k hi hk => e _ (by omega))⟩, ⟨(e 5 (by omega)).trans h11, h12.same (fun i k hi hk => e _ (by omega))⟩, ⟨(e 6 (by omega)).trans h13, h14.same (fun i k hi hk => e _ (by omega))⟩⟩
/-- the rows at a are those that stood at b -/
def rC (s1 s2 : am_S) (a b : Nat) : Prop := am_I s2 a 2 = am_min (am_I s1 b 2) (am_I s1 a 1) ∧ am_I s2 a 1 = am_I s1 a 1 ∧ ∀ k, k < 33 → am_I s2 (a + 1) k = am_I s1 (b + 1) k
theorem rC.r3 {l : List T3} {L : Nat} (h : rC s1 s2 a b) (hR : cR3 s1 b l) (hl : l.length ≤ L) (hL : L ≤ 11) (e : am_I s1 a 1 = oN L) : cR3 s2 a l := by
  refine ⟨by rw [h.1, hR.1, e, min_is (by omega) (by omega), Nat.min_eq_left hl], hR.2.same ?_⟩
  intro i k hi hk
  exact h.2.2 _ (by omega)
theorem rC.r2 {l : List T2} {L : Nat} (h : rC s1 s2 a b) (hR : cR2 s1 b l) (hl : l.length ≤ L) (hL : L ≤ 11) (e : am_I s1 a 1 = oN L) : cR2 s2 a l := by
  refine ⟨by rw [h.1, hR.1, e, min_is (by omega) (by omega), Nat.min_eq_left hl], hR.2.same ?_⟩
  intro i k hi hk
  exact h.2.2 _ (by omega)
theorem rC.pre {s0 : am_S} (h : rC s1 s2 a b) (e1 : am_I s1 b 2 = am_I s0 b 2) (e2 : am_I s1 a 1 = am_I s0 a 1) (e3 : am_I s1 (b + 1) = am_I s0 (b + 1)) : rC s0 s2 a b := by
  refine ⟨by rw [h.1, e1, e2], h.2.1.trans e2, fun k hk => by rw [h.2.2 k hk, e3]⟩
theorem rC.post {s3 : am_S} (h : rC s1 s2 a b) (e1 : am_I s3 a = am_I s2 a) (e3 : am_I s3 (a + 1) = am_I s2 (a + 1)) : rC s1 s3 a b := by
  refine ⟨by rw [e1]; exact h.1, by rw [e1]; exact h.2.1, fun k hk => by rw [e3]; exact h.2.2 k hk⟩
theorem rcopy (hab : b ≠ a + 1) : ∃ s', f_X4_copyFrom a b s = some (.inl none, s') ∧ fr [a, a + 1] s s' ∧ rC s s' a b := by
  unfold f_X4_copyFrom
  rw [le_s]
  refine ⟨_, rfl, (fr.refl.sA (by simp)).sI (by simp), ?_, ?_, ?_⟩
  · rw [I_sI, if_pos ⟨rfl, rfl⟩, I_sAne hab, I_sAne (by omega)]
  · rw [I_sI, if_neg (by omega), I_sAne (by omega)]
  · intro k hk
    rw [I_ne (by omega), I_sA, if_pos rfl]
    unfold va_cpy
    rw [if_pos (by omega)]
    congr 1
    omega
theorem cpw_in (hab : a + 32 ≤ b ∨ b + 32 ≤ a) : ∀ (n m i : Nat) (s : am_S), n < m → i + n = 6 → ∃ s', L_X5_copyFrom_41 m a b (oN i) s = some (.inr ((), s')) ∧ fr (List.range' (a + 10 + 2 * i) (2 * n)) s s' ∧ ∀ w, i ≤ w → w < 6 → rC s s' (a + 10 + 2 * w) (b + 10 + 2 * w) := by
  intro n
  induction n with
  | zero =>
    intro m i s hm hi
    obtain ⟨m, rfl⟩ : ∃ q, m = q + 1 := ⟨m - 1, by omega⟩
    obtain rfl : i = 6 := by omega
    refine ⟨s, ?_, fr.refl, fun w h1 h2 => by omega⟩
    rw [L_X5_copyFrom_41, if_pos (by decide)]
  | succ n ih =>
    intro m i s hm hi
    obtain ⟨m, rfl⟩ : ∃ q, m = q + 1 := ⟨m - 1, by omega⟩
    obtain ⟨s1, e1, e2, e3⟩ := rcopy (s := s) (a := a + 10 + 2 * i) (b := b + 10 + 2 * i) (by omega)
    obtain ⟨s', d1, d2, d3⟩ := ih m (i + 1) s1 (by omega) (by omega)
    have k1 : fr (List.range' (a + 10 + 2 * i) (2 * (n + 1))) s s1 := ⟨fun p hp => e2.1 p (by rw [List.mem_range'_1] at hp; simp; omega), e2.2⟩
    have k2 : fr (List.range' (a + 10 + 2 * i) (2 * (n + 1))) s1 s' := ⟨fun p hp => d2.1 p (by rw [List.mem_range'_1] at hp ⊢; omega), d2.2⟩
    refine ⟨s', ?_, k1.trans k2, ?_⟩
    · rw [L_X5_copyFrom_41, if_neg (by rw [oN_leR (by omega) (by omega)]; omega), if_pos (in_o (by omega) (by omega)), if_pos (in_o (by omega) (by omega)), oN_nat (by omega), show a + (10 + 2 * i) = a + 10 + 2 * i by omega, show b + (10 + 2 * i) = b + 10 + 2 * i by omega, e1, bu_s, oN_addL]
      exact d1
    · intro w h1 h2
      by_cases c : w = i
      · subst c
        exact e3.post (d2.I (by rw [List.mem_range'_1]; omega)) (d2.I (by rw [List.mem_range'_1]; omega))
      · exact (d3 w (by omega) h2).pre (by rw [e2.I (by simp; omega)]) (by rw [e2.I (by simp; omega)]) (e2.I (by simp; omega))
theorem cph_in (hab : a + 32 ≤ b ∨ b + 32 ≤ a) : ∀ (n m i : Nat) (s : am_S), n < m → i + n = 5 → ∃ s', L_X5_copyFrom_78 m a b (oN i) s = some (.inr ((), s')) ∧ fr (List.range' (a + 22 + 2 * i) (2 * n)) s s' ∧ ∀ w, i ≤ w → w < 5 → rC s s' (a + 22 + 2 * w) (b + 22 + 2 * w) := by
  intro n
  induction n with
  | zero =>
    intro m i s hm hi
    obtain ⟨m, rfl⟩ : ∃ q, m = q + 1 := ⟨m - 1, by omega⟩
    obtain rfl : i = 5 := by omega
    refine ⟨s, ?_, fr.refl, fun w h1 h2 => by omega⟩
    rw [L_X5_copyFrom_78, if_pos (by decide)]
  | succ n ih =>
    intro m i s hm hi
    obtain ⟨m, rfl⟩ : ∃ q, m = q + 1 := ⟨m - 1, by omega⟩
    obtain ⟨s1, e1, e2, e3⟩ := rcopy (s := s) (a := a + 22 + 2 * i) (b := b + 22 + 2 * i) (by omega)
    obtain ⟨s', d1, d2, d3⟩ := ih m (i + 1) s1 (by omega) (by omega)
    have k1 : fr (List.range' (a + 22 + 2 * i) (2 * (n + 1))) s s1 := ⟨fun p hp => e2.1 p (by rw [List.mem_range'_1] at hp; simp; omega), e2.2⟩
    have k2 : fr (List.range' (a + 22 + 2 * i) (2 * (n + 1))) s1 s' := ⟨fun p hp => d2.1 p (by rw [List.mem_range'_1] at hp ⊢; omega), d2.2⟩
    refine ⟨s', ?_, k1.trans k2, ?_⟩
    · rw [L_X5_copyFrom_78, if_neg (by rw [oN_leR (by omega) (by omega)]; omega), if_pos (in_o (by omega) (by omega)), if_pos (in_o (by omega) (by omega)), oN_nat (by omega), show a + (22 + 2 * i) = a + 22 + 2 * i by omega, show b + (22 + 2 * i) = b + 22 + 2 * i by omega, e1, bu_s, oN_addL]
      exact d1
    · intro w h1 h2
      by_cases c : w = i
      · subst c
        exact e3.post (d2.I (by rw [List.mem_range'_1]; omega)) (d2.I (by rw [List.mem_range'_1]; omega))
      · exact (d3 w (by omega) h2).pre (by rw [e2.I (by simp; omega)]) (by rw [e2.I (by simp; omega)]) (e2.I (by simp; omega))
/-- head and law of a Stock copied -/
def hdS (a b : Nat) (s : am_S) : am_S := am_sA (am_sI (am_sI (am_sI s a 0 (am_I s b 0)) a 1 (am_I s b 1)) a 2 (am_I s b 2)) (a + 1) (va_cpy (am_I s (b + 1)) (am_I s (a + 1)) 0 0 23)
theorem hdS_is (hab : a + 32 ≤ b ∨ b + 32 ≤ a) : fr [a, a + 1] s (hdS a b s) ∧ am_I (hdS a b s) a 0 = am_I s b 0 ∧ am_I (hdS a b s) a 1 = am_I s b 1 ∧ am_I (hdS a b s) a 2 = am_I s b 2 ∧ (∀ k, k < 23 → am_I (hdS a b s) (a + 1) k = am_I s (b + 1) k) := by
  unfold hdS
  refine ⟨(((fr.refl.sI (by simp)).sI (by simp)).sI (by simp)).sA (by simp), ?_, ?_, ?_, ?_⟩
  · rw [I_sAne (by omega), I_sI, if_neg (by omega), I_sI, if_neg (by omega), I_sI, if_pos ⟨rfl, rfl⟩]
  · rw [I_sAne (by omega), I_sI, if_neg (by omega), I_sI, if_pos ⟨rfl, rfl⟩]
  · rw [I_sAne (by omega), I_sI, if_pos ⟨rfl, rfl⟩]
  · intro k hk
    rw [I_sA, if_pos rfl]
    unfold va_cpy
    rw [if_pos (by omega)]
    congr 1
    omega
theorem scopy (hab : a + 32 ≤ b ∨ b + 32 ≤ a) (hS : cS s b r c d lw wy hd dr cr en) (oS : okS r c d lw wy hd dr cr en) (hL : cLim s a) :
    ∃ s', f_X5_copyFrom a b s = some (.inl none, s') ∧ fr (List.range' a 32) s s' ∧ cS s' a r c d lw wy hd dr cr en := by
  obtain ⟨b1, b2, b3, b4, b5, b6, b7⟩ := oB oS
  obtain ⟨⟨h1, h2, h3, h4⟩, ⟨h5, h6⟩, ⟨h7, h8⟩, h9, h10, h11, _⟩ := hS
  obtain ⟨l1, l2, l3, l4, l5⟩ := hL
  obtain ⟨f0, g0, g1, g2, g3⟩ := hdS_is (s := s) hab
  have n0 : ∀ p, (p < a ∨ a + 1 < p) → am_I (hdS a b s) p = am_I s p := fun p hp => f0.I (by simp; omega)
  obtain ⟨s1, e1, e2, e3⟩ := cpw_in (a := a) (b := b) hab 6 ax_fuel 0 (hdS a b s) (by rw [ax_fuel_is]; omega) (by omega)
  have n1 : ∀ p, (p < a + 10 ∨ a + 22 ≤ p) → am_I s1 p = am_I (hdS a b s) p := fun p hp => e2.I (by rw [List.mem_range'_1]; omega)
  obtain ⟨s2, d1, d2, d3⟩ := cph_in (a := a) (b := b) hab 5 ax_fuel 0 (am_sI s1 a 5 (am_I s1 b 5)) (by rw [ax_fuel_is]; omega) (by omega)
  have n2 : ∀ p, (p < a + 22 ∨ a + 32 ≤ p) → am_I s2 p = am_I (am_sI s1 a 5 (am_I s1 b 5)) p := fun p hp => d2.I (by rw [List.mem_range'_1]; omega)
  have n2' : ∀ p, p ≠ a → (p < a + 22 ∨ a + 32 ≤ p) → am_I s2 p = am_I s1 p := fun p h hp => (n2 p hp).trans (I_ne h)
  have fA : ∀ {l : List Nat} {u v : am_S}, fr l u v → (∀ p, p ∈ l → a ≤ p ∧ p < a + 32) → fr (List.range' a 32) u v := fun f h => ⟨fun p hp => f.1 p (fun hm => hp (by rw [List.mem_range'_1]; exact h p hm)), f.2⟩
  obtain ⟨s3, u1, u2, u3⟩ := rcopy (s := am_sI s2 a 7 (am_I s2 b 7)) (a := a + 4) (b := b + 4) (by omega)
  obtain ⟨s4, v1, v2, v3⟩ := rcopy (s := s3) (a := a + 6) (b := b + 6) (by omega)
  obtain ⟨s5, w1, w2, w3⟩ := rcopy (s := s4) (a := a + 8) (b := b + 8) (by omega)
  have n3 : ∀ p, (p ≠ a + 4 ∧ p ≠ a + 5) → am_I s3 p = am_I (am_sI s2 a 7 (am_I s2 b 7)) p := fun p hp => u2.I (by simp; omega)
  have n4 : ∀ p, (p ≠ a + 6 ∧ p ≠ a + 7) → am_I s4 p = am_I s3 p := fun p hp => v2.I (by simp; omega)
  have n5 : ∀ p, (p ≠ a + 8 ∧ p ≠ a + 9) → am_I s5 p = am_I s4 p := fun p hp => w2.I (by simp; omega)
  -- what stood at b stands there yet
  have kb1 : ∀ p, b ≤ p → p < b + 32 → am_I s1 p = am_I s p := fun p h1 h2 => (n1 p (by omega)).trans (n0 p (by omega))
  have kb2 : ∀ p, b ≤ p → p < b + 32 → am_I s2 p = am_I s p := fun p h1 h2 => (n2' p (by omega) (by omega)).trans (kb1 p h1 h2)
  have kb2' : ∀ p, b ≤ p → p < b + 32 → am_I (am_sI s2 a 7 (am_I s2 b 7)) p = am_I s p := fun p h1 h2 => (I_ne (by omega)).trans (kb2 p h1 h2)
  have kb3 : ∀ p, b ≤ p → p < b + 32 → am_I s3 p = am_I s p := fun p h1 h2 => (n3 p (by omega)).trans (kb2' p h1 h2)
  have kb4 : ∀ p, b ≤ p → p < b + 32 → am_I s4 p = am_I s p := fun p h1 h2 => (n4 p (by omega)).trans (kb3 p h1 h2)
  -- small rows at a that wait for their turn
  have ka : ∀ p, a + 4 ≤ p → p < a + 10 → am_I (am_sI s2 a 7 (am_I s2 b 7)) p = am_I s p := fun p h1 h2 => ((I_ne (by omega)).trans ((n2' p (by omega) (by omega)).trans ((n1 p (by omega)).trans (n0 p (by omega)))))
  have ea : am_I s5 a = am_I (am_sI s2 a 7 (am_I s2 b 7)) a := (n5 a (by omega)).trans ((n4 a (by omega)).trans (n3 a (by omega)))
  have ea2 : ∀ k, k ≠ 7 → k ≠ 5 → am_I s5 a k = am_I (hdS a b s) a k := by
    intro k hk hk5
    rw [ea, I_sI, if_neg (by omega), n2 a (by omega), I_sI, if_neg (by omega), n1 a (by omega)]
  have kp : ∀ p, a < p → (p < a + 4 ∨ a + 10 ≤ p) → am_I s5 p = am_I s2 p := fun p h0 hp => (n5 p (by omega)).trans ((n4 p (by omega)).trans ((n3 p (by omega)).trans (I_ne (by omega))))
  refine ⟨s5, ?_, ?_, ?_⟩
  · have hh : f_X5_copyFrom a b s = am_lm (L_X5_copyFrom_41 ax_fuel a b (oN 0) (hdS a b s)) (fun e9 s10 => am_lm (L_X5_copyFrom_78 ax_fuel a b (oN 0) (am_sI s10 a 5 (am_I s10 b 5))) (fun e18 s19 => am_bu (f_X4_copyFrom (a + 4) (b + 4) (am_sI s19 a 7 (am_I s19 b 7))) (fun s20 => am_bu (f_X4_copyFrom (a + 6) (b + 6) s20) (fun s22 => am_bu (f_X4_copyFrom (a + 8) (b + 8) s22) (fun s24 => some (.inl none, s24)))))) := by
      have q1 : am_I (am_sI s a 0 (am_I s b 0)) b 1 = am_I s b 1 := by rw [I_ne (by omega)]
      have q2 : am_I (am_sI (am_sI s a 0 (am_I s b 0)) a 1 (am_I s b 1)) b 2 = am_I s b 2 := by rw [I_ne (by omega), I_ne (by omega)]
      have q3 : am_I (am_sI (am_sI (am_sI s a 0 (am_I s b 0)) a 1 (am_I s b 1)) a 2 (am_I s b 2)) (b + 1) = am_I s (b + 1) := by rw [I_ne (by omega), I_ne (by omega), I_ne (by omega)]
      have q4 : am_I (am_sI (am_sI (am_sI s a 0 (am_I s b 0)) a 1 (am_I s b 1)) a 2 (am_I s b 2)) (a + 1) = am_I s (a + 1) := by rw [I_ne (by omega), I_ne (by omega), I_ne (by omega)]
      unfold f_X5_copyFrom
      rw [le_s, q1, q2, q3, q4]
      rfl
    rw [hh, e1, lm_e, d1, lm_e, u1, bu_s, v1, bu_s, w1, bu_s]
  · refine (fA f0 ?_).trans ((fA e2 ?_).trans ((fr.sI fr.refl ?_).trans ((fA d2 ?_).trans ((fr.sI fr.refl ?_).trans ((fA u2 ?_).trans ((fA v2 ?_).trans (fA w2 ?_)))))))
    · intro p hp; simp at hp; omega
    · intro p hp; rw [List.mem_range'_1] at hp; omega
    · rw [List.mem_range'_1]; omega
    · intro p hp; rw [List.mem_range'_1] at hp; omega
    · rw [List.mem_range'_1]; omega
    · intro p hp; simp at hp; omega
    · intro p hp; simp at hp; omega
    · intro p hp; simp at hp; omega
  · refine ⟨⟨?_, ?_, ?_, ?_⟩, ⟨?_, ?_⟩, ⟨?_, ?_⟩, ?_, ?_, ?_, ?_⟩
    · rw [ea2 0 (by omega) (by omega), g0]; exact h1
    · rw [ea2 1 (by omega) (by omega), g1]; exact h2
    · rw [ea2 2 (by omega) (by omega), g2]; exact h3
    · intro k hk
      rw [kp (a + 1) (by omega) (by omega), n2' (a + 1) (by omega) (by omega), n1 (a + 1) (by omega), g3 k hk]
      exact h4 k hk
    · rw [ea, I_sI, if_neg (by omega), n2 a (by omega), I_sI, if_pos ⟨rfl, rfl⟩, kb1 b (by omega) (by omega)]; exact h5
    · intro w q hq
      have hl := (List.getElem?_eq_some_iff.mp hq).1
      have z := (e3 w (by omega) (by omega)).pre (s0 := s) (by rw [n0 _ (by omega)]) (by rw [n0 _ (by omega)]) (n0 _ (by omega))
      exact (z.post (s3 := s5) ((kp _ (by omega) (by omega)).trans (n2' _ (by omega) (by omega))) ((kp _ (by omega) (by omega)).trans (n2' _ (by omega) (by omega)))).r2 (L := 11) (h6 w q hq) (b2 w q hq) (by omega) (l1 w (by omega))
    · rw [ea, I_sI, if_pos ⟨rfl, rfl⟩, kb2 b (by omega) (by omega)]; exact h7
    · intro w q hq
      have hl := (List.getElem?_eq_some_iff.mp hq).1
      have hx : ∀ p, (b ≤ p ∧ p < b + 32) ∨ (a + 22 ≤ p ∧ p < a + 32) → am_I (am_sI s1 a 5 (am_I s1 b 5)) p = am_I s p := fun p hp => (I_ne (by omega)).trans ((n1 p (by omega)).trans (n0 p (by omega)))
      have z := (d3 w (by omega) (by omega)).pre (s0 := s) (by rw [hx _ (by omega)]) (by rw [hx _ (by omega)]) (hx _ (by omega))
      exact (z.post (s3 := s5) (kp _ (by omega) (by omega)) (kp _ (by omega) (by omega))).r3 (L := 4) (h8 w q hq) (b4 w q hq) (by omega) (l2 w (by omega))
    · have z := u3.pre (s0 := s) (by rw [kb2' _ (by omega) (by omega)]) (by rw [ka _ (by omega) (by omega)]) (kb2' _ (by omega) (by omega))
      exact (z.post (s3 := s5) ((n5 _ (by omega)).trans (n4 _ (by omega))) ((n5 _ (by omega)).trans (n4 _ (by omega)))).r3 (L := 4) h9 b5 (by omega) l3
    · have z := v3.pre (s0 := s) (by rw [kb3 _ (by omega) (by omega)]) (by rw [n3 _ (by omega), ka _ (by omega) (by omega)]) (kb3 _ (by omega) (by omega))
      exact (z.post (s3 := s5) (n5 _ (by omega)) (n5 _ (by omega))).r2 (L := 3) h10 b6 (by omega) l4
    · have z := w3.pre (s0 := s) (by rw [kb4 _ (by omega) (by omega)]) (by rw [n4 _ (by omega), n3 _ (by omega), ka _ (by omega) (by omega)]) (kb4 _ (by omega) (by omega))
      exact z.r3 (L := 4) h11 b7 (by omega) l5
    · refine ⟨?_, ?_, ?_, ?_, ?_⟩
      · intro w hw
        rw [kp _ (by omega) (by omega), n2' _ (by omega) (by omega), (e3 w (by omega) hw).2.1, n0 _ (by omega)]
        exact l1 w hw
      · intro w hw
        rw [kp _ (by omega) (by omega), (d3 w (by omega) hw).2.1, I_ne (by omega), n1 _ (by omega), n0 _ (by omega)]
        exact l2 w hw
      · rw [n5 _ (by omega), n4 _ (by omega), u3.2.1, ka _ (by omega) (by omega)]; exact l3
      · rw [n5 _ (by omega), v3.2.1, n3 _ (by omega), ka _ (by omega) (by omega)]; exact l4
      · rw [w3.2.1, n4 _ (by omega), n3 _ (by omega), ka _ (by omega) (by omega)]; exact l5
theorem mrest_in {i : Nat} (hi3 : i < 3) : ∀ (n m k : Nat) (s : am_S), n < m → k + n = 264 → ∃ s', L_X8_restore_44 m (oN i) (oN k) s = some (.inr ((), s')) ∧ fr [56] s s' ∧ (∀ p, k ≤ p → p < 264 → am_I s' 56 p = am_I s 57 (264 * i + p)) ∧ ∀ p, p < k → am_I s' 56 p = am_I s 56 p := by
  intro n
  induction n with
  | zero =>
    intro m k s hm hk
    obtain ⟨m, rfl⟩ : ∃ q, m = q + 1 := ⟨m - 1, by omega⟩
    obtain rfl : k = 264 := by omega
    refine ⟨s, ?_, fr.refl, fun p h1 h2 => by omega, fun p _ => rfl⟩
    rw [L_X8_restore_44, if_pos (by decide)]
  | succ n ih =>
    intro m k s hm hk
    obtain ⟨m, rfl⟩ : ∃ q, m = q + 1 := ⟨m - 1, by omega⟩
    have ea : (264 : Int32) * oN i + oN k = oN (264 * i + k) := by rw [oN_mulR, oN_add]
    obtain ⟨s', e1, e2, e3, e4⟩ := ih m (k + 1) (am_sI s 56 k (am_I s 57 (264 * i + k))) (by omega) (by omega)
    refine ⟨s', ?_, fr.trans (fr.refl.sI (by simp)) e2, ?_, ?_⟩
    · rw [L_X8_restore_44, if_neg (by rw [oN_leR (by omega) (by omega)]; omega), ea, if_pos (in_o (by omega) (by omega)), if_pos (in_o (by omega) (by omega)), oN_nat (by omega), oN_nat (by omega), oN_addL]
      exact e1
    · intro p h1 h2
      by_cases c : p = k
      · subst c
        rw [e4 p (by omega), I_sI, if_pos ⟨rfl, rfl⟩]
      · rw [e3 p (by omega) h2, I_ne (by decide)]
    · intro p hp
      rw [e4 p (by omega), I_sI, if_neg (by omega)]
theorem mimg_in {i : Nat} (hi3 : i < 3) : ∀ (n m k : Nat) (s : am_S), n < m → k + n = 264 → ∃ s', L_X8_image_38 m (oN i) (oN k) s = some (.inr ((), s')) ∧ fr [57] s s' ∧ (∀ p, k ≤ p → p < 264 → am_I s' 57 (264 * i + p) = am_I s 56 p) ∧ ∀ p, p < 264 * i + k ∨ 264 * i + 264 ≤ p → am_I s' 57 p = am_I s 57 p := by
  intro n
  induction n with
  | zero =>
    intro m k s hm hk
    obtain ⟨m, rfl⟩ : ∃ q, m = q + 1 := ⟨m - 1, by omega⟩
    obtain rfl : k = 264 := by omega
    refine ⟨s, ?_, fr.refl, fun p h1 h2 => by omega, fun p _ => rfl⟩
    rw [L_X8_image_38, if_pos (by decide)]
  | succ n ih =>
    intro m k s hm hk
    obtain ⟨m, rfl⟩ : ∃ q, m = q + 1 := ⟨m - 1, by omega⟩
    have ea : (264 : Int32) * oN i + oN k = oN (264 * i + k) := by rw [oN_mulR, oN_add]
    obtain ⟨s', e1, e2, e3, e4⟩ := ih m (k + 1) (am_sI s 57 (264 * i + k) (am_I s 56 k)) (by omega) (by omega)
    refine ⟨s', ?_, fr.trans (fr.refl.sI (by simp)) e2, ?_, ?_⟩
    · rw [L_X8_image_38, if_neg (by rw [oN_leR (by omega) (by omega)]; omega), ea, if_pos (in_o (by omega) (by omega)), if_pos (in_o (by omega) (by omega)), oN_nat (by omega), oN_nat (by omega), oN_addL]
      exact e1
    · intro p h1 h2
      by_cases c : p = k
      · subst c
        rw [e4 _ (by omega), I_sI, if_pos ⟨rfl, rfl⟩]
      · rw [e3 p (by omega) h2, I_ne (by decide)]
    · intro p hp
      rw [e4 p (by omega), I_sI, if_neg (by omega)]
theorem needImg_ok {i : Nat} (h : i < 3) : f_X7_needImageNumber (oN i) s = some (.inl none, s) := by
  unfold f_X7_needImageNumber
  rw [if_neg (by rw [oN_nonneg (by omega)]; exact id), if_pos ((oN_ltL (by omega) (by omega)).mpr h)]
theorem needImg_no (h : ¬ (0 ≤ x.toInt ∧ x.toInt < (3 : Nat))) : f_X7_needImageNumber x s = some (.inr 3, am_tick s) := by
  unfold f_X7_needImageNumber
  by_cases c : x < 0
  · rw [if_pos c]
  · have c2 : ¬ x < 3 := by
      rw [Int32.lt_iff_toInt_lt, Int32.toInt_zero] at c
      rw [Int32.lt_iff_toInt_lt]
      have : (3 : Int32).toInt = 3 := rfl
      omega
    rw [if_neg c, if_neg c2]
theorem mIn3 : f_X8_within x.toInt64 0 2 s = some (.inl (some (.int (if 0 ≤ x.toInt ∧ x.toInt < (3 : Nat) then 1 else 0))), s) := by
  rw [mW (a := 0) (b := 2) rfl rfl]
  by_cases c : 0 ≤ x.toInt ∧ x.toInt < (3 : Nat)
  · rw [if_pos c, if_pos (show wi x.toInt 0 2 = true from wi_t.mpr (by omega))]
  · rw [if_neg c, if_neg (show ¬ wi x.toInt 0 2 = true from fun h => c (by have := wi_t.mp h; omega))]
theorem W_restore (hC : cZ s T X) (hM : mZ t T X) (oT : tO T) (oX : xO X) : JW (fun _ : Unit => none) k312 s t (f_X7_restore x1 s) (f_X8_restore x1 t) := by
  unfold f_X7_restore f_X8_restore
  rw [mIn3, bi_s, jn_s]
  rcases ix_cases x1 3 with ⟨i, hi, e⟩ | hx
  · subst e
    rw [needImg_ok hi, tu_s, if_pos (in_o (by omega) (by omega)), if_pos (show 0 ≤ (oN i).toInt ∧ (oN i).toInt < (3 : Nat) by rw [oN_int (by omega)]; omega), if_neg n10, if_pos (in_o (by omega) (by omega)), oN_nat (by omega)]
    rcases hC.2.2.2.2.2.1 i hi with ⟨a1, a2⟩ | ⟨b, h, a1, a2, a3, a4, a5⟩
    · rcases hM.2.2.2.2 i hi with ⟨c1, c2⟩ | ⟨h, c1, c2⟩
      · rw [a1, if_pos c2]
        dsimp only
        rw [if_neg (show ¬ (2 : Int32) ≤ 0 by decide)]
        exact JW_x (e := 1) (v := ()) oT oX (fr.refl (A := [])) (by decide) hC rfl (B := [55]) (fr.refl.sI (by simp)) (by decide) hM.thr rfl thr0
      · rw [a2] at c1; cases c1
    · rcases hM.2.2.2.2 i hi with ⟨c1, c2⟩ | ⟨h', c1, c2, c3⟩
      · rw [a4] at c1; cases c1
      · rw [a4] at c1
        cases c1
        have oH := oX.2.2 i h hi a4
        obtain ⟨s', e1, e2, e3⟩ := scopy (s := s) (a := 1) (b := b) (by omega) a5 oH hC.1.2.2.2.2.2.2
        obtain ⟨t', d1, d2, d3, d4⟩ := mrest_in (i := i) hi 264 ax_fuel 0 (am_sI t 55 3 0) (by rw [ax_fuel_is]; omega) (by omega)
        have d1' : L_X8_restore_44 ax_fuel (oN i) 0 (am_sI t 55 3 0) = some (.inr ((), t')) := d1
        rw [a1, if_neg (show ¬ am_I t 58 i = 0 by rw [c2]; exact n10)]
        dsimp only
        rw [if_pos (show (0 : Int32) ≤ 0 by decide), d1', lm_e]
        show JW _ _ _ _ (am_bu (f_X5_copyFrom 1 b s) (fun s7 => some (.inl none, s7))) _
        rw [e1, bu_s]
        have f2 : fr [55, 56] t t' := fr.trans (fr.refl.sI (by simp)) (d2.mono (by decide))
        refine JW_v (v := ()) (T := h) oH oX e2 (by decide) (hC.upd oX e2 (by decide) e3) rfl f2 (by decide) (hM.upd f2 (by decide) ?_ ?_) rfl ?_
        · intro k hk; rw [d2.I (by decide), I_sI, if_neg (by omega)]
        · exact mS.same c3 oH (fun k hk => by rw [d3 k (by omega) hk, I_ne (by decide)])
        · rw [d2.I (by decide), thr0]
  · rw [needImg_no hx, tu_x, if_neg hx, if_pos rfl]
    dsimp only
    rw [if_neg (show ¬ (1 : Int32) ≤ 0 by decide)]
    exact JW_x (e := 3) (v := ()) oT oX (fr.refl (A := [])) (by decide) hC rfl (B := [55]) (fr.refl.sI (by simp)) (by decide) hM.thr rfl thr0
end IMG
