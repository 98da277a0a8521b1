/-! ===== flights: tick behind tick ===== -/
def flS (E : hE) : Nat → hF → hF
  | 0, F => F
  | n + 1, F => if F.2.2.2.2.2.2.2.2.2.2 = 0 then flS E n (tkF E F) else F
/-- the start: speed, direction below 64 -/
def fl0 (v : Int32) (d : Nat) : hF := (0, 2000, (v * Int32.ofInt (cs d)) / 1000, (v * Int32.ofInt (sn d)) / 1000, 16 * oN d, 0, 0, 2000, 0, 0, 0)
/-- weight with damp, times thin -/
def ldS (w d th : Int32) : Int64 := ((w + ((w * d) / (100 : Int32))) * th).toInt64
section FB
variable {E : hE} {F : hF} {v : Int32} {d n : Nat}
theorem half_b {x : Int32} (hx : -2000 ≤ x.toInt ∧ x.toInt ≤ 2000) : -2000 ≤ ((-x) / 2).toInt ∧ ((-x) / 2).toInt ≤ 2000 := by
  have n1 : (2 : Int32) ≠ -1 := by decide
  have t1 : (2 : Int32).toInt = 2 := rfl
  have e1 : (-x).toInt = -x.toInt := by rw [Int32.toInt_neg, Int.bmod_eq_of_le (by omega) (by omega)]
  rw [Int32.toInt_div_of_ne_right _ _ n1, e1, t1]
  have h : ((-x.toInt).tdiv 2).natAbs ≤ 2000 := by
    rw [Int.natAbs_tdiv]
    have : (-x.toInt).natAbs ≤ 2000 := by omega
    exact Nat.le_trans (Nat.div_le_self _ _) this
  omega
theorem okFl_tk (oF : okFl F) : okFl (tkF E F) := by
  obtain ⟨lw, A, V, Ld, e, dr, cr⟩ := E
  obtain ⟨x, y, vx, vy, ns, sp, tk, hi, tu, un, en⟩ := F
  obtain ⟨o1, o2, o3, o4⟩ := oF
  rw [tkG_e]
  have b1 := in_bd (v := sp.toInt64 + (((e.toInt64 * qv vx vy - V.toInt64 * lft lw A Ld (atk ns (pth vx.toInt vy.toInt)) (qv vx vy)) * (lw 20).toInt64) / 1000) - (sp.toInt64 + (((e.toInt64 * qv vx vy - V.toInt64 * lft lw A Ld (atk ns (pth vx.toInt vy.toInt)) (qv vx vy)) * (lw 20).toInt64) / 1000)) * (lw 21).toInt64 / 10) (z := 200) (b := 200) (by omega) (by omega) rfl
  have key : ∀ sp1 vx1 vy1 : Int32, (-200 ≤ sp1.toInt ∧ sp1.toInt ≤ 200) → (-2000 ≤ vx1.toInt ∧ vx1.toInt ≤ 2000) → (-2000 ≤ vy1.toInt ∧ vy1.toInt ≤ 2000) → okFl (tkG (lw 22) cr x y ns tk hi tu un sp1 vx1 vy1) := by
    intro sp1 vx1 vy1 h1 h2 h3
    refine ⟨h2, ?_, (nose_eq o3 h1).2, h1⟩
    show -2000 ≤ (if lw 22 = -1 then vy1 else if y + vy1 ≤ 100 * lw 22 then vy1 else (-vy1) / 2).toInt ∧ (if lw 22 = -1 then vy1 else if y + vy1 ≤ 100 * lw 22 then vy1 else (-vy1) / 2).toInt ≤ 2000
    split
    · exact h3
    · split
      · exact h3
      · exact half_b h3
  exact key _ _ _ b1 (in_bd (b := 2000) (by omega) (by omega) rfl) (in_bd (b := 2000) (by omega) (by omega) rfl)
theorem tk_ticks : (tkF E F).2.2.2.2.2.2.1 = F.2.2.2.2.2.2.1 + 1 := by
  obtain ⟨lw, A, V, Ld, e, dr, cr⟩ := E
  obtain ⟨x, y, vx, vy, ns, sp, tk, hi, tu, un, en⟩ := F
  rfl
theorem flS_stop (h : ¬ F.2.2.2.2.2.2.2.2.2.2 = 0) : flS E n F = F := by
  cases n with
  | zero => rfl
  | succ n => rw [flS, if_neg h]
theorem part_b (hv : 10 ≤ v.toInt ∧ v.toInt ≤ 999) {c : Int} (hc : -1000 ≤ c ∧ c ≤ 1000) : -2000 ≤ ((v * Int32.ofInt c) / 1000).toInt ∧ ((v * Int32.ofInt c) / 1000).toInt ≤ 2000 := by
  have n1 : (1000 : Int32) ≠ -1 := by decide
  have t1 : (1000 : Int32).toInt = 1000 := rfl
  have k1 : (v.toInt * c).natAbs ≤ 999000 := by
    rw [Int.natAbs_mul]
    have := Nat.mul_le_mul (show v.toInt.natAbs ≤ 999 by omega) (show c.natAbs ≤ 1000 by omega)
    omega
  have e1 : (v * Int32.ofInt c).toInt = v.toInt * c := by
    rw [Int32.toInt_mul, Int32.toInt_ofInt_of_le (by omega) (by omega), Int.bmod_eq_of_le (by omega) (by omega)]
  rw [Int32.toInt_div_of_ne_right _ _ n1, e1, t1]
  have h : ((v.toInt * c).tdiv 1000).natAbs ≤ 999000 / 1000 := by
    rw [Int.natAbs_tdiv]
    exact Nat.div_le_div_right k1
  omega
theorem okFl_0 (hv : 10 ≤ v.toInt ∧ v.toInt ≤ 999) (hd : d < 64) : okFl (fl0 v d) := by
  refine ⟨part_b hv (cs_b d hd), part_b hv (sn_b d hd), ?_, by show -200 ≤ (0 : Int32).toInt ∧ (0 : Int32).toInt ≤ 200; decide⟩
  show 0 ≤ (16 * oN d).toInt ∧ (16 * oN d).toInt ≤ 1023
  have e : (16 : Int32) * oN d = oN (16 * d) := oN_mulR
  rw [e, oN_int (by omega)]
  omega
end FB
/-! the class's loops -/
section CL
variable {s : am_S} {E : hE} {F : hF}
theorem goesOn_is {i : Nat} (h15 : am_I s 41 15 = F.2.2.2.2.2.2.2.2.2.2) (h11 : am_I s 41 11 = oN i) (hi : i ≤ 1000) : f_X1_goesOn s = some (.inl (some (.int (if F.2.2.2.2.2.2.2.2.2.2 = 0 ∧ i < 200 then 1 else 0))), s) := by
  unfold f_X1_goesOn
  rw [h15, h11]
  by_cases c1 : F.2.2.2.2.2.2.2.2.2.2 = 0
  · rw [if_pos c1]
    by_cases c2 : 200 ≤ i
    · rw [if_pos ((oN_leR (by omega) (by omega)).mpr c2), if_neg (by omega)]
    · rw [if_neg (fun hh => c2 ((oN_leR (by omega) (by omega)).mp hh)), if_pos ⟨c1, by omega⟩]
  · rw [if_neg c1, if_neg (fun hh => c1 hh.1)]
theorem flyOut_in (oE : okE E) : ∀ (m i : Nat) (s : am_S) (F : hF), 200 - i < m → i ≤ 200 → cF s → cE s E → cFl s F → okFl F → F.2.2.2.2.2.2.1 = oN i →
    ∃ s', L_X1_flyOut_10 m (oN i) s = some (.inr ((), s')) ∧ fr [41] s s' ∧ cE s' E ∧ cFl s' (flS E (200 - i) F) := by
  intro m
  induction m with
  | zero => intro i s F hm; exact absurd hm (Nat.not_lt_zero _)
  | succ m ih =>
    intro i s F hm hi hf hE hF oF ht
    rw [L_X1_flyOut_10]
    by_cases e : 200 ≤ i
    · rw [if_pos ((oN_leR (by omega) (by omega)).mpr e), show 200 - i = 0 by omega]
      exact ⟨s, rfl, fr.refl, hE, hF⟩
    · have hg := goesOn_is (F := F) (i := i) hF.2.2.2.2.2.2.2.2.2.2 (hF.2.2.2.2.2.2.1.trans ht) (by omega)
      rw [if_neg (fun hh => e ((oN_leR (by omega) (by omega)).mp hh))]
      by_cases c : F.2.2.2.2.2.2.2.2.2.2 = 0
      · have e10 : ¬ ((1 : Int32) = 0) := by decide
        rw [if_pos ⟨c, by omega⟩] at hg
        rw [hg, bi_s, if_neg e10]
        obtain ⟨s1, z1, z2, z3, z4, z5⟩ := c_tick hf hE oE hF oF c
        rw [z1, bu_s, oN_addL]
        obtain ⟨s', y1, y2, y3, y4⟩ := ih (i + 1) s1 (tkF E F) (by omega) (by omega) (cF_fr hf z2 (by decide) (by decide)) z3 z4 (okFl_tk oF) (by rw [tk_ticks, ht, oN_addL])
        refine ⟨s', y1, z2.trans y2, y3, ?_⟩
        rw [show 200 - i = (200 - (i + 1)) + 1 by omega, flS, if_pos c]
        exact y4
      · rw [if_neg (fun hh => c hh.1)] at hg
        rw [hg, bi_s, if_pos rfl, flS_stop c]
        exact ⟨s, rfl, fr.refl, hE, hF⟩
/-- what begin is told, and where the paper and the law lie -/
def cB (s : am_S) (lw : Nat → Int32) (d w A V : Int32) (dr : List T3) (cr : List T2) : Prop := (∀ k, k < 23 → am_I s 2 k = lw k) ∧ am_I s 1 2 = d ∧ am_I s 37 5 = w ∧ am_I s 37 4 = A ∧ am_I s 37 8 = V ∧ cR3 s 5 dr ∧ cR2 s 7 cr
theorem begin_is {lw : Nat → Int32} {d w A V e v sl : Int32} {dr : List T3} {cr : List T2} {di : Nat} (hf : cF s) (hB : cB s lw d w A V dr cr) (hsl : (sl &&& 63) = oN di) (hd : di < 64) :
    ∃ s', f_X1_begin e v sl s = some (.inl none, s') ∧ fr [41] s s' ∧ cE s' (lw, A, V, ldS w d (lw 19), e, dr, cr) ∧ cFl s' (fl0 v di) := by
  obtain ⟨b1, b2, b3, b4, b5, b6, b7⟩ := hB
  have ed : ∀ x s, f_X2_dampWeight x s = some (.inl (some (.int ((am_I s 37 5) + (((am_I s 37 5) * x) / (100 : Int32))))), s) := fun x s => rfl
  unfold f_X1_begin
  rw [b2, ed, bi_s, I_ne (show ¬ 37 = 41 by decide), b3, I_ne (show ¬ 2 = 41 by decide), b1 19 (by omega), hsl]
  have hl : ((w + w * d / 100) * lw 19).toInt64 = ldS w d (lw 19) := rfl
  rw [hl]
  have hfA : cF (am_sI (am_sI (am_sL (am_sI s 41 2 e) 41 3 (ldS w d (lw 19))) 41 4 0) 41 5 2000) := cF_fr hf ((((fr.refl.sI (by simp)).sL (by simp)).sI (by simp)).sI (by simp) : fr [41] s _) (by decide) (by decide)
  rw [c_cosine hfA hd, bi_s]
  have hfB : cF (am_sI (am_sI (am_sI (am_sL (am_sI s 41 2 e) 41 3 (ldS w d (lw 19))) 41 4 0) 41 5 2000) 41 6 ((v * Int32.ofInt (cs di)) / 1000)) := cF_fr hfA ((fr.refl.sI (by simp)) : fr [41] _ _) (by decide) (by decide)
  rw [c_sine hfB hd, bi_s]
  have ff : fr [41] s (am_sI (am_sI (am_sI (am_sI (am_sI (am_sI (am_sI (am_sI (am_sI (am_sI (am_sI (am_sI (am_sL (am_sI s 41 2 e) 41 3 (ldS w d (lw 19))) 41 4 0) 41 5 2000) 41 6 ((v * Int32.ofInt (cs di)) / 1000)) 41 7 ((v * Int32.ofInt (sn di)) / 1000)) 41 8 (16 * oN di)) 41 9 0) 41 10 0) 41 11 0) 41 12 2000) 41 13 0) 41 14 0) 41 15 0) :=
    (((((((((((((fr.refl.sI (by simp)).sL (by simp)).sI (by simp)).sI (by simp)).sI (by simp)).sI (by simp)).sI (by simp)).sI (by simp)).sI (by simp)).sI (by simp)).sI (by simp)).sI (by simp)).sI (by simp)).sI (by simp)
  refine ⟨_, rfl, ff, ⟨?_, ?_, ?_, ?_, ?_, ?_, ?_⟩, ?_⟩
  · intro k hk; rw [ff.I (by decide)]; exact b1 k hk
  · rw [ff.I (by decide)]; exact b4
  · rw [ff.I (by decide)]; exact b5
  · show am_L (am_sL (am_sI s 41 2 e) 41 3 (ldS w d (lw 19))) 41 3 = _
    rw [L_sL, if_pos ⟨rfl, rfl⟩]
  · simp only [I_sI, I_sL]; rfl
  · exact b6.same (by rw [ff.I (by decide)]) (by rw [ff.I (by decide)])
  · exact b7.same (by rw [ff.I (by decide)]) (by rw [ff.I (by decide)])
  · refine ⟨?_, ?_, ?_, ?_, ?_, ?_, ?_, ?_, ?_, ?_, ?_⟩ <;> (simp only [I_sI, I_sL]; rfl)
end CL
