/-! ===== reaches ===== -/
def scS (la : Int32) (F : hF) : Int32 := if la = 0 then F.1 else F.2.2.2.2.2.2.1
def rcS (E : hE) (la : Int32) : Int64 → List T3 → Int64
  | acc, [] => acc
  | acc, q :: l => rcS E la (acc + q.2.2.toInt64 * (scS la (flS E 200 (fl0 q.1 (dirOf q.2.1)))).toInt64) l
section RC
variable {s : am_S} {lw : Nat → Int32} {d w A V e la : Int32} {dr : List T3} {cr : List T2} {l : List T3}
theorem sc_b {E : hE} {q : T3} (hq : okT q) : -400000 ≤ (scS la (flS E 200 (fl0 q.1 (dirOf q.2.1)))).toInt ∧ (scS la (flS E 200 (fl0 q.1 (dirOf q.2.1)))).toInt ≤ 400000 := by
  have h := x_fl (E := E) 200 0 (fl0 q.1 (dirOf q.2.1)) (okFl_0 hq.1 (dir_lt hq.2.1)) (by omega) rfl (by show -(2000 * (0 : Nat) : Int) ≤ (0 : Int32).toInt ∧ (0 : Int32).toInt ≤ 2000 * (0 : Nat); rw [Int32.toInt_zero]; omega)
  unfold scS
  split
  · omega
  · obtain ⟨j, j1, j2⟩ := h.2
    rw [j2, oN_int (by omega)]
    omega
theorem mul64 {a b : Int32} (ha : 1 ≤ a.toInt ∧ a.toInt ≤ 9) (hb : -400000 ≤ b.toInt ∧ b.toInt ≤ 400000) : (a * b).toInt64 = a.toInt64 * b.toInt64 := by
  have k1 : (a.toInt * b.toInt).natAbs ≤ 3600000 := by
    rw [Int.natAbs_mul]
    have := Nat.mul_le_mul (show a.toInt.natAbs ≤ 9 by omega) (show b.toInt.natAbs ≤ 400000 by omega)
    omega
  apply Int64.toInt_inj.mp
  rw [Int32.toInt_toInt64, Int32.toInt_mul, Int64.toInt_mul, Int32.toInt_toInt64, Int32.toInt_toInt64, Int.bmod_eq_of_le (by omega) (by omega), Int.bmod_eq_of_le (by omega) (by omega)]
theorem cB_fr {s' : am_S} (h : cB s lw d w A V dr cr) (f : fr [41] s s') : cB s' lw d w A V dr cr := by
  obtain ⟨b1, b2, b3, b4, b5, b6, b7⟩ := h
  exact ⟨fun k hk => by rw [f.I (by decide)]; exact b1 k hk, by rw [f.I (by decide)]; exact b2, by rw [f.I (by decide)]; exact b3, by rw [f.I (by decide)]; exact b4, by rw [f.I (by decide)]; exact b5, b6.same (by rw [f.I (by decide)]) (by rw [f.I (by decide)]), b7.same (by rw [f.I (by decide)]) (by rw [f.I (by decide)])⟩
theorem score_is {F : hF} (h4 : am_I s 41 4 = F.1) (h11 : am_I s 41 11 = F.2.2.2.2.2.2.1) : f_X1_score la s = some (.inl (some (.int (scS la F))), s) := by
  unfold f_X1_score scS
  by_cases c : la = 0
  · rw [if_pos c, if_pos c, h4]
  · rw [if_neg c, if_neg c, h11]
theorem reach_in {a : Nat} (ha : a ≠ 41 ∧ a + 1 ≠ 41) (hl : l.length ≤ 4) (hok : ∀ q ∈ l, okT q) (oE : okE (lw, A, V, ldS w d (lw 19), e, dr, cr)) : ∀ (m i : Nat) (s : am_S) (acc : Int64), l.length - i < m → i ≤ l.length → cF s → cB s lw d w A V dr cr → cR3 s a l →
    ∃ s', L_X7_reachOf_6 m a e la acc (oN i) s = some (.inr (rcS (lw, A, V, ldS w d (lw 19), e, dr, cr) la acc (l.drop i), s')) ∧ fr [41] s s' := by
  intro m
  induction m with
  | zero => intro i s acc hm; exact absurd hm (Nat.not_lt_zero _)
  | succ m ih =>
    intro i s acc hm hi hf hB hR
    rw [L_X7_reachOf_6, hR.1]
    by_cases c : l.length ≤ i
    · rw [if_pos ((oN_le (by omega) (by omega)).mpr c), List.drop_eq_nil_of_le c]
      exact ⟨s, rfl, fr.refl⟩
    · have hi2 : i < l.length := by omega
      have hd : l.drop i = l[i] :: l.drop (i + 1) := List.drop_eq_getElem_cons hi2
      obtain ⟨g1, g2, g3⟩ := hR.2 i l[i] (List.getElem?_eq_getElem hi2)
      have hq := hok _ (List.getElem_mem hi2)
      rw [Nat.zero_add] at g1 g2 g3
      rw [if_neg (fun hh => c ((oN_le (by omega) (by omega)).mp hh)), f_get0 (by omega), bi_s, f_get1 (by omega), bi_s, g1, g2]
      obtain ⟨s1, z1, z2, z3⟩ := c_fly (e := e) (v := l[i].1) (sl := l[i].2.1) hf hB oE hq.1 hq.2.1
      have g3' : am_I s1 (a + 1) (3 * i + 2) = l[i].2.2 := by rw [z2.I (by simp; omega)]; exact g3
      rw [z1, bu_s, f_get2 (by omega), bi_s, score_is z3.1 z3.2.2.2.2.2.2.1, bi_s, g3', mul64 hq.2.2 (sc_b hq), oN_addL, hd]
      obtain ⟨s', y1, y2⟩ := ih (i + 1) s1 (acc + l[i].2.2.toInt64 * (scS la (flS (lw, A, V, ldS w d (lw 19), e, dr, cr) 200 (fl0 l[i].1 (dirOf l[i].2.1)))).toInt64) (by omega) (by omega) (cF_fr hf z2 (by decide) (by decide)) (cB_fr hB z2) (hR.same (by rw [z2.I (by simp; omega)]) (by rw [z2.I (by simp; omega)]))
      exact ⟨s', y1, z2.trans y2⟩
theorem c_reach {a : Nat} (ha : a ≠ 41 ∧ a + 1 ≠ 41) (hl : l.length ≤ 4) (hok : ∀ q ∈ l, okT q) (oE : okE (lw, A, V, ldS w d (lw 19), e, dr, cr)) (hf : cF s) (hB : cB s lw d w A V dr cr) (hR : cR3 s a l) :
    ∃ s', f_X7_reachOf a e la s = some (.inl (some (.long (rcS (lw, A, V, ldS w d (lw 19), e, dr, cr) la 0 l))), s') ∧ fr [41] s s' := by
  obtain ⟨s', z1, z2⟩ := reach_in (la := la) ha hl hok oE ax_fuel 0 s 0 (by rw [ax_fuel_is]; omega) (by omega) hf hB hR
  have z1' : L_X7_reachOf_6 ax_fuel a e la 0 0 s = some (.inr (rcS (lw, A, V, ldS w d (lw 19), e, dr, cr) la 0 (l.drop 0), s')) := z1
  unfold f_X7_reachOf
  rw [z1', List.drop_zero, lm_e]
  exact ⟨s', rfl, z2⟩
/-! the model's -/
theorem far_is {v sl : Int32} (hB : mB s lw d w A V dr cr) (hl : (w + ((w * d) / (100 : Int32))).toInt64 * (lw 19).toInt64 = ldS w d (lw 19)) (oE : okE (lw, A, V, ldS w d (lw 19), e, dr, cr)) (hv : 10 ≤ v.toInt ∧ v.toInt ≤ 999) (hs : -16 ≤ sl.toInt ∧ sl.toInt ≤ 16) :
    ∃ s', f_X8_far e v sl la s = some (.inl (some (.int (scS la (flS (lw, A, V, ldS w d (lw 19), e, dr, cr) 200 (fl0 v (dirOf sl)))))), s') ∧ fr [55, 65, 66] s s' ∧ mSn s' 64 ∧ (∀ k, k < 30 ∨ (41 < k ∧ k ≠ 45) → am_I s' 55 k = am_I s 55 k) := by
  obtain ⟨s1, z1, z2, z3, z4, z5⟩ := m_fly (n := 200) (e := e) (v := v) (sl := sl) (by omega) hB hl oE hv hs
  have z1' : f_X8_flies e v sl 200 s = some (.inl none, s1) := z1
  refine ⟨s1, ?_, z2, z4, z5⟩
  unfold f_X8_far scS
  rw [z1', bu_s]
  by_cases c : la = 0
  · rw [if_pos c, if_pos c, z3.1]
  · rw [if_neg c, if_neg c, z3.2.2.2.2.2.2.1]
theorem mB_fr {s' : am_S} (h : mB s lw d w A V dr cr) (f : fr [55, 65, 66] s s') (hs : mSn s' 64) (hk : ∀ k, k < 30 ∨ (41 < k ∧ k ≠ 45) → am_I s' 55 k = am_I s 55 k) : mB s' lw d w A V dr cr := by
  obtain ⟨b1, b2, b3, b4, b5, b6, b7, b8⟩ := h
  have k56 : am_I s' 56 = am_I s 56 := f.I (by decide)
  exact ⟨by rw [k56]; exact b1, by rw [k56]; exact b2, (hk 24 (by omega)).trans b3, (hk 23 (by omega)).trans b4, (hk 27 (by omega)).trans b5, by rw [k56]; exact b6, by rw [k56]; exact b7, Or.inr hs⟩
theorem throwsOf_is {h n : Nat} (hh : h < 5) (ht : am_I s 56 (169 + 13 * h) = oN n) : f_X8_throwsOf (oN h) s = some (.inl (some (.int (oN n))), s) := by
  unfold f_X8_throwsOf
  have e1 : (169 : Int32) + (13 : Int32) * oN h = oN (169 + 13 * h) := by rw [oN_mulR, oN_addR]
  rw [e1, if_pos (by rw [am_in_oN (by omega)]; exact decide_eq_true (by omega)), oN_nat (by omega), ht]
theorem throwAt_is {h k : Nat} : f_X8_throwAt (oN h) (oN k) s = some (.inl (some (.int (oN (170 + 13 * h + 3 * k)))), s) := by
  unfold f_X8_throwAt
  have e1 : (169 : Int32) + (13 : Int32) * oN h = oN (169 + 13 * h) := by rw [oN_mulR, oN_addR]
  have e2 : oN (169 + 13 * h) + 1 = oN (169 + 13 * h + 1) := oN_addL
  have e3 : (3 : Int32) * oN k = oN (3 * k) := oN_mulR
  have e4 : oN (169 + 13 * h + 1 + 3 * k) = oN (170 + 13 * h + 3 * k) := by
    rw [show 169 + 13 * h + 1 + 3 * k = 170 + 13 * h + 3 * k by omega]
  rw [e1, e2, e3, oN_add]
  exact congrArg (fun x => some (Sum.inl (some (Value.int x)), s)) e4
theorem mreach_in {h : Nat} (hh : h < 5) (hl : l.length ≤ 4) (hok : ∀ q ∈ l, okT q) (hld : (w + ((w * d) / (100 : Int32))).toInt64 * (lw 19).toInt64 = ldS w d (lw 19)) (oE : okE (lw, A, V, ldS w d (lw 19), e, dr, cr)) : ∀ (m i : Nat) (s : am_S) (acc : Int64), l.length - i < m → i ≤ l.length → mB s lw d w A V dr cr → am_I s 56 (169 + 13 * h) = oN l.length → hp3 (am_I s 56) (170 + 13 * h) 3 l →
    ∃ s', L_X8_reachOf_6 m e (oN h) la acc (oN i) s = some (.inr (rcS (lw, A, V, ldS w d (lw 19), e, dr, cr) la acc (l.drop i), s')) ∧ fr [55, 65, 66] s s' ∧ (am_I s' 55 30 = 0 ∨ mSn s' 64) ∧ (∀ k, k < 30 ∨ (41 < k ∧ k ≠ 45) → am_I s' 55 k = am_I s 55 k) := by
  intro m
  induction m with
  | zero => intro i s acc hm; exact absurd hm (Nat.not_lt_zero _)
  | succ m ih =>
    intro i s acc hm hi hB h1 h2
    rw [L_X8_reachOf_6, throwsOf_is hh h1, bi_s]
    by_cases c : l.length ≤ i
    · rw [if_pos ((oN_le (by omega) (by omega)).mpr c), List.drop_eq_nil_of_le c]
      exact ⟨s, rfl, fr.refl, hB.2.2.2.2.2.2.2, fun k _ => rfl⟩
    · have hi2 : i < l.length := by omega
      have hd : l.drop i = l[i] :: l.drop (i + 1) := List.drop_eq_getElem_cons hi2
      obtain ⟨g1, g2, g3⟩ := h2 i l[i] (List.getElem?_eq_getElem hi2)
      have hq := hok _ (List.getElem_mem hi2)
      have e1 : oN (170 + 13 * h + 3 * i) + 1 = oN (170 + 13 * h + 3 * i + 1) := oN_addL
      have e2 : oN (170 + 13 * h + 3 * i) + 2 = oN (170 + 13 * h + 3 * i + 2) := oN_addL
      rw [if_neg (fun hh => c ((oN_le (by omega) (by omega)).mp hh)), throwAt_is, bi_s, e2, if_pos (by rw [am_in_oN (by omega)]; exact decide_eq_true (by omega)), throwAt_is, bi_s, if_pos (by rw [am_in_oN (by omega)]; exact decide_eq_true (by omega)), throwAt_is, bi_s, e1, if_pos (by rw [am_in_oN (by omega)]; exact decide_eq_true (by omega)), oN_nat (by omega), oN_nat (by omega), oN_nat (by omega), g1, g2, g3]
      obtain ⟨s1, z1, z2, z3, z4⟩ := far_is (la := la) (e := e) (v := l[i].1) (sl := l[i].2.1) hB hld oE hq.1 hq.2.1
      rw [z1, bi_s, le_s, oN_addL, hd]
      have k56 : am_I s1 56 = am_I s 56 := z2.I (by decide)
      obtain ⟨s', y1, y2, y3, y4⟩ := ih (i + 1) s1 (acc + l[i].2.2.toInt64 * (scS la (flS (lw, A, V, ldS w d (lw 19), e, dr, cr) 200 (fl0 l[i].1 (dirOf l[i].2.1)))).toInt64) (by omega) (by omega) (mB_fr hB z2 z3 z4) (by rw [k56]; exact h1) (by rw [k56]; exact h2)
      exact ⟨s', y1, z2.trans y2, y3, fun k hk => (y4 k hk).trans (z4 k hk)⟩
theorem m_reach {h : Nat} (hh : h < 5) (hl : l.length ≤ 4) (hok : ∀ q ∈ l, okT q) (hld : (w + ((w * d) / (100 : Int32))).toInt64 * (lw 19).toInt64 = ldS w d (lw 19)) (oE : okE (lw, A, V, ldS w d (lw 19), e, dr, cr)) (hB : mB s lw d w A V dr cr) (h1 : am_I s 56 (169 + 13 * h) = oN l.length) (h2 : hp3 (am_I s 56) (170 + 13 * h) 3 l) :
    ∃ s', f_X8_reachOf e (oN h) la s = some (.inl (some (.long (rcS (lw, A, V, ldS w d (lw 19), e, dr, cr) la 0 l))), s') ∧ fr [55, 65, 66] s s' ∧ (am_I s' 55 30 = 0 ∨ mSn s' 64) ∧ (∀ k, k < 30 ∨ (41 < k ∧ k ≠ 45) → am_I s' 55 k = am_I s 55 k) := by
  obtain ⟨s', z1, z2, z3, z4⟩ := mreach_in (la := la) hh hl hok hld oE ax_fuel 0 s 0 (by rw [ax_fuel_is]; omega) (by omega) hB h1 h2
  have z1' : L_X8_reachOf_6 ax_fuel e (oN h) la 0 0 s = some (.inr (rcS (lw, A, V, ldS w d (lw 19), e, dr, cr) la 0 (l.drop 0), s')) := z1
  unfold f_X8_reachOf
  rw [z1', List.drop_zero, lm_e]
  exact ⟨s', rfl, z2, z3, z4⟩
end RC
