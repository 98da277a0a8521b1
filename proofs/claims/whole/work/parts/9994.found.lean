/-! ===== ways that make what was found ===== -/
def ff (f : Nat) (P : Ppr) : Option Ppr := fo (f / 6) (f % 6 + 1) P
def lkS (x1 x2 : Int32) (P : Ppr) : Int32 := if oN (sm (fA P.2.2) 288) = x1 then if oN (sm (fF P.2.2) 288) = x2 then 1 else 0 else 0
def flR (r c : Int32) : Ppr := flat r.toNatClampNeg c.toNatClampNeg
def codS (L : List T2) (x : Int32) : Int32 := if x = -1 then oN L.length else if x = 0 then ((L[0]?).map (fun q => (100 : Int32) * q.1 + q.2)).getD (-1) else if x = 1 then ((L[1]?).map (fun q => (100 : Int32) * q.1 + q.2)).getD (-1) else -1
def qm3 (t t1 : am_S) : Prop := qm t t1 ∧ am_I t1 55 3 = am_I t 55 3
def cPp (s : am_S) (G R C : Nat) (h : Nat → Nat → Nat) : Prop := am_I s 39 1 = oN G ∧ am_I s 39 2 = oN R ∧ am_I s 39 3 = oN C ∧ G + R ≤ 24 ∧ C ≤ 12 ∧ ∀ r c, r < R → c < C → am_I s 40 ((G + r) * 12 + c) = oN (h r c)
section FND
variable {s s1 t t1 t2 : am_S} {T : hT} {X : hX} {x y x1 x2 x3 x4 x5 : Int32} {r c d : Int32} {lw : Nat → Int32} {wy : List (List T2)} {hd : List (List T3)} {dr : List T3} {cr : List T2} {en : List T3} {P P1 : Ppr} {L : List T2} {q : T2} {f g : Nat}
theorem qm3.refl : qm3 t t := ⟨qm.refl, rfl⟩
theorem qm3.trans (h : qm3 t t1) (h' : qm3 t1 t2) : qm3 t t2 := ⟨h.1.trans h'.1, h'.2.trans h.2⟩
theorem n2_kf (hf : f < 18) : n2 (kf f) = (f / 6, f % 6 + 1) := by
  show ((oN (f / 6)).toNatClampNeg, (oN (f % 6 + 1)).toNatClampNeg) = _
  rw [oN_nat (by omega), oN_nat (by omega)]
theorem mk1_is (hf : f < 18) : mkS r c [kf f] = (match ff f (flR r c) with | none => .inl 0 | some P => .inr P) := by
  unfold mkS ff flR
  rw [List.map_cons, List.map_nil, n2_kf hf, fos]
  cases fo (f / 6) (f % 6 + 1) (flat r.toNatClampNeg c.toNatClampNeg) <;> rfl
theorem flR_ok (oS : okS r c d lw wy hd dr cr en) : okP (flR r c) := by
  obtain ⟨q1, q2, q3, q4⟩ := oS_rc oS
  exact flat_ok q3.1 q3.2 q4.1 q4.2
theorem flat_m (hT : mS (am_I t 56) r c d lw wy hd dr cr en) (oS : okS r c d lw wy hd dr cr en) : ∃ t1, f_X8_flat t = some (.inl none, t1) ∧ qm3 t t1 ∧ mP t1 (flR r c) := by
  obtain ⟨q1, q2, q3, q4⟩ := oS_rc oS
  obtain ⟨t1, z1, z2, z3, z4⟩ := m_flat (s := t) (hT.1.1.trans q1) (hT.1.2.1.trans q2) q3.2 q4.2
  exact ⟨t1, z1, ⟨qm.mk1 (z2.mono (by decide)) (fun j hj => z4 j (by omega) (by omega) (by omega)), z4 3 (by omega) (by omega) (by omega)⟩, z3⟩
theorem fold_m (oP : okP P) (hp : mP t P) (hf : f < 18) : ∃ t1, qm3 t t1 ∧ ((∃ P', ff f P = some P' ∧ f_X8_folds (oN (f / 6)) (oN (f % 6 + 1)) t = some (.inl (some (.int 1)), t1) ∧ mP t1 P' ∧ okP P') ∨ (ff f P = none ∧ f_X8_folds (oN (f / 6)) (oN (f % 6 + 1)) t = some (.inl (some (.int 0)), t1))) := by
  obtain ⟨t1, z1, z2, z⟩ := m_fold (k := f / 6) (n := f % 6 + 1) oP hp (by omega) (by omega)
  refine ⟨t1, ⟨qm.mk1 z1 (fun j hj => z2 j (by omega) (by omega)), z2 3 (by omega) (by omega)⟩, ?_⟩
  rcases z with ⟨P', e1, e2, e3⟩ | z
  · exact Or.inl ⟨P', e1, e2, e3, fo_ok oP e1⟩
  · exact Or.inr z
theorem found_m (oP : okP P) (hp : mP t P) : ∃ t1, f_X8_isFound x1 x2 t = some (.inl (some (.int (lkS x1 x2 P))), t1) ∧ qm3 t t1 := by
  obtain ⟨t1, z1, z2, z3, z4⟩ := m_measure oP hp
  refine ⟨t1, ?_, qm.mk1 (z2.mono (by decide)) (fun j hj => z3 j (by omega)), z3 3 (by omega)⟩
  unfold f_X8_isFound lkS
  rw [z1, bu_s, z4.2.2.1, z4.2.2.2.2.1]
  repeat' split
  all_goals rfl
theorem like_c (hM : cM s P) : f_X2_isLike x1 x2 s = some (.inl (some (.int (lkS x1 x2 P))), s) := by
  unfold f_X2_isLike lkS
  rw [hM.2.1, hM.2.2.2.1]
  repeat' split
  all_goals rfl
theorem lk01 : lkS x1 x2 P = 0 ∨ lkS x1 x2 P = 1 := by
  unfold lkS
  repeat' split
  · exact Or.inr rfl
  · exact Or.inl rfl
  · exact Or.inl rfl
theorem code_c (hR : cR2 s 42 L) (hl : L.length ≤ 2) : (if x = (-1 : Int32) then some (.inl (some (.int (am_I s 42 2))), s) else am_bi (f_X7_codeOf 42 x s) (fun v8 s7 => some (.inl (some (.int v8)), s7)) : am_F) = some (.inl (some (.int (codS L x))), s) := by
  unfold codS
  rw [hR.1]
  by_cases c1 : x = -1
  · rw [if_pos c1, if_pos c1]
  · rw [if_neg c1, if_neg c1]
    unfold f_X7_codeOf
    rw [hR.1]
    rcases ix_cases x L.length with ⟨i, hi, e⟩ | hx
    · subst e
      have hLi : L[i]? = some L[i] := List.getElem?_eq_getElem hi
      obtain ⟨g1, g2⟩ := hR.2 i L[i] hLi
      rw [Nat.zero_add] at g1 g2
      rw [if_neg (by rw [oN_nonneg (by omega)]; exact id), if_pos ((oN_lt (by omega) (by omega)).mpr hi), f_get0 (by omega), bi_s, f_get1 (by omega), bi_s, bi_s, g1, g2]
      have : i = 0 ∨ i = 1 := by omega
      rcases this with h | h
      · subst h
        rw [if_pos (show oN 0 = (0 : Int32) from rfl), hLi]; rfl
      · subst h
        rw [if_neg (show ¬ oN 1 = (0 : Int32) from n10), if_pos (show oN 1 = (1 : Int32) from rfl), hLi]; rfl
    · have hm : (if x < 0 then some (.inl (some (.int (-1 : Int32))), s) else if x < oN L.length then am_bi (f_X4_get 42 x (0 : Int32) s) (fun v4 s3 => am_bi (f_X4_get 42 x (1 : Int32) s3) (fun v6 s5 => some (.inl (some (.int (((100 : Int32) * v4) + v6))), s5))) else some (.inl (some (.int (-1 : Int32))), s) : am_F) = some (.inl (some (.int (-1 : Int32))), s) := by
        by_cases c : x < 0
        · rw [if_pos c]
        · have c2 : ¬ x < oN L.length := by
            rw [Int32.lt_iff_toInt_lt, Int32.toInt_zero] at c
            rw [Int32.lt_iff_toInt_lt, oN_int (by omega)]
            omega
          rw [if_neg c, if_neg c2]
      rw [hm, bi_s]
      by_cases c2 : x = 0
      · have hl0 : L.length = 0 := by
          subst c2
          apply Nat.eq_zero_of_not_pos
          intro hp
          exact hx ⟨by decide, by rw [Int32.toInt_zero]; omega⟩
        rw [if_pos c2, List.getElem?_eq_none (by omega)]; rfl
      · rw [if_neg c2]
        by_cases c3 : x = 1
        · have hl1 : L.length ≤ 1 := by
            subst c3
            apply Nat.le_of_not_lt
            intro hp
            exact hx ⟨by decide, by rw [Int32.toInt_one]; omega⟩
          rw [if_pos c3, List.getElem?_eq_none (by omega)]; rfl
        · rw [if_neg c3]
theorem try1 (hX : cX s) (hf : f < 18) : ∃ s1, f_X7_tryFirst (oN f) s = some (.inl none, s1) ∧ qc s s1 ∧ cR2 s1 42 [kf f] := by
  obtain ⟨k1, k2⟩ := t18 f hf
  have h0 : cR2 (am_sI s 42 2 0) 42 [] := ⟨by rw [I_sI, if_pos ⟨rfl, rfl⟩]; rfl, fun i q h => by cases h⟩
  have h1 : am_I (am_sI s 42 2 0) 42 1 = oN 11 := by rw [I_sI, if_neg (by omega)]; exact hX.2
  have ha := f_add (x := oN (f / 6)) (y := oN (f % 6 + 1)) (z := 0) h0.1 h1 (by decide) (by decide)
  rw [if_pos (by decide)] at ha
  unfold f_X7_tryFirst f_X7_triedKind f_X7_triedN
  rw [bi_s, bi_s, k2, k1, ha, bi_s]
  refine ⟨_, rfl, ⟨fr.mono (fr.trans (fr.refl.sI (by simp)) (addR_fr (a := 42))) (by decide), ?_⟩, addR_2 h0⟩
  show am_I (addR 42 0 _ _ _ _) 42 1 = _
  rw [addR_I, if_neg (by omega), I_sI, if_neg (by omega)]
theorem one_in (oS : okS r c d lw wy hd dr cr en) : ∀ (n m1 m2 f : Nat) (s t : am_S), n < m1 → n < m2 → f + n = 18 → cS s 1 r c d lw wy hd dr cr en → cX s → mS (am_I t 56) r c d lw wy hd dr cr en →
    ∃ s' t', qc s s' ∧ qm3 t t' ∧ ((L_X7_findOneFold_2 m1 x1 x2 (oN f) s = some (.inr ((), s')) ∧ L_X8_found_32 m2 x1 x2 x3 (oN f) t = some (.inr ((), t'))) ∨ (∃ L, L.length ≤ 2 ∧ L_X7_findOneFold_2 m1 x1 x2 (oN f) s = some (.inl (.inl (some (.int 1)), s')) ∧ cR2 s' 42 L ∧ L_X8_found_32 m2 x1 x2 x3 (oN f) t = some (.inl (.inl (some (.int (codS L x3))), t')))) := by
  intro n
  induction n with
  | zero =>
    intro m1 m2 f s t h1 h2 hf hS hX hT
    obtain ⟨m1, rfl⟩ : ∃ q, m1 = q + 1 := ⟨m1 - 1, by omega⟩
    obtain ⟨m2, rfl⟩ : ∃ q, m2 = q + 1 := ⟨m2 - 1, by omega⟩
    obtain rfl : f = 18 := by omega
    rw [L_X7_findOneFold_2, L_X8_found_32, if_pos (by decide), if_pos (by decide)]
    exact ⟨s, t, qc.refl, qm3.refl, Or.inl ⟨rfl, rfl⟩⟩
  | succ n ih =>
    intro m1 m2 f s t h1 h2 hf hS hX hT
    obtain ⟨m1, rfl⟩ : ∃ q, m1 = q + 1 := ⟨m1 - 1, by omega⟩
    obtain ⟨m2, rfl⟩ : ∃ q, m2 = q + 1 := ⟨m2 - 1, by omega⟩
    obtain ⟨k1, k2⟩ := t18 f (by omega)
    have k2' : (oN f - oN (f / 6) * (6 : Int32)) = oN (f % 6) := by
      have : ∀ f : Nat, f < 18 → (oN f - oN (f / 6) * (6 : Int32)) = oN (f % 6) := by decide
      exact this f (by omega)
    have hle : ¬ (18 : Int32) ≤ oN f := by rw [oN_leR (by omega) (by omega)]; omega
    obtain ⟨s1, z1, z2, z3⟩ := try1 (f := f) hX (by omega)
    have hS1 := hS.qc oS z2
    have hX1 := hX.qc z2
    obtain ⟨t1, y1, y2, y3⟩ := flat_m hT oS
    obtain ⟨t2, w1, w2⟩ := fold_m (f := f) (flR_ok oS) y3 (by omega)
    have hT2 : mS (am_I t2 56) r c d lw wy hd dr cr en := by rw [(y2.trans w1).1.I]; exact hT
    obtain ⟨s2, v1, v2⟩ := cbrk42 hS1 oS (fs := [kf f]) (by show 1 ≤ 11; omega) (by intro q hq; rw [List.mem_singleton.mp hq]; exact kf_ok (by omega)) z3
    rw [mk1_is (show f < 18 by omega)] at v2
    have q2 : qc s s2 := z2.trans (qc.of v1 (by decide))
    rw [L_X7_findOneFold_2, L_X8_found_32, if_neg hle, if_neg hle, z1, bu_s, y1, bu_s, k2, k1, oN_addL]
    rcases w2 with ⟨P', e1, e2, e3, e4⟩ | ⟨e1, e2⟩
    · rw [e1] at v2
      rcases v2 with ⟨j, d1, d2, d3⟩ | ⟨P, d1, d2, d3, d4⟩
      · cases d1
      · cases d1
        obtain ⟨t3, u1, u2⟩ := found_m (x1 := x1) (x2 := x2) e4 e3
        rw [d2, bi_s, if_pos rfl, like_c d4, bi_s, e2, bi_s, if_neg n10, u1, bi_s]
        have qq := (y2.trans w1).trans u2
        rcases lk01 (x1 := x1) (x2 := x2) (P := P') with h0 | h0
        · rw [h0, if_pos rfl, if_pos rfl]
          obtain ⟨s', t', g1, g2, g3⟩ := ih m1 m2 (f + 1) s2 t3 (by omega) (by omega) (by omega) (hS.qc oS q2) (hX.qc q2) (by rw [qq.1.I]; exact hT)
          exact ⟨s', t', q2.trans g1, qq.trans g2, g3⟩
        · rw [h0, if_neg n10, if_neg n10, k2']
          refine ⟨s2, t3, q2, qq, Or.inr ⟨[kf f], (by show 1 ≤ 2; omega), rfl, z3.same (by rw [v1.I (by decide)]) (v1.I (by decide)), ?_⟩⟩
          have e100 : (100 : Int32) * oN (f / 6) + oN (f % 6) + 1 = (100 : Int32) * (kf f).1 + (kf f).2 := by
            show _ = (100 : Int32) * oN (f / 6) + oN (f % 6 + 1)
            rw [oN_mulR, oN_add, oN_add, oN_addL]; rfl
          unfold codS
          by_cases c1 : x3 = -1
          · rw [if_pos c1, if_pos c1]; rfl
          · rw [if_neg c1, if_neg c1]
            by_cases c2 : x3 = 0
            · rw [if_pos c2, if_pos c2, e100]; rfl
            · rw [if_neg c2, if_neg c2]
              by_cases c3 : x3 = 1
              · rw [if_pos c3]; rfl
              · rw [if_neg c3]
    · rw [e1] at v2
      rcases v2 with ⟨j, d1, d2, d3⟩ | ⟨P, d1, d2, d3, d4⟩
      · rw [d2, bi_s, if_neg (oN_not (by omega)), e2, bi_s, if_pos rfl]
        obtain ⟨s', t', g1, g2, g3⟩ := ih m1 m2 (f + 1) s2 t2 (by omega) (by omega) (by omega) (hS.qc oS q2) (hX.qc q2) hT2
        exact ⟨s', t', q2.trans g1, (y2.trans w1).trans g2, g3⟩
      · cases d1
/-! the paper kept, and taken back -/
theorem pcp_to {G : Nat} {h : Nat → Nat → Nat} {R C : Nat} (hp : cP s G R C h) : ∃ s1, f_X2_copyFrom 39 37 s = some (.inl none, s1) ∧ fr [39, 40] s s1 ∧ cPp s1 G R C h := by
  obtain ⟨h1, h2, h3, h4, h5, h6⟩ := hp
  unfold f_X2_copyFrom
  rw [le_s, le_s, le_s]
  refine ⟨_, rfl, (((fr.refl.sA (by simp)).sI (by simp)).sI (by simp)).sI (by simp), ?_, ?_, ?_, h4, h5, ?_⟩
  · rw [I_sI, if_neg (by omega), I_sI, if_neg (by omega), I_sI, if_pos ⟨rfl, rfl⟩, I_sAne (by decide)]; exact h1
  · rw [I_sI, if_neg (by omega), I_sI, if_pos ⟨rfl, rfl⟩, I_ne (by decide), I_sAne (by decide)]; exact h2
  · rw [I_sI, if_pos ⟨rfl, rfl⟩, I_ne (by decide), I_ne (by decide), I_sAne (by decide)]; exact h3
  · intro r c hr hc
    rw [I_ne (by decide), I_ne (by decide), I_ne (by decide), I_sA, if_pos rfl]
    unfold va_cpy
    rw [if_pos (by omega), show 0 + ((G + r) * 12 + c - 0) = (G + r) * 12 + c by omega]
    exact h6 r c hr hc
theorem pcp_from {G : Nat} {h : Nat → Nat → Nat} {R C : Nat} (hp : cPp s G R C h) : ∃ s1, f_X2_copyFrom 37 39 s = some (.inl none, s1) ∧ fr [37, 38] s s1 ∧ cP s1 G R C h := by
  obtain ⟨h1, h2, h3, h4, h5, h6⟩ := hp
  unfold f_X2_copyFrom
  rw [le_s, le_s, le_s]
  refine ⟨_, rfl, (((fr.refl.sA (by simp)).sI (by simp)).sI (by simp)).sI (by simp), ?_, ?_, ?_, h4, h5, ?_⟩
  · rw [I_sI, if_neg (by omega), I_sI, if_neg (by omega), I_sI, if_pos ⟨rfl, rfl⟩, I_sAne (by decide)]; exact h1
  · rw [I_sI, if_neg (by omega), I_sI, if_pos ⟨rfl, rfl⟩, I_ne (by decide), I_sAne (by decide)]; exact h2
  · rw [I_sI, if_pos ⟨rfl, rfl⟩, I_ne (by decide), I_ne (by decide), I_sAne (by decide)]; exact h3
  · intro r c hr hc
    rw [I_ne (by decide), I_ne (by decide), I_ne (by decide), I_sA, if_pos rfl]
    unfold va_cpy
    rw [if_pos (by omega), show 0 + ((G + r) * 12 + c - 0) = (G + r) * 12 + c by omega]
    exact h6 r c hr hc
end FND
