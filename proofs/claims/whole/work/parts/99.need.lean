/-! ===== what the calls need: a way's make ===== -/
section ND
variable {s : am_S} {r c d : Int32} {lw : Nat → Int32} {wy : List (List T2)} {hd : List (List T3)} {dr : List T3} {cr : List T2} {en : List T3} {fs : List T2} {w : Nat}
/-- the make of a way, or the number of the fold that can't be -/
def mkS (r c : Int32) (fs : List T2) : Nat ⊕ Ppr := fos (fs.map n2) 0 (flat r.toNatClampNeg c.toNatClampNeg)
theorem oS_rc (h : okS r c d lw wy hd dr cr en) : r = oN r.toNatClampNeg ∧ c = oN c.toNatClampNeg ∧ (4 ≤ r.toNatClampNeg ∧ r.toNatClampNeg ≤ 24) ∧ (3 ≤ c.toNatClampNeg ∧ c.toNatClampNeg ≤ 12) := by
  obtain ⟨h1, h2, _⟩ := h
  obtain ⟨a, e1, e2, e3⟩ := oN_of (show 0 ≤ r.toInt by omega)
  obtain ⟨b, f1, f2, f3⟩ := oN_of (show 0 ≤ c.toInt by omega)
  rw [e1, f1, oN_nat e3, oN_nat f3]
  exact ⟨rfl, rfl, by omega, by omega⟩
theorem c_breakW (hS : cS s 1 r c d lw wy hd dr cr en) (oS : okS r c d lw wy hd dr cr en) (hw : wy[w]? = some fs) :
    ∃ s', fr [37, 38] s s' ∧ ((∃ j, mkS r c fs = .inl j ∧ f_X7_breakOf (11 + 2 * w) s = some (.inl (some (.int (oN j))), s') ∧ j ≤ 11) ∨ (∃ P, mkS r c fs = .inr P ∧ f_X7_breakOf (11 + 2 * w) s = some (.inl (some (.int (-1))), s') ∧ okP P ∧ cM s' P)) := by
  obtain ⟨q1, q2, q3, q4⟩ := oS_rc oS
  have hwl := (List.getElem?_eq_some_iff.mp hw).1
  have h6 := oS.2.2.2.2.1.1
  have hm := oS.2.2.2.2.1.2 fs (List.mem_of_getElem? hw)
  have hr := hS.2.1.2 w fs hw
  have ea : 1 + 10 + 2 * w = 11 + 2 * w := by omega
  rw [ea] at hr
  exact c_break (by omega) hm.1 hm.2 hr (hS.1.1.trans q1) (hS.1.2.1.trans q2) q3.1 q3.2 q4.1 q4.2
theorem oN_not {j : Nat} (h : j ≤ 1000) : ¬ oN j = -1 := by
  intro hh
  exact (oN_neg1 (by omega)).mp hh
theorem c_needMake (hS : cS s 1 r c d lw wy hd dr cr en) (oS : okS r c d lw wy hd dr cr en) (hw : wy[w]? = some fs) :
    ∃ s', fr [37, 38] s s' ∧ ((∃ j, mkS r c fs = .inl j ∧ f_X7_needMake (11 + 2 * w) s = some (.inr 1, am_tick s')) ∨ (∃ P, mkS r c fs = .inr P ∧ f_X7_needMake (11 + 2 * w) s = some (.inl none, s') ∧ okP P ∧ cM s' P)) := by
  obtain ⟨s', f, ⟨j, e1, e2, e3⟩ | ⟨P, e1, e2, e3, e4⟩⟩ := c_breakW hS oS hw
  · refine ⟨s', f, Or.inl ⟨j, e1, ?_⟩⟩
    unfold f_X7_needMake
    rw [e2, bi_s, if_neg (oN_not (by omega))]
  · refine ⟨s', f, Or.inr ⟨P, e1, ?_, e3, e4⟩⟩
    unfold f_X7_needMake
    rw [e2, bi_s, if_pos rfl]
theorem m_makesW (hS : mS (am_I s 56) r c d lw wy hd dr cr en) (oS : okS r c d lw wy hd dr cr en) (hw : wy[w]? = some fs) :
    ∃ s', fr [55, 62, 63, 64] s s' ∧ (∀ j, j < 20 ∨ 27 < j → am_I s' 55 j = am_I s 55 j) ∧ ((∃ j, mkS r c fs = .inl j ∧ f_X8_makes (oN w) s = some (.inl (some (.int (oN j))), s') ∧ j ≤ 11) ∨ (∃ P, mkS r c fs = .inr P ∧ f_X8_makes (oN w) s = some (.inl (some (.int (-1))), s') ∧ okP P ∧ mM s' P)) := by
  obtain ⟨q1, q2, q3, q4⟩ := oS_rc oS
  have hwl := (List.getElem?_eq_some_iff.mp hw).1
  have h6 := oS.2.2.2.2.1.1
  have hm := oS.2.2.2.2.1.2 fs (List.mem_of_getElem? hw)
  have hr := hS.2.1.2 w fs hw
  obtain ⟨s', f, k, z⟩ := m_makes (by omega) hm.1 hm.2 hr.1 hr.2 (hS.1.1.trans q1) (hS.1.2.1.trans q2) q3.1 q3.2 q4.1 q4.2
  refine ⟨s', f, k, ?_⟩
  rcases z with ⟨j, e1, e2⟩ | z
  · refine Or.inl ⟨j, e1, e2, ?_⟩
    have hj : ∀ (l : List (Nat × Nat)) (i : Nat) (P : Ppr) (j : Nat), fos l i P = .inl j → j < i + l.length := by
      intro l
      induction l with
      | nil => intro i P j h; cases h
      | cons q l ih =>
        intro i P j h
        rw [fos] at h
        cases hq : fo q.1 q.2 P with
        | none => rw [hq] at h; cases h; rw [List.length_cons]; omega
        | some P' => rw [hq] at h; have := ih _ _ _ h; rw [List.length_cons]; omega
    have := hj _ _ _ _ e1
    rw [List.length_map] at this
    have := hm.1
    omega
  · exact Or.inr z
theorem m_wayFault (hS : mS (am_I s 56) r c d lw wy hd dr cr en) (oS : okS r c d lw wy hd dr cr en) (hw : wy[w]? = some fs) :
    ∃ s', fr [55, 62, 63, 64] s s' ∧ (∀ j, j < 20 ∨ 27 < j → am_I s' 55 j = am_I s 55 j) ∧ ((∃ j, mkS r c fs = .inl j ∧ f_X8_wayFault (oN w) s = some (.inl (some (.int 2)), s')) ∨ (∃ P, mkS r c fs = .inr P ∧ f_X8_wayFault (oN w) s = some (.inl (some (.int 0)), s') ∧ okP P ∧ mM s' P)) := by
  have hwl := (List.getElem?_eq_some_iff.mp hw).1
  have h6 := oS.2.2.2.2.1.1
  have e10 : ¬ ((1 : Int32) = 0) := by decide
  have hi : f_X8_isWay (oN w) s = some (.inl (some (.int 1)), s) := by
    rw [isWay_is hS.2.1.1 h6, if_pos (by rw [oN_int (by omega)]; omega)]
  obtain ⟨s', f, k, ⟨j, e1, e2, e3⟩ | ⟨P, e1, e2, e3, e4⟩⟩ := m_makesW hS oS hw
  · refine ⟨s', f, k, Or.inl ⟨j, e1, ?_⟩⟩
    unfold f_X8_wayFault
    rw [hi, bi_s, if_neg e10, e2, bi_s, if_neg (oN_not (by omega))]
  · refine ⟨s', f, k, Or.inr ⟨P, e1, ?_, e3, e4⟩⟩
    unfold f_X8_wayFault
    rw [hi, bi_s, if_neg e10, e2, bi_s, if_pos rfl]
theorem m_wayNo {x : Int32} (hS : mS (am_I s 56) r c d lw wy hd dr cr en) (oS : okS r c d lw wy hd dr cr en) (hx : ¬ (0 ≤ x.toInt ∧ x.toInt < wy.length)) : f_X8_wayFault x s = some (.inl (some (.int 1)), s) := by
  unfold f_X8_wayFault
  rw [isWay_is hS.2.1.1 oS.2.2.2.2.1.1, if_neg hx, bi_s, if_pos rfl]
/-- what a flight is worked by, from stock and make -/
def EoS (lw : Nat → Int32) (d : Int32) (dr : List T3) (cr : List T2) (P : Ppr) (e : Int32) : hE := (lw, oN (sm (fA P.2.2) 288), lever P.2.2, ldS (oN P.2.2.length) d (lw 19), e, dr, cr)
theorem EoS_ok {P : Ppr} {e : Int32} (oS : okS r c d lw wy hd dr cr en) (oP : okP P) : okE (EoS lw d dr cr P e) ∧ ((oN P.2.2.length) + (((oN P.2.2.length) * d) / (100 : Int32))).toInt64 * (lw 19).toInt64 = ldS (oN P.2.2.length) d (lw 19) := by
  obtain ⟨o1, o2, o3, o4, o5, o6, o7, o8, o9⟩ := oS
  have hl := ld_is (w := oN P.2.2.length) (W := P.2.2.length) rfl ⟨oP.2.2.2.2.2.2.1, oP.2.2.2.2.2.2.2⟩ o3 o4.2.2.1
  exact ⟨⟨hl.2, o7.1, o8.1, fun q hq => (o8.2 q hq).1.1⟩, hl.1⟩
theorem cB_of {P : Ppr} (hS : cS s 1 r c d lw wy hd dr cr en) (hM : cM s P) : cB s lw d (oN P.2.2.length) (oN (sm (fA P.2.2) 288)) (lever P.2.2) dr cr :=
  ⟨hS.1.2.2.2, hS.1.2.2.1, hM.2.2.1, hM.2.1, hM.2.2.2.2.2, hS.2.2.2.1, hS.2.2.2.2.1⟩
theorem mB_of {P : Ppr} (hS : mS (am_I s 56) r c d lw wy hd dr cr en) (hM : mM s P) (hs : am_I s 55 30 = 0 ∨ mSn s 64) : mB s lw d (oN P.2.2.length) (oN (sm (fA P.2.2) 288)) (lever P.2.2) dr cr :=
  ⟨hS.1.2.2.2, hS.1.2.2.1, hM.2.2.2.1, hM.2.2.1, hM.2.2.2.2.2.2, hS.2.2.2.1, hS.2.2.2.2.1, hs⟩
/-- a Stock behind scratch work -/
theorem cS_scr {A : List Nat} {s' : am_S} (hS : cS s 1 r c d lw wy hd dr cr en) (oS : okS r c d lw wy hd dr cr en) (f : fr A s s') (hA : A.all (fun a => decide (33 ≤ a)) = true) : cS s' 1 r c d lw wy hd dr cr en := by
  refine hS.same oS.2.2.2.2.1.1 oS.2.2.2.2.2.1.1 ?_
  intro j hj
  apply f.I
  intro hm
  have := of_decide_eq_true (List.all_eq_true.mp hA _ hm)
  omega
end ND
/-! ===== how far: bounds of x ===== -/
section XB
theorem stp_b {lx x y : Int32} : ∀ {l : List T2} {p : Int32}, (p = 0 ∨ (lx < p ∧ p ≤ x)) → (stp lx x y p l = 0 ∨ (lx < stp lx x y p l ∧ stp lx x y p l ≤ x))
  | [], p, h => h
  | q :: l, p, h => by
    rw [stp]
    apply stp_b
    by_cases c1 : q.1 ≤ lx
    · rw [if_pos c1]; exact h
    · rw [if_neg c1]
      by_cases c2 : x < q.1
      · rw [if_pos c2]; exact h
      · rw [if_neg c2]
        have h1 : lx < q.1 := Int32.not_le.mp c1
        have h2 : q.1 ≤ x := Int32.not_lt.mp c2
        by_cases c3 : q.2 < y
        · rw [if_pos c3]; exact h
        · rw [if_neg c3]
          by_cases c4 : p = 0
          · rw [if_pos c4]; exact Or.inr ⟨h1, h2⟩
          · rw [if_neg c4]
            by_cases c5 : p ≤ q.1
            · rw [if_pos c5]; exact h
            · rw [if_neg c5]; exact Or.inr ⟨h1, h2⟩
theorem x_tk {E : hE} {F : hF} {n : Nat} (oF : okFl F) (hn : n ≤ 1000) (hx : -(2000 * n : Int) ≤ F.1.toInt ∧ F.1.toInt ≤ 2000 * n) : -(2000 * (n + 1) : Int) ≤ (tkF E F).1.toInt ∧ (tkF E F).1.toInt ≤ 2000 * (n + 1) := by
  have oK := okFl_tk (E := E) oF
  obtain ⟨lw, A, V, Ld, e, dr, cr⟩ := E
  obtain ⟨x, y, vx, vy, ns, sp, tk, hi, tu, un, en⟩ := F
  rw [tkG_e] at oK ⊢
  have key : ∀ sp1 vx1 vy1 : Int32, (-2000 ≤ vx1.toInt ∧ vx1.toInt ≤ 2000) → -(2000 * (n + 1) : Int) ≤ (tkG (lw 22) cr x y ns tk hi tu un sp1 vx1 vy1).1.toInt ∧ (tkG (lw 22) cr x y ns tk hi tu un sp1 vx1 vy1).1.toInt ≤ 2000 * (n + 1) := by
    intro sp1 vx1 vy1 h2
    have hx' : -(2000 * n : Int) ≤ x.toInt ∧ x.toInt ≤ 2000 * n := hx
    have e1 : (x + vx1).toInt = x.toInt + vx1.toInt := by rw [Int32.toInt_add, Int.bmod_eq_of_le (by omega) (by omega)]
    unfold tkG
    dsimp only
    have hs := stp_b (lx := x) (x := x + vx1) (y := if lw 22 = -1 then y + vy1 else if y + vy1 ≤ 100 * lw 22 then y + vy1 else 100 * lw 22) (l := cr) (p := 0) (Or.inl rfl)
    rcases hs with hs | hs
    · rw [if_pos hs, e1]; omega
    · by_cases c : stp x (x + vx1) (if lw 22 = -1 then y + vy1 else if y + vy1 ≤ 100 * lw 22 then y + vy1 else 100 * lw 22) 0 cr = 0
      · rw [if_pos c, e1]; omega
      · rw [if_neg c]
        have hs1 := Int32.lt_iff_toInt_lt.mp hs.1
        have hs2 := Int32.le_iff_toInt_le.mp hs.2
        rw [e1] at hs2
        omega
  exact key _ _ _ oK.1
theorem x_fl {E : hE} : ∀ (n i : Nat) (F : hF), okFl F → i + n ≤ 1000 → F.2.2.2.2.2.2.1 = oN i → (-(2000 * i : Int) ≤ F.1.toInt ∧ F.1.toInt ≤ 2000 * i) → (-(2000 * (i + n) : Int) ≤ (flS E n F).1.toInt ∧ (flS E n F).1.toInt ≤ 2000 * (i + n)) ∧ ∃ j, j ≤ i + n ∧ (flS E n F).2.2.2.2.2.2.1 = oN j := by
  intro n
  induction n with
  | zero => intro i F oF hi ht hx; exact ⟨by simpa [flS] using hx, i, by omega, ht⟩
  | succ n ih =>
    intro i F oF hi ht hx
    rw [flS]
    by_cases c : F.2.2.2.2.2.2.2.2.2.2 = 0
    · rw [if_pos c]
      have h1 := x_tk (E := E) oF (show i ≤ 1000 by omega) hx
      have := ih (i + 1) (tkF E F) (okFl_tk oF) (by omega) (by rw [tk_ticks, ht, oN_addL]) (by omega)
      refine ⟨by omega, ?_⟩
      obtain ⟨j, j1, j2⟩ := this.2
      exact ⟨j, by omega, j2⟩
    · rw [if_neg c]
      exact ⟨by omega, i, by omega, ht⟩
end XB
