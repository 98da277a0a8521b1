/-! ===== the class's folds are the folds told by places ===== -/
def ct (l : List Pos) : Nat → Nat → Nat := fun r c => l.count (r, c)
section CF
variable {s : am_S} {G R C n : Nat} {l : List Pos}
theorem half_is (h : R < 2147483648) : oN R / 2 = oN (R / 2) := (Int32.ofNat_div (a := R) (b := 2) h (by omega)).symm
theorem ct_off (h : onP R C l) {r c : Nat} (ho : R ≤ r ∨ C ≤ c) : l.count (r, c) = 0 := by
  apply List.count_eq_zero_of_not_mem
  intro hm
  have := h _ hm
  simp only at this
  omega
theorem c_nose (hp : cP s G R C (ct l)) (hon : onP R C l) (hf : fits l = true) (hn : n ≤ 100) : ∃ s', fr [37, 38] s s' ∧
    ((1 ≤ n ∧ 2 * n ≤ R ∧ fits (l.map (pf_nose n)) = true ∧ f_X2_foldNose (oN n) s = some (.inl (some (.int 1)), s') ∧ cP s' (G + n) (R - n) C (ct (l.map (pf_nose n)))) ∨
     (¬ (1 ≤ n ∧ 2 * n ≤ R ∧ fits (l.map (pf_nose n)) = true) ∧ f_X2_foldNose (oN n) s = some (.inl (some (.int 0)), s'))) := by
  have hR : R ≤ 24 := by have := hp.2.2.2.1; omega
  have hC : C ≤ 12 := hp.2.2.2.2.1
  have hb : ∀ r c, r < R → c < C → ct l r c ≤ 32 := fun r c _ _ => fits_iff.mp hf (r, c)
  unfold f_X2_foldNose
  by_cases e1 : n < 1
  · rw [if_pos ((oN_ltL (by omega) (by omega)).mpr e1)]
    exact ⟨s, fr.refl, Or.inr ⟨by omega, rfl⟩⟩
  · rw [if_neg (fun hh => e1 ((oN_ltL (by omega) (by omega)).mp hh)), hp.2.1, half_is (by omega)]
    by_cases e2 : n ≤ R / 2
    · rw [if_pos ((oN_le (by omega) (by omega)).mpr e2)]
      have h0 : cP s G R C (nz n (ct l) 0 0) := hp.congr (by
        intro r c _ _
        unfold nz
        repeat' split
        all_goals first | rfl | (exfalso; omega))
      rcases nose_out hb (show 2 * n ≤ R by omega) hR hC ax_fuel 0 s (by rw [ax_fuel_is]; omega) (by omega) h0 with ⟨s1, w1, w2, w3, w4⟩ | ⟨s1, w1, w2, k', c', w3, w4, w5⟩
      · rw [show (0 : Int32) = oN 0 from rfl, w1]
        simp only [am_lm]
        have hfit : fits (l.map (pf_nose n)) = true := by
          rw [fits_iff]
          rintro ⟨r, c⟩
          by_cases ho : R - n ≤ r ∨ C ≤ c
          · rw [ct_off (nose_on hon (by omega)) ho]; omega
          · by_cases hr : r < n
            · rw [nose_cnt hr]
              have := w4 (n - 1 - r) c (by omega) (by omega) (by omega)
              unfold ct at this
              rw [show 2 * n - 1 - (n - 1 - r) = r + n by omega] at this
              exact this
            · rw [nose_cnt2 (by omega)]; exact fits_iff.mp hf _
        refine ⟨_, ?_, Or.inl ⟨by omega, by omega, hfit, rfl, ?_⟩⟩
        · exact ((w2.mono (by decide)).sI (by decide)).sI (by decide)
        · obtain ⟨p1, p2, p3, p4, p5, p6⟩ := w3
          refine ⟨?_, ?_, ?_, by omega, p5, ?_⟩
          · rw [I_sI, if_neg (by omega), I_sI, if_pos ⟨rfl, rfl⟩, p1, oN_add]
          · rw [I_sI, if_pos ⟨rfl, rfl⟩, p2, oN_sub (by omega)]
          · rw [I_sI, if_neg (by omega), I_sI, if_neg (by omega)]; exact p3
          · intro r c hr hc
            rw [I_ne (by decide), I_ne (by decide), show G + n + r = G + (r + n) by omega, p6 (r + n) c (by omega) hc]
            congr 1
            unfold nz
            rw [if_neg (by omega)]
            by_cases h1 : r < n
            · rw [if_pos (by omega)]
              unfold ct
              rw [nose_cnt h1, show 2 * n - 1 - (r + n) = n - 1 - r by omega]
            · rw [if_neg (by omega)]
              unfold ct
              rw [nose_cnt2 (by omega)]
      · rw [show (0 : Int32) = oN 0 from rfl, w1]
        simp only [am_lm]
        refine ⟨s1, w2.mono (by decide), Or.inr ⟨?_, rfl⟩⟩
        intro hh
        have := fits_iff.mp hh.2.2 (n - 1 - k', c')
        rw [nose_cnt (by omega), show n - 1 - k' + n = 2 * n - 1 - k' by omega, show n - 1 - (n - 1 - k') = k' by omega] at this
        unfold ct at w5
        omega
    · rw [if_neg (fun hh => e2 ((oN_le (by omega) (by omega)).mp hh))]
      exact ⟨s, fr.refl, Or.inr ⟨by omega, rfl⟩⟩
theorem c_side (hp : cP s G R C (ct l)) (hon : onP R C l) (hf : fits l = true) (hn : n ≤ 100) : ∃ s', fr [37, 38] s s' ∧
    ((1 ≤ n ∧ 2 * n ≤ C ∧ fits (l.map (pf_side (C - n))) = true ∧ f_X2_foldSide (oN n) s = some (.inl (some (.int 1)), s') ∧ cP s' G R (C - n) (ct (l.map (pf_side (C - n))))) ∨
     (¬ (1 ≤ n ∧ 2 * n ≤ C ∧ fits (l.map (pf_side (C - n))) = true) ∧ f_X2_foldSide (oN n) s = some (.inl (some (.int 0)), s'))) := by
  have hR : R ≤ 24 := by have := hp.2.2.2.1; omega
  have hC : C ≤ 12 := hp.2.2.2.2.1
  have hb : ∀ r c, r < R → c < C → ct l r c ≤ 32 := fun r c _ _ => fits_iff.mp hf (r, c)
  unfold f_X2_foldSide
  by_cases e1 : n < 1
  · rw [if_pos ((oN_ltL (by omega) (by omega)).mpr e1)]
    exact ⟨s, fr.refl, Or.inr ⟨by omega, rfl⟩⟩
  · rw [if_neg (fun hh => e1 ((oN_ltL (by omega) (by omega)).mp hh)), hp.2.2.1, half_is (by omega)]
    by_cases e2 : n ≤ C / 2
    · rw [if_pos ((oN_le (by omega) (by omega)).mpr e2)]
      have h0 : cP s G R C (sz C n (ct l) 0 0) := hp.congr (by
        intro r c _ _
        unfold sz
        repeat' split
        all_goals first | rfl | (exfalso; omega))
      rcases side_out hb (show 2 * n ≤ C by omega) hR hC ax_fuel 0 s (by rw [ax_fuel_is]; omega) (by omega) h0 with ⟨s1, w1, w2, w3, w4⟩ | ⟨s1, w1, w2, k', r', w3, w4, w5⟩
      · rw [show (0 : Int32) = oN 0 from rfl, w1]
        simp only [am_lm]
        have hfit : fits (l.map (pf_side (C - n))) = true := by
          rw [fits_iff]
          rintro ⟨r, c⟩
          by_cases ho : R ≤ r ∨ C - n ≤ c
          · rw [ct_off (side_on hon (by omega) (by omega)) ho]; omega
          · by_cases hr : c < C - 2 * n
            · rw [side_cnt2 hon hr (by omega)]; exact fits_iff.mp hf _
            · rw [side_cnt hon (by omega) (by omega) (by omega)]
              have := w4 (c - (C - 2 * n)) r (by omega) (by omega) (by omega)
              unfold ct at this
              rw [show C - 2 * n + (c - (C - 2 * n)) = c by omega, show C - 1 - (c - (C - 2 * n)) = 2 * (C - n) - 1 - c by omega] at this
              exact this
        refine ⟨_, ?_, Or.inl ⟨by omega, by omega, hfit, rfl, ?_⟩⟩
        · exact (w2.mono (by decide)).sI (by decide)
        · obtain ⟨p1, p2, p3, p4, p5, p6⟩ := w3
          refine ⟨?_, ?_, ?_, by omega, by omega, ?_⟩
          · rw [I_sI, if_neg (by omega)]; exact p1
          · rw [I_sI, if_neg (by omega)]; exact p2
          · rw [I_sI, if_pos ⟨rfl, rfl⟩, p3, oN_sub (by omega)]
          · intro r c hr hc
            rw [I_ne (by decide), p6 r c hr (by omega)]
            congr 1
            unfold sz
            rw [if_neg (by omega)]
            by_cases h1 : c < C - 2 * n
            · rw [if_neg (by omega)]
              unfold ct
              rw [side_cnt2 hon h1 (by omega)]
            · rw [if_pos (by omega)]
              unfold ct
              rw [side_cnt hon (by omega) (by omega) (by omega)]
      · rw [show (0 : Int32) = oN 0 from rfl, w1]
        simp only [am_lm]
        refine ⟨s1, w2.mono (by decide), Or.inr ⟨?_, rfl⟩⟩
        intro hh
        have := fits_iff.mp hh.2.2 (r', C - 2 * n + k')
        rw [side_cnt hon (by omega) (by omega) (by omega), show 2 * (C - n) - 1 - (C - 2 * n + k') = C - 1 - k' by omega] at this
        unfold ct at w5
        omega
    · rw [if_neg (fun hh => e2 ((oN_le (by omega) (by omega)).mp hh))]
      exact ⟨s, fr.refl, Or.inr ⟨by omega, rfl⟩⟩
theorem c_corner (hp : cP s G R C (ct l)) (hon : onP R C l) (hf : fits l = true) (hn : n ≤ 100) : ∃ s', fr [37, 38] s s' ∧
    ((2 ≤ n ∧ n ≤ R ∧ n ≤ C ∧ fits (l.map (pf_corner C n)) = true ∧ f_X2_foldCorner (oN n) s = some (.inl (some (.int 1)), s') ∧ cP s' G R C (ct (l.map (pf_corner C n)))) ∨
     (¬ (2 ≤ n ∧ n ≤ R ∧ n ≤ C ∧ fits (l.map (pf_corner C n)) = true) ∧ f_X2_foldCorner (oN n) s = some (.inl (some (.int 0)), s'))) := by
  have hR : R ≤ 24 := by have := hp.2.2.2.1; omega
  have hC : C ≤ 12 := hp.2.2.2.2.1
  have hb : ∀ r c, r < R → c < C → ct l r c ≤ 32 := fun r c _ _ => fits_iff.mp hf (r, c)
  unfold f_X2_foldCorner
  by_cases e1 : n < 2
  · rw [if_pos ((oN_ltL (by omega) (by omega)).mpr e1)]
    exact ⟨s, fr.refl, Or.inr ⟨by omega, rfl⟩⟩
  · rw [if_neg (fun hh => e1 ((oN_ltL (by omega) (by omega)).mp hh)), hp.2.1, hp.2.2.1]
    by_cases e2 : R < n
    · rw [if_pos ((oN_lt (by omega) (by omega)).mpr e2)]
      exact ⟨s, fr.refl, Or.inr ⟨by omega, rfl⟩⟩
    · rw [if_neg (fun hh => e2 ((oN_lt (by omega) (by omega)).mp hh))]
      by_cases e3 : n ≤ C
      · rw [if_pos ((oN_le (by omega) (by omega)).mpr e3)]
        have h0 : cP s G R C (cz C n (ct l) 0 0) := hp.congr (by
          intro r c _ _
          unfold cz
          repeat' split
          all_goals first | rfl | (exfalso; omega))
        have ec : oN C - 1 = oN (C - 1) := by rw [oN_subL (by show 1 ≤ C; omega)]
        rcases corner_out hb (show n ≤ R by omega) e3 (by omega) hR hC ax_fuel 0 s (by rw [ax_fuel_is]; omega) (by omega) h0 with ⟨s1, w1, w2, w3, w4⟩ | ⟨s1, w1, w2, r', d', w3, w4⟩
        · rw [ec, show (0 : Int32) = oN 0 from rfl, w1]
          simp only [am_lm]
          have hfit : fits (l.map (pf_corner C n)) = true := by
            rw [fits_iff]
            rintro ⟨r, c⟩
            by_cases ho : R ≤ r ∨ C ≤ c
            · rw [ct_off (corner_on hon (by omega) e3) ho]; omega
            · by_cases h1 : r + (C - 1 - c) < n - 1
              · rw [corner_cnt0 hon e3 (by omega) h1]; omega
              · by_cases h2 : r ≤ n - 1 ∧ C - n ≤ c ∧ (c - (C - n)) + (n - 1 - r) < n - 1
                · rw [corner_cnt hon e3 h2.1 h2.2.1 (by omega) h2.2.2]
                  have := w4 (c - (C - n)) (n - 1 - r) (by omega) h2.2.2
                  unfold ct at this
                  rw [show n - 1 - (n - 1 - r) = r by omega, show C - 1 - (n - 1 - (c - (C - n))) = c by omega] at this
                  exact this
                · rw [corner_cnt1 hon e3 (by omega) h1 h2]; exact fits_iff.mp hf _
          refine ⟨s1, w2.mono (by decide), Or.inl ⟨by omega, by omega, e3, hfit, rfl, w3.congr ?_⟩⟩
          intro r c hr hc
          unfold cz
          by_cases h1 : r + (C - 1 - c) < n - 1
          · rw [if_pos (by omega)]
            unfold ct
            rw [corner_cnt0 hon e3 (by omega) h1]
          · rw [if_neg (by omega)]
            by_cases h2 : r ≤ n - 1 ∧ C - n ≤ c ∧ (c - (C - n)) + (n - 1 - r) < n - 1
            · rw [if_pos (by omega)]
              unfold ct
              rw [corner_cnt hon e3 h2.1 h2.2.1 (by omega) h2.2.2]
            · rw [if_neg (by omega)]
              unfold ct
              rw [corner_cnt1 hon e3 (by omega) h1 h2]
        · rw [ec, show (0 : Int32) = oN 0 from rfl, w1]
          simp only [am_lm]
          refine ⟨s1, w2.mono (by decide), Or.inr ⟨?_, rfl⟩⟩
          intro hh
          have := fits_iff.mp hh.2.2.2 (n - 1 - d', C - 1 - (n - 1 - r'))
          rw [corner_cnt hon e3 (by omega) (by omega) (by omega) (by omega), show C - 1 - (n - 1 - r') - (C - n) = r' by omega, show C - 1 - (n - 1 - (n - 1 - d')) = C - 1 - d' by omega] at this
          unfold ct at w4
          omega
      · rw [if_neg (fun hh => e3 ((oN_le (by omega) (by omega)).mp hh))]
        exact ⟨s, fr.refl, Or.inr ⟨by omega, rfl⟩⟩
/-- one fold -/
theorem c_fold {P : Ppr} {k : Nat} (hp : cP s G P.1 P.2.1 (ct P.2.2)) (hk : okP P) (h2 : k ≤ 2) (hn : n ≤ 100) : ∃ s', fr [37, 38] s s' ∧
    ((∃ P' G', fo k n P = some P' ∧ f_X2_foldOnce (oN k) (oN n) s = some (.inl (some (.int 1)), s') ∧ cP s' G' P'.1 P'.2.1 (ct P'.2.2)) ∨
     (fo k n P = none ∧ f_X2_foldOnce (oN k) (oN n) s = some (.inl (some (.int 0)), s'))) := by
  obtain ⟨k1, k2, k3, k4, k5, k6, k7, k8⟩ := hk
  unfold f_X2_foldOnce fo
  by_cases e0 : k = 0
  · subst e0
    rw [if_pos rfl]
    obtain ⟨s', q1, ⟨q2, q3, q4, q5, q6⟩ | ⟨q2, q3⟩⟩ := c_nose (n := n) hp k5 k6 hn
    · refine ⟨s', q1, Or.inl ⟨_, _, by rw [if_pos ⟨q2, q3, q4⟩], by rw [if_pos (show oN 0 = 0 from rfl), q5]; rfl, q6⟩⟩
    · exact ⟨s', q1, Or.inr ⟨by rw [if_neg q2], by rw [if_pos (show oN 0 = 0 from rfl), q3]; rfl⟩⟩
  · by_cases e1 : k = 1
    · subst e1
      rw [if_neg (by decide), if_pos rfl]
      obtain ⟨s', q1, ⟨q2, q3, q4, q5, q6⟩ | ⟨q2, q3⟩⟩ := c_side (n := n) hp k5 k6 hn
      · refine ⟨s', q1, Or.inl ⟨_, _, by rw [if_pos ⟨q2, q3, q4⟩], by rw [if_neg (by decide), if_pos (show oN 1 = 1 from rfl), q5]; rfl, q6⟩⟩
      · exact ⟨s', q1, Or.inr ⟨by rw [if_neg q2], by rw [if_neg (by decide), if_pos (show oN 1 = 1 from rfl), q3]; rfl⟩⟩
    · have e2 : k = 2 := by omega
      subst e2
      rw [if_neg (by decide), if_neg (by decide)]
      obtain ⟨s', q1, ⟨q2, q3, q4, q5, q6, q7⟩ | ⟨q2, q3⟩⟩ := c_corner (n := n) hp k5 k6 hn
      · refine ⟨s', q1, Or.inl ⟨_, _, by rw [if_pos ⟨q2, q3, q4, q5⟩], by rw [if_neg (by decide), if_neg (by decide), if_pos (show oN 2 = 2 from rfl), q6]; rfl, q7⟩⟩
      · exact ⟨s', q1, Or.inr ⟨by rw [if_neg q2], by rw [if_neg (by decide), if_neg (by decide), if_pos (show oN 2 = 2 from rfl), q3]; rfl⟩⟩
end CF
