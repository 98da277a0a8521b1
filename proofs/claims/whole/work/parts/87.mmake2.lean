section MM
variable {s : am_S} {R C n k : Nat} {l : List Pos} {P : Ppr}
theorem min_is {a b : Nat} (ha : a < 2147483648) (hb : b < 2147483648) : am_min (oN a) (oN b) = oN (min a b) := by
  unfold am_min
  by_cases h : b < a
  · rw [if_pos ((oN_lt hb ha).mpr h), Nat.min_eq_right (by omega)]
  · rw [if_neg (fun hh => h ((oN_lt hb ha).mp hh)), Nat.min_eq_left (by omega)]
theorem m_nose (hk : okP P) (hp : mP s P) (h1 : 1 ≤ n) (h2 : 2 * n ≤ P.1) : ∃ s', f_X8_nose (oN n) s = some (.inl none, s') ∧ fr [55, 62, 63, 64] s s' ∧ (∀ j, j ≠ 21 → j ≠ 22 → am_I s' 55 j = am_I s 55 j) ∧ mP s' (P.1 - n, P.2.1, P.2.2.map (pf_nose n)) := by
  obtain ⟨k1, k2, k3, k4, k5, k6, k7, k8⟩ := hk
  obtain ⟨p1, p2, p3, p4⟩ := hp
  unfold f_X8_nose
  obtain ⟨s1, z1, z2, z3⟩ := mnose_in (n := n) k2 k5 (by omega) k8 ax_fuel 0 s (by rw [ax_fuel_is]; omega) (by omega) p3 (mLf_start p4)
  have z1' : L_X8_nose_2 ax_fuel (oN n) 0 s = some (.inr ((), s1)) := z1
  rw [z1']
  simp only [am_lm]
  refine ⟨_, rfl, (z2.mono (by decide)).sI (by simp), ?_, ?_, ?_, ?_, ?_⟩
  · intro j hj _; rw [I_sI, if_neg (by omega), z2.I (by decide)]
  · rw [I_sI, if_pos ⟨rfl, rfl⟩, z2.I (by decide), p1, oN_sub (by omega)]
  · rw [I_sI, if_neg (by omega), z2.I (by decide)]; exact p2
  · rw [I_sI, if_neg (by omega), z2.I (by decide), p3, List.length_map]
  · intro k p hq
    rw [I_ne (by decide), I_ne (by decide)]
    exact mLf_end z3 k p hq
theorem m_side (hk : okP P) (hp : mP s P) (h1 : 1 ≤ n) (h2 : 2 * n ≤ P.2.1) : ∃ s', f_X8_side (oN n) s = some (.inl none, s') ∧ fr [55, 62, 63, 64] s s' ∧ (∀ j, j ≠ 21 → j ≠ 22 → am_I s' 55 j = am_I s 55 j) ∧ mP s' (P.1, P.2.1 - n, P.2.2.map (pf_side (P.2.1 - n))) := by
  obtain ⟨k1, k2, k3, k4, k5, k6, k7, k8⟩ := hk
  obtain ⟨p1, p2, p3, p4⟩ := hp
  unfold f_X8_side
  rw [p2, oN_sub (by omega)]
  obtain ⟨s1, z1, z2, z3⟩ := mside_in (left := P.2.1 - n) k4 k5 (by omega) (by omega) k8 ax_fuel 0 s (by rw [ax_fuel_is]; omega) (by omega) p3 (mLf_start p4)
  have z1' : L_X8_side_9 ax_fuel (Int32.ofNat (P.2.1 - n)) 0 s = some (.inr ((), s1)) := z1
  rw [z1']
  simp only [am_lm]
  refine ⟨_, rfl, (z2.mono (by decide)).sI (by simp), ?_, ?_, ?_, ?_, ?_⟩
  · intro j _ hj; rw [I_sI, if_neg (by omega), z2.I (by decide)]
  · rw [I_sI, if_neg (by omega), z2.I (by decide)]; exact p1
  · rw [I_sI, if_pos ⟨rfl, rfl⟩]
  · rw [I_sI, if_neg (by omega), z2.I (by decide), p3, List.length_map]
  · intro k p hq
    rw [I_ne (by decide), I_ne (by decide)]
    exact mLf_end z3 k p hq
theorem m_corner (hk : okP P) (hp : mP s P) (h1 : 2 ≤ n) (h2 : n ≤ P.1) (h3 : n ≤ P.2.1) : ∃ s', f_X8_corner (oN n) s = some (.inl none, s') ∧ fr [55, 62, 63, 64] s s' ∧ (∀ j, j ≠ 21 → j ≠ 22 → am_I s' 55 j = am_I s 55 j) ∧ mP s' (P.1, P.2.1, P.2.2.map (pf_corner P.2.1 n)) := by
  obtain ⟨k1, k2, k3, k4, k5, k6, k7, k8⟩ := hk
  obtain ⟨p1, p2, p3, p4⟩ := hp
  unfold f_X8_corner
  obtain ⟨s1, z1, z2, z3⟩ := mcorner_in (n := n) k4 k2 k5 h1 h3 k8 ax_fuel 0 s (by rw [ax_fuel_is]; omega) (by omega) p3 p2 (mLf_start p4)
  have z1' : L_X8_corner_2 ax_fuel (oN n) 0 s = some (.inr ((), s1)) := z1
  rw [z1']
  simp only [am_lm]
  refine ⟨s1, rfl, z2.mono (by decide), ?_, ?_, ?_, ?_, ?_⟩
  · intro j _ hj; rw [z2.I (by decide)]
  · rw [z2.I (by decide)]; exact p1
  · rw [z2.I (by decide)]; exact p2
  · rw [z2.I (by decide), p3, List.length_map]
  · exact mLf_end z3
theorem mP_64 {s' : am_S} (h : mP s P) (f : fr [64] s s') : mP s' P := by
  obtain ⟨p1, p2, p3, p4⟩ := h
  exact ⟨by rw [f.I (by decide)]; exact p1, by rw [f.I (by decide)]; exact p2, by rw [f.I (by decide)]; exact p3, fun k p hk => by rw [f.I (by decide), f.I (by decide)]; exact p4 k p hk⟩
theorem fo0 : fo 0 n P = if 1 ≤ n ∧ 2 * n ≤ P.1 ∧ fits (P.2.2.map (pf_nose n)) = true then some (P.1 - n, P.2.1, P.2.2.map (pf_nose n)) else none := by unfold fo; rw [if_pos rfl]
theorem fo1 : fo 1 n P = if 1 ≤ n ∧ 2 * n ≤ P.2.1 ∧ fits (P.2.2.map (pf_side (P.2.1 - n))) = true then some (P.1, P.2.1 - n, P.2.2.map (pf_side (P.2.1 - n))) else none := by unfold fo; rw [if_neg (by decide), if_pos rfl]
theorem fo2 : fo 2 n P = if 2 ≤ n ∧ n ≤ P.1 ∧ n ≤ P.2.1 ∧ fits (P.2.2.map (pf_corner P.2.1 n)) = true then some (P.1, P.2.1, P.2.2.map (pf_corner P.2.1 n)) else none := by unfold fo; rw [if_neg (by decide), if_neg (by decide)]
noncomputable def mtl (s : am_S) : am_F := am_bu (f_X8_count s) (fun s13 => am_lm (L_X8_folds_100 ax_fuel (0 : Int32) s13) (fun e18 s19 => some (.inl (some (.int (1 : Int32))), s19)))
theorem half_int (h : R ≤ 100) : ((oN R / 2) : Int32).toInt = ((R / 2 : Nat) : Int) := by
  have h1 : R < 2147483648 := by omega
  have h2 : R / 2 < 2147483648 := by omega
  rw [half_is h1]
  exact oN_int h2
theorem folds0 {x : Int32} (hh : ((am_I s 55 21 / 2) : Int32).toInt = ((R / 2 : Nat) : Int)) : f_X8_folds 0 x s = if wi x.toInt 1 ((R / 2 : Nat) : Int) = true then am_bu (f_X8_nose x s) mtl else some (.inl (some (.int 0)), s) := by
  have e10 : ¬ ((1 : Int32) = 0) := by decide
  unfold f_X8_folds am_jn
  show (if (0 : Int32) = 0 then _ else _) = _
  rw [if_pos rfl]
  show (if (0 : Int32) = 2 then _ else _) = _
  rw [if_neg (by decide)]
  show am_bi (f_X8_within _ _ _ _) _ = _
  rw [f_within, Int32.toInt_toInt64, Int32.toInt_toInt64, hh, litL.2.1]
  by_cases e : wi x.toInt 1 ((R / 2 : Nat) : Int) = true
  · rw [if_pos e, if_pos e]
    unfold am_bi
    show (if (1 : Int32) = 0 then _ else _) = _
    rw [if_neg e10]
    show (if (0 : Int32) = 0 then _ else _) = _
    rw [if_pos rfl]
    rfl
  · rw [if_neg e, if_neg e]
    unfold am_bi
    show (if (0 : Int32) = 0 then _ else _) = _
    rw [if_pos rfl]
theorem folds1 {x : Int32} (hh : ((am_I s 55 22 / 2) : Int32).toInt = ((C / 2 : Nat) : Int)) : f_X8_folds 1 x s = if wi x.toInt 1 ((C / 2 : Nat) : Int) = true then am_bu (f_X8_side x s) mtl else some (.inl (some (.int 0)), s) := by
  have e10 : ¬ ((1 : Int32) = 0) := by decide
  unfold f_X8_folds am_jn
  show (if (1 : Int32) = 0 then _ else _) = _
  rw [if_neg e10]
  show (if (1 : Int32) = 1 then _ else _) = _
  rw [if_pos rfl]
  show (if (1 : Int32) = 2 then _ else _) = _
  rw [if_neg (by decide)]
  show am_bi (f_X8_within _ _ _ _) _ = _
  rw [f_within, Int32.toInt_toInt64, Int32.toInt_toInt64, hh, litL.2.1]
  by_cases e : wi x.toInt 1 ((C / 2 : Nat) : Int) = true
  · rw [if_pos e, if_pos e]
    unfold am_bi
    show (if (1 : Int32) = 0 then _ else _) = _
    rw [if_neg e10]
    show (if (1 : Int32) = 0 then _ else _) = _
    rw [if_neg e10]
    show (if (1 : Int32) = 1 then _ else _) = _
    rw [if_pos rfl]
    rfl
  · rw [if_neg e, if_neg e]
    unfold am_bi
    show (if (0 : Int32) = 0 then _ else _) = _
    rw [if_pos rfl]
theorem folds2 {x : Int32} (h1 : am_I s 55 21 = oN R) (h2 : am_I s 55 22 = oN C) (hR : R ≤ 100) (hC : C ≤ 100) : f_X8_folds 2 x s = if wi x.toInt 2 ((min R C : Nat) : Int) = true then am_bu (f_X8_corner x s) mtl else some (.inl (some (.int 0)), s) := by
  have hh : (am_min (oN R) (oN C)).toInt64.toInt = ((min R C : Nat) : Int) := by rw [Int32.toInt_toInt64, min_is (by omega) (by omega), oN_int (by omega)]
  have e20 : ((2 : Int32) = 0) = False := by simp
  have e21 : ((2 : Int32) = 1) = False := by simp
  have e10 : ¬ ((1 : Int32) = 0) := by decide
  unfold f_X8_folds
  rw [h1, h2]
  simp only [am_jn, e20, e21, if_true, if_false]
  rw [f_within, hh, Int32.toInt_toInt64]
  rw [litL.2.2.1]
  by_cases e : wi x.toInt 2 ((min R C : Nat) : Int) = true
  · rw [if_pos e, if_pos e]
    simp only [am_bi, ne10, if_false]
    unfold mtl
    rfl
  · rw [if_neg e, if_neg e]
    simp only [am_bi, if_true]
theorem m_fold (hk : okP P) (hp : mP s P) (hk2 : k ≤ 2) (hn : n ≤ 100) : ∃ s', fr [55, 62, 63, 64] s s' ∧ (∀ j, j ≠ 21 → j ≠ 22 → am_I s' 55 j = am_I s 55 j) ∧
    ((∃ P', fo k n P = some P' ∧ f_X8_folds (oN k) (oN n) s = some (.inl (some (.int 1)), s') ∧ mP s' P') ∨
     (fo k n P = none ∧ f_X8_folds (oN k) (oN n) s = some (.inl (some (.int 0)), s'))) := by
  have hk' := hk
  obtain ⟨k1, k2, k3, k4, k5, k6, k7, k8⟩ := hk
  have hn' : n < 2147483648 := by omega
  by_cases e0 : k = 0
  · subst e0
    rw [show oN 0 = 0 from rfl, folds0 (by rw [hp.1]; exact half_int (by omega)), oN_int hn']
    by_cases e1 : 1 ≤ n ∧ 2 * n ≤ P.1
    · rw [if_pos (wi_t.mpr (by omega))]
      obtain ⟨s1, z1, z2, z3, z4⟩ := m_nose hk' hp e1.1 e1.2
      rw [z1]
      obtain ⟨s2, y1, y2, y3⟩ := m_tail (P := (P.1 - n, P.2.1, P.2.2.map (pf_nose n))) ⟨by show 1 ≤ P.1 - n; omega, by show P.1 - n ≤ 24; omega, k3, k4, nose_on k5 (by omega), by simpa using k7, by simpa using k8⟩ z4
      have y4 : mtl s1 = _ := y3
      refine ⟨s2, z2.trans (y1.mono (by decide)), fun j h1 h2 => (congrFun (y1.I (by decide)) j).trans (z3 j h1 h2), ?_⟩
      simp only [am_bu]
      rw [y4]
      by_cases ef : fits (P.2.2.map (pf_nose n)) = true
      · exact Or.inl ⟨_, fo0.trans (if_pos ⟨e1.1, e1.2, ef⟩), by rw [if_pos ef], mP_64 z4 y1⟩
      · exact Or.inr ⟨fo0.trans (if_neg (fun hh => ef hh.2.2)), by rw [if_neg ef]⟩
    · rw [if_neg (fun hh => by have := wi_t.mp hh; omega)]
      exact ⟨s, fr.refl, fun j _ _ => rfl, Or.inr ⟨fo0.trans (if_neg (fun hh => e1 ⟨hh.1, hh.2.1⟩)), rfl⟩⟩
  · by_cases e1 : k = 1
    · subst e1
      rw [show oN 1 = 1 from rfl, folds1 (by rw [hp.2.1]; exact half_int (by omega)), oN_int hn']
      by_cases e1 : 1 ≤ n ∧ 2 * n ≤ P.2.1
      · rw [if_pos (wi_t.mpr (by omega))]
        obtain ⟨s1, z1, z2, z3, z4⟩ := m_side hk' hp e1.1 e1.2
        rw [z1]
        obtain ⟨s2, y1, y2, y3⟩ := m_tail (P := (P.1, P.2.1 - n, P.2.2.map (pf_side (P.2.1 - n)))) ⟨k1, k2, by show 1 ≤ P.2.1 - n; omega, by show P.2.1 - n ≤ 12; omega, side_on k5 (by omega) (by omega), by simpa using k7, by simpa using k8⟩ z4
        have y4 : mtl s1 = _ := y3
        refine ⟨s2, z2.trans (y1.mono (by decide)), fun j h1 h2 => (congrFun (y1.I (by decide)) j).trans (z3 j h1 h2), ?_⟩
        simp only [am_bu]
        rw [y4]
        by_cases ef : fits (P.2.2.map (pf_side (P.2.1 - n))) = true
        · exact Or.inl ⟨_, fo1.trans (if_pos ⟨e1.1, e1.2, ef⟩), by rw [if_pos ef], mP_64 z4 y1⟩
        · exact Or.inr ⟨fo1.trans (if_neg (fun hh => ef hh.2.2)), by rw [if_neg ef]⟩
      · rw [if_neg (fun hh => by have := wi_t.mp hh; omega)]
        exact ⟨s, fr.refl, fun j _ _ => rfl, Or.inr ⟨fo1.trans (if_neg (fun hh => e1 ⟨hh.1, hh.2.1⟩)), rfl⟩⟩
    · have e2 : k = 2 := by omega
      subst e2
      rw [show oN 2 = 2 from rfl, folds2 hp.1 hp.2.1 (by omega) (by omega), oN_int hn']
      by_cases e1 : 2 ≤ n ∧ n ≤ P.1 ∧ n ≤ P.2.1
      · rw [if_pos (wi_t.mpr (by omega))]
        obtain ⟨s1, z1, z2, z3, z4⟩ := m_corner hk' hp e1.1 e1.2.1 e1.2.2
        rw [z1]
        obtain ⟨s2, y1, y2, y3⟩ := m_tail (P := (P.1, P.2.1, P.2.2.map (pf_corner P.2.1 n))) ⟨k1, k2, k3, k4, show onP P.1 P.2.1 _ from corner_on k5 e1.2.1 e1.2.2, by simpa using k7, by simpa using k8⟩ z4
        have y4 : mtl s1 = _ := y3
        refine ⟨s2, z2.trans (y1.mono (by decide)), fun j h1 h2 => (congrFun (y1.I (by decide)) j).trans (z3 j h1 h2), ?_⟩
        simp only [am_bu]
        rw [y4]
        by_cases ef : fits (P.2.2.map (pf_corner P.2.1 n)) = true
        · exact Or.inl ⟨_, fo2.trans (if_pos ⟨e1.1, e1.2.1, e1.2.2, ef⟩), by rw [if_pos ef], mP_64 z4 y1⟩
        · exact Or.inr ⟨fo2.trans (if_neg (fun hh => ef hh.2.2.2)), by rw [if_neg ef]⟩
      · rw [if_neg (fun hh => by have := wi_t.mp hh; omega)]
        exact ⟨s, fr.refl, fun j _ _ => rfl, Or.inr ⟨fo2.trans (if_neg (fun hh => e1 ⟨hh.1, hh.2.1, hh.2.2.1⟩)), rfl⟩⟩
end MM
