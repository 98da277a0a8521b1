/-! ===== the model's tick, the rest ===== -/
noncomputable def tickD (s1 : am_S) (e20 : Int32) (s21 : am_S) : am_F :=
  am_bi (f_X8_within ((am_I s21 55 36).toInt64) (-2 : Int64) (2 : Int64) (am_sI (am_sI s21 55 39 e20) 55 40 ((am_I s21 55 40) + (am_I s21 55 36)))) (fun v23 s22 =>
    am_jn (fun (e25 : Int32) s26 =>
      if (am_I s26 55 42) ≤ 0 then
        some (.inl none, (am_sI s26 55 41 e25))
      else
        if (am_I s26 55 42) ≤ (am_I s1 55 31) then
          some (.inl none, (am_sI s26 55 41 e25))
        else
          if (am_I s26 55 31) < (am_I s26 55 42) then
            some (.inl none, (am_sI s26 55 41 e25))
          else
            am_bi (f_X8_within ((am_I s26 55 32).toInt64) ((am_I s26 55 43).toInt64) ((am_I s26 55 44).toInt64) (am_sI s26 55 41 e25)) (fun v31 s30 =>
              if v31 = 0 then
                some (.inl none, s30)
              else
                some (.inl none, (am_sI s30 55 45 (1 : Int32)))
            )
    ) (fun J24 =>
      if v23 = 0 then
        J24 (0 : Int32) s22
      else
        J24 ((am_I s22 55 41) + (1 : Int32)) s22
    )
  )
noncomputable def tickC (s1 s5 : am_S) : am_F :=
  am_lm (L_X8_tick_119 ax_fuel (am_I s1 55 31) (0 : Int32) (0 : Int32) (am_sI s5 55 38 (am_max (am_I s5 55 38) (am_I s5 55 32)))) (fun e14 s15 =>
    am_jn (fun (e17 : Int32) s18 =>
      am_jn (fun (e20 : Int32) s21 =>
        tickD s1 e20 s21
      ) (fun J19 =>
        if e14 ≤ 0 then
          if 0 < (am_I s18 55 32) then
            J19 (0 : Int32) (am_sI s18 55 31 e17)
          else
            J19 (1 : Int32) (am_sI s18 55 31 e17)
        else
          J19 (2 : Int32) (am_sI s18 55 31 e17)
      )
    ) (fun J16 =>
      if e14 ≤ 0 then
        J16 (am_I s15 55 31) s15
      else
        J16 e14 s15
    )
  )
noncomputable def tickE (s1 : am_S) : am_F :=
  am_jn (fun (e4 : Unit) s5 =>
    tickC s1 s5
  ) (fun J3 =>
    if (am_I s1 56 12) = (-1 : Int32) then
      J3 () (am_sI (am_sI s1 55 31 ((am_I s1 55 31) + (am_I s1 55 33))) 55 32 ((am_I s1 55 32) + (am_I s1 55 34)))
    else
      if ((am_I s1 55 32) + (am_I s1 55 34)) ≤ ((100 : Int32) * (am_I s1 56 12)) then
        J3 () (am_sI (am_sI s1 55 31 ((am_I s1 55 31) + (am_I s1 55 33))) 55 32 ((am_I s1 55 32) + (am_I s1 55 34)))
      else
        J3 () (am_sI (am_sI (am_sI (am_sI s1 55 31 ((am_I s1 55 31) + (am_I s1 55 33))) 55 32 ((am_I s1 55 32) + (am_I s1 55 34))) 55 32 ((100 : Int32) * (am_I s1 56 12))) 55 34 ((-(am_I s1 55 34)) / (2 : Int32)))
  )
theorem tick_e {x1 : Int32} {s : am_S} : f_X8_tick x1 s =
    am_bu (f_X8_air x1 (am_sI s 55 37 ((am_I s 55 37) + (1 : Int32)))) (fun s1 =>
      tickE s1
    ) := rfl
/-- through the hoop of the model in this tick -/
def hit (hx lo hi x x2 y2 : Int32) : Bool := decide (0 < hx.toInt ∧ x.toInt < hx.toInt ∧ hx.toInt ≤ x2.toInt ∧ lo.toInt ≤ y2.toInt ∧ y2.toInt ≤ hi.toInt)
section MT3
variable {s s1 : am_S} {E : hE} {F : hF}
theorem tickD_is {en x x2 y2 sp tu ca hx lo hi : Int32} (h31 : am_I s 55 31 = x2) (h32 : am_I s 55 32 = y2) (h36 : am_I s 55 36 = sp) (h40 : am_I s 55 40 = tu) (h41 : am_I s 55 41 = ca) (h42 : am_I s 55 42 = hx) (h43 : am_I s 55 43 = lo) (h44 : am_I s 55 44 = hi) (h1 : am_I s1 55 31 = x) :
    ∃ s', tickD s1 en s = some (.inl none, s') ∧ fr [55] s s' ∧ (∀ k, k ≠ 39 → k ≠ 40 → k ≠ 41 → k ≠ 45 → am_I s' 55 k = am_I s 55 k) ∧ am_I s' 55 39 = en ∧ am_I s' 55 40 = tu + sp ∧ am_I s' 55 41 = (if sp < -2 then 0 else if sp ≤ 2 then ca + 1 else 0) ∧ am_I s' 55 45 = (if hit hx lo hi x x2 y2 = true then 1 else am_I s 55 45) := by
  have q2 : (-2 : Int64).toInt = -2 := rfl
  have q3 : (2 : Int64).toInt = 2 := rfl
  have r2 : (-2 : Int32).toInt = -2 := rfl
  have r3 : (2 : Int32).toInt = 2 := rfl
  have e10 : ¬ ((1 : Int32) = 0) := by decide
  unfold tickD
  rw [h36, h40, f_within, bi_s, Int32.toInt_toInt64, q2, q3, jn_s]
  have rest : ∀ c : Int32, ∃ s', (if (am_I (am_sI (am_sI s 55 39 en) 55 40 (tu + sp)) 55 42) ≤ 0 then (some (.inl none, (am_sI (am_sI (am_sI s 55 39 en) 55 40 (tu + sp)) 55 41 c)) : am_F) else
      if (am_I (am_sI (am_sI s 55 39 en) 55 40 (tu + sp)) 55 42) ≤ (am_I s1 55 31) then some (.inl none, (am_sI (am_sI (am_sI s 55 39 en) 55 40 (tu + sp)) 55 41 c)) else
      if (am_I (am_sI (am_sI s 55 39 en) 55 40 (tu + sp)) 55 31) < (am_I (am_sI (am_sI s 55 39 en) 55 40 (tu + sp)) 55 42) then some (.inl none, (am_sI (am_sI (am_sI s 55 39 en) 55 40 (tu + sp)) 55 41 c)) else
      am_bi (f_X8_within ((am_I (am_sI (am_sI s 55 39 en) 55 40 (tu + sp)) 55 32).toInt64) ((am_I (am_sI (am_sI s 55 39 en) 55 40 (tu + sp)) 55 43).toInt64) ((am_I (am_sI (am_sI s 55 39 en) 55 40 (tu + sp)) 55 44).toInt64) (am_sI (am_sI (am_sI s 55 39 en) 55 40 (tu + sp)) 55 41 c)) (fun v31 s30 => if v31 = 0 then some (.inl none, s30) else some (.inl none, (am_sI s30 55 45 (1 : Int32))))) = some (.inl none, s') ∧ fr [55] s s' ∧ (∀ k, k ≠ 39 → k ≠ 40 → k ≠ 41 → k ≠ 45 → am_I s' 55 k = am_I s 55 k) ∧ am_I s' 55 39 = en ∧ am_I s' 55 40 = tu + sp ∧ am_I s' 55 41 = c ∧ am_I s' 55 45 = (if hit hx lo hi x x2 y2 = true then 1 else am_I s 55 45) := by
    intro c
    have kk : ∀ k, k ≠ 39 → k ≠ 40 → am_I (am_sI (am_sI s 55 39 en) 55 40 (tu + sp)) 55 k = am_I s 55 k := fun k a b => by rw [I_sI, if_neg (by omega), I_sI, if_neg (by omega)]
    have ff : fr [55] s (am_sI (am_sI (am_sI s 55 39 en) 55 40 (tu + sp)) 55 41 c) := ((fr.refl.sI (by simp)).sI (by simp)).sI (by simp)
    have plain : ¬ hit hx lo hi x x2 y2 = true → ∃ s', (some (.inl none, (am_sI (am_sI (am_sI s 55 39 en) 55 40 (tu + sp)) 55 41 c)) : am_F) = some (.inl none, s') ∧ fr [55] s s' ∧ (∀ k, k ≠ 39 → k ≠ 40 → k ≠ 41 → k ≠ 45 → am_I s' 55 k = am_I s 55 k) ∧ am_I s' 55 39 = en ∧ am_I s' 55 40 = tu + sp ∧ am_I s' 55 41 = c ∧ am_I s' 55 45 = (if hit hx lo hi x x2 y2 = true then 1 else am_I s 55 45) := by
      intro hh
      refine ⟨_, rfl, ff, ?_, ?_, ?_, ?_, ?_⟩
      · intro k a b d _
        rw [I_sI, if_neg (by omega), kk k a b]
      · rw [I_sI, if_neg (by omega), I_sI, if_neg (by omega), I_sI, if_pos ⟨rfl, rfl⟩]
      · rw [I_sI, if_neg (by omega), I_sI, if_pos ⟨rfl, rfl⟩]
      · rw [I_sI, if_pos ⟨rfl, rfl⟩]
      · rw [if_neg hh, I_sI, if_neg (by omega), kk 45 (by omega) (by omega)]
    rw [kk 42 (by omega) (by omega), kk 31 (by omega) (by omega), kk 32 (by omega) (by omega), kk 43 (by omega) (by omega), kk 44 (by omega) (by omega), h42, h31, h32, h43, h44, h1]
    by_cases c1 : hx ≤ 0
    · rw [if_pos c1]
      rw [Int32.le_iff_toInt_le, Int32.toInt_zero] at c1
      exact plain (fun hh => by have := of_decide_eq_true hh; omega)
    · rw [if_neg c1]
      rw [Int32.le_iff_toInt_le, Int32.toInt_zero] at c1
      by_cases c2 : hx ≤ x
      · rw [if_pos c2]
        rw [Int32.le_iff_toInt_le] at c2
        exact plain (fun hh => by have := of_decide_eq_true hh; omega)
      · rw [if_neg c2]
        rw [Int32.le_iff_toInt_le] at c2
        by_cases c3 : x2 < hx
        · rw [if_pos c3]
          rw [Int32.lt_iff_toInt_lt] at c3
          exact plain (fun hh => by have := of_decide_eq_true hh; omega)
        · rw [if_neg c3, f_within, bi_s, Int32.toInt_toInt64, Int32.toInt_toInt64, Int32.toInt_toInt64]
          rw [Int32.lt_iff_toInt_lt] at c3
          by_cases c4 : wi y2.toInt lo.toInt hi.toInt = true
          · have c4' := wi_t.mp c4
            have hh : hit hx lo hi x x2 y2 = true := decide_eq_true (by omega)
            rw [if_pos c4, if_neg e10]
            refine ⟨_, rfl, ff.sI (by simp), ?_, ?_, ?_, ?_, ?_⟩
            · intro k a b d g
              rw [I_sI, if_neg (by omega), I_sI, if_neg (by omega), kk k a b]
            · rw [I_sI, if_neg (by omega), I_sI, if_neg (by omega), I_sI, if_neg (by omega), I_sI, if_pos ⟨rfl, rfl⟩]
            · rw [I_sI, if_neg (by omega), I_sI, if_neg (by omega), I_sI, if_pos ⟨rfl, rfl⟩]
            · rw [I_sI, if_neg (by omega), I_sI, if_pos ⟨rfl, rfl⟩]
            · rw [if_pos hh, I_sI, if_pos ⟨rfl, rfl⟩]
          · rw [if_neg c4, if_pos rfl]
            exact plain (fun hh => c4 (wi_t.mpr (by have := of_decide_eq_true hh; omega)))
  have kc : am_I (am_sI (am_sI s 55 39 en) 55 40 (tu + sp)) 55 41 = ca := by rw [I_sI, if_neg (by omega), I_sI, if_neg (by omega)]; exact h41
  by_cases c : wi sp.toInt (-2) 2 = true
  · have c' := wi_t.mp c
    rw [if_pos c, if_neg e10, kc]
    have w1 : ¬ sp < -2 := by rw [Int32.lt_iff_toInt_lt, r2]; omega
    have w2 : sp ≤ 2 := by rw [Int32.le_iff_toInt_le, r3]; omega
    rw [if_neg w1, if_pos w2]
    exact rest (ca + 1)
  · rw [if_neg c, if_pos rfl]
    have ee : (if sp < -2 then (0 : Int32) else if sp ≤ 2 then ca + 1 else 0) = 0 := by
      by_cases w1 : sp < -2
      · rw [if_pos w1]
      · rw [if_neg w1]
        by_cases w2 : sp ≤ 2
        · exfalso
          rw [Int32.lt_iff_toInt_lt, r2] at w1
          rw [Int32.le_iff_toInt_le, r3] at w2
          exact c (wi_t.mpr (by omega))
        · rw [if_neg w2]
    rw [ee]
    exact rest 0
end MT3

