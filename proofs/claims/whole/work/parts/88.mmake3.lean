/-- the model has measured the paper -/
def mM (s : am_S) (P : Ppr) : Prop := mP s P ∧ mD s P.2.2 ∧ am_I s 55 23 = oN (sm (fA P.2.2) 288) ∧ am_I s 55 24 = oN P.2.2.length ∧ am_I s 55 25 = oN (sm (fF P.2.2) 288) ∧ am_I s 55 26 = oN (sm (fW P.2.2) 288) ∧ am_I s 55 27 = lever P.2.2
section MS
variable {s : am_S} {R C n k : Nat} {l : List Pos} {P : Ppr}
theorem div12 (h : k < 2147483648) : oN k / 12 = oN (k / 12) := (Int32.ofNat_div (a := k) (b := 12) h (by omega)).symm
theorem oL (h : n < 2147483648) : (oN n).toInt64 = Int64.ofInt n := by
  have m1 : Int32.minValue.toInt = -2147483648 := rfl
  have m2 : Int32.maxValue.toInt = 2147483647 := rfl
  rw [oI]
  exact Int32.toInt64_ofInt (by rw [m1]; omega) (by rw [m2]; omega)
theorem lever_64 (h : onP R C l) (hR : R ≤ 24) (hC : C ≤ 12) (hl : 1 ≤ l.length) (hl2 : l.length ≤ 288) :
    (((10 : Int64) * (((oN (sm (fW l) 288)).toInt64 * (oN l.length).toInt64) - ((oN (sm (fF l) 288)).toInt64 * (oN (sm (fA l) 288)).toInt64))) / ((oN (sm (fA l) 288)).toInt64 * (oN l.length).toInt64)).toInt32 = lever l ∧ ¬ ((oN (sm (fA l) 288)).toInt64 * (oN l.length).toInt64) = 0 := by
  have b1 := sm_fW_le (l := l)
  have b2 := sm_fF_le h hR hC
  have b3 := sm_fA_le (l := l)
  have b4 := sm_fA_pos h hR hC hl
  have c1 : sm (fW l) 288 * l.length ≤ 13536 * 288 := Nat.mul_le_mul b1 hl2
  have c2 : sm (fF l) 288 * sm (fA l) 288 ≤ (288 * 47) * 288 := Nat.mul_le_mul (by omega) b3
  have c3 : sm (fA l) 288 * l.length ≤ 288 * 288 := Nat.mul_le_mul b3 hl2
  have c4 : 1 * 1 ≤ sm (fA l) 288 * l.length := Nat.mul_le_mul b4 hl
  have d1 : ((sm (fW l) 288 : Int) * l.length) = ((sm (fW l) 288 * l.length : Nat) : Int) := by rw [Int.natCast_mul]
  have d2 : ((sm (fF l) 288 : Int) * (sm (fA l) 288 : Int)) = ((sm (fF l) 288 * sm (fA l) 288 : Nat) : Int) := by rw [Int.natCast_mul]
  have d3 : ((sm (fA l) 288 : Int) * l.length) = ((sm (fA l) 288 * l.length : Nat) : Int) := by rw [Int.natCast_mul]
  have m1 : Int64.minValue.toInt = -9223372036854775808 := rfl
  have m2 : Int64.maxValue.toInt = 9223372036854775807 := rfl
  rw [oL (by omega), oL (by omega), oL (by omega), oL (by omega), ← Int64.ofInt_mul, ← Int64.ofInt_mul, ← Int64.ofInt_mul, ← Int64.ofInt_sub, show (10 : Int64) = Int64.ofInt 10 from rfl, ← Int64.ofInt_mul]
  unfold lever
  rw [d1, d2, d3]
  refine ⟨?_, ?_⟩
  · rw [← Int64.ofInt_tdiv (by rw [m1]; omega) (by rw [m2]; omega) (by rw [m1]; omega) (by rw [m2]; omega), Int64.toInt32_ofInt]
  · intro hh
    have := congrArg Int64.toInt hh
    rw [Int64.toInt_ofInt_of_le (by omega) (by omega)] at this
    have z : (0 : Int64).toInt = 0 := rfl
    rw [z] at this
    omega
theorem meas_in (hb : ∀ j, cnk l j ≤ 288) : ∀ (m k : Nat) (s : am_S), 288 - k < m → k ≤ 288 → mD s l → am_I s 55 23 = oN (sm (fA l) k) → am_I s 55 25 = oN (sm (fF l) k) → am_I s 55 26 = oN (sm (fW l) k) →
    ∃ s', L_X8_measure_29 m (oN k) s = some (.inr ((), s')) ∧ fr [55] s s' ∧ (∀ j, j ≠ 23 → j ≠ 25 → j ≠ 26 → am_I s' 55 j = am_I s 55 j) ∧ am_I s' 55 23 = oN (sm (fA l) 288) ∧ am_I s' 55 25 = oN (sm (fF l) 288) ∧ am_I s' 55 26 = oN (sm (fW l) 288) := by
  intro m
  induction m with
  | zero => intro k s hm; exact absurd hm (Nat.not_lt_zero _)
  | succ m ih =>
    intro k s hm hk hD w1 w2 w3
    rw [L_X8_measure_29]
    by_cases e : 288 ≤ k
    · rw [if_pos ((oN_leR (by omega) (by omega)).mpr e)]
      have : k = 288 := by omega
      subst this
      exact ⟨s, rfl, fr.refl, fun j _ _ _ => rfl, w1, w2, w3⟩
    · have h1 := hb k
      have hin : am_in (oN k) 288 = true := by rw [am_in_oN (by omega)]; exact decide_eq_true (by omega)
      rw [if_neg (fun hh => e ((oN_leR (by omega) (by omega)).mp hh)), if_pos hin, oN_nat (by omega), hD k (by omega), oN_addL]
      by_cases e2 : cnk l k = 0
      · rw [if_pos (by rw [e2]; rfl)]
        exact ih (k + 1) s (by omega) (by omega) hD (by rw [w1]; show _ = oN (sm (fA l) k + fA l k); rw [fA0 e2, Nat.add_zero]) (by rw [w2]; show _ = oN (sm (fF l) k + fF l k); rw [fF0 e2, Nat.add_zero]) (by rw [w3]; show _ = oN (sm (fW l) k + fW l k); rw [fW0 e2, Nat.add_zero])
      · have e3 : ¬ oN (cnk l k) = 0 := fun hh => e2 ((oN_eq (a := cnk l k) (b := 0) (by omega) (by omega)).mp hh)
        rw [if_neg e3, if_pos hin, div12 (by omega), oN_mulR, oN_addL, oN_mul, w1, w2, w3, oN_add, oN_add, oN_addL]
        unfold ax_le
        obtain ⟨s', z1, z2, z3, z4⟩ := ih (k + 1) (am_sI (am_sI (am_sI s 55 23 (oN (sm (fA l) k + 1))) 55 26 (oN (sm (fW l) k + (2 * (k / 12) + 1)))) 55 25 (oN (sm (fF l) k + (2 * (k / 12) + 1) * cnk l k))) (by omega) (by omega) (fun j hj => by rw [I_ne (by decide), I_ne (by decide), I_ne (by decide)]; exact hD j hj) (by
            rw [I_sI, if_neg (by omega), I_sI, if_neg (by omega), I_sI, if_pos ⟨rfl, rfl⟩]
            show _ = oN (sm (fA l) k + fA l k)
            unfold fA; rw [if_neg e2]) (by
            rw [I_sI, if_pos ⟨rfl, rfl⟩]
            show _ = oN (sm (fF l) k + fF l k)
            unfold fF; rw [Nat.mul_comm]) (by
            rw [I_sI, if_neg (by omega), I_sI, if_pos ⟨rfl, rfl⟩]
            show _ = oN (sm (fW l) k + fW l k)
            unfold fW; rw [if_neg e2])
        refine ⟨s', z1, (((fr.refl.sI (by simp)).sI (by simp)).sI (by simp)).trans z2, ?_, z4⟩
        intro j h1 h2 h3
        rw [z3 j h1 h2 h3, I_sI, if_neg (by omega), I_sI, if_neg (by omega), I_sI, if_neg (by omega)]
theorem m_measure (hk : okP P) (hp : mP s P) : ∃ s', f_X8_measure s = some (.inl none, s') ∧ fr [55, 64] s s' ∧ (∀ j, j < 23 ∨ 27 < j → am_I s' 55 j = am_I s 55 j) ∧ mM s' P := by
  obtain ⟨s1, w1, w2, w3⟩ := m_count hk hp
  obtain ⟨k1, k2, k3, k4, k5, k6, k7, k8⟩ := hk
  have hb : ∀ j, cnk P.2.2 j ≤ 288 := fun j => Nat.le_trans (List.count_le_length) k8
  have hp1 := mP_64 hp w2
  obtain ⟨s2, z1, z2, z3, z4, z5, z6⟩ := meas_in (l := P.2.2) hb ax_fuel 0 (am_sI (am_sI (am_sI (am_sI s1 55 23 0) 55 24 (am_I s1 55 20)) 55 25 0) 55 26 0) (by rw [ax_fuel_is]; omega) (by omega) (fun j hj => by rw [I_ne (by decide), I_ne (by decide), I_ne (by decide), I_ne (by decide)]; exact w3 j hj) (by rw [I_sI, if_neg (by omega), I_sI, if_neg (by omega), I_sI, if_neg (by omega), I_sI, if_pos ⟨rfl, rfl⟩]; rfl) (by rw [I_sI, if_neg (by omega), I_sI, if_pos ⟨rfl, rfl⟩]; rfl) (by rw [I_sI, if_pos ⟨rfl, rfl⟩]; rfl)
  have z1' : L_X8_measure_29 ax_fuel 0 (am_sI (am_sI (am_sI (am_sI s1 55 23 0) 55 24 (am_I s1 55 20)) 55 25 0) 55 26 0) = some (.inr ((), s2)) := z1
  have z24 : am_I s2 55 24 = oN P.2.2.length := by
    rw [z3 24 (by omega) (by omega) (by omega), I_sI, if_neg (by omega), I_sI, if_neg (by omega), I_sI, if_pos ⟨rfl, rfl⟩]; exact hp1.2.2.1
  obtain ⟨l1, l2⟩ := lever_64 k5 k2 k4 k7 k8
  have ef : f_X8_measure s = some (.inl none, am_sI s2 55 27 (lever P.2.2)) := by
    unfold f_X8_measure
    rw [w1]
    show am_lm _ _ = _
    rw [z1']
    show (if ¬ _ then _ else none) = _
    rw [z4, z5, z6, z24, if_pos l2]
    show some (Sum.inl none, am_sI s2 55 27 _) = _
    rw [l1]
  have f1 : fr [55, 64] s s2 := (((((w2.mono (by decide)).sI (by simp)).sI (by simp)).sI (by simp)).sI (by simp)).trans (z2.mono (by decide))
  refine ⟨_, ef, f1.sI (by simp), ?_, ⟨?_, ?_, ?_, ?_⟩, ?_, ?_, ?_, ?_, ?_, ?_⟩
  · intro j hj
    rw [I_sI, if_neg (by omega), z3 j (by omega) (by omega) (by omega), I_sI, if_neg (by omega), I_sI, if_neg (by omega), I_sI, if_neg (by omega), I_sI, if_neg (by omega), w2.I (by decide)]
  · rw [I_sI, if_neg (by omega), z3 21 (by omega) (by omega) (by omega), I_sI, if_neg (by omega), I_sI, if_neg (by omega), I_sI, if_neg (by omega), I_sI, if_neg (by omega)]; exact hp1.1
  · rw [I_sI, if_neg (by omega), z3 22 (by omega) (by omega) (by omega), I_sI, if_neg (by omega), I_sI, if_neg (by omega), I_sI, if_neg (by omega), I_sI, if_neg (by omega)]; exact hp1.2.1
  · rw [I_sI, if_neg (by omega), z3 20 (by omega) (by omega) (by omega), I_sI, if_neg (by omega), I_sI, if_neg (by omega), I_sI, if_neg (by omega), I_sI, if_neg (by omega)]; exact hp1.2.2.1
  · intro k p hk
    rw [I_ne (by decide), I_ne (by decide), z2.I (by decide), z2.I (by decide), I_ne (by decide), I_ne (by decide), I_ne (by decide), I_ne (by decide), I_ne (by decide), I_ne (by decide), I_ne (by decide), I_ne (by decide)]
    exact hp1.2.2.2 k p hk
  · intro j hj
    rw [I_ne (by decide), z2.I (by decide), I_ne (by decide), I_ne (by decide), I_ne (by decide), I_ne (by decide)]
    exact w3 j hj
  · rw [I_sI, if_neg (by omega)]; exact z4
  · rw [I_sI, if_neg (by omega)]; exact z24
  · rw [I_sI, if_neg (by omega)]; exact z5
  · rw [I_sI, if_neg (by omega)]; exact z6
  · rw [I_sI, if_pos ⟨rfl, rfl⟩]
/-- the folds of a way of the model -/
theorem makes_in {w : Nat} {fs : List T2} (hw : w < 6) (hl : fs.length ≤ 11) (hok : ∀ q ∈ fs, okF q) : ∀ (m i : Nat) (s : am_S) (P : Ppr), fs.length - i < m → i ≤ fs.length → am_I s 56 (31 + 23 * w) = oN fs.length → hp2 (am_I s 56) (32 + 23 * w) 2 fs → okP P → mP s P →
    ∃ s', fr [55, 62, 63, 64] s s' ∧ (∀ j, j ≠ 21 → j ≠ 22 → am_I s' 55 j = am_I s 55 j) ∧ ((∃ j, fos ((fs.drop i).map n2) i P = .inl j ∧ L_X8_makes_6 m (oN w) (oN i) s = some (.inl (.inl (some (.int (oN j))), s'))) ∨
      (∃ P', fos ((fs.drop i).map n2) i P = .inr P' ∧ L_X8_makes_6 m (oN w) (oN i) s = some (.inr ((), s')) ∧ okP P' ∧ mP s' P')) := by
  intro m
  induction m with
  | zero => intro i s P hm; exact absurd hm (Nat.not_lt_zero _)
  | succ m ih =>
    intro i s P hm hi h1 h2 hk hp
    have e1 : (31 : Int32) + (23 : Int32) * oN w = oN (31 + 23 * w) := by rw [oN_mulR, oN_addR]
    have ef : f_X8_foldsOf (oN w) s = some (.inl (some (.int (oN fs.length))), s) := by
      unfold f_X8_foldsOf
      rw [e1, if_pos (by rw [am_in_oN (by omega)]; exact decide_eq_true (by omega)), oN_nat (by omega), h1]
    have eat : f_X8_foldAt (oN w) (oN i) s = some (.inl (some (.int (oN (32 + 23 * w + 2 * i)))), s) := by
      unfold f_X8_foldAt
      rw [e1, oN_addL, oN_mulR, oN_add]
      have : 31 + 23 * w + 1 + 2 * i = 32 + 23 * w + 2 * i := by omega
      show some (Sum.inl (some (Value.int (oN (31 + 23 * w + 1 + 2 * i)))), s) = _
      rw [this]
    rw [L_X8_makes_6, ef]
    show (∃ s', fr [55, 62, 63, 64] s s' ∧ _ ∧ ((∃ j, _ ∧ (if oN fs.length ≤ oN i then _ else _) = _) ∨ (∃ P', _ ∧ (if oN fs.length ≤ oN i then _ else _) = _ ∧ _)))
    by_cases e : fs.length ≤ i
    · rw [if_pos ((oN_le (by omega) (by omega)).mpr e)]
      have : fs.drop i = [] := List.drop_eq_nil_of_le e
      rw [this]
      exact ⟨s, fr.refl, fun j _ _ => rfl, Or.inr ⟨P, rfl, rfl, hk, hp⟩⟩
    · have hi2 : i < fs.length := by omega
      have hd : fs.drop i = fs[i] :: fs.drop (i + 1) := List.drop_eq_getElem_cons hi2
      have hg : fs[i]? = some fs[i] := List.getElem?_eq_getElem hi2
      obtain ⟨g1, g2⟩ := h2 i fs[i] hg
      have ok := okF_n2 (hok _ (List.getElem_mem hi2))
      have hin1 : am_in (oN (32 + 23 * w + 2 * i)) 264 = true := by rw [am_in_oN (by omega)]; exact decide_eq_true (by omega)
      have hin2 : am_in (oN (32 + 23 * w + 2 * i) + 1) 264 = true := by rw [oN_addL, am_in_oN (by omega)]; exact decide_eq_true (by show 32 + 23 * w + 2 * i + 1 < 264; omega)
      have en1 : (oN (32 + 23 * w + 2 * i)).toNatClampNeg = 32 + 23 * w + 2 * i := oN_nat (by omega)
      have en2 : (oN (32 + 23 * w + 2 * i) + 1).toNatClampNeg = 32 + 23 * w + 2 * i + 1 := by rw [oN_addL]; exact oN_nat (by show 32 + 23 * w + 2 * i + 1 < 2147483648; omega)
      rw [if_neg (fun hh => e ((oN_le (by omega) (by omega)).mp hh)), eat]
      unfold am_bi
      show (∃ s', fr [55, 62, 63, 64] s s' ∧ _ ∧ ((∃ j, _ ∧ (if am_in _ 264 = true then _ else none) = _) ∨ (∃ P', _ ∧ (if am_in _ 264 = true then _ else none) = _ ∧ _)))
      rw [if_pos hin1, eat]
      show (∃ s', fr [55, 62, 63, 64] s s' ∧ _ ∧ ((∃ j, _ ∧ (if am_in _ 264 = true then _ else none) = _) ∨ (∃ P', _ ∧ (if am_in _ 264 = true then _ else none) = _ ∧ _)))
      rw [if_pos hin2, en1, en2, g1, g2, ok.1, ok.2.1, hd, List.map_cons]
      obtain ⟨s1, q1, q0, ⟨P1, q2, q3, q4⟩ | ⟨q2, q3⟩⟩ := m_fold (k := (n2 fs[i]).1) (n := (n2 fs[i]).2) hk hp ok.2.2.1 (by omega)
      · have ef : fos (n2 fs[i] :: (fs.drop (i + 1)).map n2) i P = fos ((fs.drop (i + 1)).map n2) (i + 1) P1 := by
          rw [fos, q2]
        rw [q3, ef]
        obtain ⟨s', z1, z2, z3⟩ := ih (i + 1) s1 P1 (by omega) (by omega) (by rw [q1.I (by decide)]; exact h1) (by rw [q1.I (by decide)]; exact h2) (fo_ok hk q2) q4
        refine ⟨s', q1.trans z1, fun j h1 h2 => (z2 j h1 h2).trans (q0 j h1 h2), ?_⟩
        have e10 : ¬ ((1 : Int32) = 0) := by decide
        show ((∃ j, _ ∧ (if (1 : Int32) = 0 then _ else _) = _) ∨ (∃ P', _ ∧ (if (1 : Int32) = 0 then _ else _) = _ ∧ _))
        rw [if_neg e10, oN_addL]
        exact z3
      · rw [q3]
        refine ⟨s1, q1, q0, Or.inl ⟨i, by rw [fos, q2], ?_⟩⟩
        show (if (0 : Int32) = 0 then _ else _) = _
        rw [if_pos rfl]
theorem m_makes {w : Nat} {fs : List T2} (hw : w < 6) (hl : fs.length ≤ 11) (hok : ∀ q ∈ fs, okF q) (h1 : am_I s 56 (31 + 23 * w) = oN fs.length) (h2 : hp2 (am_I s 56) (32 + 23 * w) 2 fs) (h3 : am_I s 56 0 = oN R) (h4 : am_I s 56 1 = oN C) (r1 : 4 ≤ R) (r2 : R ≤ 24) (c1 : 3 ≤ C) (c2 : C ≤ 12) :
    ∃ s', fr [55, 62, 63, 64] s s' ∧ (∀ j, j < 20 ∨ 27 < j → am_I s' 55 j = am_I s 55 j) ∧ ((∃ j, fos (fs.map n2) 0 (flat R C) = .inl j ∧ f_X8_makes (oN w) s = some (.inl (some (.int (oN j))), s')) ∨
      (∃ P, fos (fs.map n2) 0 (flat R C) = .inr P ∧ f_X8_makes (oN w) s = some (.inl (some (.int (-1))), s') ∧ okP P ∧ mM s' P)) := by
  obtain ⟨s1, w1, w2, w3, w4⟩ := m_flat h3 h4 r2 c2
  obtain ⟨s2, z1, z0, z2⟩ := makes_in hw hl hok ax_fuel 0 s1 (flat R C) (by rw [ax_fuel_is]; omega) (by omega) (by rw [w2.I (by decide)]; exact h1) (by rw [w2.I (by decide)]; exact h2) (flat_ok r1 r2 c1 c2) w3
  rw [List.drop_zero] at z2
  unfold f_X8_makes
  rw [w1]
  unfold am_bu
  rcases z2 with ⟨j, e1, e2⟩ | ⟨P, e1, e2, e3, e4⟩
  · have e2' : L_X8_makes_6 ax_fuel (oN w) 0 s1 = some (.inl (.inl (some (.int (oN j))), s2)) := e2
    refine ⟨s2, (w2.mono (by decide)).trans z1, fun j hj => (z0 j (by omega) (by omega)).trans (w4 j (by omega) (by omega) (by omega)), Or.inl ⟨j, e1, ?_⟩⟩
    show am_lm (L_X8_makes_6 ax_fuel (oN w) 0 s1) _ = _
    rw [e2']
    rfl
  · have e2' : L_X8_makes_6 ax_fuel (oN w) 0 s1 = some (.inr ((), s2)) := e2
    obtain ⟨s3, y1, y2, y3, y4⟩ := m_measure e3 e4
    refine ⟨s3, ((w2.mono (by decide)).trans z1).trans (y2.mono (by decide)), fun j hj => (y3 j (by omega)).trans ((z0 j (by omega) (by omega)).trans (w4 j (by omega) (by omega) (by omega))), Or.inr ⟨P, e1, ?_, e3, y4⟩⟩
    show am_lm (L_X8_makes_6 ax_fuel (oN w) 0 s1) _ = _
    rw [e2']
    unfold am_lm
    show (match f_X8_measure s2 with | some (Sum.inl none, s) => _ | _ => _) = _
    rw [y1]
end MS
