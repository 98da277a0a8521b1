/-! ===== steps of the reader: class and model together ===== -/
section STP
variable {s s1 s2 t t1 t2 : am_S} {A B : List Nat} {n p b e k j d : Nat} {tp : Nat → Int32} {x v lo hi : Int32} {q q1 : TK} {w : List Int32}
theorem j_adv (h : jT s t n tp q) (ht : ∀ k, k < n → 0 ≤ (tp k).toInt) (h4 : q.1 = 1 ∨ q.1 = 2 ∨ q.1 = 3) : ∃ s1 t1 q1, f_X3_advance s = some (.inl none, s1) ∧ f_X8_next t = some (.inl none, t1) ∧ pcC s s1 ∧ pcM t t1 ∧ jT s1 t1 n tp q1 ∧ q.2.1 < q1.2.1 := by
  obtain ⟨h1, h2, h3, h5, h6, h7⟩ := h
  have hb := h3.2.2 h4
  have h4' : ¬ q.1 = 4 := by omega
  obtain ⟨s1, z1, z2, z3⟩ := c_adv h1.1 ht (h1.2.2.2.1 h4') hb.2
  obtain ⟨t1, y1, y2, y3⟩ := m_nxt h2.1 (h2.2.2.2.1 h4') hb.2
  obtain ⟨o1, o2⟩ := tok_ok (tp := tp) hb.2
  exact ⟨s1, t1, _, z1, y1, z2.pcC, y2.pcM, ⟨z3, y3, o1, (z2.2 7 (by omega)).trans h5, (z2.2 8 (by omega)).trans h6, (y2.2 13 (by omega)).trans h7⟩, by omega⟩
theorem sFail (hb : am_I s 34 5 = oN b) : am_I (am_sI (am_sI s 34 7 x) 34 8 (am_I s 34 5)) 34 7 = x ∧ am_I (am_sI (am_sI s 34 7 x) 34 8 (am_I s 34 5)) 34 8 = oN b ∧ pcC s (am_sI (am_sI s 34 7 x) 34 8 (am_I s 34 5)) := by
  refine ⟨?_, ?_, (fr.refl.sI (by simp)).sI (by simp), ?_⟩
  · rw [I_sI, if_neg (by omega), I_sI, if_pos ⟨rfl, rfl⟩]
  · rw [I_sI, if_pos ⟨rfl, rfl⟩, hb]
  · rw [I_sI, if_neg (by omega), I_sI, if_neg (by omega)]
theorem mFail (hb : am_I t 55 10 = oN b) : am_I (am_sI (am_sI t 55 13 x) 55 14 (am_I t 55 10)) 55 13 = x ∧ am_I (am_sI (am_sI t 55 13 x) 55 14 (am_I t 55 10)) 55 14 = oN b ∧ pcM t (am_sI (am_sI t 55 13 x) 55 14 (am_I t 55 10)) := by
  refine ⟨?_, ?_, (fr.refl.sI (by simp)).sI (by simp), fun k hk => ?_⟩
  · rw [I_sI, if_neg (by omega), I_sI, if_pos ⟨rfl, rfl⟩]
  · rw [I_sI, if_pos ⟨rfl, rfl⟩, hb]
  · rw [I_sI, if_neg (by omega), I_sI, if_neg (by omega)]
theorem e4 (hq : q.1 ≤ 4) : (oN q.1 = (4 : Int32)) ↔ q.1 = 4 := by rw [show (4 : Int32) = oN 4 from rfl, oN_eq (by omega) (by omega)]
theorem j_ref (h : jT s t n tp q) : ∃ s1 t1, f_X3_refuse s = some (.inl none, s1) ∧ f_X8_blames 2 t = some (.inl none, t1) ∧ pcC s s1 ∧ pcM t t1 ∧ jF s1 t1 := by
  obtain ⟨h1, h2, h3, h5, h6, h7⟩ := h
  have hn := h1.1.1
  have hb := h3.2.1
  unfold f_X3_refuse f_X8_blames f_X3_fail
  rw [jn_s, jn_s, h7, if_pos rfl, h1.2.1, h2.2.1]
  by_cases c : q.1 = 4
  · rw [if_pos ((e4 h3.1).mpr c), if_pos ((e4 h3.1).mpr c)]
    obtain ⟨a1, a2, a3⟩ := sFail (x := 1) h1.2.2.1
    obtain ⟨b1, b2, b3⟩ := mFail (x := 1) h2.2.2.1
    exact ⟨_, _, rfl, rfl, a3, b3, 1, q.2.1, by omega, by omega, by omega, a1, a2, b1, b2⟩
  · rw [if_neg (fun h => c ((e4 h3.1).mp h)), if_neg (fun h => c ((e4 h3.1).mp h))]
    obtain ⟨a1, a2, a3⟩ := sFail (x := 2) h1.2.2.1
    obtain ⟨b1, b2, b3⟩ := mFail (x := 2) h2.2.2.1
    exact ⟨_, _, rfl, rfl, a3, b3, 2, q.2.1, by omega, by omega, by omega, a1, a2, b1, b2⟩
theorem j_fail (h : jT s t n tp q) (h4 : ¬ q.1 = 4) (hk : 1 ≤ k ∧ k ≤ 4) : ∃ s1 t1, f_X3_fail (oN k) s = some (.inl none, s1) ∧ f_X8_blames (oN k) t = some (.inl none, t1) ∧ pcC s s1 ∧ pcM t t1 ∧ jF s1 t1 := by
  obtain ⟨h1, h2, h3, h5, h6, h7⟩ := h
  have hn := h1.1.1
  have hb := h3.2.1
  unfold f_X8_blames f_X3_fail
  rw [jn_s, h7, if_pos rfl, h2.2.1, if_neg (fun h => h4 ((e4 h3.1).mp h))]
  obtain ⟨a1, a2, a3⟩ := sFail (x := oN k) h1.2.2.1
  obtain ⟨b1, b2, b3⟩ := mFail (x := oN k) h2.2.2.1
  exact ⟨_, _, rfl, rfl, a3, b3, k, q.2.1, by omega, by omega, by omega, a1, a2, b1, b2⟩
theorem jF.m (h : jF s t) : ¬ am_I t 55 13 = 0 := by
  obtain ⟨fk, b, h1, h2, h3, h4, h5, h6, h7⟩ := h
  rw [h6, show (0 : Int32) = oN 0 from rfl, oN_eq (by omega) (by omega)]
  omega
theorem jF.c (h : jF s t) : ¬ am_I s 34 7 = 0 := by
  obtain ⟨fk, b, h1, h2, h3, h4, h5, h6, h7⟩ := h
  rw [h4, show (0 : Int32) = oN 0 from rfl, oN_eq (by omega) (by omega)]
  omega
theorem j_num (h : jT s t n tp q) (ht : ∀ k, k < n → 0 ≤ (tp k).toInt) : ∃ s1 t1 v v1, f_X3_readNumber lo hi s = some (.inl (some (.int v)), s1) ∧ f_X8_number lo hi t = some (.inl (some (.int v1)), t1) ∧ pcC s s1 ∧ pcM t t1 ∧
    ((v1 = v ∧ lo.toInt ≤ v.toInt ∧ v.toInt ≤ hi.toInt ∧ ∃ q1, jT s1 t1 n tp q1 ∧ q.2.1 < q1.2.1) ∨ jF s1 t1) := by
  have h' := h
  obtain ⟨h1, h2, h3, h5, h6, h7⟩ := h
  have hn := h1.1.1
  have hq1 := h3.1
  unfold f_X3_readNumber f_X8_number
  rw [jn_s, jn_s, h5, if_pos rfl, h1.2.1, h2.2.1]
  by_cases c : q.1 = 2
  · have e2 : oN q.1 = (2 : Int32) := by rw [c]; rfl
    rw [if_pos e2, if_pos e2, h1.2.2.2.2 c, h2.2.2.2.2 c, f_within, bi_s, i01, Int32.toInt_toInt64, Int32.toInt_toInt64, Int32.toInt_toInt64]
    by_cases c2 : lo.toInt ≤ q.2.2.2.toInt ∧ q.2.2.2.toInt ≤ hi.toInt
    · obtain ⟨s1, t1, q1, z1, y1, z2, y2, z3, z4⟩ := j_adv h' ht (Or.inr (Or.inl c))
      have l1 : ¬ q.2.2.2 < lo := by rw [Int32.lt_iff_toInt_lt]; omega
      have l2 : q.2.2.2 ≤ hi := by rw [Int32.le_iff_toInt_le]; omega
      rw [if_neg l1, if_pos l2, if_pos (wi_t.mpr c2), z1, bu_s]
      dsimp only
      rw [if_pos h7, y1, bu_s]
      exact ⟨s1, t1, _, _, rfl, rfl, z2, y2, Or.inl ⟨h2.2.2.2.2 c, c2.1, c2.2, q1, z3, z4⟩⟩
    · obtain ⟨s1, t1, z1, y1, z2, y2, z3⟩ := j_fail (k := 3) h' (by omega) (by omega)
      have key : (if q.2.2.2 < lo then (fun (e4 : Unit) s5 => am_bu (f_X3_fail (3 : Int32) s5) (fun s6 => some (.inl (some (.int (0 : Int32))), s6))) () s else if q.2.2.2 ≤ hi then am_bu (f_X3_advance s) (fun s10 => some (.inl (some (.int q.2.2.2)), s10)) else (fun (e4 : Unit) s5 => am_bu (f_X3_fail (3 : Int32) s5) (fun s6 => some (.inl (some (.int (0 : Int32))), s6))) () s : am_F) = some (.inl (some (.int 0)), s1) := by
        have kk : (am_bu (f_X3_fail (3 : Int32) s) (fun s6 => some (.inl (some (.int (0 : Int32))), s6)) : am_F) = some (.inl (some (.int 0)), s1) := by rw [show f_X3_fail (3 : Int32) s = _ from z1, bu_s]
        by_cases l1 : q.2.2.2 < lo
        · rw [if_pos l1]; exact kk
        · rw [if_neg l1]
          have l2 : ¬ q.2.2.2 ≤ hi := by
            rw [Int32.lt_iff_toInt_lt] at l1
            rw [Int32.le_iff_toInt_le]; omega
          rw [if_neg l2]; exact kk
      rw [key, if_neg (fun h => c2 (wi_t.mp h)), show f_X8_blames (3 : Int32) t = _ from y1, bu_s]
      dsimp only
      rw [if_neg z3.m]
      exact ⟨s1, t1, _, _, rfl, rfl, z2, y2, Or.inr z3⟩
  · have e2 : ¬ oN q.1 = (2 : Int32) := by rw [show (2 : Int32) = oN 2 from rfl, oN_eq (by omega) (by omega)]; exact c
    obtain ⟨s1, t1, z1, y1, z2, y2, z3⟩ := j_ref h'
    rw [if_neg e2, if_neg e2, z1, bu_s, y1, bu_s]
    dsimp only
    rw [if_neg z3.m]
    exact ⟨s1, t1, _, _, rfl, rfl, z2, y2, Or.inr z3⟩
theorem j_stop (h : jT s t n tp q) (ht : ∀ k, k < n → 0 ≤ (tp k).toInt) : ∃ s1 t1, f_X3_readStop s = some (.inl none, s1) ∧ f_X8_stop t = some (.inl none, t1) ∧ pcC s s1 ∧ pcM t t1 ∧ ((∃ q1, jT s1 t1 n tp q1 ∧ q.2.1 < q1.2.1) ∨ jF s1 t1) := by
  have h' := h
  obtain ⟨h1, h2, h3, h5, h6, h7⟩ := h
  have hn := h1.1.1
  have hq1 := h3.1
  unfold f_X3_readStop f_X8_stop
  rw [jn_s, h5, if_pos rfl, h1.2.1, h7, if_pos rfl, h2.2.1]
  by_cases c : q.1 = 3
  · have e2 : oN q.1 = (3 : Int32) := by rw [c]; rfl
    obtain ⟨s1, t1, q1, z1, y1, z2, y2, z3, z4⟩ := j_adv h' ht (Or.inr (Or.inr c))
    rw [if_pos e2, if_pos e2, z1, bu_s]
    dsimp only
    rw [if_pos h7, y1, bu_s]
    exact ⟨s1, t1, rfl, rfl, z2, y2, Or.inl ⟨q1, z3, z4⟩⟩
  · have e2 : ¬ oN q.1 = (3 : Int32) := by rw [show (3 : Int32) = oN 3 from rfl, oN_eq (by omega) (by omega)]; exact c
    obtain ⟨s1, t1, z1, y1, z2, y2, z3⟩ := j_ref h'
    rw [if_neg e2, if_neg e2, z1, bu_s, y1, bu_s]
    dsimp only
    rw [if_neg z3.m]
    exact ⟨s1, t1, rfl, rfl, z2, y2, Or.inr z3⟩
theorem j_stopF (h : jF s t) : f_X3_readStop s = some (.inl none, s) ∧ f_X8_stop t = some (.inl none, t) := by
  unfold f_X3_readStop f_X8_stop
  rw [jn_s, if_neg h.c, if_neg h.m]
  dsimp only
  rw [if_neg h.m]
  exact ⟨rfl, rfl⟩
/-- a reading begins -/
theorem j_beg {N : Nat} (hN : N ≤ 400) (hn : n ≤ N) (hs : am_I s 34 1 = oN N) (h1 : ∀ k, k < N → am_I s 35 k = tp k) (h2 : ∀ k, k < N → am_I t 59 k = tp k) (ht : ∀ k, k < N → 0 ≤ (tp k).toInt) : ∃ s1 t1 q1, f_X3_begin (oN n) s = some (.inl none, s1) ∧ f_X8_begins (oN n) t = some (.inl none, t1) ∧ fr [34] s s1 ∧ am_I s1 34 1 = 0 ∧ fr [55] t t1 ∧ am_I t1 55 7 = 0 ∧ (∀ k, k < 7 ∨ 14 < k → am_I t1 55 k = am_I t 55 k) ∧ jT s1 t1 n tp q1 := by
  have hm : am_min (oN n) (am_I s 34 1) = oN n := by
    rw [hs]
    unfold am_min
    rw [if_neg (by rw [oN_lt (by omega) (by omega)]; omega)]
  unfold f_X3_begin f_X8_begins
  rw [hm]
  have fs : fr [34] s (am_sI (am_sI (am_sI (am_sI (am_sI s 34 2 (oN n)) 34 1 (0 : Int32)) 34 3 (0 : Int32)) 34 7 (0 : Int32)) 34 8 (-1 : Int32)) := ((((fr.refl.sI (by simp)).sI (by simp)).sI (by simp)).sI (by simp)).sI (by simp)
  have a1 : am_I (am_sI (am_sI (am_sI (am_sI (am_sI s 34 2 (oN n)) 34 1 (0 : Int32)) 34 3 (0 : Int32)) 34 7 (0 : Int32)) 34 8 (-1 : Int32)) 34 1 = 0 := by rw [I_sI, if_neg (by omega), I_sI, if_neg (by omega), I_sI, if_neg (by omega), I_sI, if_pos ⟨rfl, rfl⟩]
  have a2 : am_I (am_sI (am_sI (am_sI (am_sI (am_sI s 34 2 (oN n)) 34 1 (0 : Int32)) 34 3 (0 : Int32)) 34 7 (0 : Int32)) 34 8 (-1 : Int32)) 34 2 = oN n := by rw [I_sI, if_neg (by omega), I_sI, if_neg (by omega), I_sI, if_neg (by omega), I_sI, if_neg (by omega), I_sI, if_pos ⟨rfl, rfl⟩]
  have a3 : am_I (am_sI (am_sI (am_sI (am_sI (am_sI s 34 2 (oN n)) 34 1 (0 : Int32)) 34 3 (0 : Int32)) 34 7 (0 : Int32)) 34 8 (-1 : Int32)) 34 3 = 0 := by rw [I_sI, if_neg (by omega), I_sI, if_neg (by omega), I_sI, if_pos ⟨rfl, rfl⟩]
  have a7 : am_I (am_sI (am_sI (am_sI (am_sI (am_sI s 34 2 (oN n)) 34 1 (0 : Int32)) 34 3 (0 : Int32)) 34 7 (0 : Int32)) 34 8 (-1 : Int32)) 34 7 = 0 := by rw [I_sI, if_neg (by omega), I_sI, if_pos ⟨rfl, rfl⟩]
  have a8 : am_I (am_sI (am_sI (am_sI (am_sI (am_sI s 34 2 (oN n)) 34 1 (0 : Int32)) 34 3 (0 : Int32)) 34 7 (0 : Int32)) 34 8 (-1 : Int32)) 34 8 = -1 := by rw [I_sI, if_pos ⟨rfl, rfl⟩]
  generalize am_sI (am_sI (am_sI (am_sI (am_sI s 34 2 (oN n)) 34 1 (0 : Int32)) 34 3 (0 : Int32)) 34 7 (0 : Int32)) 34 8 (-1 : Int32) = u at fs a1 a2 a3 a7 a8
  have ft : fr [55] t (am_sI (am_sI (am_sI (am_sI t 55 8 (oN n)) 55 7 (0 : Int32)) 55 9 (0 : Int32)) 55 13 (0 : Int32)) := (((fr.refl.sI (by simp)).sI (by simp)).sI (by simp)).sI (by simp)
  have b7 : am_I (am_sI (am_sI (am_sI (am_sI t 55 8 (oN n)) 55 7 (0 : Int32)) 55 9 (0 : Int32)) 55 13 (0 : Int32)) 55 7 = 0 := by rw [I_sI, if_neg (by omega), I_sI, if_neg (by omega), I_sI, if_pos ⟨rfl, rfl⟩]
  have b8 : am_I (am_sI (am_sI (am_sI (am_sI t 55 8 (oN n)) 55 7 (0 : Int32)) 55 9 (0 : Int32)) 55 13 (0 : Int32)) 55 8 = oN n := by rw [I_sI, if_neg (by omega), I_sI, if_neg (by omega), I_sI, if_neg (by omega), I_sI, if_pos ⟨rfl, rfl⟩]
  have b9 : am_I (am_sI (am_sI (am_sI (am_sI t 55 8 (oN n)) 55 7 (0 : Int32)) 55 9 (0 : Int32)) 55 13 (0 : Int32)) 55 9 = 0 := by rw [I_sI, if_neg (by omega), I_sI, if_pos ⟨rfl, rfl⟩]
  have b13 : am_I (am_sI (am_sI (am_sI (am_sI t 55 8 (oN n)) 55 7 (0 : Int32)) 55 9 (0 : Int32)) 55 13 (0 : Int32)) 55 13 = 0 := by rw [I_sI, if_pos ⟨rfl, rfl⟩]
  have bk : ∀ k, k < 7 ∨ 14 < k → am_I (am_sI (am_sI (am_sI (am_sI t 55 8 (oN n)) 55 7 (0 : Int32)) 55 9 (0 : Int32)) 55 13 (0 : Int32)) 55 k = am_I t 55 k := by
    intro k hk
    rw [I_sI, if_neg (by omega), I_sI, if_neg (by omega), I_sI, if_neg (by omega), I_sI, if_neg (by omega)]
  generalize am_sI (am_sI (am_sI (am_sI t 55 8 (oN n)) 55 7 (0 : Int32)) 55 9 (0 : Int32)) 55 13 (0 : Int32) = z at ft b7 b8 b9 b13 bk
  obtain ⟨s1, c1, c2, c3⟩ := c_adv (s := u) (n := n) (tp := tp) (p := 0) ⟨by omega, a2, fun k hk => by rw [fs.I (by decide)]; exact h1 k (by omega)⟩ (fun k hk => ht k (by omega)) a3 (by omega)
  obtain ⟨t1, d1, d2, d3⟩ := m_nxt (t := z) (n := n) (tp := tp) (p := 0) ⟨by omega, b8, fun k hk => by rw [ft.I (by decide)]; exact h2 k (by omega)⟩ b9 (by omega)
  rw [c1, d1, bu_s, bu_s]
  exact ⟨s1, t1, tok tp n 0, rfl, rfl, fs.trans c2.1, (c2.2 1 (by omega)).trans a1, ft.trans d2.1, (d2.2 7 (by omega)).trans b7, fun k hk => (d2.2 k (by omega)).trans (bk k hk), c3, d3, (tok_ok (by omega)).1, (c2.2 7 (by omega)).trans a7, (c2.2 8 (by omega)).trans a8, (d2.2 13 (by omega)).trans b13⟩
end STP
