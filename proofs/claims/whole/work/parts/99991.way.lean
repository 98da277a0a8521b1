/-! ===== a way is read: class and model together ===== -/
def kdS (tp : Nat → Int32) (q : TK) : Int32 := if wdI tp q (wd 0) = true then 0 else if wdI tp q (wd 1) = true then 1 else if wdI tp q (wd 2) = true then 2 else -1
def frW (t : am_S) (L : List T2) : Prop := am_I t 61 0 = oN L.length ∧ hp2 (am_I t 61) 1 2 L
def eW (s s1 : am_S) : Prop := fr [34, 42, 43] s s1 ∧ am_I s1 34 1 = am_I s 34 1 ∧ am_I s1 42 1 = am_I s 42 1
def eV (t t1 : am_S) : Prop := fr [55, 61] t t1 ∧ ∀ k, k < 9 ∨ 14 < k → am_I t1 55 k = am_I t 55 k
section WAY
variable {s s1 s2 t t1 t2 : am_S} {A B : List Nat} {n p b e k j d i m : Nat} {tp : Nat → Int32} {x v lo hi : Int32} {q q1 : TK} {w : List Int32} {L : List T2}
theorem eW.refl : eW s s := ⟨fr.refl, rfl, rfl⟩
theorem eW.trans (h : eW s s1) (h' : eW s1 s2) : eW s s2 := ⟨h.1.trans h'.1, h'.2.1.trans h.2.1, h'.2.2.trans h.2.2⟩
theorem eV.refl : eV t t := ⟨fr.refl, fun _ _ => rfl⟩
theorem eV.trans (h : eV t t1) (h' : eV t1 t2) : eV t t2 := ⟨h.1.trans h'.1, fun k hk => (h'.2 k hk).trans (h.2 k hk)⟩
theorem pcC.eW (h : pcC s s1) : eW s s1 := ⟨h.1.mono (by decide), h.2, by rw [h.1.I (by decide)]⟩
theorem pcM.eV (h : pcM t t1) : eV t t1 := ⟨h.1.mono (by decide), h.2⟩
theorem eV.sI (h : eV t t1) : eV t (am_sI t1 61 k v) := ⟨h.1.sI (by simp), fun j hj => by rw [I_ne (by decide)]; exact h.2 j hj⟩
theorem wdI1 (h : wdI tp q w = true) : q.1 = 1 := by
  unfold wdI at h
  by_cases c : q.1 = 1 ∧ q.2.2.1 = q.2.1 + w.length
  · exact c.1
  · rw [if_neg c] at h; cases h
theorem kd_cases : (kdS tp q = -1) ∨ (q.1 = 1 ∧ (kdS tp q = 0 ∨ kdS tp q = 1 ∨ kdS tp q = 2)) := by
  unfold kdS
  by_cases c : wdI tp q (wd 0) = true
  · rw [if_pos c]; exact Or.inr ⟨wdI1 c, Or.inl rfl⟩
  · rw [if_neg c]
    by_cases c2 : wdI tp q (wd 1) = true
    · rw [if_pos c2]; exact Or.inr ⟨wdI1 c2, Or.inr (Or.inl rfl)⟩
    · rw [if_neg c2]
      by_cases c3 : wdI tp q (wd 2) = true
      · rw [if_pos c3]; exact Or.inr ⟨wdI1 c3, Or.inr (Or.inr rfl)⟩
      · rw [if_neg c3]; exact Or.inl rfl
theorem kstep {R : Type} {a : Nat} {G : Int32 → am_S → Option R} (h : cK s n tp q) (hq : tkO n q) (hx : txS s) (hj : j < 20) (ha : a = 1000000 + j) : am_bv (some (.inl (some (.ref a)), s)) (fun v3 s2 => am_mv v3 none (fun t4 => if (am_k0 t4).1 = 18 then am_bi (f_X3_isWord t4 s2) G else none)) = G (if wdI tp q (wd (j % 10)) = true then 1 else 0) s := by
  subst ha
  rw [bv_s, mv_r, if_pos (by rw [k0w j hj]), word_c h hq hx hj, bi_s]
theorem fw0 : f_X3_foldWord 0 s = some (.inl (some (.ref 1000000)), s) := by unfold f_X3_foldWord; rw [if_pos rfl]
theorem fw1 : f_X3_foldWord (0 + 1) s = some (.inl (some (.ref 1000001)), s) := by unfold f_X3_foldWord; rw [if_neg (by decide), if_pos (by decide)]
theorem fw2 : f_X3_foldWord (0 + 1 + 1) s = some (.inl (some (.ref 1000002)), s) := by unfold f_X3_foldWord; rw [if_neg (by decide), if_neg (by decide)]
theorem kind_c (h : cK s n tp q) (hq : tkO n q) (hx : txS s) : f_X3_kindOfWord s = some (.inl (some (.int (kdS tp q))), s) := by
  obtain ⟨m, e⟩ : ∃ q, ax_fuel = q + 4 := ⟨996, by rw [ax_fuel_is]⟩
  unfold f_X3_kindOfWord kdS
  rw [e, L_X3_kindOfWord_2, if_neg (by decide), fw0, kstep (j := 0) h hq hx (by omega) rfl, i01]
  by_cases c : wdI tp q (wd 0) = true
  · rw [if_pos c, if_pos (show wdI tp q (wd (0 % 10)) = true from c), lm_r]
  · rw [if_neg c, if_neg (show ¬ wdI tp q (wd (0 % 10)) = true from c), L_X3_kindOfWord_2, if_neg (by decide), fw1, kstep (j := 1) h hq hx (by omega) rfl, i01]
    by_cases c2 : wdI tp q (wd 1) = true
    · rw [if_pos c2, if_pos (show wdI tp q (wd (1 % 10)) = true from c2), lm_r]; rfl
    · rw [if_neg c2, if_neg (show ¬ wdI tp q (wd (1 % 10)) = true from c2), L_X3_kindOfWord_2, if_neg (by decide), fw2, kstep (j := 2) h hq hx (by omega) rfl, i01]
      by_cases c3 : wdI tp q (wd 2) = true
      · rw [if_pos c3, if_pos (show wdI tp q (wd (2 % 10)) = true from c3), lm_r]; rfl
      · rw [if_neg c3, if_neg (show ¬ wdI tp q (wd (2 % 10)) = true from c3), L_X3_kindOfWord_2, if_pos (by decide), lm_e]
theorem kd_m {R : Type} {J : Int32 → am_S → Option R} (h : mK t n tp q) (hq : tkO n q) (h0 : am_I t 55 13 = 0) (hx : txS t) : am_bi (f_X8_isWord 1000010 t) (fun v10 s9 => am_jn J (fun J11 =>
            if v10 = 0 then
              am_bi (f_X8_isWord 1000011 s9) (fun v36 s35 =>
                if v36 = 0 then
                  am_bi (f_X8_isWord 1000012 s35) (fun v39 s38 =>
                    if v39 = 0 then
                      J11 (-1 : Int32) s38
                    else
                      J11 (2 : Int32) s38
                  )
                else
                  J11 (1 : Int32) s35
              )
            else
              J11 (0 : Int32) s9
          )) = J (kdS tp q) t := by
  unfold kdS
  rw [show f_X8_isWord 1000010 t = _ from word_m (j := 10) h hq h0 hx (by omega), bi_s, jn_s, i01]
  by_cases c : wdI tp q (wd 0) = true
  · rw [if_pos c, if_pos (show wdI tp q (wd (10 % 10)) = true from c)]
  · rw [if_neg c, if_neg (show ¬ wdI tp q (wd (10 % 10)) = true from c), show f_X8_isWord 1000011 t = _ from word_m (j := 11) h hq h0 hx (by omega), bi_s, i01]
    by_cases c2 : wdI tp q (wd 1) = true
    · rw [if_pos c2, if_pos (show wdI tp q (wd (11 % 10)) = true from c2)]
    · rw [if_neg c2, if_neg (show ¬ wdI tp q (wd (11 % 10)) = true from c2), show f_X8_isWord 1000012 t = _ from word_m (j := 12) h hq h0 hx (by omega), bi_s, i01]
      by_cases c3 : wdI tp q (wd 2) = true
      · rw [if_pos c3, if_pos (show wdI tp q (wd (12 % 10)) = true from c3)]
      · rw [if_neg c3, if_neg (show ¬ wdI tp q (wd (12 % 10)) = true from c3)]
theorem c_end (h : jF s t) : L_X3_readWay_12 (m + 1) 42 x s = some (.inr ((), s)) := by
  rw [L_X3_readWay_12]
  by_cases c : (400 : Int32) < x
  · rw [if_pos c]
  · rw [if_neg c, if_neg h.c]
theorem m_end (h : jF s t) : L_X8_way_50 (m + 1) t = some (.inr ((), t)) := by
  rw [L_X8_way_50, if_neg h.m]
theorem w_in (ht : ∀ k, k < n → 0 ≤ (tp k).toInt) : ∀ (d m1 m2 i : Nat) (L : List T2) (q : TK) (s t : am_S), n - q.2.1 ≤ d → d + 2 ≤ m1 → d + 2 ≤ m2 → i ≤ q.2.1 → jT s t n tp q → txS s → txS t → cR2 s 42 L → am_I s 42 1 = 11 → frW t L → L.length ≤ 11 → (∀ f ∈ L, okF f) →
    ∃ s1 t1, L_X3_readWay_12 m1 42 (oN i) s = some (.inr ((), s1)) ∧ L_X8_way_50 m2 t = some (.inr ((), t1)) ∧ eW s s1 ∧ eV t t1 ∧ ((∃ L', cR2 s1 42 L' ∧ frW t1 L' ∧ L'.length ≤ 11 ∧ (∀ f ∈ L', okF f) ∧ am_I s1 34 7 = 0 ∧ am_I s1 34 8 = -1 ∧ am_I t1 55 13 = 0) ∨ jF s1 t1) := by
  intro d
  induction d using Nat.strongRecOn with
  | _ d ih =>
  intro m1 m2 i L q s t hd h1 h2 hi h hx hy hR h11 hW hL hok
  obtain ⟨m1, rfl⟩ : ∃ q, m1 = q + 2 := ⟨m1 - 2, by omega⟩
  obtain ⟨m2, rfl⟩ : ∃ q, m2 = q + 2 := ⟨m2 - 2, by omega⟩
  have h' := h
  obtain ⟨g1, g2, g3, g5, g6, g7⟩ := h
  have hn := g1.1.1
  have hb := g3.2.1
  have hq1 := g3.1
  rw [L_X3_readWay_12, if_neg (by rw [oN_ltR (by omega) (by omega)]; omega), if_pos g5, g1.2.1, L_X8_way_50, if_pos g7, g2.2.1]
  by_cases c0 : q.1 = 0
  · have e0 : oN q.1 = (0 : Int32) := by rw [c0]; rfl
    rw [if_pos e0, if_pos e0]
    exact ⟨s, t, rfl, rfl, eW.refl, eV.refl, Or.inl ⟨L, hR, hW, hL, hok, g5, g6, g7⟩⟩
  · have e0 : ¬ oN q.1 = (0 : Int32) := by rw [show (0 : Int32) = oN 0 from rfl, oN_eq (by omega) (by omega)]; exact c0
    rw [if_neg e0, if_neg e0, kd_m g2 g3 g7 hy]
    unfold f_X3_readFold
    rw [kind_c g1 g3 hx, bi_s, jn_s, oN_addL]
    rcases kd_cases (tp := tp) (q := q) with hk | ⟨q11, hk⟩
    · obtain ⟨s1, t1, z1, y1, z2, y2, z3⟩ := j_ref h'
      rw [if_pos hk, if_pos hk, z1, bu_s, bu_s, c_end z3]
      dsimp only
      rw [jn_s, if_pos hk]
      dsimp only
      rw [y1, bu_s, m_end z3]
      exact ⟨s1, t1, rfl, rfl, z2.eW, y2.eV, Or.inr z3⟩
    · have hk1 : ¬ kdS tp q = -1 := by rcases hk with e | e | e <;> rw [e] <;> decide
      rw [if_neg hk1, if_neg hk1, hR.1, hW.1]
      by_cases hl : L.length < 11
      · have el : ¬ oN L.length = (11 : Int32) := by rw [show (11 : Int32) = oN 11 from rfl, oN_eq (by omega) (by omega)]; omega
        obtain ⟨s1, t1, q1, z1, y1, z2, y2, z3, z4⟩ := j_adv h' ht (Or.inl q11)
        have b1 := g3.2.2 (Or.inl q11)
        have b2 := z3.2.2.1.2.1
        have in1 : am_in (oN (1 + 2 * L.length)) 23 = true := in_o (by omega) (by omega)
        have in2 : am_in (oN (2 + 2 * L.length)) 23 = true := in_o (by omega) (by omega)
        rw [if_pos ((oN_ltL (by omega) (by omega)).mpr hl), if_neg el, z1, bu_s, y1, bu_s, oN_mulR, oN_addR, oN_addR, if_pos in1, oN_nat (by omega)]
        have j1 : jT s1 (am_sI t1 61 (1 + 2 * L.length) (kdS tp q)) n tp q1 := z3.to (A := []) fr.refl (by decide) (by decide) (B := [61]) (fr.refl.sI (by simp)) (by decide) (by decide)
        obtain ⟨s2, t2, v, v1, a1, a2, a3, a4, a5⟩ := j_num (lo := 1) (hi := 12) j1 ht
        have e61 : ∀ k, am_I t2 61 k = if k = 1 + 2 * L.length then kdS tp q else am_I t 61 k := by
          intro k
          rw [a4.1.I (by decide), I_sI, y2.1.I (by decide)]
          simp only [true_and]
        have ey : am_I (am_sI t2 61 (2 + 2 * L.length) v1) 61 0 + (1 : Int32) = oN (L.length + 1) := by
          rw [I_sI, if_neg (by omega), e61, if_neg (by omega), hW.1, oN_addL]
        rw [a1, bi_s, a2, bi_s, if_pos in2, oN_nat (by omega), le_s, ey]
        have f3 : fr [61] t2 (am_sI (am_sI t2 61 (2 + 2 * L.length) v1) 61 0 (oN (L.length + 1))) := (fr.refl.sI (by simp)).sI (by simp)
        have v3 : eV t (am_sI (am_sI t2 61 (2 + 2 * L.length) v1) 61 0 (oN (L.length + 1))) := ((y2.eV.sI).trans a4.eV).sI.sI
        rcases a5 with ⟨c1, c2, c3, q2, c4, c5⟩ | a5
        · have j2 := c4.to (A := []) fr.refl (by decide) (by decide) f3 (by decide) (by decide)
          have b3 := c4.2.2.1.2.1
          obtain ⟨s3, t4, d1, d2, d3, d4, d5⟩ := j_stop j2 ht
          rw [d1, bu_s, d2, bu_s]
          rcases d5 with ⟨q3, d5, d6⟩ | d5
          · have b4 := d5.2.2.1.2.1
            have pS := (z2.trans a3).trans d3
            have hR3 : cR2 s3 42 L := hR.same (by rw [pS.1.I (by decide)]) (pS.1.I (by decide))
            have h113 : am_I s3 42 1 = oN 11 := by rw [pS.1.I (by decide)]; exact h11
            have ha := f_add (x := kdS tp q) (y := v) (z := 0) hR3.1 h113 (by omega) (by omega)
            rw [if_pos hl] at ha
            rw [if_pos d5.2.2.2.1, ha, bi_s, bu_s]
            have fA : fr [42, 43] s3 (addR 42 L.length (kdS tp q) v 0 s3) := addR_fr
            have j3 : jT (addR 42 L.length (kdS tp q) v 0 s3) t4 n tp q3 := d5.to fA (by decide) (by decide) (B := []) fr.refl (by decide) (by decide)
            have okv : okF (kdS tp q, v) := by
              refine ⟨?_, c2, c3⟩
              show 0 ≤ (kdS tp q).toInt ∧ (kdS tp q).toInt ≤ 2
              rcases hk with e | e | e <;> rw [e] <;> decide
            have hW4 : frW t4 (L ++ [(kdS tp q, v)]) := by
              refine ⟨?_, hW.2.push ?_ ?_ ?_⟩
              · rw [d4.1.I (by decide), I_sI, if_pos ⟨rfl, rfl⟩, List.length_append, List.length_singleton]
              · intro i k hi hk
                rw [d4.1.I (by decide), I_sI, if_neg (by omega), I_sI, if_neg (by omega), e61, if_neg (by omega)]
              · rw [d4.1.I (by decide), I_sI, if_neg (by omega), I_sI, if_neg (by omega), e61, if_pos rfl]
              · rw [d4.1.I (by decide), I_sI, if_neg (by omega), I_sI, if_pos ⟨rfl, by omega⟩]; exact c1
            have wS : eW s (addR 42 L.length (kdS tp q) v 0 s3) := pS.eW.trans ⟨fA.mono (by decide), by rw [fA.I (by decide)], by rw [addR_I, if_neg (by omega)]⟩
            obtain ⟨s5, t5, i1, i2, i3, i4, i5⟩ := ih (d - 1) (by omega) (m1 + 1) (m2 + 1) (i + 1) (L ++ [(kdS tp q, v)]) q3 _ t4 (by omega) (by omega) (by omega) (by omega) j3 (hx.to wS.1 (by decide)) (hy.to (v3.trans d4.eV).1 (by decide)) (addR_2 hR3) (wS.2.2.trans h11) hW4 (by rw [List.length_append, List.length_singleton]; omega) (by
              intro f hf
              rcases List.mem_append.mp hf with hf | hf
              · exact hok f hf
              · rw [List.mem_singleton.mp hf]; exact okv)
            exact ⟨s5, t5, i1, i2, wS.trans i3, (v3.trans d4.eV).trans i4, i5⟩
          · rw [if_neg d5.c, bu_s, c_end d5, m_end d5]
            exact ⟨s3, t4, rfl, rfl, ((z2.trans a3).trans d3).eW, v3.trans d4.eV, Or.inr d5⟩
        · have j2 := a5.to (A := []) fr.refl (by decide) f3 (by decide)
          obtain ⟨d1, d2⟩ := j_stopF j2
          rw [d1, bu_s, d2, bu_s, if_neg j2.c, bu_s, c_end j2, m_end j2]
          exact ⟨s2, _, rfl, rfl, (z2.trans a3).eW, v3, Or.inr j2⟩
      · have el : oN L.length = (11 : Int32) := by rw [show L.length = 11 by omega]; rfl
        obtain ⟨s1, t1, z1, y1, z2, y2, z3⟩ := j_fail (k := 4) h' (by omega) (by omega)
        rw [if_neg (by rw [oN_ltL (by omega) (by omega)]; omega), if_pos el, show f_X3_fail (4 : Int32) s = _ from z1, bu_s, bu_s, c_end z3]
        dsimp only
        rw [jn_s, if_neg hk1]
        dsimp only
        rw [show f_X8_blames (4 : Int32) t = _ from y1, bu_s, m_end z3]
        exact ⟨s1, t1, rfl, rfl, z2.eW, y2.eV, Or.inr z3⟩
end WAY
