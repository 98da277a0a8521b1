/-! ===== the best change of a way: the model's ===== -/
def qw (t t1 : am_S) : Prop := fr [55, 56, 62, 63, 64, 65, 66, 67] t t1 ∧ (∀ k, (6 < k ∧ k < 17) ∨ k = 3 ∨ k = 42 → am_I t1 55 k = am_I t 55 k) ∧ (mSi t → mSi t1)
section CHM
variable {s s1 t t1 t2 : am_S} {x x1 x2 x3 x4 x5 x6 x7 e v sl la : Int32} {r c d : Int32} {lw : Nat → Int32} {wy : List (List T2)} {hd : List (List T3)} {dr : List T3} {cr : List T2} {en : List T3} {P : Ppr} {l : List T3} {fs fs' : List T2} {q q0 : T2} {a w i f xa : Nat} {rc : Ppr → Int64} {B : hB} {tt tt' : Nat → Int32}
theorem qw.refl : qw t t := ⟨fr.refl, fun _ _ => rfl, id⟩
theorem qw.trans (h : qw t t1) (h' : qw t1 t2) : qw t t2 := ⟨h.1.trans h'.1, fun k hk => (h'.2.1 k hk).trans (h.2.1 k hk), fun z => h'.2.2 (h.2.2 z)⟩
theorem qw.of (h : qm t t1) (e : am_I t1 55 3 = am_I t 55 3) : qw t t1 := ⟨h.1.mono (by decide), fun k hk => by
  rcases hk with hk | hk | hk
  · exact h.2.1 k hk
  · subst hk; exact e
  · subst hk; exact h.2.2.1, h.2.2.2⟩
theorem mX.qw (h : mX t) (q : qw t t1) : mX t1 := ⟨(q.2.1 42 (by omega)).trans h.1, q.2.2 h.2⟩
theorem mBs.keep (h : mBs t B) (e1 : am_I t1 55 47 = am_I t 55 47) (e2 : am_I t1 55 48 = am_I t 55 48) (e3 : am_L t1 = am_L t) : mBs t1 B := by
  cases B with
  | none => exact e1.trans h
  | some b => exact ⟨e1.trans h.1, e2.trans h.2.1, by rw [e3]; exact h.2.2⟩
theorem okS_set (oS : okS r c d lw wy hd dr cr en) (hl : fs.length ≤ 11) (hok : ∀ q ∈ fs, okF q) : okS r c d lw (wy.set w fs) hd dr cr en := by
  obtain ⟨o1, o2, o3, o4, o5, o6, o7, o8, o9⟩ := oS
  refine ⟨o1, o2, o3, o4, ⟨by rw [List.length_set]; exact o5.1, ?_⟩, o6, o7, o8, by rw [List.length_set]; exact o9⟩
  intro p hp
  rcases List.mem_or_eq_of_mem_set hp with h | h
  · exact o5.2 p h
  · rw [h]; exact ⟨hl, hok⟩
theorem mS_set (hT : mS tt r c d lw wy hd dr cr en) (oS : okS r c d lw wy hd dr cr en) (hw : wy[w]? = some fs) (hi : i < fs.length) (e : ∀ k, k ≠ 32 + 23 * w + 2 * i → k ≠ 32 + 23 * w + 2 * i + 1 → tt' k = tt k) (e0 : tt' (32 + 23 * w + 2 * i) = q.1) (e1 : tt' (32 + 23 * w + 2 * i + 1) = q.2) : mS tt' r c d lw (wy.set w (fs.set i q)) hd dr cr en := by
  obtain ⟨b1, b2, b3, b4, b5, b6, b7⟩ := oB oS
  have hwl := (List.getElem?_eq_some_iff.mp hw).1
  have hfl := b2 w fs hw
  refine mS.ways (wy' := wy.set w (fs.set i q)) hT b1 b2 b3 b4 b5 b6 b7 ?_ ?_ ?_
  · intro k hk; exact e k (by omega) (by omega)
  · rw [List.length_set, e 2 (by omega) (by omega)]; exact hT.2.1.1
  · intro w' p hp
    have hl' := (List.getElem?_eq_some_iff.mp hp).1
    rw [List.length_set] at hl'
    rcases get_set hp with ⟨h1, h2⟩ | ⟨h1, h2⟩
    · have h3 := hT.2.1.2 w' p h2
      have h4 := b2 w' p h2
      exact ⟨(e _ (by omega) (by omega)).trans h3.1, h3.2.same (fun j k hj hk => e _ (by omega) (by omega))⟩
    · subst h1 h2
      have h3 := hT.2.1.2 w' fs hw
      refine ⟨by rw [List.length_set, e _ (by omega) (by omega)]; exact h3.1, ?_⟩
      intro j p hp
      rcases get_set hp with ⟨g1, g2⟩ | ⟨g1, g2⟩
      · obtain ⟨z1, z2⟩ := h3.2 j p g2
        exact ⟨(e _ (by omega) (by omega)).trans z1, (e _ (by omega) (by omega)).trans z2⟩
      · subst g1 g2
        exact ⟨e0, e1⟩
/-- a fold put into told -/
def putM (w i : Nat) (q : T2) (t : am_S) : am_S := am_sI (am_sI t 56 (32 + 23 * w + 2 * i) q.1) 56 (32 + 23 * w + 2 * i + 1) q.2
theorem putM_fr : fr [56] t (putM w i q t) := (fr.refl.sI (by simp)).sI (by simp)
theorem putM_I {k : Nat} : am_I (putM w i q t) 56 k = if k = 32 + 23 * w + 2 * i + 1 then q.2 else if k = 32 + 23 * w + 2 * i then q.1 else am_I t 56 k := by
  unfold putM; simp only [I_sI, true_and]
theorem putM_qw : qw t (putM w i q t) := ⟨putM_fr.mono (by decide), fun k _ => by rw [putM_fr.I (by decide)], fun h => mSi_of h (by rw [putM_fr.I (by decide)]) (putM_fr.I (by decide)) (putM_fr.I (by decide))⟩
theorem putM_S (hT : mS (am_I t 56) r c d lw wy hd dr cr en) (oS : okS r c d lw wy hd dr cr en) (hw : wy[w]? = some fs) (hi : i < fs.length) : mS (am_I (putM w i q t) 56) r c d lw (wy.set w (fs.set i q)) hd dr cr en := by
  refine mS_set hT oS hw hi ?_ ?_ ?_
  · intro k h1 h2; rw [putM_I, if_neg h2, if_neg h1]
  · rw [putM_I, if_neg (by omega), if_pos rfl]
  · rw [putM_I, if_pos rfl]
theorem fcm_in (oS : okS r c d lw wy hd dr cr en) (ha : hd[a]? = some l) (hw : wy[w]? = some fs) (hi : i < fs.length) : ∀ (n m f : Nat) (B : hB) (q : T2) (t : am_S), n < m → f + n = 18 → hBo fs B → okF q → mS (am_I t 56) r c d lw (wy.set w (fs.set i q)) hd dr cr en → mX t → mBs t B →
    ∃ t' q', L_X8_findChange_55 m (oN w) e (oN a) la (oN i) (oN (32 + 23 * w + 2 * i)) q0.1 q0.2 (oN f) t = some (.inr ((), t')) ∧ qw t t' ∧ okF q' ∧ mS (am_I t' 56) r c d lw (wy.set w (fs.set i q')) hd dr cr en ∧ mBs t' (fcI (fun P => rcE lw d dr cr P la l e) r c fs i q0 n f B) := by
  have hwl := (List.getElem?_eq_some_iff.mp hw).1
  have b1 := (oB oS).1
  have hm := oS.2.2.2.2.1.2 fs (List.mem_of_getElem? hw)
  have hfl := hm.1
  intro n
  induction n with
  | zero =>
    intro m f B q t hm1 hf hB hq hT hY hb
    obtain ⟨m, rfl⟩ : ∃ q, m = q + 1 := ⟨m - 1, by omega⟩
    obtain rfl : f = 18 := by omega
    rw [L_X8_findChange_55, if_pos (by decide)]
    exact ⟨t, q, rfl, qw.refl, hq, hT, hb⟩
  | succ n ih =>
    intro m f B q t hm1 hf hB hq hT hY hb
    obtain ⟨m, rfl⟩ : ∃ q, m = q + 1 := ⟨m - 1, by omega⟩
    obtain ⟨k1, k2⟩ := t18 f (by omega)
    have hBn := fc1_o (rc := fun P => rcE lw d dr cr P la l e) (r := r) (c := c) (q0 := q0) hi (show f < 18 by omega) hB
    have hset : ∀ q', wy.set w ((fs.set i q).set i q') = wy.set w (fs.set i q') := fun q' => by rw [List.set_set]
    have oSq : okS r c d lw (wy.set w (fs.set i q)) hd dr cr en := okS_set oS (by rw [List.length_set]; exact hm.1) (set_ok hm.2 hq)
    have oSf : okS r c d lw (wy.set w (fs.set i (kf f))) hd dr cr en := okS_set oS (by rw [List.length_set]; exact hm.1) (set_ok hm.2 (kf_ok (by omega)))
    have hwq : ∀ z : List T2, (wy.set w z)[w]? = some z := fun z => List.getElem?_set_self hwl
    have hT1 : mS (am_I (putM w i (kf f) t) 56) r c d lw (wy.set w (fs.set i (kf f))) hd dr cr en := by
      have := putM_S (q := kf f) (i := i) hT oSq (hwq _) (by rw [List.length_set]; exact hi)
      rw [List.set_set, List.set_set] at this
      exact this
    have hY1 : mX (putM w i (kf f) t) := hY.qw putM_qw
    have hb1 : mBs (putM w i (kf f) t) B := hb.keep (by rw [putM_fr.I (by decide)]) (by rw [putM_fr.I (by decide)]) rfl
    have p1 : oN (32 + 23 * w + 2 * i) + 1 = oN (32 + 23 * w + 2 * i + 1) := oN_addL
    have ept : am_sI (am_sI t 56 (32 + 23 * w + 2 * i) (oN (f / 6))) 56 (32 + 23 * w + 2 * i + 1) (oN (f % 6 + 1)) = putM w i (kf f) t := rfl
    have ia : am_I (putM w i (kf f) t) 56 (32 + 23 * w + 2 * i) = (kf f).1 := by rw [putM_I, if_neg (by omega), if_pos rfl]
    have ib : am_I (putM w i (kf f) t) 56 (32 + 23 * w + 2 * i + 1) = (kf f).2 := by rw [putM_I, if_pos rfl]
    have in1 : am_in (oN (32 + 23 * w + 2 * i)) 264 = true := in_o (by omega) (by omega)
    have in2 : am_in (oN (32 + 23 * w + 2 * i + 1)) 264 = true := in_o (by omega) (by omega)
    have body : kf f ≠ q0 → ∃ t' q', (am_bi (f_X8_makes (oN w) (putM w i (kf f) t)) (fun v16 s15 => if v16 = (-1 : Int32) then am_bl (f_X8_reachOf e (oN a) la s15) (fun v19 s18 => am_jn (fun (e21 : Unit) s22 => if am_in (oN (32 + 23 * w + 2 * i)) 264 = true then if am_in (oN (32 + 23 * w + 2 * i + 1)) 264 = true then ax_le (((100 : Int32) * (am_I s22 56 (32 + 23 * w + 2 * i))) + (am_I s22 56 (32 + 23 * w + 2 * i + 1))) (fun y25 => L_X8_findChange_55 m (oN w) e (oN a) la (oN i) (oN (32 + 23 * w + 2 * i)) q0.1 q0.2 (oN (f + 1)) (am_sL (am_sI (am_sI s22 55 47 (oN i)) 55 48 y25) 55 49 v19)) else none else none) (fun J20 => if (am_I s18 55 47) = (-1 : Int32) then J20 () s18 else if (am_L s18 55 49) < v19 then J20 () s18 else L_X8_findChange_55 m (oN w) e (oN a) la (oN i) (oN (32 + 23 * w + 2 * i)) q0.1 q0.2 (oN (f + 1)) s18)) else L_X8_findChange_55 m (oN w) e (oN a) la (oN i) (oN (32 + 23 * w + 2 * i)) q0.1 q0.2 (oN (f + 1)) s15) : am_FE Unit) = some (.inr ((), t')) ∧ qw t t' ∧ okF q' ∧ mS (am_I t' 56) r c d lw (wy.set w (fs.set i q')) hd dr cr en ∧ mBs t' (fcI (fun P => rcE lw d dr cr P la l e) r c fs i q0 n (f + 1) (fc1 (fun P => rcE lw d dr cr P la l e) r c fs i q0 f B)) := by
      intro hne
      obtain ⟨t2, f2, kk, z⟩ := m_makesW hT1 oSf (hwq _)
      have q2 : qm (putM w i (kf f) t) t2 := qm.mk1 f2 kk
      have w2 : qw (putM w i (kf f) t) t2 := qw.of q2 (kk 3 (by omega))
      have hT2 : mS (am_I t2 56) r c d lw (wy.set w (fs.set i (kf f))) hd dr cr en := by rw [q2.I]; exact hT1
      rcases z with ⟨j, d1, d2, d3⟩ | ⟨P, d1, d2, d3, d4⟩
      · have efc : fc1 (fun P => rcE lw d dr cr P la l e) r c fs i q0 f B = B := by unfold fc1; rw [if_neg hne, d1]
        have hL : am_L t2 = am_L (putM w i (kf f) t) := n_f_X8_makes (oN w) (putM w i (kf f) t) _ d2
        obtain ⟨t', q', z1, z2, z3, z4, z5⟩ := ih m (f + 1) B (kf f) t2 (by omega) (by omega) hB (kf_ok (by omega)) hT2 (hY1.qw w2) (hb1.keep (kk 47 (by omega)) (kk 48 (by omega)) hL)
        rw [d2, bi_s, if_neg (oN_not (by omega)), efc]
        exact ⟨t', q', z1, putM_qw.trans (w2.trans z2), z3, z4, z5⟩
      · have hL : am_L t2 = am_L (putM w i (kf f) t) := n_f_X8_makes (oN w) (putM w i (kf f) t) _ d2
        have hM : MI t2 r c d lw (wy.set w (fs.set i (kf f))) hd dr cr en P := ⟨hT2, hY1.qm q2, d4⟩
        obtain ⟨t3, y1, y2⟩ := rchM (e := e) (la := la) hM oSf d3 ha
        have y1' : f_X8_reachOf e (oN a) la t2 = some (.inl (some (.long (rcE lw d dr cr P la l e))), t3) := y1
        have hL3 : am_L t3 = am_L t2 := n_f_X8_reachOf e (oN a) la t2 _ y1
        have w3 : qw t2 t3 := qw.of y2.qm (y2.2.1 3 (by omega))
        have hT3 : mS (am_I t3 56) r c d lw (wy.set w (fs.set i (kf f))) hd dr cr en := by rw [y2.qm.I]; exact hT2
        have hb3 : mBs t3 B := (hb1.keep (kk 47 (by omega)) (kk 48 (by omega)) hL).keep (y2.2.1 47 (by omega)) (y2.2.1 48 (by omega)) hL3
        have w13 : qw t t3 := putM_qw.trans (w2.trans w3)
        have ea3 : am_I t3 56 (32 + 23 * w + 2 * i) = (kf f).1 := by rw [y2.qm.I, q2.I]; exact ia
        have eb3 : am_I t3 56 (32 + 23 * w + 2 * i + 1) = (kf f).2 := by rw [y2.qm.I, q2.I]; exact ib
        have efc : fc1 (fun P => rcE lw d dr cr P la l e) r c fs i q0 f B = offB i f (rcE lw d dr cr P la l e) B := by unfold fc1; rw [if_neg hne, d1]
        rw [efc] at hBn ⊢
        have take : offB i f (rcE lw d dr cr P la l e) B = some (i, f, rcE lw d dr cr P la l e) → ∃ t' q', (if am_in (oN (32 + 23 * w + 2 * i)) 264 = true then if am_in (oN (32 + 23 * w + 2 * i + 1)) 264 = true then ax_le (((100 : Int32) * (am_I t3 56 (32 + 23 * w + 2 * i))) + (am_I t3 56 (32 + 23 * w + 2 * i + 1))) (fun y25 => L_X8_findChange_55 m (oN w) e (oN a) la (oN i) (oN (32 + 23 * w + 2 * i)) q0.1 q0.2 (oN (f + 1)) (am_sL (am_sI (am_sI t3 55 47 (oN i)) 55 48 y25) 55 49 (rcE lw d dr cr P la l e))) else none else none : am_FE Unit) = some (.inr ((), t')) ∧ qw t t' ∧ okF q' ∧ mS (am_I t' 56) r c d lw (wy.set w (fs.set i q')) hd dr cr en ∧ mBs t' (fcI (fun P => rcE lw d dr cr P la l e) r c fs i q0 n (f + 1) (offB i f (rcE lw d dr cr P la l e) B)) := by
          intro hoff
          have e100 : (100 : Int32) * (kf f).1 + (kf f).2 = oN (100 * (f / 6) + (f % 6 + 1)) := by
            show (100 : Int32) * oN (f / 6) + oN (f % 6 + 1) = _
            rw [oN_mulR, oN_add]
          rw [if_pos in1, if_pos in2, le_s, ea3, eb3, e100]
          have f4 : fr [55] t3 (am_sL (am_sI (am_sI t3 55 47 (oN i)) 55 48 (oN (100 * (f / 6) + (f % 6 + 1)))) 55 49 (rcE lw d dr cr P la l e)) := ((fr.refl.sI (by simp)).sI (by simp)).sL (by simp)
          have ek : ∀ k, k ≠ 47 → k ≠ 48 → am_I (am_sL (am_sI (am_sI t3 55 47 (oN i)) 55 48 (oN (100 * (f / 6) + (f % 6 + 1)))) 55 49 (rcE lw d dr cr P la l e)) 55 k = am_I t3 55 k := by
            intro k h1 h2
            show am_I (am_sI (am_sI t3 55 47 (oN i)) 55 48 (oN (100 * (f / 6) + (f % 6 + 1)))) 55 k = _
            rw [I_sI, if_neg (by omega), I_sI, if_neg (by omega)]
          have w4 : qw t3 (am_sL (am_sI (am_sI t3 55 47 (oN i)) 55 48 (oN (100 * (f / 6) + (f % 6 + 1)))) 55 49 (rcE lw d dr cr P la l e)) := ⟨f4.mono (by decide), fun k hk => ek k (by omega) (by omega), fun h => mSi_of h (ek 30 (by omega) (by omega)) (f4.I (by decide)) (f4.I (by decide))⟩
          obtain ⟨t', q', z1, z2, z3, z4, z5⟩ := ih m (f + 1) (offB i f (rcE lw d dr cr P la l e) B) (kf f) _ (by omega) (by omega) hBn (kf_ok (by omega)) (by rw [f4.I (by decide)]; exact hT3) (hY.qw (w13.trans w4)) (by
            rw [hoff]
            refine ⟨?_, ?_, ?_⟩
            · show am_I (am_sI (am_sI t3 55 47 (oN i)) 55 48 (oN (100 * (f / 6) + (f % 6 + 1)))) 55 47 = _
              rw [I_sI, if_neg (by omega), I_sI, if_pos ⟨rfl, rfl⟩]
            · show am_I (am_sI (am_sI t3 55 47 (oN i)) 55 48 (oN (100 * (f / 6) + (f % 6 + 1)))) 55 48 = _
              rw [I_sI, if_pos ⟨rfl, rfl⟩]
            · rw [L_sL, if_pos ⟨rfl, rfl⟩])
          exact ⟨t', q', z1, w13.trans (w4.trans z2), z3, z4, z5⟩
        rw [d2, bi_s, if_pos rfl, y1', bl_s, jn_s]
        cases hBc : B with
        | none =>
          rw [hBc] at hb3
          rw [if_pos (show am_I t3 55 47 = -1 from hb3)]
          have := take (by rw [hBc]; rfl)
          rw [hBc] at this
          exact this
        | some b =>
          rw [hBc] at hb3
          have hbo := hB b hBc
          rw [hb3.1, if_neg (oN_not (by omega)), hb3.2.2]
          by_cases c3 : rcE lw d dr cr P la l e ≤ b.2.2
          · have hoff : offB i f (rcE lw d dr cr P la l e) (some b) = some b := by show (if _ then _ else _) = _; rw [if_pos c3]
            rw [if_neg (Int64.not_lt.mpr c3), hoff]
            obtain ⟨t', q', z1, z2, z3, z4, z5⟩ := ih m (f + 1) (some b) (kf f) t3 (by omega) (by omega) (by rw [← hBc]; exact hB) (kf_ok (by omega)) hT3 (hY.qw w13) hb3
            exact ⟨t', q', z1, w13.trans z2, z3, z4, z5⟩
          · have hoff : offB i f (rcE lw d dr cr P la l e) (some b) = some (i, f, rcE lw d dr cr P la l e) := by show (if _ then _ else _) = _; rw [if_neg c3]
            rw [if_pos (Int64.not_le.mp c3)]
            have := take (by rw [hBc]; exact hoff)
            rw [hBc] at this
            exact this
    rw [L_X8_findChange_55, if_neg (by rw [oN_leR (by omega) (by omega)]; omega), if_pos in1, p1, if_pos in2, if_pos in1, k2, k1, oN_nat (a := 32 + 23 * w + 2 * i) (by omega), oN_nat (a := 32 + 23 * w + 2 * i + 1) (by omega), ept, ia, ib, jn_s, oN_addL, fcI]
    by_cases c1 : (kf f).1 = q0.1
    · rw [if_pos c1, if_pos in2]
      by_cases c2 : (kf f).2 = q0.2
      · have hq0 : kf f = q0 := Prod.ext c1 c2
        have efc : fc1 (fun P => rcE lw d dr cr P la l e) r c fs i q0 f B = B := by unfold fc1; rw [if_pos hq0]
        rw [if_pos c2, efc]
        obtain ⟨t', q', z1, z2, z3, z4, z5⟩ := ih m (f + 1) B (kf f) (putM w i (kf f) t) (by omega) (by omega) hB (kf_ok (by omega)) hT1 hY1 hb1
        exact ⟨t', q', z1, putM_qw.trans z2, z3, z4, z5⟩
      · rw [if_neg c2]
        exact body (fun h => c2 (congrArg Prod.snd h))
    · rw [if_neg c1]
      exact body (fun h => c1 (congrArg Prod.fst h))
theorem foldsOf_is (hT : mS (am_I t 56) r c d lw wy hd dr cr en) (oS : okS r c d lw wy hd dr cr en) (hw : wy[w]? = some fs) : f_X8_foldsOf (oN w) t = some (.inl (some (.int (oN fs.length))), t) := by
  have hwl := (List.getElem?_eq_some_iff.mp hw).1
  have b1 := (oB oS).1
  have e1 : (31 : Int32) + (23 : Int32) * oN w = oN (31 + 23 * w) := by rw [oN_mulR, oN_addR]
  unfold f_X8_foldsOf
  rw [e1, if_pos (in_o (by omega) (by omega)), oN_nat (by omega), (hT.2.1.2 w fs hw).1]
theorem foldAt_is : f_X8_foldAt (oN w) (oN i) t = some (.inl (some (.int (oN (32 + 23 * w + 2 * i)))), t) := by
  have e1 : (31 : Int32) + (23 : Int32) * oN w = oN (31 + 23 * w) := by rw [oN_mulR, oN_addR]
  have e2 : oN (31 + 23 * w) + 1 = oN (31 + 23 * w + 1) := oN_addL
  have e3 : (2 : Int32) * oN i = oN (2 * i) := oN_mulR
  unfold f_X8_foldAt
  rw [e1, e2, e3, oN_add, show 31 + 23 * w + 1 + 2 * i = 32 + 23 * w + 2 * i by omega]
theorem fcmO_in (oS : okS r c d lw wy hd dr cr en) (ha : hd[a]? = some l) (hw : wy[w]? = some fs) : ∀ (n m i : Nat) (B : hB) (t : am_S), n < m → i + n = fs.length → hBo fs B → mS (am_I t 56) r c d lw wy hd dr cr en → mX t → mBs t B →
    ∃ t', L_X8_findChange_13 m (oN w) e (oN a) la (oN i) t = some (.inr ((), t')) ∧ qw t t' ∧ mS (am_I t' 56) r c d lw wy hd dr cr en ∧ mBs t' (fcO (fun P => rcE lw d dr cr P la l e) r c fs n i B) := by
  have hwl := (List.getElem?_eq_some_iff.mp hw).1
  have b1 := (oB oS).1
  have hm := oS.2.2.2.2.1.2 fs (List.mem_of_getElem? hw)
  have hfl := hm.1
  have hwset : wy.set w fs = wy := by
    obtain ⟨h1, h2⟩ := List.getElem?_eq_some_iff.mp hw
    rw [← h2]
    exact List.set_getElem_self h1
  intro n
  induction n with
  | zero =>
    intro m i B t hm1 hi hB hT hY hb
    obtain ⟨m, rfl⟩ : ∃ q, m = q + 1 := ⟨m - 1, by omega⟩
    rw [L_X8_findChange_13, foldsOf_is hT oS hw, bi_s, if_pos ((oN_le (by omega) (by omega)).mpr (by omega))]
    exact ⟨t, rfl, qw.refl, hT, hb⟩
  | succ n ih =>
    intro m i B t hm1 hi hB hT hY hb
    obtain ⟨m, rfl⟩ : ∃ q, m = q + 1 := ⟨m - 1, by omega⟩
    have hi2 : i < fs.length := by omega
    have hfi : fs[i]? = some fs[i] := List.getElem?_eq_getElem hi2
    obtain ⟨g1, g2⟩ := (hT.2.1.2 w fs hw).2 i fs[i] hfi
    have hset : fs.set i fs[i] = fs := List.set_getElem_self hi2
    have p1 : oN (32 + 23 * w + 2 * i) + 1 = oN (32 + 23 * w + 2 * i + 1) := oN_addL
    have in1 : am_in (oN (32 + 23 * w + 2 * i)) 264 = true := in_o (by omega) (by omega)
    have in2 : am_in (oN (32 + 23 * w + 2 * i + 1)) 264 = true := in_o (by omega) (by omega)
    obtain ⟨t1, q', z1, z2, z3, z4, z5⟩ := fcm_in (e := e) (la := la) (q0 := fs[i]) oS ha hw hi2 18 ax_fuel 0 B fs[i] t (by rw [ax_fuel_is]; omega) (by omega) hB (hm.2 _ (List.getElem_mem hi2)) (by rw [hset, hwset]; exact hT) hY hb
    have z1' : L_X8_findChange_55 ax_fuel (oN w) e (oN a) la (oN i) (oN (32 + 23 * w + 2 * i)) (fs[i]).1 (fs[i]).2 0 t = some (.inr ((), t1)) := z1
    have oSq : okS r c d lw (wy.set w (fs.set i q')) hd dr cr en := okS_set oS (by rw [List.length_set]; exact hm.1) (set_ok hm.2 z3)
    have hTp : mS (am_I (putM w i fs[i] t1) 56) r c d lw wy hd dr cr en := by
      have := putM_S (q := fs[i]) (i := i) z4 oSq (List.getElem?_set_self hwl) (by rw [List.length_set]; exact hi2)
      rw [List.set_set, List.set_set, hset, hwset] at this
      exact this
    have qq : qw t (putM w i fs[i] t1) := z2.trans putM_qw
    have hB2 : hBo fs (fcI (fun P => rcE lw d dr cr P la l e) r c fs i fs[i] 18 0 B) := fcI_o hi2 (by omega) hB
    obtain ⟨t', y1, y2, y3, y4⟩ := ih m (i + 1) _ (putM w i fs[i] t1) (by omega) (by omega) hB2 hTp (hY.qw qq) (z5.keep (by rw [putM_fr.I (by decide)]) (by rw [putM_fr.I (by decide)]) rfl)
    rw [L_X8_findChange_13, foldsOf_is hT oS hw, bi_s, if_neg (by rw [oN_le (by omega) (by omega)]; omega), foldAt_is, bi_s, if_pos in1, p1, if_pos in2, oN_nat (a := 32 + 23 * w + 2 * i) (by omega), oN_nat (a := 32 + 23 * w + 2 * i + 1) (by omega), g1, g2, z1', ll_e, if_pos in1, if_pos in2, oN_addL, fcO, hfi]
    exact ⟨t', y1, qq.trans y2, y3, y4⟩
theorem chgM (oS : okS r c d lw wy hd dr cr en) (ha : hd[a]? = some l) (hw : wy[w]? = some fs) (hT : mS (am_I t 56) r c d lw wy hd dr cr en) (hY : mX t) :
    ∃ t', f_X8_findChange (oN w) e (oN a) la t = some (.inl none, t') ∧ qw t t' ∧ mS (am_I t' 56) r c d lw wy hd dr cr en ∧ mBs t' (fcW lw d dr cr la l e r c fs) := by
  have f0 : fr [55] t (am_sL (am_sI t 55 47 (-1)) 55 49 0) := (fr.refl.sI (by simp)).sL (by simp)
  have ek : ∀ k, k ≠ 47 → am_I (am_sL (am_sI t 55 47 (-1)) 55 49 0) 55 k = am_I t 55 k := by
    intro k h1
    show am_I (am_sI t 55 47 (-1)) 55 k = _
    rw [I_sI, if_neg (by omega)]
  have w0 : qw t (am_sL (am_sI t 55 47 (-1)) 55 49 0) := ⟨f0.mono (by decide), fun k hk => ek k (by omega), fun h => mSi_of h (ek 30 (by omega)) (f0.I (by decide)) (f0.I (by decide))⟩
  obtain ⟨t1, y1, y2, y3, y4⟩ := fcmO_in (e := e) (la := la) oS ha hw fs.length ax_fuel 0 none (am_sL (am_sI t 55 47 (-1)) 55 49 0) (by rw [ax_fuel_is]; have := (oB oS).2.1 w fs hw; omega) (by omega) (fun b hb => by cases hb) (by rw [f0.I (by decide)]; exact hT) (hY.qw w0) (by show am_I (am_sI t 55 47 (-1)) 55 47 = -1; rw [I_sI, if_pos ⟨rfl, rfl⟩])
  have y1' : L_X8_findChange_13 ax_fuel (oN w) e (oN a) la 0 (am_sL (am_sI t 55 47 (-1)) 55 49 0) = some (.inr ((), t1)) := y1
  unfold f_X8_findChange
  rw [y1', lm_e]
  exact ⟨t1, rfl, w0.trans y2, y3, y4⟩
end CHM
