/-! ===== contests ===== -/
def hhE (hd : List (List T3)) (en : List T3) (e : Nat) : List T3 := ((en[e]?).map (fun q => (hd[q.2.2.toNatClampNeg]?).getD [])).getD []
section WINS
variable {s s1 t t1 t2 : am_S} {T : hT} {X : hX} {x y x1 x2 x3 x4 x5 x6 x7 e v sl la er : Int32} {r c d : Int32} {lw : Nat → Int32} {wy : List (List T2)} {hd : List (List T3)} {dr : List T3} {cr : List T2} {en : List T3} {P : Ppr} {l : List T3} {fs fs' : List T2} {q : T3} {a w i f e0 : Nat}
theorem CI.f46 (h : CI s r c d lw wy hd dr cr en P) (oS : okS r c d lw wy hd dr cr en) (f : fr [46] s s1) : CI s1 r c d lw wy hd dr cr en P := by
  refine ⟨h.1.qc oS (qc.of f (by decide)), h.2.1.qc (qc.of f (by decide)), ?_⟩
  obtain ⟨⟨G, g1, g2, g3, g4, g5, g6⟩, h2⟩ := h.2.2
  unfold cM cP
  rw [f.I (a := 37) (by decide), f.I (a := 38) (by decide)]
  exact ⟨⟨G, g1, g2, g3, g4, g5, g6⟩, h2⟩
theorem MI.f67 (h : MI t r c d lw wy hd dr cr en P) (f : fr [67] t t1) : MI t1 r c d lw wy hd dr cr en P := by
  have e55 : am_I t1 55 = am_I t 55 := f.I (by decide)
  refine ⟨by rw [f.I (by decide)]; exact h.1, ⟨by rw [e55]; exact h.2.1.1, mSi_of h.2.1.2 (by rw [e55]) (f.I (by decide)) (f.I (by decide))⟩, h.2.2.keep (f.I (by decide)) (f.I (by decide)) (f.I (by decide)) (fun k _ => by rw [e55])⟩
theorem qm.f67 (f : fr [67] t t1) : qm t t1 := by
  have e55 : am_I t1 55 = am_I t 55 := f.I (by decide)
  exact ⟨f.mono (by decide), fun k _ => by rw [e55], by rw [e55], fun h => mSi_of h (by rw [e55]) (f.I (by decide)) (f.I (by decide))⟩
theorem win1 (oS : okS r c d lw wy hd dr cr en) (oP : okP P) (ha : hd[a]? = some l) (he4 : e0 < 4) : ∀ (n m1 m2 i : Nat) (s t : am_S), n < m1 → n < m2 → i + n = l.length → CI s r c d lw wy hd dr cr en P → MI t r c d lw wy hd dr cr en P → am_I t 56 (252 + 3 * e0 + 1) = er → am_I t 56 (252 + 3 * e0 + 2) = oN a →
    ∃ s' t', L_X7_allEntriesThrow_99 m1 (oN e0) (23 + 2 * a) er (oN i) s = some (.inr ((), s')) ∧ L_X8_wins_86 m2 x1 (oN e0) (oN (252 + 3 * e0)) (oN i) t = some (.inr ((), t')) ∧ qc s s' ∧ qm t t' ∧ am_I t' 55 3 = am_I t 55 3 ∧ (∀ k, ¬ (4 * e0 + i ≤ k ∧ k < 4 * e0 + l.length) → am_I s' 46 k = am_I s 46 k ∧ am_I t' 67 k = am_I t 67 k) ∧ (∀ p, i ≤ p → p < l.length → am_I s' 46 (4 * e0 + p) = am_I t' 67 (4 * e0 + p)) := by
  have hal := (List.getElem?_eq_some_iff.mp ha).1
  have b3 := (oB oS).2.2.1
  have hm := oS.2.2.2.2.2.1.2 l (List.mem_of_getElem? ha)
  have hl4 := hm.1
  have p1 : oN (252 + 3 * e0) + 1 = oN (252 + 3 * e0 + 1) := oN_addL
  have p2 : oN (252 + 3 * e0) + 2 = oN (252 + 3 * e0 + 2) := oN_addL
  have in1 : am_in (oN (252 + 3 * e0 + 1)) 264 = true := in_o (by omega) (by omega)
  have in2 : am_in (oN (252 + 3 * e0 + 2)) 264 = true := in_o (by omega) (by omega)
  intro n
  induction n with
  | zero =>
    intro m1 m2 i s t h1 h2 hi hC hM te th
    obtain ⟨m1, rfl⟩ : ∃ q, m1 = q + 1 := ⟨m1 - 1, by omega⟩
    obtain ⟨m2, rfl⟩ : ∃ q, m2 = q + 1 := ⟨m2 - 1, by omega⟩
    have hr : cR3 s (23 + 2 * a) l := by have := hC.1.2.2.1.2 a l ha; rw [show 1 + 22 + 2 * a = 23 + 2 * a by omega] at this; exact this
    rw [L_X7_allEntriesThrow_99, hr.1, if_pos ((oN_le (by omega) (by omega)).mpr (by omega)), L_X8_wins_86, p2, if_pos in2, oN_nat (by omega), th, throwsOf_is (by omega) (hM.1.2.2.1.2 a l ha).1, bi_s, if_pos ((oN_le (by omega) (by omega)).mpr (by omega))]
    exact ⟨s, t, rfl, rfl, qc.refl, qm.refl, rfl, fun _ _ => ⟨rfl, rfl⟩, fun p hp1 hp2 => by omega⟩
  | succ n ih =>
    intro m1 m2 i s t h1 h2 hi hC hM te th
    obtain ⟨m1, rfl⟩ : ∃ q, m1 = q + 1 := ⟨m1 - 1, by omega⟩
    obtain ⟨m2, rfl⟩ : ∃ q, m2 = q + 1 := ⟨m2 - 1, by omega⟩
    have hr : cR3 s (23 + 2 * a) l := by have := hC.1.2.2.1.2 a l ha; rw [show 1 + 22 + 2 * a = 23 + 2 * a by omega] at this; exact this
    have hi2 : i < l.length := by omega
    have hli : l[i]? = some l[i] := List.getElem?_eq_getElem hi2
    obtain ⟨g1, g2, g3⟩ := hr.2 i l[i] hli
    rw [Nat.zero_add] at g1 g2 g3
    have hq := hm.2 _ (List.getElem_mem hi2)
    obtain ⟨k1, k2, k3⟩ := (hM.1.2.2.1.2 a l ha).2 i l[i] hli
    obtain ⟨s1, z1, z2, z3, _, _⟩ := flyC (la := 0) (e := er) (v := l[i].1) (sl := l[i].2.1) hC oS oP (wi_t.mpr hq.1) (wi_t.mpr hq.2.1)
    obtain ⟨t1, y1, y2, y3, _, y5⟩ := flyM (la := 0) (e := er) (v := l[i].1) (sl := l[i].2.1) hM oS oP (wi_t.mpr hq.1) (wi_t.mpr hq.2.1)
    have y5' : f_X8_far er l[i].1 l[i].2.1 0 t = some (.inl (some (.int (flS (EoS lw d dr cr P er) 200 (fl0 l[i].1 (dirOf l[i].2.1))).1)), t1) := y5
    have e4 : oN e0 * (4 : Int32) + oN i = oN (4 * e0 + i) := by rw [oN_mulL, oN_add, Nat.mul_comm]
    have e4' : (4 : Int32) * oN e0 + oN i = oN (4 * e0 + i) := by rw [oN_mulR, oN_add]
    have in4 : am_in (oN (4 * e0 + i)) 16 = true := in_o (by omega) (by omega)
    have pa1 : oN (170 + 13 * a + 3 * i) + 1 = oN (170 + 13 * a + 3 * i + 1) := oN_addL
    have ina : am_in (oN (170 + 13 * a + 3 * i)) 264 = true := in_o (by omega) (by omega)
    have ina1 : am_in (oN (170 + 13 * a + 3 * i + 1)) 264 = true := in_o (by omega) (by omega)
    have hC1 := hC.fl oS z2
    have hM1 := hM.fl y2
    generalize hv : (flS (EoS lw d dr cr P er) 200 (fl0 l[i].1 (dirOf l[i].2.1))).1 = vv at z3 y5'
    have fs1 : fr [46] s1 (am_sI s1 46 (4 * e0 + i) vv) := fr.refl.sI (by simp)
    have ft1 : fr [67] t1 (am_sI t1 67 (4 * e0 + i) vv) := fr.refl.sI (by simp)
    have q56 : am_I (am_sI t1 67 (4 * e0 + i) vv) 56 = am_I t 56 := by rw [I_ne (by decide), y2.qm.I]
    obtain ⟨s', t', u1, u2, u3, u4, u5, u6, u7⟩ := ih m1 m2 (i + 1) (am_sI s1 46 (4 * e0 + i) vv) (am_sI t1 67 (4 * e0 + i) vv) (by omega) (by omega) (by omega) (hC1.f46 oS fs1) (hM1.f67 ft1) (by rw [q56]; exact te) (by rw [q56]; exact th)
    refine ⟨s', t', ?_, ?_, (qc.of z2 (by decide)).trans ((qc.of fs1 (by decide)).trans u3), y2.qm.trans ((qm.f67 ft1).trans u4), ?_, ?_, ?_⟩
    · rw [L_X7_allEntriesThrow_99, hr.1, if_neg (by rw [oN_le (by omega) (by omega)]; omega), if_neg (by rw [oN_leR (by omega) (by omega)]; omega), if_neg (by rw [oN_leR (by omega) (by omega)]; omega), f_get0 (by omega), bi_s, f_get1 (by omega), bi_s, g1, g2, z1, bu_s, e4, if_pos in4, oN_nat (by omega), z3, oN_addL]
      exact u1
    · rw [L_X8_wins_86, p2, if_pos in2, oN_nat (a := 252 + 3 * e0 + 2) (by omega), th, throwsOf_is (by omega) (hM.1.2.2.1.2 a l ha).1, bi_s, if_neg (by rw [oN_le (by omega) (by omega)]; omega), p1, if_pos in1, if_pos in2, th, throwAt_is, bi_s, if_pos ina, if_pos in2, th, throwAt_is, bi_s, pa1, if_pos ina1, oN_nat (a := 252 + 3 * e0 + 1) (by omega), te, oN_nat (a := 170 + 13 * a + 3 * i) (by omega), oN_nat (a := 170 + 13 * a + 3 * i + 1) (by omega), k1, k2, y5', bi_s, e4', if_pos in4, oN_nat (a := 4 * e0 + i) (by omega), oN_addL]
      exact u2
    · rw [u5, I_ne (by decide)]; exact y2.2.1 3 (by omega)
    · intro k hk
      obtain ⟨a1, a2⟩ := u6 k (by omega)
      rw [a1, a2, I_sI, if_neg (by omega), I_sI, if_neg (by omega), z2.I (by decide), y2.1.I (by decide)]
      exact ⟨rfl, rfl⟩
    · intro p hp1 hp2
      by_cases cp : p = i
      · subst cp
        obtain ⟨a1, a2⟩ := u6 (4 * e0 + p) (by omega)
        rw [a1, a2, I_sI, if_pos ⟨rfl, rfl⟩, I_sI, if_pos ⟨rfl, rfl⟩]
      · exact u7 p (by omega) hp2
/-- an entry: its way, ears, hand -/
theorem entry_is (oS : okS r c d lw wy hd dr cr en) (he : en[e0]? = some q) : ∃ w fs a l, q.1 = oN w ∧ wy[w]? = some fs ∧ q.2.2 = oN a ∧ hd[a]? = some l ∧ hhE hd en e0 = l ∧ w < wy.length ∧ a < hd.length ∧ l.length ≤ 4 ∧ (∀ p ∈ l, okT p) ∧ e0 < 4 := by
  obtain ⟨o1, o2, o3, o4, o5, o6, o7, o8, o9⟩ := oS
  obtain ⟨p1, p2, p3⟩ := o9.2 q (List.mem_of_getElem? he)
  obtain ⟨w, hw, ew⟩ := (ix_cases q.1 wy.length).resolve_right (fun h => h p1)
  obtain ⟨a, ha, ea⟩ := (ix_cases q.2.2 hd.length).resolve_right (fun h => h p3)
  have hel := (List.getElem?_eq_some_iff.mp he).1
  have hh := o6.2 hd[a] (List.getElem_mem ha)
  refine ⟨w, wy[w], a, hd[a], ew, List.getElem?_eq_getElem hw, ea, List.getElem?_eq_getElem ha, ?_, hw, ha, hh.1, hh.2, by have := o9.1; omega⟩
  unfold hhE
  rw [he, Option.map_some, Option.getD_some, ea, oN_nat (by have := o6.1; omega), List.getElem?_eq_getElem ha, Option.getD_some]
theorem win2 (oS : okS r c d lw wy hd dr cr en) : ∀ (n m1 m2 e0 : Nat) (s t : am_S), n < m1 → n < m2 → e0 + n = en.length → cS s 1 r c d lw wy hd dr cr en → cX s → mS (am_I t 56) r c d lw wy hd dr cr en → mX t → (∀ e', e' < e0 → ∀ p, p < (hhE hd en e').length → am_I s 46 (4 * e' + p) = am_I t 67 (4 * e' + p)) →
    ∃ s' t', qc s s' ∧ qm t t' ∧ am_I t' 55 3 = am_I t 55 3 ∧ ((L_X7_allEntriesThrow_2 m1 (oN e0) s = some (.inr ((), s')) ∧ L_X8_wins_33 m2 x1 (oN e0) t = some (.inr ((), t')) ∧ (∀ e', e' < en.length → ∀ p, p < (hhE hd en e').length → am_I s' 46 (4 * e' + p) = am_I t' 67 (4 * e' + p))) ∨
      (L_X7_allEntriesThrow_2 m1 (oN e0) s = some (.inl (.inl (some (.int 0)), s')) ∧ L_X8_wins_33 m2 x1 (oN e0) t = some (.inl (.inl (some (.long 0)), t')))) := by
  obtain ⟨b1, b2, b3, b4, b5, b6, b7⟩ := oB oS
  intro n
  induction n with
  | zero =>
    intro m1 m2 e0 s t h1 h2 he hS hX hT hY hF
    obtain ⟨m1, rfl⟩ : ∃ q, m1 = q + 1 := ⟨m1 - 1, by omega⟩
    obtain ⟨m2, rfl⟩ : ∃ q, m2 = q + 1 := ⟨m2 - 1, by omega⟩
    have hR : cR3 s 9 en := hS.2.2.2.2.2.1
    have hE : am_I t 56 6 = oN en.length := hT.2.2.2.2.2.1
    refine ⟨s, t, qc.refl, qm.refl, rfl, Or.inl ⟨?_, ?_, fun e' he' => hF e' (by omega)⟩⟩
    · rw [L_X7_allEntriesThrow_2, hR.1, if_pos ((oN_le (by omega) (by omega)).mpr (by omega))]
    · rw [L_X8_wins_33, hE, if_pos ((oN_le (by omega) (by omega)).mpr (by omega))]
  | succ n ih =>
    intro m1 m2 e0 s t h1 h2 he hS hX hT hY hF
    obtain ⟨m1, rfl⟩ : ∃ q, m1 = q + 1 := ⟨m1 - 1, by omega⟩
    obtain ⟨m2, rfl⟩ : ∃ q, m2 = q + 1 := ⟨m2 - 1, by omega⟩
    have hR : cR3 s 9 en := hS.2.2.2.2.2.1
    have hE : am_I t 56 6 = oN en.length := hT.2.2.2.2.2.1
    have hel : e0 < en.length := by omega
    have hq : en[e0]? = some en[e0] := List.getElem?_eq_getElem hel
    obtain ⟨w, fs, a, l, ew, hw, ea, ha, ehl, hwl, hal, hl4, hlo, he4⟩ := entry_is oS hq
    obtain ⟨g1, g2, g3⟩ := hR.2 e0 en[e0] hq
    rw [Nat.zero_add, show 9 + 1 = 10 from rfl] at g1 g2 g3
    obtain ⟨k1, k2, k3⟩ := hT.2.2.2.2.2.2 e0 en[e0] hq
    rw [ew] at g1 k1
    rw [ea] at g3 k3
    have e252 : (252 : Int32) + (3 : Int32) * oN e0 = oN (252 + 3 * e0) := by rw [oN_mulR, oN_addR]
    have p2 : oN (252 + 3 * e0) + 2 = oN (252 + 3 * e0 + 2) := oN_addL
    have in0 : am_in (oN (252 + 3 * e0)) 264 = true := in_o (by omega) (by omega)
    have in2 : am_in (oN (252 + 3 * e0 + 2)) 264 = true := in_o (by omega) (by omega)
    have hr : cR3 s (23 + 2 * a) l := by have := hS.2.2.1.2 a l ha; rw [show 1 + 22 + 2 * a = 23 + 2 * a by omega] at this; exact this
    have eC : L_X7_allEntriesThrow_2 (m1 + 1) (oN e0) s = if oN l.length = 0 then some (.inl (.inl (some (.int 0)), s)) else am_bi (f_X7_breakOf (11 + 2 * w) s) (fun v28 s27 => if v28 = (-1 : Int32) then am_bi (f_X4_get 9 (oN e0) (1 : Int32) s27) (fun v31 s30 => am_ll (L_X7_allEntriesThrow_99 ax_fuel (oN e0) (23 + 2 * a) v31 (0 : Int32) s30) (fun e42 s43 => L_X7_allEntriesThrow_2 m1 (oN (e0 + 1)) s43)) else some (.inl (.inl (some (.int (0 : Int32))), s27))) := by
      rw [L_X7_allEntriesThrow_2, hR.1, if_neg (by rw [oN_le (by omega) (by omega)]; omega), f_get0 (by omega), bi_s, show 9 + 1 = 10 from rfl, g1, wayAt_ok hS.2.1.1 b1 hwl, bv_s, mv_r, if_pos (k0_way w (by omega)), f_get2 (by omega), bi_s, show 9 + 1 = 10 from rfl, g3, handAt_ok hS.2.2.1.1 b3 hal, bv_s, mv_r, if_pos (k0_hand a (by omega)), hr.1, oN_addL]
    obtain ⟨s1, f1, zc⟩ := c_breakW hS oS hw
    obtain ⟨t1, f2, kk, zm⟩ := m_makesW hT oS hw
    have q1 : qc s s1 := qc.of f1 (by decide)
    have q2 : qm t t1 := qm.mk1 f2 kk
    have k3' : am_I t1 55 3 = am_I t 55 3 := kk 3 (by omega)
    have hT1 : mS (am_I t1 56) r c d lw wy hd dr cr en := by rw [q2.I]; exact hT
    have eM : L_X8_wins_33 (m2 + 1) x1 (oN e0) t = am_bi (f_X8_makes (oN w) t) (fun v7 s6 => if v7 = (-1 : Int32) then if am_in (oN (252 + 3 * e0 + 2)) 264 = true then am_bi (f_X8_throwsOf (am_I s6 56 (252 + 3 * e0 + 2)) s6) (fun v11 s10 => if v11 = 0 then some (.inl (.inl (some (.long (0 : Int64))), s10)) else am_ll (L_X8_wins_86 ax_fuel x1 (oN e0) (oN (252 + 3 * e0)) (0 : Int32) s10) (fun e29 s30 => L_X8_wins_33 m2 x1 (oN (e0 + 1)) s30)) else none else some (.inl (.inl (some (.long (0 : Int64))), s6))) := by
      rw [L_X8_wins_33, hE, if_neg (by rw [oN_le (by omega) (by omega)]; omega), e252, if_pos in0, oN_nat (a := 252 + 3 * e0) (by omega), k1, p2, oN_nat (a := 252 + 3 * e0 + 2) (by omega), oN_addL]
    rw [eC, eM]
    have k3t : am_I t1 56 (252 + 3 * e0 + 2) = oN a := by rw [q2.I]; exact k3
    have k2t : am_I t1 56 (252 + 3 * e0 + 1) = en[e0].2.1 := by rw [q2.I]; exact k2
    have thr : f_X8_throwsOf (am_I t1 56 (252 + 3 * e0 + 2)) t1 = some (.inl (some (.int (oN l.length))), t1) := by rw [k3t]; exact throwsOf_is (by omega) (hT1.2.2.1.2 a l ha).1
    by_cases cl : l.length = 0
    · have c0 : oN l.length = 0 := by rw [cl]; rfl
      rw [if_pos c0]
      rcases zm with ⟨j, d1, d2, d3⟩ | ⟨P, d1, d2, d3, d4⟩
      · rw [d2, bi_s, if_neg (oN_not (by omega))]
        exact ⟨s, t1, qc.refl, q2, k3', Or.inr ⟨rfl, rfl⟩⟩
      · rw [d2, bi_s, if_pos rfl, if_pos in2, thr, bi_s, if_pos c0]
        exact ⟨s, t1, qc.refl, q2, k3', Or.inr ⟨rfl, rfl⟩⟩
    · have c0 : ¬ oN l.length = 0 := fun h => cl ((oN_eq (b := 0) (by omega) (by omega)).mp h)
      rw [if_neg c0]
      rcases zc with ⟨j, e1, e2, e3⟩ | ⟨P, e1, e2, e3, e4⟩
      · rcases zm with ⟨j', d1, d2, d3⟩ | ⟨P, d1, d2, d3, d4⟩
        · rw [e2, bi_s, if_neg (oN_not (by omega)), d2, bi_s, if_neg (oN_not (by omega))]
          exact ⟨s1, t1, q1, q2, k3', Or.inr ⟨rfl, rfl⟩⟩
        · rw [e1] at d1; cases d1
      · rcases zm with ⟨j', d1, d2, d3⟩ | ⟨P', d1, d2, d3, d4⟩
        · rw [e1] at d1; cases d1
        · rw [e1] at d1
          cases d1
          have hS1 := hS.qc oS q1
          have g2' : am_I s1 10 (3 * e0 + 1) = en[e0].2.1 := by rw [f1.I (by decide)]; exact g2
          obtain ⟨s2, t2, u1, u2, u3, u4, u5, u6, u7⟩ := win1 (x1 := x1) (er := en[e0].2.1) oS e3 ha he4 l.length ax_fuel ax_fuel 0 s1 t1 (by rw [ax_fuel_is]; omega) (by rw [ax_fuel_is]; omega) (by omega) ⟨hS1, hX.qc q1, e4⟩ ⟨hT1, hY.qm q2, d4⟩ k2t k3t
          have u1' : L_X7_allEntriesThrow_99 ax_fuel (oN e0) (23 + 2 * a) en[e0].2.1 0 s1 = some (.inr ((), s2)) := u1
          have u2' : L_X8_wins_86 ax_fuel x1 (oN e0) (oN (252 + 3 * e0)) 0 t1 = some (.inr ((), t2)) := u2
          have hF2 : ∀ e', e' < e0 + 1 → ∀ p, p < (hhE hd en e').length → am_I s2 46 (4 * e' + p) = am_I t2 67 (4 * e' + p) := by
            intro e' he' p hp
            by_cases ce : e' = e0
            · subst ce
              rw [ehl] at hp
              exact u7 p (by omega) hp
            · have hel' : e' < en.length := by omega
              obtain ⟨_, _, _, l', _, _, _, _, ehl', _, _, hl4', _, _⟩ := entry_is oS (List.getElem?_eq_getElem hel')
              rw [ehl'] at hp
              obtain ⟨a1, a2⟩ := u6 (4 * e' + p) (by omega)
              rw [a1, a2, f1.I (by decide), f2.I (by decide)]
              exact hF e' (by omega) p (by rw [ehl']; exact hp)
          have qq1 := q1.trans u3
          have qq2 := q2.trans u4
          obtain ⟨s', t', v1, v2, v3, v4⟩ := ih m1 m2 (e0 + 1) s2 t2 (by omega) (by omega) (by omega) (hS.qc oS qq1) (hX.qc qq1) (by rw [qq2.I]; exact hT) (hY.qm qq2) hF2
          refine ⟨s', t', qq1.trans v1, qq2.trans v2, v3.trans (u5.trans k3'), ?_⟩
          rw [e2, bi_s, if_pos rfl, f_get1 (by omega), bi_s, show 9 + 1 = 10 from rfl, g2', u1', ll_e, d2, bi_s, if_pos rfl, if_pos in2, thr, bi_s, if_neg c0, u2', ll_e]
          exact v4
/-! what the fars tell -/
theorem farOf_is (he : e0 < 4) (hi : i < 4) : f_X7_farOf (oN e0) (oN i) s = some (.inl (some (.int (am_I s 46 (4 * e0 + i)))), s) := by
  have e4 : oN e0 * (4 : Int32) + oN i = oN (4 * e0 + i) := by rw [oN_mulL, oN_add, Nat.mul_comm]
  unfold f_X7_farOf
  rw [e4, if_neg (by rw [oN_nonneg (by omega)]; exact id), if_neg (by rw [oN_leR (by omega) (by omega)]; omega), if_pos (in_o (by omega) (by omega)), oN_nat (by omega)]
theorem add64 {A B : Int32} (hA : 0 ≤ A.toInt ∧ A.toInt ≤ 1000) (hB : 0 ≤ B.toInt ∧ B.toInt ≤ 1000) : (A + B).toInt64 = A.toInt64 + B.toInt64 ∧ (A + B).toInt = A.toInt + B.toInt := by
  have e : (A + B).toInt = A.toInt + B.toInt := by rw [Int32.toInt_add, Int.bmod_eq_of_le (by omega) (by omega)]
  refine ⟨?_, e⟩
  apply Int64.toInt_inj.mp
  rw [Int32.toInt_toInt64, e, Int64.toInt_add, Int32.toInt_toInt64, Int32.toInt_toInt64, Int.bmod_eq_of_le (by omega) (by omega)]
theorem win3 (oS : okS r c d lw wy hd dr cr en) (hS : cS s 1 r c d lw wy hd dr cr en) (hT : mS (am_I t 56) r c d lw wy hd dr cr en) (ha : hd[a]? = some l) (he4 : e0 < 4) (hF : ∀ p, p < l.length → am_I s 46 (4 * e0 + p) = am_I t 67 (4 * e0 + p)) : ∀ (n m1 m2 i : Nat) (A : Int32), n < m1 → n < m2 → i + n = l.length → (0 ≤ A.toInt ∧ A.toInt ≤ 9 * i) →
    ∃ A', L_X7_chancesBelow_32 m1 (oN e0) x (23 + 2 * a) A (oN i) s = some (.inr (A', s)) ∧ L_X8_lessFar_21 m2 (oN e0) x (oN a) A.toInt64 (oN i) t = some (.inr (A'.toInt64, t)) := by
  have hal := (List.getElem?_eq_some_iff.mp ha).1
  have b3 := (oB oS).2.2.1
  have hm := oS.2.2.2.2.2.1.2 l (List.mem_of_getElem? ha)
  have hl4 := hm.1
  have hr : cR3 s (23 + 2 * a) l := by have := hS.2.2.1.2 a l ha; rw [show 1 + 22 + 2 * a = 23 + 2 * a by omega] at this; exact this
  have ht := hT.2.2.1.2 a l ha
  intro n
  induction n with
  | zero =>
    intro m1 m2 i A h1 h2 hi hA
    obtain ⟨m1, rfl⟩ : ∃ q, m1 = q + 1 := ⟨m1 - 1, by omega⟩
    obtain ⟨m2, rfl⟩ : ∃ q, m2 = q + 1 := ⟨m2 - 1, by omega⟩
    rw [L_X7_chancesBelow_32, hr.1, if_pos ((oN_le (by omega) (by omega)).mpr (by omega)), L_X8_lessFar_21, throwsOf_is (by omega) ht.1, bi_s, if_pos ((oN_le (by omega) (by omega)).mpr (by omega))]
    exact ⟨A, rfl, rfl⟩
  | succ n ih =>
    intro m1 m2 i A h1 h2 hi hA
    obtain ⟨m1, rfl⟩ : ∃ q, m1 = q + 1 := ⟨m1 - 1, by omega⟩
    obtain ⟨m2, rfl⟩ : ∃ q, m2 = q + 1 := ⟨m2 - 1, by omega⟩
    have hi2 : i < l.length := by omega
    have hli : l[i]? = some l[i] := List.getElem?_eq_getElem hi2
    obtain ⟨g1, g2, g3⟩ := hr.2 i l[i] hli
    rw [Nat.zero_add] at g1 g2 g3
    obtain ⟨k1, k2, k3⟩ := ht.2 i l[i] hli
    have hq := hm.2 _ (List.getElem_mem hi2)
    have e4' : (4 : Int32) * oN e0 + oN i = oN (4 * e0 + i) := by rw [oN_mulR, oN_add]
    have pa2 : oN (170 + 13 * a + 3 * i) + 2 = oN (170 + 13 * a + 3 * i + 2) := oN_addL
    have hle : ¬ oN l.length ≤ oN i := by rw [oN_le (by omega) (by omega)]; omega
    rw [L_X7_chancesBelow_32, hr.1, if_neg hle, farOf_is he4 (by omega), bi_s, hF i hi2, L_X8_lessFar_21, throwsOf_is (by omega) ht.1, bi_s, if_neg hle, e4', if_pos (in_o (by omega) (by omega)), oN_nat (a := 4 * e0 + i) (by omega), Int64.add_zero, oN_addL]
    by_cases cf : x ≤ am_I t 67 (4 * e0 + i)
    · rw [if_pos cf, if_pos cf]
      exact ih m1 m2 (i + 1) A (by omega) (by omega) (by omega) (by omega)
    · rw [if_neg cf, if_neg cf, f_get2 (by omega), bi_s, g3, throwAt_is, bi_s, pa2, if_pos (in_o (by omega) (by omega)), oN_nat (a := 170 + 13 * a + 3 * i + 2) (by omega), k3]
      obtain ⟨z1, z2⟩ := add64 (A := A) (B := l[i].2.2) (by omega) (by have := hq.2.2; omega)
      rw [← z1]
      exact ih m1 m2 (i + 1) (A + l[i].2.2) (by omega) (by omega) (by omega) (by rw [z2]; have := hq.2.2; omega)
theorem win4 (oS : okS r c d lw wy hd dr cr en) (hS : cS s 1 r c d lw wy hd dr cr en) (hT : mS (am_I t 56) r c d lw wy hd dr cr en) (he : e0 < en.length) (hF : ∀ e', e' < en.length → ∀ p, p < (hhE hd en e').length → am_I s 46 (4 * e' + p) = am_I t 67 (4 * e' + p)) :
    ∃ A : Int32, f_X7_chancesBelow (oN e0) x s = some (.inl (some (.int A)), s) ∧ f_X8_lessFar (oN e0) x t = some (.inl (some (.long A.toInt64)), t) := by
  obtain ⟨b1, b2, b3, b4, b5, b6, b7⟩ := oB oS
  have hq : en[e0]? = some en[e0] := List.getElem?_eq_getElem he
  obtain ⟨w, fs, a, l, ew, hw, ea, ha, ehl, hwl, hal, hl4, hlo, he4⟩ := entry_is oS hq
  have hR : cR3 s 9 en := hS.2.2.2.2.2.1
  obtain ⟨g1, g2, g3⟩ := hR.2 e0 en[e0] hq
  rw [Nat.zero_add, show 9 + 1 = 10 from rfl] at g1 g2 g3
  obtain ⟨k1, k2, k3⟩ := hT.2.2.2.2.2.2 e0 en[e0] hq
  rw [ea] at g3 k3
  have e252 : (252 : Int32) + (3 : Int32) * oN e0 = oN (252 + 3 * e0) := by rw [oN_mulR, oN_addR]
  have p2 : oN (252 + 3 * e0) + 2 = oN (252 + 3 * e0 + 2) := oN_addL
  obtain ⟨A, z1, z2⟩ := win3 (x := x) oS hS hT ha he4 (fun p hp => hF e0 he p (by rw [ehl]; exact hp)) l.length ax_fuel ax_fuel 0 0 (by rw [ax_fuel_is]; omega) (by rw [ax_fuel_is]; omega) (by omega) (by decide)
  have z1' : L_X7_chancesBelow_32 ax_fuel (oN e0) x (23 + 2 * a) 0 0 s = some (.inr (A, s)) := z1
  have z2' : L_X8_lessFar_21 ax_fuel (oN e0) x (oN a) 0 0 t = some (.inr (A.toInt64, t)) := z2
  unfold f_X7_chancesBelow f_X8_lessFar
  refine ⟨A, ?_, ?_⟩
  · rw [f_get2 (by omega), bi_s, show 9 + 1 = 10 from rfl, g3, handAt_ok hS.2.2.1.1 b3 hal, bv_s, mv_r, if_pos (k0_hand a (by omega)), z1', lm_e]
  · rw [e252, p2, if_pos (in_o (by omega) (by omega)), oN_nat (by omega), k3, le_s, z2', lm_e]
theorem win5 {C S : Int64} {xa : Int32} (oS : okS r c d lw wy hd dr cr en) (hS : cS s 1 r c d lw wy hd dr cr en) (hT : mS (am_I t 56) r c d lw wy hd dr cr en) (he4 : e0 < 4) (hi : i < 4) (hF : ∀ e', e' < en.length → ∀ p, p < (hhE hd en e').length → am_I s 46 (4 * e' + p) = am_I t 67 (4 * e' + p)) : ∀ (n m1 m2 f : Nat) (p : Int64), n < m1 → n < m2 → f + n = en.length →
    ∃ p', L_X7_rowsBelow_5 m1 (oN e0) (am_I t 67 (4 * e0 + i)) p (oN f) s = some (.inr (p', s)) ∧ L_X8_wins_232 m2 (oN e0) S xa (oN i) (C * p) (oN f) t = some (.inr (C * p', t)) := by
  have b7 := (oB oS).2.2.2.2.2.2
  have hR : cR3 s 9 en := hS.2.2.2.2.2.1
  have hE : am_I t 56 6 = oN en.length := hT.2.2.2.2.2.1
  intro n
  induction n with
  | zero =>
    intro m1 m2 f p h1 h2 hf
    obtain ⟨m1, rfl⟩ : ∃ q, m1 = q + 1 := ⟨m1 - 1, by omega⟩
    obtain ⟨m2, rfl⟩ : ∃ q, m2 = q + 1 := ⟨m2 - 1, by omega⟩
    rw [L_X7_rowsBelow_5, hR.1, if_pos ((oN_le (by omega) (by omega)).mpr (by omega)), L_X8_wins_232, hE, if_pos ((oN_le (by omega) (by omega)).mpr (by omega))]
    exact ⟨p, rfl, rfl⟩
  | succ n ih =>
    intro m1 m2 f p h1 h2 hf
    obtain ⟨m1, rfl⟩ : ∃ q, m1 = q + 1 := ⟨m1 - 1, by omega⟩
    obtain ⟨m2, rfl⟩ : ∃ q, m2 = q + 1 := ⟨m2 - 1, by omega⟩
    have e4' : (4 : Int32) * oN e0 + oN i = oN (4 * e0 + i) := by rw [oN_mulR, oN_add]
    have hle : ¬ oN en.length ≤ oN f := by rw [oN_le (by omega) (by omega)]; omega
    rw [L_X7_rowsBelow_5, hR.1, if_neg hle, L_X8_wins_232, hE, if_neg hle, oN_addL]
    by_cases ce : oN f = oN e0
    · rw [if_pos ce, if_pos ce]
      exact ih m1 m2 (f + 1) p (by omega) (by omega) (by omega)
    · obtain ⟨A, z1, z2⟩ := win4 (x := am_I t 67 (4 * e0 + i)) oS hS hT (show f < en.length by omega) hF
      rw [if_neg ce, if_neg ce, z1, bi_s, e4', if_pos (in_o (by omega) (by omega)), oN_nat (a := 4 * e0 + i) (by omega), z2, bl_s, Int64.mul_assoc]
      exact ih m1 m2 (f + 1) (p * A.toInt64) (by omega) (by omega) (by omega)
theorem win6 (oS : okS r c d lw wy hd dr cr en) (hS : cS s 1 r c d lw wy hd dr cr en) (hT : mS (am_I t 56) r c d lw wy hd dr cr en) (ha : hd[a]? = some l) (he : e0 < en.length) (ehl : hhE hd en e0 = l) (hF : ∀ e', e' < en.length → ∀ p, p < (hhE hd en e').length → am_I s 46 (4 * e' + p) = am_I t 67 (4 * e' + p)) : ∀ (n m1 m2 i : Nat) (S : Int64), n < m1 → n < m2 → i + n = l.length →
    ∃ S', L_X7_wins_69 m1 (oN e0) (23 + 2 * a) S (oN i) s = some (.inr (S', s)) ∧ L_X8_wins_200 m2 (oN e0) S (oN a) (oN i) t = some (.inr (S', t)) := by
  obtain ⟨b1, b2, b3, b4, b5, b6, b7⟩ := oB oS
  have hal := (List.getElem?_eq_some_iff.mp ha).1
  have hm := oS.2.2.2.2.2.1.2 l (List.mem_of_getElem? ha)
  have hl4 := hm.1
  have hr : cR3 s (23 + 2 * a) l := by have := hS.2.2.1.2 a l ha; rw [show 1 + 22 + 2 * a = 23 + 2 * a by omega] at this; exact this
  have ht := hT.2.2.1.2 a l ha
  intro n
  induction n with
  | zero =>
    intro m1 m2 i S h1 h2 hi
    obtain ⟨m1, rfl⟩ : ∃ q, m1 = q + 1 := ⟨m1 - 1, by omega⟩
    obtain ⟨m2, rfl⟩ : ∃ q, m2 = q + 1 := ⟨m2 - 1, by omega⟩
    rw [L_X7_wins_69, hr.1, if_pos ((oN_le (by omega) (by omega)).mpr (by omega)), L_X8_wins_200, throwsOf_is (by omega) ht.1, bi_s, if_pos ((oN_le (by omega) (by omega)).mpr (by omega))]
    exact ⟨S, rfl, rfl⟩
  | succ n ih =>
    intro m1 m2 i S h1 h2 hi
    obtain ⟨m1, rfl⟩ : ∃ q, m1 = q + 1 := ⟨m1 - 1, by omega⟩
    obtain ⟨m2, rfl⟩ : ∃ q, m2 = q + 1 := ⟨m2 - 1, by omega⟩
    have hi2 : i < l.length := by omega
    have hli : l[i]? = some l[i] := List.getElem?_eq_getElem hi2
    obtain ⟨g1, g2, g3⟩ := hr.2 i l[i] hli
    rw [Nat.zero_add] at g1 g2 g3
    obtain ⟨k1, k2, k3⟩ := ht.2 i l[i] hli
    have pa2 : oN (170 + 13 * a + 3 * i) + 2 = oN (170 + 13 * a + 3 * i + 2) := oN_addL
    have hF0 : am_I s 46 (4 * e0 + i) = am_I t 67 (4 * e0 + i) := hF e0 he i (by rw [ehl]; exact hi2)
    obtain ⟨p', z1, z2⟩ := win5 (C := l[i].2.2.toInt64) (S := S) (xa := oN a) (i := i) (e0 := e0) oS hS hT (by omega) (by omega) hF en.length ax_fuel ax_fuel 0 1 (by rw [ax_fuel_is]; omega) (by rw [ax_fuel_is]; omega) (by omega)
    rw [Int64.mul_one] at z2
    have z1' : L_X7_rowsBelow_5 ax_fuel (oN e0) (am_I t 67 (4 * e0 + i)) 1 0 s = some (.inr (p', s)) := z1
    have z2' : L_X8_wins_232 ax_fuel (oN e0) S (oN a) (oN i) l[i].2.2.toInt64 0 t = some (.inr (l[i].2.2.toInt64 * p', t)) := z2
    have hrb : f_X7_rowsBelow (oN e0) (am_I t 67 (4 * e0 + i)) s = some (.inl (some (.long p')), s) := by
      unfold f_X7_rowsBelow
      rw [z1', lm_e]
    rw [L_X7_wins_69, hr.1, if_neg (by rw [oN_le (by omega) (by omega)]; omega), f_get2 (by omega), bi_s, g3, farOf_is (by omega) (by omega), bi_s, hF0, hrb, bl_s, L_X8_wins_200, throwsOf_is (by omega) ht.1, bi_s, if_neg (by rw [oN_le (by omega) (by omega)]; omega), throwAt_is, bi_s, pa2, if_pos (in_o (by omega) (by omega)), oN_nat (a := 170 + 13 * a + 3 * i + 2) (by omega), k3, z2', ll_e, oN_addL]
    exact ih m1 m2 (i + 1) _ (by omega) (by omega) (by omega)
theorem J_wins (hS : cS s 1 r c d lw wy hd dr cr en) (oS : okS r c d lw wy hd dr cr en) (hX : cX s) (hT : mS (am_I t 56) r c d lw wy hd dr cr en) (hY : mX t) : ∃ o, cQ Value.long s (f_X7_wins x1 s) o ∧ mQ Value.long k312 t (f_X8_wins x1 t) o := by
  obtain ⟨b1, b2, b3, b4, b5, b6, b7⟩ := oB oS
  have hR : cR3 s 9 en := hS.2.2.2.2.2.1
  have hE : am_I t 56 6 = oN en.length := hT.2.2.2.2.2.1
  have q3 : qm t (am_sI t 55 3 0) := qm.thr qm.refl
  have hT3 : mS (am_I (am_sI t 55 3 0) 56) r c d lw wy hd dr cr en := by rw [I_ne (by decide)]; exact hT
  have hs1 : ((oN en.length - 1 : Int32).toInt64).toInt = (en.length : Int) - 1 := by rw [Int32.toInt_toInt64]; exact oN_sub1 (by omega)
  unfold f_X7_wins f_X8_wins
  rw [hR.1, hE, mW (a := 0) (b := (en.length : Int) - 1) rfl hs1, bi_s]
  rcases ix_cases x1 en.length with ⟨e0, he, ex⟩ | hx
  · subst ex
    have hq : en[e0]? = some en[e0] := List.getElem?_eq_getElem he
    obtain ⟨w, fs, a, l, ew, hw, ea, ha, ehl, hwl, hal, hl4, hlo, he4⟩ := entry_is oS hq
    rw [if_neg (by rw [oN_nonneg (by omega)]; exact id), if_pos ((oN_lt (by omega) (by omega)).mpr he), if_pos (show wi (oN e0).toInt 0 ((en.length : Int) - 1) = true from wi_t.mpr (by rw [oN_int (by omega)]; omega)), if_neg n10]
    obtain ⟨s1, t1, z1, z2, z3, z4⟩ := win2 (x1 := oN e0) oS en.length ax_fuel ax_fuel 0 s (am_sI t 55 3 0) (by rw [ax_fuel_is]; omega) (by rw [ax_fuel_is]; omega) (by omega) hS hX hT3 (hY.qm q3) (fun e' he' => by omega)
    unfold f_X7_allEntriesThrow
    rcases z4 with ⟨y1, y2, y3⟩ | ⟨y1, y2⟩
    · have y1' : L_X7_allEntriesThrow_2 ax_fuel 0 s = some (.inr ((), s1)) := y1
      have y2' : L_X8_wins_33 ax_fuel (oN e0) 0 (am_sI t 55 3 0) = some (.inr ((), t1)) := y2
      have hS1 := hS.qc oS z1
      have hT1 : mS (am_I t1 56) r c d lw wy hd dr cr en := by rw [z2.I]; exact hT3
      obtain ⟨g1, g2, g3⟩ := hS1.2.2.2.2.2.1.2 e0 en[e0] hq
      rw [Nat.zero_add] at g1 g2 g3
      have g3' : am_I s1 (9 + 1) (3 * e0 + 2) = en[e0].2.2 := g3
      obtain ⟨k1, k2, k3⟩ := hT1.2.2.2.2.2.2 e0 en[e0] hq
      rw [ea] at g3' k3
      have e252 : (252 : Int32) + (3 : Int32) * oN e0 = oN (252 + 3 * e0) := by rw [oN_mulR, oN_addR]
      have p2 : oN (252 + 3 * e0) + 2 = oN (252 + 3 * e0 + 2) := oN_addL
      obtain ⟨S, u1, u2⟩ := win6 oS hS1 hT1 ha he ehl y3 l.length ax_fuel ax_fuel 0 0 (by rw [ax_fuel_is]; omega) (by rw [ax_fuel_is]; omega) (by omega)
      have u1' : L_X7_wins_69 ax_fuel (oN e0) (23 + 2 * a) 0 0 s1 = some (.inr (S, s1)) := u1
      have u2' : L_X8_wins_200 ax_fuel (oN e0) 0 (oN a) 0 t1 = some (.inr (S, t1)) := u2
      rw [y1', lm_e, bi_s, if_neg n10, f_get2 (by omega), bi_s, g3', handAt_ok hS1.2.2.1.1 b3 hal, bv_s, mv_r, if_pos (k0_hand a (by omega)), u1', lm_e, y2', lm_e, e252, p2, if_pos (in_o (by omega) (by omega)), oN_nat (by omega), k3, le_s, u2', lm_e]
      exact ⟨.inr S, cQ_v z1 rfl, mQ_v (q3.trans z2) rfl (z3.trans thr0)⟩
    · have y1' : L_X7_allEntriesThrow_2 ax_fuel 0 s = some (.inl (.inl (some (.int 0)), s1)) := y1
      have y2' : L_X8_wins_33 ax_fuel (oN e0) 0 (am_sI t 55 3 0) = some (.inl (.inl (some (.long 0)), t1)) := y2
      rw [y1', lm_r, bi_s, if_pos rfl, y2', lm_r]
      exact ⟨.inr 0, cQ_v z1 rfl, mQ_v (q3.trans z2) rfl (z3.trans thr0)⟩
  · have hm : (if x1 < 0 then some (.inr 3, am_tick s) else if x1 < oN en.length then am_bi (f_X7_allEntriesThrow s) (fun v4 s3 => if v4 = 0 then some (.inl (some (.long (0 : Int64))), s3) else am_bi (f_X4_get 9 x1 (2 : Int32) s3) (fun v7 s6 => am_bv (f_X5_handAt v7 s6) (fun v9 s8 => am_mv v9 (some (.inl (some (.long (0 : Int64))), s8)) (fun t10 => if am_k0 t10 = (4, 0) ∧ t10 < 72 then am_lm (L_X7_wins_69 ax_fuel x1 t10 (0 : Int64) (0 : Int32) s8) (fun e21 s22 => some (.inl (some (.long e21)), s22)) else none)))) else some (.inr 3, am_tick s) : am_F) = some (.inr 3, am_tick s) := by
      by_cases c : x1 < 0
      · rw [if_pos c]
      · have c2 : ¬ x1 < oN en.length := by
          rw [Int32.lt_iff_toInt_lt, Int32.toInt_zero] at c
          rw [Int32.lt_iff_toInt_lt, oN_int (by omega)]
          omega
        rw [if_neg c, if_neg c2]
    rw [hm, if_neg (show ¬ wi x1.toInt 0 ((en.length : Int) - 1) = true from fun h => hx (by have := wi_t.mp h; omega)), if_pos rfl]
    exact ⟨.inl 3, cQ_x qc.refl rfl, mQ_thr (u := 0) (x := 1) q3 rfl rfl⟩
end WINS
