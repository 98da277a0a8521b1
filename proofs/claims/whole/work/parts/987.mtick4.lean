section MT4
variable {s s1 : am_S} {E : hE} {F : hF} {cr : List T2}
theorem tickC_is {x x1 y2 sp tu ca hx lo hi hg : Int32} (hl : cr.length ≤ 3) (hb : ∀ q ∈ cr, 1 ≤ q.1.toInt) (h5 : am_I s 56 5 = oN cr.length) (hc : hp2 (am_I s 56) 246 2 cr) (h31 : am_I s 55 31 = x1) (h32 : am_I s 55 32 = y2) (h36 : am_I s 55 36 = sp) (h38 : am_I s 55 38 = hg) (h40 : am_I s 55 40 = tu) (h41 : am_I s 55 41 = ca) (h42 : am_I s 55 42 = hx) (h43 : am_I s 55 43 = lo) (h44 : am_I s 55 44 = hi) (h1 : am_I s1 55 31 = x) :
    ∃ s', tickC s1 s = some (.inl none, s') ∧ fr [55] s s' ∧ (∀ k, k ≠ 31 → k ≠ 38 → k ≠ 39 → k ≠ 40 → k ≠ 41 → k ≠ 45 → am_I s' 55 k = am_I s 55 k) ∧ am_I s' 55 31 = (if stp x x1 y2 0 cr = 0 then x1 else stp x x1 y2 0 cr) ∧ am_I s' 55 38 = am_max hg y2 ∧ am_I s' 55 39 = (if stp x x1 y2 0 cr = 0 then (if 0 < y2 then 0 else 1) else 2) ∧ am_I s' 55 40 = tu + sp ∧ am_I s' 55 41 = (if sp < -2 then 0 else if sp ≤ 2 then ca + 1 else 0) ∧ am_I s' 55 45 = (if hit hx lo hi x (if stp x x1 y2 0 cr = 0 then x1 else stp x x1 y2 0 cr) y2 = true then 1 else am_I s 55 45) := by
  have hn := stp_nn (lx := x) (x := x1) (y := y2) hb (show 0 ≤ (0 : Int32).toInt by decide)
  unfold tickC
  rw [h38, h32, h1]
  have kk : ∀ k, k ≠ 38 → am_I (am_sI s 55 38 (am_max hg y2)) 55 k = am_I s 55 k := fun k a => by rw [I_sI, if_neg (by omega)]
  have k56 : am_I (am_sI s 55 38 (am_max hg y2)) 56 = am_I s 56 := I_ne (by decide)
  have hst := mstop_in (s := am_sI s 55 38 (am_max hg y2)) (cr := cr) hl (lx := x) (x := x1) (y := y2) (by rw [kk 31 (by omega)]; exact h31) (by rw [kk 32 (by omega)]; exact h32) (by rw [k56]; exact h5) (by rw [k56]; exact hc) ax_fuel 0 0 (by rw [ax_fuel_is]; omega) (by omega)
  rw [List.drop_zero] at hst
  have hst' : L_X8_tick_119 ax_fuel x 0 0 (am_sI s 55 38 (am_max hg y2)) = some (.inr (stp x x1 y2 0 cr, am_sI s 55 38 (am_max hg y2))) := hst
  rw [hst', lm_e, jn_s]
  have fin : ∀ (x2 en : Int32), ∃ s', tickD s1 en (am_sI (am_sI s 55 38 (am_max hg y2)) 55 31 x2) = some (.inl none, s') ∧ fr [55] s s' ∧ (∀ k, k ≠ 31 → k ≠ 38 → k ≠ 39 → k ≠ 40 → k ≠ 41 → k ≠ 45 → am_I s' 55 k = am_I s 55 k) ∧ am_I s' 55 31 = x2 ∧ am_I s' 55 38 = am_max hg y2 ∧ am_I s' 55 39 = en ∧ am_I s' 55 40 = tu + sp ∧ am_I s' 55 41 = (if sp < -2 then 0 else if sp ≤ 2 then ca + 1 else 0) ∧ am_I s' 55 45 = (if hit hx lo hi x x2 y2 = true then 1 else am_I s 55 45) := by
    intro x2 en
    have k2 : ∀ k, k ≠ 31 → k ≠ 38 → am_I (am_sI (am_sI s 55 38 (am_max hg y2)) 55 31 x2) 55 k = am_I s 55 k := fun k a b => by rw [I_sI, if_neg (by omega), kk k b]
    obtain ⟨s', z1, z2, z3, z4, z5, z6, z7⟩ := tickD_is (s := am_sI (am_sI s 55 38 (am_max hg y2)) 55 31 x2) (s1 := s1) (en := en) (x := x) (x2 := x2) (y2 := y2) (sp := sp) (tu := tu) (ca := ca) (hx := hx) (lo := lo) (hi := hi) (by rw [I_sI, if_pos ⟨rfl, rfl⟩]) (by rw [k2 32 (by omega) (by omega)]; exact h32) (by rw [k2 36 (by omega) (by omega)]; exact h36) (by rw [k2 40 (by omega) (by omega)]; exact h40) (by rw [k2 41 (by omega) (by omega)]; exact h41) (by rw [k2 42 (by omega) (by omega)]; exact h42) (by rw [k2 43 (by omega) (by omega)]; exact h43) (by rw [k2 44 (by omega) (by omega)]; exact h44) h1
    refine ⟨s', z1, ((fr.refl.sI (by simp)).sI (by simp)).trans z2, ?_, ?_, ?_, z4, z5, z6, ?_⟩
    · intro k a b c d f g
      rw [z3 k c d f g, k2 k a b]
    · rw [z3 31 (by omega) (by omega) (by omega) (by omega), I_sI, if_pos ⟨rfl, rfl⟩]
    · rw [z3 38 (by omega) (by omega) (by omega) (by omega), I_sI, if_neg (by omega), I_sI, if_pos ⟨rfl, rfl⟩]
    · rw [z7, k2 45 (by omega) (by omega)]
  by_cases c1 : stp x x1 y2 0 cr = 0
  · have c2 : stp x x1 y2 0 cr ≤ 0 := by rw [c1]; exact Int32.le_refl 0
    rw [if_pos c2]
    show ∃ s', am_jn _ _ = _ ∧ _
    have k32 : am_I (am_sI s 55 38 (am_max hg y2)) 55 32 = y2 := by rw [kk 32 (by omega)]; exact h32
    rw [jn_s, if_pos c2, kk 31 (by omega), h31, k32, if_pos c1, if_pos c1]
    by_cases c3 : 0 < y2
    · rw [if_pos c3, if_pos c3]
      exact fin x1 0
    · rw [if_neg c3, if_neg c3]
      exact fin x1 1
  · have c2 : ¬ stp x x1 y2 0 cr ≤ 0 := by
      intro hh
      rw [Int32.le_iff_toInt_le, Int32.toInt_zero] at hh
      apply c1
      apply Int32.toInt_inj.mp
      rw [Int32.toInt_zero]
      omega
    rw [if_neg c2]
    show ∃ s', am_jn _ _ = _ ∧ _
    rw [jn_s, if_neg c2, if_neg c1, if_neg c1]
    exact fin _ 2
theorem mE_fr {s' : am_S} (h : mE s E) (f : fr [55] s s') (h23 : am_I s' 55 23 = am_I s 55 23) (h24 : am_I s' 55 24 = am_I s 55 24) (h27 : am_I s' 55 27 = am_I s 55 27) : mE s' E := by
  obtain ⟨a1, a2, a3, a4, a5, a6, a7⟩ := h
  have k56 : am_I s' 56 = am_I s 56 := f.I (by decide)
  refine ⟨?_, h23.trans a2, h27.trans a3, ?_, ?_, ?_, ?_⟩
  · rw [k56]; exact a1
  · rw [h24, k56]; exact a4
  · rw [k56]; exact a5
  · rw [k56]; exact a6
  · intro d hd
    rw [f.I (by decide), f.I (by decide)]
    exact a7 d hd
/-- what is left of a tick once spin and speeds are known -/
def tkG (r : Int32) (cr : List T2) (x y ns tk hi tu un sp1 vx1 vy1 : Int32) : hF :=
  (if stp x (x + vx1) (if r = -1 then y + vy1 else if y + vy1 ≤ 100 * r then y + vy1 else 100 * r) 0 cr = 0 then x + vx1 else stp x (x + vx1) (if r = -1 then y + vy1 else if y + vy1 ≤ 100 * r then y + vy1 else 100 * r) 0 cr,
   if r = -1 then y + vy1 else if y + vy1 ≤ 100 * r then y + vy1 else 100 * r, vx1, if r = -1 then vy1 else if y + vy1 ≤ 100 * r then vy1 else (-vy1) / 2, (ns + sp1) &&& 1023, sp1, tk + 1,
   am_max hi (if r = -1 then y + vy1 else if y + vy1 ≤ 100 * r then y + vy1 else 100 * r), tu + sp1, if sp1 < -2 then tk + 1 else if sp1 ≤ 2 then un else tk + 1,
   if stp x (x + vx1) (if r = -1 then y + vy1 else if y + vy1 ≤ 100 * r then y + vy1 else 100 * r) 0 cr = 0 then (if 0 < (if r = -1 then y + vy1 else if y + vy1 ≤ 100 * r then y + vy1 else 100 * r) then 0 else 1) else 2)
theorem tkG_e {lw : Nat → Int32} {A V e : Int32} {Ld : Int64} {dr : List T3} {x y vx vy ns sp tk hi tu un en : Int32} : tkF (lw, A, V, Ld, e, dr, cr) (x, y, vx, vy, ns, sp, tk, hi, tu, un, en) = tkG (lw 22) cr x y ns tk hi tu un
    (trn sp (((e.toInt64 * qv vx vy - V.toInt64 * lft lw A Ld (atk ns (pth vx.toInt vy.toInt)) (qv vx vy)) * (lw 20).toInt64) / 1000) (lw 21))
    (kpt (vx.toInt64 + (((-drg lw A Ld (atk ns (pth vx.toInt vy.toInt)) (qv vx vy)) * (Int32.ofInt (cs (pth vx.toInt vy.toInt))).toInt64) - (lft lw A Ld (atk ns (pth vx.toInt vy.toInt)) (qv vx vy) * (Int32.ofInt (sn (pth vx.toInt vy.toInt))).toInt64)) / 1000) 2000)
    (kpt ((vy.toInt64 + (((-drg lw A Ld (atk ns (pth vx.toInt vy.toInt)) (qv vx vy)) * (Int32.ofInt (sn (pth vx.toInt vy.toInt))).toInt64) + (lft lw A Ld (atk ns (pth vx.toInt vy.toInt)) (qv vx vy) * (Int32.ofInt (cs (pth vx.toInt vy.toInt))).toInt64)) / 1000) - (pul (tk + 1) (lw 18) dr).toInt64) 2000) := rfl
theorem tick_core {lw : Nat → Int32} {A V e : Int32} {Ld : Int64} {dr : List T3} {x y ns tk hi tu un sp1 vx1 vy1 : Int32} (hE : mE s (lw, A, V, Ld, e, dr, cr)) (ocr : cr.length ≤ 3) (oc1 : ∀ q ∈ cr, 1 ≤ q.1.toInt) (fr1 : fr [55] s s1) (hz : ∀ k, k ≠ 33 → k ≠ 34 → k ≠ 35 → k ≠ 36 → k ≠ 37 → am_I s1 55 k = am_I s 55 k) (z37 : am_I s1 55 37 = tk + 1) (z4 : am_I s1 55 36 = sp1) (z5 : am_I s1 55 35 = ((ns + sp1) &&& 1023)) (z6 : am_I s1 55 33 = vx1) (z7 : am_I s1 55 34 = vy1)
    (f31 : am_I s 55 31 = x) (f32 : am_I s 55 32 = y) (f38 : am_I s 55 38 = hi) (f40 : am_I s 55 40 = tu) (f41 : am_I s 55 41 = tk - un) :
    ∃ s', tickE s1 = some (.inl none, s') ∧ fr [55] s s' ∧ mE s' (lw, A, V, Ld, e, dr, cr) ∧ mFl s' (tkG (lw 22) cr x y ns tk hi tu un sp1 vx1 vy1) ∧ (∀ k, k < 31 ∨ (41 < k ∧ k ≠ 45) → am_I s' 55 k = am_I s 55 k) ∧
      am_I s' 55 45 = (if hit (am_I s 55 42) (am_I s 55 43) (am_I s 55 44) x (tkG (lw 22) cr x y ns tk hi tu un sp1 vx1 vy1).1 (tkG (lw 22) cr x y ns tk hi tu un sp1 vx1 vy1).2.1 = true then 1 else am_I s 55 45) := by
  have g31 : am_I s1 55 31 = x := by rw [hz 31 (by omega) (by omega) (by omega) (by omega) (by omega)]; exact f31
  have g32 : am_I s1 55 32 = y := by rw [hz 32 (by omega) (by omega) (by omega) (by omega) (by omega)]; exact f32
  have g56 : am_I s1 56 = am_I s 56 := fr1.I (by decide)
  have l22 : am_I s1 56 12 = lw 22 := by rw [g56]; exact hE.1 22 (by omega)
  have fin : ∀ (y2 vy2 : Int32) (s5 : am_S), fr [55] s1 s5 → am_I s5 55 31 = x + vx1 → am_I s5 55 32 = y2 → am_I s5 55 34 = vy2 → (∀ k, k ≠ 31 → k ≠ 32 → k ≠ 34 → am_I s5 55 k = am_I s1 55 k) →
      ∃ s', tickC s1 s5 = some (.inl none, s') ∧ fr [55] s s' ∧ mE s' (lw, A, V, Ld, e, dr, cr) ∧ mFl s' (if stp x (x + vx1) y2 0 cr = 0 then x + vx1 else stp x (x + vx1) y2 0 cr, y2, vx1, vy2, (ns + sp1) &&& 1023, sp1, tk + 1, am_max hi y2, tu + sp1, if sp1 < -2 then tk + 1 else if sp1 ≤ 2 then un else tk + 1, if stp x (x + vx1) y2 0 cr = 0 then (if 0 < y2 then 0 else 1) else 2) ∧ (∀ k, k < 31 ∨ (41 < k ∧ k ≠ 45) → am_I s' 55 k = am_I s 55 k) ∧
        am_I s' 55 45 = (if hit (am_I s 55 42) (am_I s 55 43) (am_I s 55 44) x (if stp x (x + vx1) y2 0 cr = 0 then x + vx1 else stp x (x + vx1) y2 0 cr) y2 = true then 1 else am_I s 55 45) := by
    intro y2 vy2 s5 ff e31 e32 e34 ek
    have m0 : ∀ k, k ≠ 31 → k ≠ 32 → k ≠ 33 → k ≠ 34 → k ≠ 35 → k ≠ 36 → k ≠ 37 → am_I s5 55 k = am_I s 55 k := fun k a b c d f g h => by
      rw [ek k a b d, hz k c d f g h]
    have fr5 : fr [55] s s5 := fr1.trans ff
    have k56 : am_I s5 56 = am_I s 56 := fr5.I (by decide)
    obtain ⟨s', w1, w2, w3, w4, w5, w6, w7, w8, w9⟩ := tickC_is (s := s5) (s1 := s1) (cr := cr) (x := x) (x1 := x + vx1) (y2 := y2) (sp := sp1) (tu := tu) (ca := tk - un) (hx := am_I s 55 42) (lo := am_I s 55 43) (hi := am_I s 55 44) (hg := hi) ocr oc1 (by rw [k56]; exact hE.2.2.2.2.2.1.1) (by rw [k56]; exact hE.2.2.2.2.2.1.2) e31 e32 (by rw [ek 36 (by omega) (by omega) (by omega)]; exact z4) (by rw [m0 38 (by omega) (by omega) (by omega) (by omega) (by omega) (by omega) (by omega)]; exact f38) (by rw [m0 40 (by omega) (by omega) (by omega) (by omega) (by omega) (by omega) (by omega)]; exact f40) (by rw [m0 41 (by omega) (by omega) (by omega) (by omega) (by omega) (by omega) (by omega)]; exact f41) (m0 42 (by omega) (by omega) (by omega) (by omega) (by omega) (by omega) (by omega)) (m0 43 (by omega) (by omega) (by omega) (by omega) (by omega) (by omega) (by omega)) (m0 44 (by omega) (by omega) (by omega) (by omega) (by omega) (by omega) (by omega)) g31
    have n0 : ∀ k, k < 31 ∨ (41 < k ∧ k ≠ 45) → am_I s' 55 k = am_I s 55 k := fun k hk => by
      rw [w3 k (by omega) (by omega) (by omega) (by omega) (by omega) (by omega), m0 k (by omega) (by omega) (by omega) (by omega) (by omega) (by omega) (by omega)]
    refine ⟨s', w1, fr5.trans w2, mE_fr hE (fr5.trans w2) (n0 23 (by omega)) (n0 24 (by omega)) (n0 27 (by omega)), ⟨w4, ?_, ?_, ?_, ?_, ?_, ?_, w5, w7, ?_, w6⟩, n0, ?_⟩
    · rw [w3 32 (by omega) (by omega) (by omega) (by omega) (by omega) (by omega)]; exact e32
    · rw [w3 33 (by omega) (by omega) (by omega) (by omega) (by omega) (by omega), ek 33 (by omega) (by omega) (by omega)]; exact z6
    · rw [w3 34 (by omega) (by omega) (by omega) (by omega) (by omega) (by omega)]; exact e34
    · rw [w3 35 (by omega) (by omega) (by omega) (by omega) (by omega) (by omega), ek 35 (by omega) (by omega) (by omega)]; exact z5
    · rw [w3 36 (by omega) (by omega) (by omega) (by omega) (by omega) (by omega), ek 36 (by omega) (by omega) (by omega)]; exact z4
    · rw [w3 37 (by omega) (by omega) (by omega) (by omega) (by omega) (by omega), ek 37 (by omega) (by omega) (by omega)]; exact z37
    · rw [w8]
      show _ = tk + 1 - (if sp1 < -2 then tk + 1 else if sp1 ≤ 2 then un else tk + 1)
      by_cases c1 : sp1 < -2
      · rw [if_pos c1, if_pos c1, Int32.sub_self]
      · rw [if_neg c1, if_neg c1]
        by_cases c2 : sp1 ≤ 2
        · rw [if_pos c2, if_pos c2, Int32.sub_eq_add_neg, Int32.sub_eq_add_neg, Int32.add_assoc, Int32.add_assoc, Int32.add_comm (-un) 1]
        · rw [if_neg c2, if_neg c2, Int32.sub_self]
    · rw [w9, m0 45 (by omega) (by omega) (by omega) (by omega) (by omega) (by omega) (by omega)]
  unfold tickE tkG
  rw [jn_s, l22, g31, g32, z6, z7]
  by_cases c1 : lw 22 = -1
  · rw [if_pos c1, if_pos c1, if_pos c1]
    exact fin (y + vy1) vy1 _ ((fr.refl.sI (by simp)).sI (by simp)) (by rw [I_sI, if_neg (by omega), I_sI, if_pos ⟨rfl, rfl⟩]) (by rw [I_sI, if_pos ⟨rfl, rfl⟩]) (by rw [I_sI, if_neg (by omega), I_sI, if_neg (by omega)]; exact z7) (fun k a b c => by rw [I_sI, if_neg (by omega), I_sI, if_neg (by omega)])
  · rw [if_neg c1, if_neg c1, if_neg c1]
    by_cases c2 : y + vy1 ≤ 100 * lw 22
    · rw [if_pos c2, if_pos c2, if_pos c2]
      exact fin (y + vy1) vy1 _ ((fr.refl.sI (by simp)).sI (by simp)) (by rw [I_sI, if_neg (by omega), I_sI, if_pos ⟨rfl, rfl⟩]) (by rw [I_sI, if_pos ⟨rfl, rfl⟩]) (by rw [I_sI, if_neg (by omega), I_sI, if_neg (by omega)]; exact z7) (fun k a b c => by rw [I_sI, if_neg (by omega), I_sI, if_neg (by omega)])
    · rw [if_neg c2, if_neg c2, if_neg c2]
      exact fin (100 * lw 22) ((-vy1) / 2) _ ((((fr.refl.sI (by simp)).sI (by simp)).sI (by simp)).sI (by simp)) (by rw [I_sI, if_neg (by omega), I_sI, if_neg (by omega), I_sI, if_neg (by omega), I_sI, if_pos ⟨rfl, rfl⟩]) (by rw [I_sI, if_neg (by omega), I_sI, if_pos ⟨rfl, rfl⟩]) (by rw [I_sI, if_pos ⟨rfl, rfl⟩]) (fun k a b c => by rw [I_sI, if_neg (by omega), I_sI, if_neg (by omega), I_sI, if_neg (by omega), I_sI, if_neg (by omega)])
theorem m_tick (hE : mE s E) (oE : okE E) (hF : mFl s F) (oF : okFl F) : ∃ s', f_X8_tick E.2.2.2.2.1 s = some (.inl none, s') ∧ fr [55] s s' ∧ mE s' E ∧ mFl s' (tkF E F) ∧ (∀ k, k < 31 ∨ (41 < k ∧ k ≠ 45) → am_I s' 55 k = am_I s 55 k) ∧
    am_I s' 55 45 = (if hit (am_I s 55 42) (am_I s 55 43) (am_I s 55 44) F.1 (tkF E F).1 (tkF E F).2.1 = true then 1 else am_I s 55 45) := by
  obtain ⟨lw, A, V, Ld, e, dr, cr⟩ := E
  obtain ⟨x, y, vx, vy, ns, sp, tk, hi, tu, un, en⟩ := F
  obtain ⟨oL, odr, ocr, oc1⟩ := oE
  obtain ⟨f31, f32, f33, f34, f35, f36, f37, f38, f40, f41, f39⟩ := hF
  obtain ⟨o1, o2, o3, o4⟩ := oF
  simp only at oL odr ocr oc1 f31 f32 f33 f34 f35 f36 f37 f38 f40 f41 f39 o1 o2 o3 o4
  have k0 : ∀ k, k ≠ 37 → am_I (am_sI s 55 37 (tk + 1)) 55 k = am_I s 55 k := fun k a => by rw [I_sI, if_neg (by omega)]
  have hE0 : mE (am_sI s 55 37 (tk + 1)) (lw, A, V, Ld, e, dr, cr) := mE_fr hE (fr.refl.sI (by simp)) (k0 23 (by omega)) (k0 24 (by omega)) (k0 27 (by omega))
  obtain ⟨s1, z1, z2, z3, z4, z5, z6, z7⟩ := m_air (vx := vx) (vy := vy) (ns := ns) (sp := sp) hE0 oL odr (by rw [k0 33 (by omega)]; exact f33) (by rw [k0 34 (by omega)]; exact f34) (by rw [k0 35 (by omega)]; exact f35) (by rw [k0 36 (by omega)]; exact f36) (tk := tk + 1) (by rw [I_sI, if_pos ⟨rfl, rfl⟩]) o1 o2 o3
  have fr1 : fr [55] s s1 := ((fr.refl.sI (by simp)) : fr [55] s _).trans z2
  obtain ⟨s', w1, w2⟩ := tick_core hE ocr oc1 fr1 (fun k a b c d f => by rw [z3 k a b c d, k0 k f]) (by rw [z3 37 (by omega) (by omega) (by omega) (by omega), I_sI, if_pos ⟨rfl, rfl⟩]) z4 z5 z6 z7 f31 f32 f38 f40 f41
  refine ⟨s', ?_, ?_⟩
  · rw [tick_e]
    show am_bu (f_X8_air e (am_sI s 55 37 (am_I s 55 37 + 1))) _ = _
    rw [f37, z1, bu_s]
    exact w1
  · rw [tkG_e]
    exact w2
end MT4
