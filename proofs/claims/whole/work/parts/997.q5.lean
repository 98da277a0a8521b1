/-! ===== hoops ===== -/
def gtS (E : hE) (hx lo hi : Int32) : Nat → hF → Bool
  | 0, _ => false
  | n + 1, F => if F.2.2.2.2.2.2.2.2.2.2 = 0 then (hit hx lo hi F.1 (tkF E F).1 (tkF E F).2.1 || gtS E hx lo hi n (tkF E F)) else false
section Q5
variable {s s1 t t1 t2 : am_S} {x x1 x2 x3 x4 x5 x6 x7 e v sl la hx lo hi : Int32} {r c d : Int32} {lw : Nat → Int32} {wy : List (List T2)} {hd : List (List T3)} {dr : List T3} {cr : List T2} {en : List T3} {P : Ppr} {l : List T3} {a : Nat} {E : hE} {F : hF}
theorem gt_in (oE : okE E) (h1x : 1 ≤ hx.toInt) : ∀ (m i : Nat) (s : am_S) (F : hF), 200 - i < m → i ≤ 200 → cF s → cE s E → cFl s F → okFl F → F.2.2.2.2.2.2.1 = oN i →
    ∃ s', L_X1_goesThrough_3 m hx lo hi (oN i) s = (if gtS E hx lo hi (200 - i) F = true then some (.inl (.inl (some (.int 1)), s')) else some (.inr ((), s'))) ∧ fr [41] s s' := by
  intro m
  induction m with
  | zero => intro i s F hm; exact absurd hm (Nat.not_lt_zero _)
  | succ m ih =>
    intro i s F hm hi' hf hE hF oF ht
    rw [L_X1_goesThrough_3]
    by_cases e : 200 ≤ i
    · rw [if_pos ((oN_leR (by omega) (by omega)).mpr e), show 200 - i = 0 by omega]
      exact ⟨s, rfl, fr.refl⟩
    · have hg := goesOn_is (F := F) (i := i) hF.2.2.2.2.2.2.2.2.2.2 (hF.2.2.2.2.2.2.1.trans ht) (by omega)
      rw [if_neg (fun hh => e ((oN_leR (by omega) (by omega)).mp hh))]
      by_cases c : F.2.2.2.2.2.2.2.2.2.2 = 0
      · rw [if_pos ⟨c, by omega⟩] at hg
        rw [hg, bi_s, if_neg n10]
        obtain ⟨s1, z1, z2, z3, z4, z5⟩ := c_tick hf hE oE hF oF c
        obtain ⟨s', y1, y2⟩ := ih (i + 1) s1 (tkF E F) (by omega) (by omega) (cF_fr hf z2 (by decide) (by decide)) z3 z4 (okFl_tk oF) (by rw [tk_ticks, ht, oN_addL])
        rw [z1, bu_s, oN_addL, z5, z4.1, z4.2.1, show 200 - i = (200 - (i + 1)) + 1 by omega, gtS, if_pos c, y1]
        generalize (tkF E F).1 = X at *
        generalize (tkF E F).2.1 = Y at *
        have no : hit hx lo hi F.1 X Y = false → (hit hx lo hi F.1 X Y || gtS E hx lo hi (200 - (i + 1)) (tkF E F)) = gtS E hx lo hi (200 - (i + 1)) (tkF E F) := fun h => by rw [h, Bool.false_or]
        by_cases k1 : hx ≤ F.1
        · rw [if_pos k1, no (decide_eq_false (by rw [Int32.le_iff_toInt_le] at k1; omega))]
          exact ⟨s', rfl, z2.trans y2⟩
        · rw [if_neg k1]
          by_cases k2 : X < hx
          · rw [if_pos k2, no (decide_eq_false (by rw [Int32.lt_iff_toInt_lt] at k2; omega))]
            exact ⟨s', rfl, z2.trans y2⟩
          · rw [if_neg k2]
            by_cases k3 : Y < lo
            · rw [if_pos k3, no (decide_eq_false (by rw [Int32.lt_iff_toInt_lt] at k3; omega))]
              exact ⟨s', rfl, z2.trans y2⟩
            · rw [if_neg k3]
              by_cases k4 : hi < Y
              · rw [if_pos k4, no (decide_eq_false (by rw [Int32.lt_iff_toInt_lt] at k4; omega))]
                exact ⟨s', rfl, z2.trans y2⟩
              · have yes : hit hx lo hi F.1 X Y = true := decide_eq_true (by rw [Int32.le_iff_toInt_le] at k1; rw [Int32.lt_iff_toInt_lt] at k2 k3 k4; omega)
                rw [if_neg k4, yes, Bool.true_or]
                exact ⟨s1, (if_pos rfl).symm, z2⟩
      · rw [if_neg (fun hh => c hh.1)] at hg
        have e0 : gtS E hx lo hi (200 - i) F = false := by
          rw [show 200 - i = (200 - (i + 1)) + 1 by omega, gtS, if_neg c]
        rw [hg, bi_s, if_pos rfl, e0]
        exact ⟨s, rfl, fr.refl⟩
theorem gthC (hC : CI s r c d lw wy hd dr cr en P) (oS : okS r c d lw wy hd dr cr en) (oP : okP P) (hv : wi v.toInt 10 999 = true) (hs : wi sl.toInt (-16) 16 = true) (h1x : 1 ≤ hx.toInt) :
    ∃ s1 s2, f_X1_begin e v sl s = some (.inl none, s1) ∧ f_X1_goesThrough hx lo hi s1 = some (.inl (some (.int (if gtS (EoS lw d dr cr P e) hx lo hi 200 (fl0 v (dirOf sl)) = true then 1 else 0))), s2) ∧ fr [41] s s2 := by
  have hs' := wi_t.mp hs
  obtain ⟨s1, z1, z2, z3, z4⟩ := begin_is (e := e) (v := v) hC.2.1.1 (cB_of hC.1 hC.2.2) (dir_and hs') (dir_lt hs')
  obtain ⟨s2, y1, y2⟩ := gt_in (lo := lo) (hi := hi) (EoS_ok (e := e) oS oP).1 h1x ax_fuel 0 s1 (fl0 v (dirOf sl)) (by rw [ax_fuel_is]; omega) (by omega) (cF_fr hC.2.1.1 z2 (by decide) (by decide)) z3 z4 (okFl_0 (wi_t.mp hv) (dir_lt hs')) rfl
  have y1' : L_X1_goesThrough_3 ax_fuel hx lo hi 0 s1 = (if gtS (EoS lw d dr cr P e) hx lo hi 200 (fl0 v (dirOf sl)) = true then some (.inl (.inl (some (.int 1)), s2)) else some (.inr ((), s2))) := y1
  refine ⟨s1, s2, z1, ?_, z2.trans y2⟩
  unfold f_X1_goesThrough
  rw [y1']
  by_cases c : gtS (EoS lw d dr cr P e) hx lo hi 200 (fl0 v (dirOf sl)) = true
  · rw [if_pos c, if_pos c, lm_r]
  · rw [if_neg c, if_neg c, lm_e]
theorem flies_in2 (oE : okE E) {n : Nat} (hn : n ≤ 200) : ∀ (m i : Nat) (s : am_S) (F : hF), n - i < m → i ≤ n → mE s E → mFl s F → okFl F → F.2.2.2.2.2.2.1 = oN i → am_I s 55 42 = hx → am_I s 55 43 = lo → am_I s 55 44 = hi →
    ∃ s', L_X8_flies_6 m E.2.2.2.2.1 (oN n) s = some (.inr ((), s')) ∧ fr [55] s s' ∧ mE s' E ∧ (∀ k, k < 31 ∨ (41 < k ∧ k ≠ 45) → am_I s' 55 k = am_I s 55 k) ∧ am_I s' 55 45 = (if gtS E hx lo hi (n - i) F = true then 1 else am_I s 55 45) := by
  intro m
  induction m with
  | zero => intro i s F hm; exact absurd hm (Nat.not_lt_zero _)
  | succ m ih =>
    intro i s F hm hi' hE hF oF ht e42 e43 e44
    rw [L_X8_flies_6, hF.2.2.2.2.2.2.1, ht, hF.2.2.2.2.2.2.2.2.2.2]
    by_cases e : n ≤ i
    · rw [if_pos ((oN_le (by omega) (by omega)).mpr e), show n - i = 0 by omega]
      exact ⟨s, rfl, fr.refl, hE, fun k _ => rfl, rfl⟩
    · rw [if_neg (fun hh => e ((oN_le (by omega) (by omega)).mp hh))]
      by_cases c : F.2.2.2.2.2.2.2.2.2.2 = 0
      · rw [if_pos c]
        obtain ⟨s1, z1, z2, z3, z4, z5, z6⟩ := m_tick hE oE hF oF
        rw [z1, bu_s]
        obtain ⟨s', y1, y2, y3, y5, y6⟩ := ih (i + 1) s1 (tkF E F) (by omega) (by omega) z3 z4 (okFl_tk oF) (by rw [tk_ticks, ht, oN_addL]) ((z5 42 (by omega)).trans e42) ((z5 43 (by omega)).trans e43) ((z5 44 (by omega)).trans e44)
        refine ⟨s', y1, z2.trans y2, y3, fun k hk => (y5 k hk).trans (z5 k hk), ?_⟩
        rw [y6, z6, e42, e43, e44, show n - i = (n - (i + 1)) + 1 by omega, gtS, if_pos c]
        by_cases k1 : hit hx lo hi F.1 (tkF E F).1 (tkF E F).2.1 = true
        · rw [k1, Bool.true_or, if_pos rfl]
          by_cases k2 : gtS E hx lo hi (n - (i + 1)) (tkF E F) = true
          · rw [if_pos k2]
          · rw [if_neg k2]
        · rw [Bool.not_eq_true] at k1
          rw [k1, Bool.false_or, if_neg (show ¬ (false = true) by decide)]
      · have e0 : gtS E hx lo hi (n - i) F = false := by
          rw [show n - i = (n - (i + 1)) + 1 by omega, gtS, if_neg c]
        rw [if_neg c, e0]
        exact ⟨s, rfl, fr.refl, hE, fun k _ => rfl, rfl⟩
theorem gthM (hM : MI t r c d lw wy hd dr cr en P) (oS : okS r c d lw wy hd dr cr en) (oP : okP P) (hv : wi v.toInt 10 999 = true) (hs : wi sl.toInt (-16) 16 = true) :
    ∃ t', f_X8_goesThrough e v sl hx lo hi t = some (.inl (some (.int (if gtS (EoS lw d dr cr P e) hx lo hi 200 (fl0 v (dirOf sl)) = true then 1 else 0))), t') ∧ qm t t' ∧ MI t' r c d lw wy hd dr cr en P ∧ am_I t' 55 3 = am_I t 55 3 := by
  have hs' := wi_t.mp hs
  have f0 : fr [55] t (am_sI (am_sI (am_sI t 55 42 hx) 55 43 lo) 55 44 hi) := ((fr.refl.sI (by simp)).sI (by simp)).sI (by simp)
  have k0 : ∀ k, k < 42 ∨ 44 < k → am_I (am_sI (am_sI (am_sI t 55 42 hx) 55 43 lo) 55 44 hi) 55 k = am_I t 55 k := fun k hk => by
    rw [I_sI, if_neg (by omega), I_sI, if_neg (by omega), I_sI, if_neg (by omega)]
  have hM0 : mM (am_sI (am_sI (am_sI t 55 42 hx) 55 43 lo) 55 44 hi) P := hM.2.2.keep (f0.I (by decide)) (f0.I (by decide)) (f0.I (by decide)) (fun k hk => k0 k (by omega))
  have hT0 : mS (am_I (am_sI (am_sI (am_sI t 55 42 hx) 55 43 lo) 55 44 hi) 56) r c d lw wy hd dr cr en := by rw [f0.I (by decide)]; exact hM.1
  have hY0 : mSi (am_sI (am_sI (am_sI t 55 42 hx) 55 43 lo) 55 44 hi) := mSi_of hM.2.1.2 (k0 30 (by omega)) (f0.I (by decide)) (f0.I (by decide))
  obtain ⟨s1, z1, z2, z3, z4, z5, z6⟩ := starts_is (v := v) (e := e) (mB_of hT0 hM0 hY0) (EoS_ok (e := e) oS oP).2 hs'
  have e42 : am_I s1 55 42 = hx := (z5 42 (by omega)).trans (by rw [I_sI, if_neg (by omega), I_sI, if_neg (by omega), I_sI, if_pos ⟨rfl, rfl⟩])
  have e43 : am_I s1 55 43 = lo := (z5 43 (by omega)).trans (by rw [I_sI, if_neg (by omega), I_sI, if_pos ⟨rfl, rfl⟩])
  have e44 : am_I s1 55 44 = hi := (z5 44 (by omega)).trans (by rw [I_sI, if_pos ⟨rfl, rfl⟩])
  obtain ⟨s2, y1, y2, y3, y5, y6⟩ := flies_in2 (EoS_ok (e := e) oS oP).1 (Nat.le_refl 200) ax_fuel 0 s1 (fl0 v (dirOf sl)) (by rw [ax_fuel_is]; omega) (by omega) z3 z4 (okFl_0 (wi_t.mp hv) (dir_lt hs')) rfl e42 e43 e44
  have y1' : L_X8_flies_6 ax_fuel e 200 s1 = some (.inr ((), s2)) := y1
  have hf : f_X8_flies e v sl 200 (am_sI (am_sI (am_sI t 55 42 hx) 55 43 lo) 55 44 hi) = some (.inl none, s2) := by
    unfold f_X8_flies
    rw [z1, bu_s, y1', lm_e]
  rw [z6, Nat.sub_zero] at y6
  have ff : fr [55, 65, 66] t (am_sI s2 55 42 0) := ((f0.mono (by decide)).trans (z2.trans (y2.mono (by decide)))).sI (by simp)
  have kk : ∀ k, k < 30 ∨ 45 < k → am_I (am_sI s2 55 42 0) 55 k = am_I t 55 k := fun k hk => by
    rw [I_sI, if_neg (by omega), y5 k (by omega), z5 k (by omega), k0 k (by omega)]
  have hsn : mSi (am_sI s2 55 42 0) := Or.inr (fun q hq => by rw [I_ne (by decide), I_ne (by decide)]; exact y3.2.2.2.2.2.2 q hq)
  have q42 : am_I (am_sI s2 55 42 0) 55 42 = 0 := by rw [I_sI, if_pos ⟨rfl, rfl⟩]
  refine ⟨am_sI s2 55 42 0, ?_, ⟨ff.mono (by decide), fun k hk => kk k (by omega), q42.trans hM.2.1.1.symm, fun _ => hsn⟩, ⟨by rw [ff.I (by decide)]; exact hM.1, ⟨q42, hsn⟩, hM.2.2.keep (ff.I (by decide)) (ff.I (by decide)) (ff.I (by decide)) (fun k hk => kk k (by omega))⟩, kk 3 (by omega)⟩
  unfold f_X8_goesThrough
  rw [hf, bu_s, y6, if_pos (Or.symm (by
    by_cases c : gtS (EoS lw d dr cr P e) hx lo hi 200 (fl0 v (dirOf sl)) = true
    · exact Or.inl (if_pos c)
    · exact Or.inr (if_neg c)))]
def okH (x y z : Int32) : Bool := wi x.toInt 1 99999 && wi y.toInt 0 9999 && wi z.toInt y.toInt 9999
theorem needHoop_is : f_X7_needHoop x1 x2 x3 s = if okH x1 x2 x3 = true then some (.inl none, s) else some (.inr 0, am_tick s) := by
  unfold f_X7_needHoop okH
  simp only [f_needWithin, lit32]
  by_cases h1 : wi x1.toInt 1 99999 = true <;> by_cases h2 : wi x2.toInt 0 9999 = true <;> by_cases h3 : wi x3.toInt x2.toInt 9999 = true <;> simp [h1, h2, h3, am_tu]
theorem isHoop_is : f_X8_isHoop x1 x2 x3 s = some (.inl (some (.int (if okH x1 x2 x3 = true then 1 else 0))), s) := by
  unfold f_X8_isHoop okH
  simp only [f_within, litL, Int32.toInt_toInt64]
  by_cases h1 : wi x1.toInt 1 99999 = true <;> by_cases h2 : wi x2.toInt 0 9999 = true <;> by_cases h3 : wi x3.toInt x2.toInt 9999 = true <;> simp [h1, h2, h3, am_bi]
theorem okH_1 (h : okH x1 x2 x3 = true) : 1 ≤ x1.toInt := by
  unfold okH at h
  rw [Bool.and_eq_true, Bool.and_eq_true] at h
  exact (wi_t.mp h.1.1).1
theorem if01 {p : Prop} [Decidable p] : (if p then (1 : Int32) else 0) = 0 ∨ (if p then (1 : Int32) else 0) = 1 := by
  by_cases h : p
  · exact Or.inr (if_pos h)
  · exact Or.inl (if_neg h)
theorem J_hoop (hS : cS s 1 r c d lw wy hd dr cr en) (oS : okS r c d lw wy hd dr cr en) (hX : cX s) (hT : mS (am_I t 56) r c d lw wy hd dr cr en) (hY : mX t) : ∃ o, cQ Value.int s (f_X7_hoop x1 x2 x3 x4 x5 x6 x7 s) o ∧ mQ Value.int k312 t (f_X8_hoop x1 x2 x3 x4 x5 x6 x7 t) o := by
  have n3 : ¬ (3 : Int32) = 0 := by decide
  have h := q_way (x := x1) (w := Value.int) (k := k312) (z0 := 0) (K := fun s7 => am_tu (f_X7_needThrow x2 x3 x4 s7) (fun s9 => am_tu (f_X7_needHoop x5 x6 x7 s9) (fun s11 => am_bu (f_X1_begin x2 x3 x4 s11) (fun s13 => am_bi (f_X1_goesThrough x5 x6 x7 s13) (fun v16 s15 => if v16 = 0 ∨ v16 = 1 then some (.inl (some (.int v16)), s15) else none)))))
    (G := fun v2 s1 => am_bi (f_X8_isEars x2 (am_sI s1 55 3 v2)) (fun v5 s4 => am_jn (fun (_ : Unit) s15 => some (.inl (some (.int 0)), am_sI s15 55 3 3)) (fun J6 => if v5 = 0 then J6 () s4 else am_bi (f_X8_isSpeed x3 s4) (fun v13 s12 => if v13 = 0 then J6 () s12 else am_bi (f_X8_isSlant x4 s12) (fun v16 s15 => if v16 = 0 then J6 () s15 else am_bi (f_X8_isHoop x5 x6 x7 s15) (fun v24 s23 => if v24 = 0 then J6 () s23 else am_bi (f_X8_goesThrough x2 x3 x4 x5 x6 x7 s23) (fun v8 s7 => some (.inl (some (.int v8)), s7)))))))) hS oS hT rfl rfl (by
      intro w0 fs P s1 t1 _ _ _ oP q1 hM q2 hN
      have q3 : qm t1 (am_sI t1 55 3 0) := qm.thr qm.refl
      have hC : CI s1 r c d lw wy hd dr cr en P := ⟨hS.qc oS q1, hX.qc q1, hM⟩
      have hD : MI (am_sI t1 55 3 0) r c d lw wy hd dr cr en P := MI.thr ⟨by rw [q2.I]; exact hT, hY.qm q2, hN⟩
      rw [needThrow_is, mThrow]
      by_cases g : wi x2.toInt (-9) 9 = true ∧ wi x3.toInt 10 999 = true ∧ wi x4.toInt (-16) 16 = true
      · rw [if_pos g, if_pos g, tu_s, needHoop_is, isHoop_is, bi_s]
        by_cases g5 : okH x5 x6 x7 = true
        · obtain ⟨s2, s3, z1, z2, z3⟩ := gthC (e := x2) (lo := x6) (hi := x7) hC oS oP g.2.1 g.2.2 (okH_1 g5)
          obtain ⟨t2, y1, y2, y3, y4⟩ := gthM (e := x2) (hx := x5) (lo := x6) (hi := x7) hD oS oP g.2.1 g.2.2
          rw [if_pos g5, if_pos g5, tu_s, if_neg n10, z1, bu_s, z2, bi_s, if_pos if01, y1, bi_s]
          exact ⟨.inr _, cQ_v (qc.of z3 (by decide)) rfl, mQ_v (q3.trans y2) rfl (y4.trans thr0)⟩
        · rw [if_neg g5, if_neg g5, tu_x, if_pos rfl]
          exact ⟨.inl 0, cQ_x qc.refl rfl, mQ_thr (u := 0) (x := 3) q3 rfl rfl⟩
      · rw [if_neg g, if_neg g, tu_x]
        exact ⟨.inl 0, cQ_x qc.refl rfl, mQ_thr (u := 0) (x := 3) q3 rfl rfl⟩)
  obtain ⟨o, o1, o2⟩ := h
  refine ⟨o, o1, ?_⟩
  have key : f_X8_hoop x1 x2 x3 x4 x5 x6 x7 t = am_bi (f_X8_wayFault x1 t) (fun v2 s1 => if v2 ≤ 0 then (am_bi (f_X8_isEars x2 (am_sI s1 55 3 v2)) (fun v5 s4 => am_jn (fun (_ : Unit) s15 => some (.inl (some (.int 0)), am_sI s15 55 3 3)) (fun J6 => if v5 = 0 then J6 () s4 else am_bi (f_X8_isSpeed x3 s4) (fun v13 s12 => if v13 = 0 then J6 () s12 else am_bi (f_X8_isSlant x4 s12) (fun v16 s15 => if v16 = 0 then J6 () s15 else am_bi (f_X8_isHoop x5 x6 x7 s15) (fun v24 s23 => if v24 = 0 then J6 () s23 else am_bi (f_X8_goesThrough x2 x3 x4 x5 x6 x7 s23) (fun v8 s7 => some (.inl (some (.int v8)), s7)))))))) else some (.inl (some (Value.int 0)), am_sI s1 55 3 v2)) := by
    have lz : (0 : Int32) ≤ 0 := by decide
    unfold f_X8_hoop
    have hw : (∃ t1, f_X8_wayFault x1 t = some (.inl (some (.int 0)), t1) ∧ ∃ P, MI t1 r c d lw wy hd dr cr en P ∧ okP P) ∨ ∃ t1 z, f_X8_wayFault x1 t = some (.inl (some (.int z)), t1) ∧ (z = 1 ∨ z = 2 ∨ z = 3) := by
      rcases way_cases oS x1 with ⟨w0, fs, e, h1, h2, h3⟩ | hx
      · subst e
        obtain ⟨t1, f2, kk, ⟨j', d1, d2⟩ | ⟨P, d1, d2, d3, d4⟩⟩ := m_wayFault hT oS h3
        · exact Or.inr ⟨t1, 2, d2, Or.inr (Or.inl rfl)⟩
        · exact Or.inl ⟨t1, d2, P, ⟨by rw [(qm.mk1 f2 kk).I]; exact hT, hY.qm (qm.mk1 f2 kk), d4⟩, d3⟩
      · exact Or.inr ⟨t, 1, m_wayNo hT oS hx, Or.inl rfl⟩
    rcases hw with ⟨t1, h1, P, hP, oP⟩ | ⟨t1, z, h1, hz⟩
    · rw [h1, bi_s, bi_s, jn_s, if_pos rfl, if_pos lz, mThrow, mThrow]
      by_cases g : wi x2.toInt (-9) 9 = true ∧ wi x3.toInt 10 999 = true ∧ wi x4.toInt (-16) 16 = true
      · rw [if_pos g, if_pos g, isHoop_is, bi_s, bi_s]
        by_cases g5 : okH x5 x6 x7 = true
        · obtain ⟨t2, y1, y2, y3, y4⟩ := gthM (e := x2) (hx := x5) (lo := x6) (hi := x7) (MI.thr (x := 0) hP) oS oP g.2.1 g.2.2
          rw [if_pos g5, if_neg n10, if_neg n10]
          dsimp only
          rw [thr0, if_pos rfl, y1, bi_s, bi_s]
          by_cases k : gtS (EoS lw d dr cr P x2) x5 x6 x7 200 (fl0 x3 (dirOf x4)) = true
          · rw [if_pos k, if_neg n10]
          · rw [if_neg k, if_pos rfl]
        · rw [if_neg g5, if_pos rfl, if_pos rfl]
          dsimp only
          rw [thr0, if_neg n3]
      · rw [if_neg g, if_neg g]
        dsimp only
        rw [thr0, if_neg n3]
    · have hz0 : ¬ z = 0 := by rcases hz with h | h | h <;> subst h <;> decide
      rw [h1, bi_s, bi_s, jn_s, if_neg hz0, if_neg (le0 hz)]
      dsimp only
      rw [thr0, if_neg hz0]
  rw [key]
  exact o2
end Q5
