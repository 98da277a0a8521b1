/-! ===== the best change of a way: told, and the class's ===== -/
abbrev hB : Type := Option (Nat × Nat × Int64)
def kf (f : Nat) : T2 := (oN (f / 6), oN (f % 6 + 1))
def offB (i f : Nat) (v : Int64) : hB → hB
  | none => some (i, f, v)
  | some b => if v ≤ b.2.2 then some b else some (i, f, v)
def fc1 (rc : Ppr → Int64) (r c : Int32) (fs : List T2) (i : Nat) (q0 : T2) (f : Nat) (B : hB) : hB :=
  if kf f = q0 then B else match mkS r c (fs.set i (kf f)) with
    | .inl _ => B
    | .inr P => offB i f (rc P) B
def fcI (rc : Ppr → Int64) (r c : Int32) (fs : List T2) (i : Nat) (q0 : T2) : Nat → Nat → hB → hB
  | 0, _, B => B
  | n + 1, f, B => fcI rc r c fs i q0 n (f + 1) (fc1 rc r c fs i q0 f B)
def fcO (rc : Ppr → Int64) (r c : Int32) (fs : List T2) : Nat → Nat → hB → hB
  | 0, _, B => B
  | n + 1, i, B => fcO rc r c fs n (i + 1) (fcI rc r c fs i ((fs[i]?).getD (0, 0)) 18 0 B)
def hBo (fs : List T2) (B : hB) : Prop := ∀ b, B = some b → b.1 < fs.length ∧ b.2.1 < 18
def cBs (s : am_S) : hB → Prop
  | none => am_I s 45 0 = -1
  | some b => am_I s 45 0 = oN b.1 ∧ am_I s 45 1 = (kf b.2.1).1 ∧ am_I s 45 2 = (kf b.2.1).2 ∧ am_L s 45 3 = b.2.2
def mBs (t : am_S) : hB → Prop
  | none => am_I t 55 47 = -1
  | some b => am_I t 55 47 = oN b.1 ∧ am_I t 55 48 = oN (100 * (b.2.1 / 6) + (b.2.1 % 6 + 1)) ∧ am_L t 55 49 = b.2.2
theorem t18 : ∀ f : Nat, f < 18 → oN f / (6 : Int32) = oN (f / 6) ∧ (oN f - oN f / (6 : Int32) * (6 : Int32)) + (1 : Int32) = oN (f % 6 + 1) := by decide
theorem kf_ok {f : Nat} (h : f < 18) : okF (kf f) := by
  unfold kf okF
  show (0 ≤ (oN (f / 6)).toInt ∧ (oN (f / 6)).toInt ≤ 2) ∧ (1 ≤ (oN (f % 6 + 1)).toInt ∧ (oN (f % 6 + 1)).toInt ≤ 12)
  rw [oN_int (by omega), oN_int (by omega)]
  omega
section CHG
variable {s s1 t t1 t2 : am_S} {x x1 x2 x3 x4 x5 x6 x7 e v sl la : Int32} {r c d : Int32} {lw : Nat → Int32} {wy : List (List T2)} {hd : List (List T3)} {dr : List T3} {cr : List T2} {en : List T3} {P : Ppr} {l : List T3} {fs : List T2} {q q0 : T2} {a w i f xa : Nat} {rc : Ppr → Int64} {B : hB}
theorem fc1_o (hi : i < fs.length) (hf : f < 18) (h : hBo fs B) : hBo fs (fc1 rc r c fs i q0 f B) := by
  unfold fc1
  by_cases k : kf f = q0
  · rw [if_pos k]; exact h
  · rw [if_neg k]
    cases mkS r c (fs.set i (kf f)) with
    | inl j => exact h
    | inr P =>
      cases B with
      | none => intro b hb; cases hb; exact ⟨hi, hf⟩
      | some b0 =>
        dsimp only [offB]
        by_cases k2 : rc P ≤ b0.2.2
        · rw [if_pos k2]; exact h
        · rw [if_neg k2]; intro b hb; cases hb; exact ⟨hi, hf⟩
theorem fcI_o (hi : i < fs.length) : ∀ {n f : Nat} {B : hB}, f + n ≤ 18 → hBo fs B → hBo fs (fcI rc r c fs i q0 n f B)
  | 0, _, _, _, h => h
  | n + 1, f, B, hn, h => by rw [fcI]; exact fcI_o hi (by omega) (fc1_o hi (by omega) h)
theorem fcO_o : ∀ {n i : Nat} {B : hB}, i + n ≤ fs.length → hBo fs B → hBo fs (fcO rc r c fs n i B)
  | 0, _, _, _, h => h
  | n + 1, i, B, hn, h => by rw [fcO]; exact fcO_o (by omega) (fcI_o (by omega) (by omega) h)
theorem set_ok (hok : ∀ q ∈ fs, okF q) (hq : okF q) : ∀ p ∈ fs.set i q, okF p := by
  intro p hp
  rcases List.mem_or_eq_of_mem_set hp with h | h
  · exact hok p h
  · rw [h]; exact hq
/-- a fold put into a row -/
def putF (a i : Nat) (q : T2) (s : am_S) : am_S := am_sI (am_sI s (a + 1) (3 * i) q.1) (a + 1) (3 * i + 1) q.2
theorem putF_is (hi : i < 11) : f_X4_putFold a (oN i) q.1 q.2 s = some (.inl none, putF a i q s) := by
  unfold f_X4_putFold
  have e0 : f_X4_put a (oN i) 0 q.1 s = some (.inl none, am_sI s (a + 1) (3 * i) q.1) := f_put (j := 0) hi (by omega)
  have e1 : f_X4_put a (oN i) 1 q.2 (am_sI s (a + 1) (3 * i) q.1) = some (.inl none, putF a i q s) := f_put (j := 1) hi (by omega)
  rw [e0, bu_s, e1, bu_s]
theorem putF_fr : fr [a + 1] s (putF a i q s) := (fr.refl.sI (by simp)).sI (by simp)
theorem putF_J {k : Nat} : am_I (putF a i q s) (a + 1) k = if k = 3 * i + 1 then q.2 else if k = 3 * i then q.1 else am_I s (a + 1) k := by
  unfold putF
  simp only [I_sI, true_and]
theorem putF_2 (h : cR2 s a fs) (hi : i < fs.length) : cR2 (putF a i q s) a (fs.set i q) := by
  refine ⟨?_, ?_⟩
  · rw [putF_fr.I (by simp), List.length_set]; exact h.1
  · intro j p hp
    rcases get_set hp with ⟨h1, h2⟩ | ⟨h1, h2⟩
    · obtain ⟨g1, g2⟩ := h.2 j p h2
      refine ⟨?_, ?_⟩
      · rw [putF_J, if_neg (by omega), if_neg (by omega)]; exact g1
      · rw [putF_J, if_neg (by omega), if_neg (by omega)]; exact g2
    · subst h1 h2
      refine ⟨?_, ?_⟩
      · rw [putF_J, if_neg (by omega), if_pos (by omega)]
      · rw [putF_J, if_pos (by omega)]
theorem cBs.keep (h : cBs s B) (e1 : am_I s1 45 = am_I s 45) (e2 : am_L s1 45 = am_L s 45) : cBs s1 B := by
  cases B with
  | none => show am_I s1 45 0 = -1; rw [e1]; exact h
  | some b => show _ ∧ _ ∧ _ ∧ _; rw [e1, e2]; exact h
/-- the class's offer -/
theorem offer_is {v : Int64} (hf : f < 18) (h : cBs s B) (hB : hBo fs B) (hl : fs.length ≤ 11) : ∃ s', f_X0_offer (oN i) (oN f) v s = some (.inl none, s') ∧ fr [45] s s' ∧ cBs s' (offB i f v B) := by
  unfold f_X0_offer
  obtain ⟨k1, k2⟩ := t18 f hf
  have key : ∃ s', (am_bi (f_X7_triedKind (oN f) (am_sI s 45 0 (oN i))) (fun v5 s4 => am_bi (f_X7_triedN (oN f) (am_sI s4 45 1 v5)) (fun v7 s6 => some (.inl none, (am_sL (am_sI s6 45 2 v7) 45 3 v)))) : am_F) = some (.inl none, s') ∧ fr [45] s s' ∧ cBs s' (some (i, f, v)) := by
    unfold f_X7_triedKind f_X7_triedN
    rw [bi_s, bi_s, k2, k1]
    refine ⟨_, rfl, ((((fr.refl.sI (by simp)).sI (by simp)).sI (by simp)).sL (by simp)), ?_, ?_, ?_, ?_⟩
    · show am_I (am_sI (am_sI (am_sI s 45 0 (oN i)) 45 1 (oN (f / 6))) 45 2 (oN (f % 6 + 1))) 45 0 = _
      rw [I_sI, if_neg (by omega), I_sI, if_neg (by omega), I_sI, if_pos ⟨rfl, rfl⟩]
    · show am_I (am_sI (am_sI (am_sI s 45 0 (oN i)) 45 1 (oN (f / 6))) 45 2 (oN (f % 6 + 1))) 45 1 = _
      rw [I_sI, if_neg (by omega), I_sI, if_pos ⟨rfl, rfl⟩]; rfl
    · show am_I (am_sI (am_sI (am_sI s 45 0 (oN i)) 45 1 (oN (f / 6))) 45 2 (oN (f % 6 + 1))) 45 2 = _
      rw [I_sI, if_pos ⟨rfl, rfl⟩]; rfl
    · rw [L_sL, if_pos ⟨rfl, rfl⟩]
  rw [jn_s]
  cases B with
  | none =>
    rw [if_pos (show am_I s 45 0 = -1 from h)]
    exact key
  | some b =>
    have hb := hB b rfl
    rw [h.1, if_neg (oN_not (by omega)), h.2.2.2]
    dsimp only [offB]
    by_cases k3 : v ≤ b.2.2
    · rw [if_pos k3, if_pos k3]
      exact ⟨s, rfl, fr.refl, h⟩
    · rw [if_neg k3, if_neg k3]
      exact key
theorem cbrk42 (hS : cS s 1 r c d lw wy hd dr cr en) (oS : okS r c d lw wy hd dr cr en) (hl : fs.length ≤ 11) (hok : ∀ q ∈ fs, okF q) (hR : cR2 s 42 fs) :
    ∃ s', fr [37, 38] s s' ∧ ((∃ j, mkS r c fs = .inl j ∧ f_X7_breakOf 42 s = some (.inl (some (.int (oN j))), s') ∧ j ≤ 11) ∨ (∃ P, mkS r c fs = .inr P ∧ f_X7_breakOf 42 s = some (.inl (some (.int (-1))), s') ∧ okP P ∧ cM s' P)) := by
  obtain ⟨q1, q2, q3, q4⟩ := oS_rc oS
  exact c_break (by omega) hl hok hR (hS.1.1.trans q1) (hS.1.2.1.trans q2) q3.1 q3.2 q4.1 q4.2
theorem fc_in (oS : okS r c d lw wy hd dr cr en) (ha : hd[a]? = some l) (hl : fs.length ≤ 11) (hok : ∀ q ∈ fs, okF q) (hi : i < fs.length) : ∀ (n m f : Nat) (B : hB) (q : T2) (s : am_S), n < m → f + n = 18 → hBo fs B → cS s 1 r c d lw wy hd dr cr en → cX s → cR2 s 42 (fs.set i q) → cBs s B →
    ∃ s' q', L_X7_findBestChange_49 m xa (23 + 2 * a) e la (oN i) q0.1 q0.2 (oN f) s = some (.inr ((), s')) ∧ qc s s' ∧ cR2 s' 42 (fs.set i q') ∧ cBs s' (fcI (fun P => rcE lw d dr cr P la l e) r c fs i q0 n f B) := by
  intro n
  induction n with
  | zero =>
    intro m f B q s hm hf hB hS hX hR hb
    obtain ⟨m, rfl⟩ : ∃ q, m = q + 1 := ⟨m - 1, by omega⟩
    obtain rfl : f = 18 := by omega
    rw [L_X7_findBestChange_49, if_pos (by decide)]
    exact ⟨s, q, rfl, qc.refl, hR, hb⟩
  | succ n ih =>
    intro m f B q s hm hf hB hS hX hR hb
    obtain ⟨m, rfl⟩ : ∃ q, m = q + 1 := ⟨m - 1, by omega⟩
    obtain ⟨k1, k2⟩ := t18 f (by omega)
    have eK : ∀ s, f_X7_triedKind (oN f) s = some (.inl (some (.int (kf f).1)), s) := fun s => by unfold f_X7_triedKind; rw [k1]; rfl
    have eN : ∀ s, f_X7_triedN (oN f) s = some (.inl (some (.int (kf f).2)), s) := fun s => by unfold f_X7_triedN; rw [k2]; rfl
    have hBn := fc1_o (rc := fun P => rcE lw d dr cr P la l e) (r := r) (c := c) (q0 := q0) hi (show f < 18 by omega) hB
    -- the fold is tried
    have body : kf f ≠ q0 → ∃ s' q', (am_bi (f_X7_triedKind (oN f) s) (fun v15 s14 => am_bi (f_X7_triedN (oN f) s14) (fun v17 s16 => am_bu (f_X4_putFold 42 (oN i) v15 v17 s16) (fun s18 => am_bi (f_X7_breakOf 42 s18) (fun v21 s20 => if v21 = (-1 : Int32) then am_bl (f_X7_reachOf (23 + 2 * a) e la s20) (fun v24 s23 => am_bu (f_X0_offer (oN i) (oN f) v24 s23) (fun s25 => L_X7_findBestChange_49 m xa (23 + 2 * a) e la (oN i) q0.1 q0.2 (oN f + (1 : Int32)) s25)) else L_X7_findBestChange_49 m xa (23 + 2 * a) e la (oN i) q0.1 q0.2 (oN f + (1 : Int32)) s20)))) : am_FE Unit) = some (.inr ((), s')) ∧ qc s s' ∧ cR2 s' 42 (fs.set i q') ∧ cBs s' (fcI (fun P => rcE lw d dr cr P la l e) r c fs i q0 n (f + 1) (fc1 (fun P => rcE lw d dr cr P la l e) r c fs i q0 f B)) := by
      intro hne
      have fp : fr [43] s (putF 42 i (kf f) s) := putF_fr
      have qp : qc s (putF 42 i (kf f) s) := qc.of fp (by decide)
      have hRp : cR2 (putF 42 i (kf f) s) 42 (fs.set i (kf f)) := by
        have := putF_2 (q := kf f) (i := i) hR (by rw [List.length_set]; exact hi)
        rw [List.set_set] at this
        exact this
      have hSp := hS.qc oS qp
      have hXp := hX.qc qp
      have hbp : cBs (putF 42 i (kf f) s) B := hb.keep (fp.I (by decide)) (fp.L (by decide))
      rw [eK, bi_s, eN, bi_s, putF_is (by omega), bu_s, oN_addL]
      obtain ⟨s1, f1, ⟨j, e1, e2, e3⟩ | ⟨P, e1, e2, e3, e4⟩⟩ := cbrk42 hSp oS (by rw [List.length_set]; exact hl) (set_ok hok (kf_ok (by omega))) hRp
      · have q1 : qc (putF 42 i (kf f) s) s1 := qc.of f1 (by decide)
        have efc : fc1 (fun P => rcE lw d dr cr P la l e) r c fs i q0 f B = B := by unfold fc1; rw [if_neg hne, e1]
        rw [efc] at hBn ⊢
        obtain ⟨s', q', z1, z2, z3, z4⟩ := ih m (f + 1) B (kf f) s1 (by omega) (by omega) hB (hSp.qc oS q1) (hXp.qc q1) (hRp.same (by rw [f1.I (by decide)]) (f1.I (by decide))) (hbp.keep (f1.I (by decide)) (f1.L (by decide)))
        rw [e2, bi_s, if_neg (oN_not (by omega))]
        exact ⟨s', q', z1, qp.trans (q1.trans z2), z3, z4⟩
      · have q1 : qc (putF 42 i (kf f) s) s1 := qc.of f1 (by decide)
        have hC : CI s1 r c d lw wy hd dr cr en P := ⟨hSp.qc oS q1, hXp.qc q1, e4⟩
        obtain ⟨s2, y1, y2⟩ := rchC (e := e) (la := la) hC oS e3 ha
        have y1' : f_X7_reachOf (23 + 2 * a) e la s1 = some (.inl (some (.long (rcE lw d dr cr P la l e))), s2) := y1
        have q2 : qc s1 s2 := qc.of y2 (by decide)
        have hb2 : cBs s2 B := (hbp.keep (f1.I (by decide)) (f1.L (by decide))).keep (y2.I (by decide)) (y2.L (by decide))
        obtain ⟨s3, w1, w2, w3⟩ := offer_is (i := i) (v := rcE lw d dr cr P la l e) (show f < 18 by omega) hb2 hB hl
        have q3 : qc s2 s3 := qc.of w2 (by decide)
        have qq : qc s s3 := qp.trans (q1.trans (q2.trans q3))
        have hR3 : cR2 s3 42 (fs.set i (kf f)) := hRp.same (by rw [w2.I (by decide), y2.I (by decide), f1.I (by decide)]) (by rw [w2.I (by decide), y2.I (by decide), f1.I (by decide)])
        have efc : fc1 (fun P => rcE lw d dr cr P la l e) r c fs i q0 f B = offB i f (rcE lw d dr cr P la l e) B := by unfold fc1; rw [if_neg hne, e1]
        rw [efc] at hBn ⊢
        obtain ⟨s', q', z1, z2, z3, z4⟩ := ih m (f + 1) _ (kf f) s3 (by omega) (by omega) hBn (hS.qc oS qq) (hX.qc qq) hR3 w3
        rw [e2, bi_s, if_pos rfl, y1', bl_s, w1, bu_s]
        exact ⟨s', q', z1, qq.trans z2, z3, z4⟩
    rw [L_X7_findBestChange_49, if_neg (by rw [oN_leR (by omega) (by omega)]; omega), eK, bi_s, jn_s, fcI]
    by_cases c1 : (kf f).1 = q0.1
    · rw [if_pos c1, eN, bi_s]
      by_cases c2 : (kf f).2 = q0.2
      · have hq : kf f = q0 := Prod.ext c1 c2
        have efc : fc1 (fun P => rcE lw d dr cr P la l e) r c fs i q0 f B = B := by unfold fc1; rw [if_pos hq]
        rw [if_pos c2, efc, oN_addL]
        exact ih m (f + 1) B q s (by omega) (by omega) hB hS hX hR hb
      · rw [if_neg c2]
        exact body (fun h => c2 (congrArg Prod.snd h))
    · rw [if_neg c1]
      exact body (fun h => c1 (congrArg Prod.fst h))
theorem fcO_in (oS : okS r c d lw wy hd dr cr en) (ha : hd[a]? = some l) (hw : wy[w]? = some fs) : ∀ (n m i : Nat) (B : hB) (s : am_S), n < m → i + n = fs.length → hBo fs B → cS s 1 r c d lw wy hd dr cr en → cX s → cR2 s 42 fs → cBs s B →
    ∃ s', L_X7_findBestChange_19 m (11 + 2 * w) (23 + 2 * a) e la (oN i) s = some (.inr ((), s')) ∧ qc s s' ∧ cBs s' (fcO (fun P => rcE lw d dr cr P la l e) r c fs n i B) := by
  have hwl := (List.getElem?_eq_some_iff.mp hw).1
  have b1 := (oB oS).1
  have hm := oS.2.2.2.2.1.2 fs (List.mem_of_getElem? hw)
  intro n
  induction n with
  | zero =>
    intro m i B s hm1 hi hB hS hX hR hb
    obtain ⟨m, rfl⟩ : ∃ q, m = q + 1 := ⟨m - 1, by omega⟩
    have hr : cR2 s (11 + 2 * w) fs := by have := hS.2.1.2 w fs hw; rw [show 1 + 10 + 2 * w = 11 + 2 * w by omega] at this; exact this
    rw [L_X7_findBestChange_19, hr.1, if_pos ((oN_le (by omega) (by omega)).mpr (by omega))]
    exact ⟨s, rfl, qc.refl, hb⟩
  | succ n ih =>
    intro m i B s hm1 hi hB hS hX hR hb
    obtain ⟨m, rfl⟩ : ∃ q, m = q + 1 := ⟨m - 1, by omega⟩
    have hr : cR2 s (11 + 2 * w) fs := by have := hS.2.1.2 w fs hw; rw [show 1 + 10 + 2 * w = 11 + 2 * w by omega] at this; exact this
    have hi2 : i < fs.length := by omega
    have hfi : fs[i]? = some fs[i] := List.getElem?_eq_getElem hi2
    obtain ⟨g1, g2⟩ := hr.2 i fs[i] hfi
    rw [Nat.zero_add] at g1 g2
    have hset : fs.set i fs[i] = fs := List.set_getElem_self hi2
    obtain ⟨s1, q', z1, z2, z3, z4⟩ := fc_in (xa := 11 + 2 * w) (e := e) (la := la) (q0 := fs[i]) oS ha hm.1 hm.2 hi2 18 ax_fuel 0 B fs[i] s (by rw [ax_fuel_is]; omega) (by omega) hB hS hX (by rw [hset]; exact hR) hb
    have z1' : L_X7_findBestChange_49 ax_fuel (11 + 2 * w) (23 + 2 * a) e la (oN i) (fs[i]).1 (fs[i]).2 0 s = some (.inr ((), s1)) := z1
    have fp : fr [43] s1 (putF 42 i fs[i] s1) := putF_fr
    have qp : qc s1 (putF 42 i fs[i] s1) := qc.of fp (by decide)
    have hRp : cR2 (putF 42 i fs[i] s1) 42 fs := by
      have := putF_2 (q := fs[i]) (i := i) z3 (by rw [List.length_set]; exact hi2)
      rw [List.set_set, hset] at this
      exact this
    have qq := z2.trans qp
    have hB2 : hBo fs (fcI (fun P => rcE lw d dr cr P la l e) r c fs i fs[i] 18 0 B) := fcI_o hi2 (by omega) hB
    obtain ⟨s', y1, y2, y3⟩ := ih m (i + 1) _ (putF 42 i fs[i] s1) (by omega) (by omega) hB2 (hS.qc oS qq) (hX.qc qq) hRp (z4.keep (fp.I (by decide)) (fp.L (by decide)))
    rw [L_X7_findBestChange_19, hr.1, if_neg (by rw [oN_le (by omega) (by omega)]; omega), f_get0 (by omega), bi_s, f_get1 (by omega), bi_s, g1, g2, z1', ll_e, putF_is (by omega), bu_s, oN_addL, fcO, hfi]
    exact ⟨s', y1, qq.trans y2, y3⟩
def fcW (lw : Nat → Int32) (d : Int32) (dr : List T3) (cr : List T2) (la : Int32) (l : List T3) (e : Int32) (r c : Int32) (fs : List T2) : hB := fcO (fun P => rcE lw d dr cr P la l e) r c fs fs.length 0 none
theorem fcW_o : hBo fs (fcW lw d dr cr la l e r c fs) := fcO_o (by omega) (fun b hb => by cases hb)
theorem chgC (oS : okS r c d lw wy hd dr cr en) (ha : hd[a]? = some l) (hw : wy[w]? = some fs) (hS : cS s 1 r c d lw wy hd dr cr en) (hX : cX s) :
    ∃ s', f_X7_findBestChange (11 + 2 * w) (23 + 2 * a) e la s = some (.inl none, s') ∧ qc s s' ∧ cBs s' (fcW lw d dr cr la l e r c fs) := by
  have hwl := (List.getElem?_eq_some_iff.mp hw).1
  have b1 := (oB oS).1
  have hm := oS.2.2.2.2.1.2 fs (List.mem_of_getElem? hw)
  have f0 : fr [45] s (am_sI s 45 0 (-1)) := fr.refl.sI (by simp)
  have q0 : qc s (am_sI s 45 0 (-1)) := qc.of f0 (by decide)
  have hS0 := hS.qc oS q0
  have hX0 := hX.qc q0
  have hr : cR2 (am_sI s 45 0 (-1)) (11 + 2 * w) fs := by have := hS0.2.1.2 w fs hw; rw [show 1 + 10 + 2 * w = 11 + 2 * w by omega] at this; exact this
  obtain ⟨s1, z1, z2, z3⟩ := rcopy (s := am_sI s 45 0 (-1)) (a := 42) (b := 11 + 2 * w) (by omega)
  have hR1 : cR2 s1 42 fs := z3.r2 (L := 11) hr hm.1 (by omega) hX0.2
  have q1 : qc (am_sI s 45 0 (-1)) s1 := ⟨z2.mono (by decide), z3.2.1⟩
  have qq := q0.trans q1
  obtain ⟨s2, y1, y2, y3⟩ := fcO_in (e := e) (la := la) oS ha hw fs.length ax_fuel 0 none s1 (by rw [ax_fuel_is]; omega) (by omega) (fun b hb => by cases hb) (hS.qc oS qq) (hX.qc qq) hR1 (by show am_I s1 45 0 = -1; rw [z2.I (by decide), I_sI, if_pos ⟨rfl, rfl⟩])
  have y1' : L_X7_findBestChange_19 ax_fuel (11 + 2 * w) (23 + 2 * a) e la 0 s1 = some (.inr ((), s2)) := y1
  unfold f_X7_findBestChange
  rw [z1, bu_s, y1', lm_e]
  exact ⟨s2, rfl, qq.trans y2, y3⟩
end CHG
