/-! ===== questions: class and model give one answer ===== -/
def qc (s s1 : am_S) : Prop := fr [37, 38, 39, 40, 41, 42, 43, 44, 45, 46] s s1 ∧ am_I s1 42 1 = am_I s 42 1
def mSi (s : am_S) : Prop := am_I s 55 30 = 0 ∨ mSn s 64
def qm (s s1 : am_S) : Prop := fr [55, 62, 63, 64, 65, 66, 67] s s1 ∧ (∀ k, 6 < k ∧ k < 17 → am_I s1 55 k = am_I s 55 k) ∧ am_I s1 55 42 = am_I s 55 42 ∧ (mSi s → mSi s1)
def cX (s : am_S) : Prop := cF s ∧ am_I s 42 1 = 11
def mX (s : am_S) : Prop := am_I s 55 42 = 0 ∧ mSi s
/-- the class's answer (or throw), the model's -/
def cQ {α : Type} (w : α → Value) (s : am_S) (f : am_F) (o : Nat ⊕ α) : Prop := ∃ s1, qc s s1 ∧ f = (match o with | .inl e => some (.inr e, am_tick s1) | .inr v => some (.inl (some (w v)), s1))
def mQ {α : Type} (w : α → Value) (k : Nat → Int32) (t : am_S) (f : am_F) (o : Nat ⊕ α) : Prop := ∃ t1 v, qm t t1 ∧ f = some (.inl (some (w v)), t1) ∧ (match o with | .inl e => am_I t1 55 3 = k e | .inr u => am_I t1 55 3 = 0 ∧ v = u)
def k312 (e : Nat) : Int32 := if e = 3 then 1 else if e = 1 then 2 else if e = 0 then 3 else 9
section QQ
variable {s s1 s2 t t1 t2 : am_S} {α : Type} {w : α → Value} {k : Nat → Int32} {f g : am_F} {e : Nat} {v : α}
theorem qc.refl : qc s s := ⟨fr.refl, rfl⟩
theorem qc.trans (h : qc s s1) (h' : qc s1 s2) : qc s s2 := ⟨h.1.trans h'.1, h'.2.trans h.2⟩
theorem qc.of {A : List Nat} (h : fr A s s1) (hA : A.all (fun a => decide (a ∈ [37, 38, 39, 40, 41, 43, 44, 45, 46])) = true) : qc s s1 :=
  ⟨h.mono (by
    rw [List.all_eq_true] at hA ⊢
    intro x hx
    have := of_decide_eq_true (hA x hx)
    apply decide_eq_true
    simp only [List.mem_cons, List.not_mem_nil, or_false] at this ⊢
    omega), by
    rw [h.I (fun hm => by
      have := of_decide_eq_true (List.all_eq_true.mp hA _ hm)
      revert this
      decide)]⟩
theorem qm.refl : qm t t := ⟨fr.refl, fun _ _ => rfl, rfl, id⟩
theorem qm.trans (h : qm t t1) (h' : qm t1 t2) : qm t t2 := ⟨h.1.trans h'.1, fun k hk => (h'.2.1 k hk).trans (h.2.1 k hk), h'.2.2.1.trans h.2.2.1, fun x => h'.2.2.2 (h.2.2.2 x)⟩
theorem qm.thr {x : Int32} (h : qm t t1) : qm t (am_sI t1 55 3 x) := by
  refine h.trans ⟨fr.refl.sI (by simp), fun k hk => ?_, ?_, ?_⟩
  · rw [I_sI, if_neg (by omega)]
  · rw [I_sI, if_neg (by omega)]
  · rintro (h | h)
    · exact Or.inl (by rw [I_sI, if_neg (by omega)]; exact h)
    · exact Or.inr (fun d hd => by rw [I_ne (by decide), I_ne (by decide)]; exact h d hd)
theorem mSi_of (h : mSi t) (e1 : am_I t1 55 30 = am_I t 55 30) (e2 : am_I t1 65 = am_I t 65) (e3 : am_I t1 66 = am_I t 66) : mSi t1 := by
  rcases h with h | h
  · exact Or.inl (e1.trans h)
  · exact Or.inr (fun d hd => by rw [e2, e3]; exact h d hd)
theorem qm.mk1 (h : fr [55, 62, 63, 64] t t1) (hk : ∀ j, j < 20 ∨ 27 < j → am_I t1 55 j = am_I t 55 j) : qm t t1 :=
  ⟨h.mono (by decide), fun k hk' => hk k (by omega), hk 42 (by omega), fun hm => mSi_of hm (hk 30 (by omega)) (h.I (by decide)) (h.I (by decide))⟩
theorem qm.fl (h : fr [55, 65, 66] t t1) (hk : ∀ k, k < 30 ∨ (41 < k ∧ k ≠ 45) → am_I t1 55 k = am_I t 55 k) (hs : mSi t1) : qm t t1 :=
  ⟨h.mono (by decide), fun k hk' => hk k (by omega), hk 42 (by omega), fun _ => hs⟩
theorem cQ_x (h : qc s s1) (hf : f = some (.inr e, am_tick s1)) : cQ w s f (.inl e) := ⟨s1, h, hf⟩
theorem cQ_v (h : qc s s1) (hf : f = some (.inl (some (w v)), s1)) : cQ w s f (.inr v) := ⟨s1, h, hf⟩
theorem mQ_x {u : α} {t1 : am_S} (h : qm t t1) (hf : f = some (.inl (some (w u)), t1)) (hk : am_I t1 55 3 = k e) : mQ w k t f (.inl e) := ⟨t1, u, h, hf, hk⟩
theorem mQ_v {t1 : am_S} (h : qm t t1) (hf : f = some (.inl (some (w v)), t1)) (hk : am_I t1 55 3 = 0) : mQ w k t f (.inr v) := ⟨t1, v, h, hf, hk, rfl⟩
theorem mQ_thr {u : α} {x : Int32} (h : qm t t1) (hf : f = some (.inl (some (w u)), am_sI t1 55 3 x)) (hk : x = k e) : mQ w k t f (.inl e) := ⟨_, u, h.thr, hf, by show am_I _ 55 3 = k e; rw [I_sI, if_pos ⟨rfl, rfl⟩]; exact hk⟩
theorem cQ.pre {o : Nat ⊕ α} (h : qc s s1) (hq : cQ w s1 f o) : cQ w s f o := by
  obtain ⟨s2, a, b⟩ := hq
  exact ⟨s2, h.trans a, b⟩
theorem mQ.pre {o : Nat ⊕ α} (h : qm t t1) (hq : mQ w k t1 f o) : mQ w k t f o := by
  obtain ⟨t2, v, a, b, c⟩ := hq
  exact ⟨t2, v, h.trans a, b, c⟩
theorem cX.qc (h : cX s) (q : qc s s1) : cX s1 := ⟨cF_fr h.1 q.1 (by decide) (by decide), q.2.trans h.2⟩
theorem mX.qm (h : mX t) (q : qm t t1) : mX t1 := ⟨q.2.2.1.trans h.1, q.2.2.2 h.2⟩
end QQ
section QW
variable {s t : am_S} {α : Type} {w : α → Value} {k : Nat → Int32} {x y e v sl la : Int32} {r c d : Int32} {lw : Nat → Int32} {wy : List (List T2)} {hd : List (List T3)} {dr : List T3} {cr : List T2} {en : List T3}
theorem cS.qc {s1 : am_S} (hS : cS s 1 r c d lw wy hd dr cr en) (oS : okS r c d lw wy hd dr cr en) (q : qc s s1) : cS s1 1 r c d lw wy hd dr cr en := cS_scr hS oS q.1 (by decide)
theorem qm.I {t1 : am_S} (q : qm t t1) : am_I t1 56 = am_I t 56 := q.1.I (by decide)
theorem way_cases (oS : okS r c d lw wy hd dr cr en) (x : Int32) : (∃ w fs, x = oN w ∧ w < wy.length ∧ wy.length ≤ 6 ∧ wy[w]? = some fs) ∨ ¬ (0 ≤ x.toInt ∧ x.toInt < wy.length) := by
  rcases ix_cases x wy.length with ⟨w, h1, h2⟩ | h
  · exact Or.inl ⟨w, wy[w], h2, h1, oS.2.2.2.2.1.1, List.getElem?_eq_getElem h1⟩
  · exact Or.inr h
theorem hand_cases (oS : okS r c d lw wy hd dr cr en) (x : Int32) : (∃ w fs, x = oN w ∧ w < hd.length ∧ hd.length ≤ 5 ∧ hd[w]? = some fs ∧ fs.length ≤ 4 ∧ ∀ q ∈ fs, okT q) ∨ ¬ (0 ≤ x.toInt ∧ x.toInt < hd.length) := by
  rcases ix_cases x hd.length with ⟨w, h1, h2⟩ | h
  · have h3 := oS.2.2.2.2.2.1.2 hd[w] (List.getElem_mem h1)
    exact Or.inl ⟨w, hd[w], h2, h1, oS.2.2.2.2.2.1.1, List.getElem?_eq_getElem h1, h3.1, h3.2⟩
  · exact Or.inr h
theorem le0 {z : Int32} (h : z = 1 ∨ z = 2 ∨ z = 3) : ¬ z ≤ 0 := by
  rcases h with h | h | h <;> subst h <;> decide
theorem q_way {K : am_S → am_F} {G : Int32 → am_S → am_F} {z0 : α} (hS : cS s 1 r c d lw wy hd dr cr en) (oS : okS r c d lw wy hd dr cr en) (hT : mS (am_I t 56) r c d lw wy hd dr cr en) (hk3 : k 3 = 1) (hk1 : k 1 = 2)
    (hk : ∀ (w0 : Nat) (fs : List T2) (P : Ppr) (s1 t1 : am_S), x = oN w0 → wy[w0]? = some fs → mkS r c fs = .inr P → okP P → qc s s1 → cM s1 P → qm t t1 → mM t1 P → ∃ o, cQ w s1 (K s1) o ∧ mQ w k t1 (G 0 t1) o) :
    ∃ o, cQ w s (am_tv (f_X7_needWay x s) (fun v2 s1 => am_mv v2 none (fun t3 => if am_k0 t3 = (4, 0) ∧ t3 < 72 then am_tu (f_X7_needMake t3 s1) K else none))) o ∧
      mQ w k t (am_bi (f_X8_wayFault x t) (fun v2 s1 => if v2 ≤ 0 then G v2 s1 else some (.inl (some (w z0)), am_sI s1 55 3 v2))) o := by
  rcases way_cases oS x with ⟨w0, fs, e, h1, h2, h3⟩ | hx
  · subst e
    rw [needWay_ok hS.2.1.1 h2 h1, tv_s, mv_r, if_pos (k0_way w0 (by omega))]
    obtain ⟨s1, f1, ⟨j, e1, e2⟩ | ⟨P, e1, e2, e3, e4⟩⟩ := c_needMake hS oS h3
    · obtain ⟨t1, f2, kk, ⟨j', d1, d2⟩ | ⟨P, d1, d2, d3, d4⟩⟩ := m_wayFault hT oS h3
      · refine ⟨.inl 1, cQ_x (qc.of f1 (by decide)) (by rw [e2, tu_x]), mQ_thr (u := z0) (x := 2) (qm.mk1 f2 kk) (by rw [d2, bi_s, if_neg (le0 (Or.inr (Or.inl rfl)))]) hk1.symm⟩
      · rw [e1] at d1; cases d1
    · obtain ⟨t1, f2, kk, ⟨j', d1, d2⟩ | ⟨P', d1, d2, d3, d4⟩⟩ := m_wayFault hT oS h3
      · rw [e1] at d1; cases d1
      · rw [e1] at d1
        cases d1
        obtain ⟨o, o1, o2⟩ := hk w0 fs P s1 t1 rfl h3 e1 e3 (qc.of f1 (by decide)) e4 (qm.mk1 f2 kk) d4
        have l0 : (0 : Int32) ≤ 0 := by decide
        refine ⟨o, ?_, ?_⟩
        · rw [e2, tu_s]; exact o1.pre (qc.of f1 (by decide))
        · rw [d2, bi_s, if_pos l0]; exact o2.pre (qm.mk1 f2 kk)
  · refine ⟨.inl 3, cQ_x qc.refl (by rw [needWay_no hS.2.1.1 oS.2.2.2.2.1.1 hx, tv_x]), mQ_thr (u := z0) (x := 1) qm.refl (by rw [m_wayNo hT oS hx, bi_s, if_neg (le0 (Or.inl rfl))]) hk3.symm⟩
theorem handFault_is {w0 : Nat} {a : Nat} (hT : mS (am_I t 56) r c d lw wy hd dr cr en) (oS : okS r c d lw wy hd dr cr en) (h1 : w0 < wy.length) (h2 : a < hd.length) : f_X8_handFault (oN w0) (oN a) t = am_bi (f_X8_wayFault (oN w0) t) (fun v8 s7 => some (.inl (some (.int v8)), s7)) := by
  have e10 : ¬ ((1 : Int32) = 0) := by decide
  have l1 := oS.2.2.2.2.1.1
  have l2 := oS.2.2.2.2.2.1.1
  unfold f_X8_handFault
  rw [isWay_is hT.2.1.1 l1, bi_s, if_pos (show 0 ≤ (oN w0).toInt ∧ (oN w0).toInt < wy.length by rw [oN_int (by omega)]; omega), if_neg e10, isHand_is hT.2.2.1.1 l2, bi_s, if_pos (show 0 ≤ (oN a).toInt ∧ (oN a).toInt < hd.length by rw [oN_int (by omega)]; omega), if_neg e10]
theorem handFault_no (hT : mS (am_I t 56) r c d lw wy hd dr cr en) (oS : okS r c d lw wy hd dr cr en) (h : ¬ (0 ≤ x.toInt ∧ x.toInt < wy.length) ∨ ¬ (0 ≤ y.toInt ∧ y.toInt < hd.length)) : f_X8_handFault x y t = some (.inl (some (.int 1)), t) := by
  have e10 : ¬ ((1 : Int32) = 0) := by decide
  unfold f_X8_handFault
  rw [isWay_is hT.2.1.1 oS.2.2.2.2.1.1, bi_s]
  by_cases c1 : 0 ≤ x.toInt ∧ x.toInt < wy.length
  · rw [if_pos c1, if_neg e10, isHand_is hT.2.2.1.1 oS.2.2.2.2.2.1.1, bi_s, if_neg (show ¬ (0 ≤ y.toInt ∧ y.toInt < hd.length) by rcases h with h | h; exact absurd c1 h; exact h), if_pos rfl]
  · rw [if_neg c1, if_pos rfl]
theorem q_hand {K : Nat → Nat → am_S → am_F} {G : Int32 → am_S → am_F} {z0 : α} (hS : cS s 1 r c d lw wy hd dr cr en) (oS : okS r c d lw wy hd dr cr en) (hT : mS (am_I t 56) r c d lw wy hd dr cr en) (hk3 : k 3 = 1) (hk1 : k 1 = 2)
    (hk : ∀ (w0 a : Nat) (fs : List T2) (l : List T3) (P : Ppr) (s1 t1 : am_S), x = oN w0 → y = oN a → w0 < 6 → a < 5 → wy[w0]? = some fs → hd[a]? = some l → l.length ≤ 4 → (∀ q ∈ l, okT q) → mkS r c fs = .inr P → okP P → qc s s1 → cM s1 P → qm t t1 → mM t1 P → ∃ o, cQ w s1 (K (11 + 2 * w0) (23 + 2 * a) s1) o ∧ mQ w k t1 (G 0 t1) o) :
    ∃ o, cQ w s (am_tv (f_X7_needWay x s) (fun v2 s1 => am_mv v2 none (fun t3 => if am_k0 t3 = (4, 0) ∧ t3 < 72 then am_tv (f_X7_needHand y s1) (fun v8 s7 => am_mv v8 none (fun t9 => if am_k0 t9 = (4, 0) ∧ t9 < 72 then am_tu (f_X7_needMake t3 s7) (K t3 t9) else none)) else none))) o ∧
      mQ w k t (am_bi (f_X8_handFault x y t) (fun v2 s1 => if v2 ≤ 0 then G v2 s1 else some (.inl (some (w z0)), am_sI s1 55 3 v2))) o := by
  rcases way_cases oS x with ⟨w0, fs, e, h1, h2, h3⟩ | hx
  · subst e
    rw [needWay_ok hS.2.1.1 h2 h1, tv_s, mv_r, if_pos (k0_way w0 (by omega))]
    rcases hand_cases oS y with ⟨a, l, e, g1, g2, g3, g4, g5⟩ | hy
    · subst e
      rw [needHand_ok hS.2.2.1.1 g2 g1, tv_s, mv_r, if_pos (k0_hand a (by omega)), handFault_is hT oS h1 g1]
      obtain ⟨s1, f1, ⟨j, e1, e2⟩ | ⟨P, e1, e2, e3, e4⟩⟩ := c_needMake hS oS h3
      · obtain ⟨t1, f2, kk, ⟨j', d1, d2⟩ | ⟨P, d1, d2, d3, d4⟩⟩ := m_wayFault hT oS h3
        · refine ⟨.inl 1, cQ_x (qc.of f1 (by decide)) (by rw [e2, tu_x]), mQ_thr (u := z0) (x := 2) (qm.mk1 f2 kk) (by rw [d2, bi_s, bi_s, if_neg (le0 (Or.inr (Or.inl rfl)))]) hk1.symm⟩
        · rw [e1] at d1; cases d1
      · obtain ⟨t1, f2, kk, ⟨j', d1, d2⟩ | ⟨P', d1, d2, d3, d4⟩⟩ := m_wayFault hT oS h3
        · rw [e1] at d1; cases d1
        · rw [e1] at d1
          cases d1
          obtain ⟨o, o1, o2⟩ := hk w0 a fs l P s1 t1 rfl rfl (by omega) (by omega) h3 g3 g4 g5 e1 e3 (qc.of f1 (by decide)) e4 (qm.mk1 f2 kk) d4
          have l0 : (0 : Int32) ≤ 0 := by decide
          refine ⟨o, ?_, ?_⟩
          · rw [e2, tu_s]; exact o1.pre (qc.of f1 (by decide))
          · rw [d2, bi_s, bi_s, if_pos l0]; exact o2.pre (qm.mk1 f2 kk)
    · refine ⟨.inl 3, cQ_x qc.refl (by rw [needHand_no hS.2.2.1.1 oS.2.2.2.2.2.1.1 hy, tv_x]), mQ_thr (u := z0) (x := 1) qm.refl (by rw [handFault_no hT oS (Or.inr hy), bi_s, if_neg (le0 (Or.inl rfl))]) hk3.symm⟩
  · refine ⟨.inl 3, cQ_x qc.refl (by rw [needWay_no hS.2.1.1 oS.2.2.2.2.1.1 hx, tv_x]), mQ_thr (u := z0) (x := 1) qm.refl (by rw [handFault_no hT oS (Or.inl hx), bi_s, if_neg (le0 (Or.inl rfl))]) hk3.symm⟩
theorem needThrow_is : f_X7_needThrow e v sl s = if wi e.toInt (-9) 9 = true ∧ wi v.toInt 10 999 = true ∧ wi sl.toInt (-16) 16 = true then some (.inl none, s) else some (.inr 0, am_tick s) := by
  unfold f_X7_needThrow
  simp only [needEars_is, f_needWithin, lit32]
  by_cases h1 : wi e.toInt (-9) 9 = true <;> by_cases h2 : wi v.toInt 10 999 = true <;> by_cases h3 : wi sl.toInt (-16) 16 = true <;> simp [h1, h2, h3, am_tu]
theorem mThrow {R : Type} {J : Unit → am_S → Option R} {B : (Unit → am_S → Option R) → am_S → Option R} : am_bi (f_X8_isEars e t) (fun v5 s4 => am_jn J (fun J6 => if v5 = 0 then J6 () s4 else am_bi (f_X8_isSpeed v s4) (fun v13 s12 => if v13 = 0 then J6 () s12 else am_bi (f_X8_isSlant sl s12) (fun v16 s15 => if v16 = 0 then J6 () s15 else B J6 s15)))) = if wi e.toInt (-9) 9 = true ∧ wi v.toInt 10 999 = true ∧ wi sl.toInt (-16) 16 = true then B J t else J () t := by
  rw [isEars_is, bi_s, jn_s]
  by_cases h1 : wi e.toInt (-9) 9 = true <;> by_cases h2 : wi v.toInt 10 999 = true <;> by_cases h3 : wi sl.toInt (-16) 16 = true <;> simp [h1, h2, h3, isSpeed_is, isSlant_is, am_bi]
end QW
