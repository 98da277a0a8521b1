/-! ===== the machine does what the abstract one does: instructions that touch no heap ===== -/
def am_lc (ad : Nat → Nat) (ls : am_Ls) : List (Nat × Value) := ls.map (fun q => (q.1, am_cv ad q.2))
section SND1
variable {p : Program} {l : Launch} {e : Env} {R : Room} {s : State} {m : MethodId} {args : Array Value} {below : List Frame} {meth : Method} {c : Code} {H : Heap} {locs : List Loc} {cells slots : Nat} {Q : State → Prop}
variable {cc : ByteArray} {pc len : Nat} {ls : Array Slot} {st st' : List Value} {ad : Nat → Nat} {ins : Instr} {lv lv' : am_Ls} {nL : Nat}
theorem am_find_mem {α : Type} {k : Nat} {v : α} : ∀ {l : List (Nat × α)}, am_find k l = some v → (k, v) ∈ l
  | [], h => by simp [am_find] at h
  | q :: l, h => by
    unfold am_find at h
    by_cases e1 : q.1 = k
    · rw [if_pos e1] at h
      cases h
      subst e1
      exact List.mem_cons_self
    · rw [if_neg e1] at h
      exact List.mem_cons_of_mem _ (am_find_mem h)
theorem am_to_spec {off : Int} {t : Nat} (h : am_to pc off = some t) : (pc : Int) + off = (t : Int) := by
  unfold am_to at h
  by_cases h0 : 0 ≤ (pc : Int) + off
  · rw [if_pos h0] at h
    cases h
    omega
  · rw [if_neg h0] at h; cases h
theorem am_at {i : Nat} {v : Value} (hl : lv_has ls nL (am_lc ad lv)) (h : am_get lv i = some v) : ls[i]? = some (.val (am_cv ad v)) :=
  hl.2.2 (i, am_cv ad v) (List.mem_map.mpr ⟨(i, v), am_find_mem h, rfl⟩)
theorem am_sub {l1 l2 : List (Nat × Value)} (h : lv_has ls nL l1) (hs : ∀ q ∈ l2, q ∈ l1) : lv_has ls nL l2 := ⟨h.1, h.2.1, fun q hq => h.2.2 q (hs q hq)⟩
theorem am_ins_mem {i : Nat} {v : Value} : ∀ {l : am_Ls} {q : Nat × Value}, q ∈ am_ins i v l → q = (i, v) ∨ q ∈ l
  | [], q, h => by simp [am_ins] at h; exact Or.inl h
  | a :: l, q, h => by
    unfold am_ins at h
    by_cases e1 : i < a.1
    · rw [if_pos e1] at h
      rcases List.mem_cons.mp h with h | h
      · exact Or.inl h
      · exact Or.inr h
    · rw [if_neg e1] at h
      rcases List.mem_cons.mp h with h | h
      · exact Or.inr (by rw [h]; exact List.mem_cons_self)
      · rcases am_ins_mem h with h | h
        · exact Or.inl h
        · exact Or.inr (List.mem_cons_of_mem _ h)
theorem am_set1_sub {i : Nat} {v : Value} (hc : v.category = 1) : ∀ q ∈ am_lc ad (am_set lv i v), q ∈ (i, am_cv ad v) :: (am_lc ad lv).filter (fun q => !(q.1 == i) && !(q.1 + 1 == i && q.2.category == 2)) := by
  intro q hq
  obtain ⟨r, hr, rfl⟩ := List.mem_map.mp hq
  unfold am_set at hr
  rw [if_neg (by rw [hc]; decide)] at hr
  rcases am_ins_mem hr with rfl | h
  · exact List.mem_cons_self
  · obtain ⟨h1, h2⟩ := List.mem_filter.mp h
    exact List.mem_cons_of_mem _ (List.mem_filter.mpr ⟨List.mem_map.mpr ⟨r, h1, rfl⟩, by rw [am_cv_cat]; exact h2⟩)
theorem am_set2_sub {i : Nat} {v : Value} (hc : v.category = 2) : ∀ q ∈ am_lc ad (am_set lv i v), q ∈ (i, am_cv ad v) :: (am_lc ad lv).filter (fun q => !(q.1 == i) && (!(q.1 == i + 1) && !(q.1 + 1 == i && q.2.category == 2))) := by
  intro q hq
  obtain ⟨r, hr, rfl⟩ := List.mem_map.mp hq
  unfold am_set at hr
  rw [if_pos hc] at hr
  rcases am_ins_mem hr with rfl | h
  · exact List.mem_cons_self
  · obtain ⟨h1, h2⟩ := List.mem_filter.mp h
    exact List.mem_cons_of_mem _ (List.mem_filter.mpr ⟨List.mem_map.mpr ⟨r, h1, rfl⟩, by rw [am_cv_cat]; exact h2⟩)
theorem am_drop_sub {i : Nat} {x : Value} : ∀ q ∈ am_lc ad (am_drop lv i), q ∈ (i, x) :: (am_lc ad lv).filter (fun q => !(q.1 == i) && !(q.1 + 1 == i && q.2.category == 2)) := by
  intro q hq
  obtain ⟨r, hr, rfl⟩ := List.mem_map.mp hq
  obtain ⟨h1, h2⟩ := List.mem_filter.mp hr
  exact List.mem_cons_of_mem _ (List.mem_filter.mpr ⟨List.mem_map.mpr ⟨r, h1, rfl⟩, by rw [am_cv_cat]; exact h2⟩)
set_option maxHeartbeats 4000000 in
theorem am_s_pure (hx : p.tables.exec = Jvm.exec) (hb : c.code = cc) (h : am_pure ins st = some st') (hd : decode cc pc = .ok (ins, len)) (hl : am_lok ins len = true)
    (k : W p l e R s m args below meth c H locs cells slots Q (F0 m (pc + len) ls (st'.map (am_cv ad)))) : W p l e R s m args below meth c H locs cells slots Q (F0 m pc ls (st.map (am_cv ad))) := by
  cases ins
  case iadd =>
    obtain rfl : len = 1 := of_decide_eq_true hl
    rcases st with _ | ⟨v, _ | ⟨w, r⟩⟩
    · simp [am_pure] at h
    · cases v <;> simp [am_pure] at h
    · cases v <;> cases w <;> simp only [am_pure, Option.some.injEq, reduceCtorEq] at h
      subst h
      exact lv_iadd hx hb hd k
  case isub =>
    obtain rfl : len = 1 := of_decide_eq_true hl
    rcases st with _ | ⟨v, _ | ⟨w, r⟩⟩
    · simp [am_pure] at h
    · cases v <;> simp [am_pure] at h
    · cases v <;> cases w <;> simp only [am_pure, Option.some.injEq, reduceCtorEq] at h
      subst h
      exact lv_isub hx hb hd k
  case imul =>
    obtain rfl : len = 1 := of_decide_eq_true hl
    rcases st with _ | ⟨v, _ | ⟨w, r⟩⟩
    · simp [am_pure] at h
    · cases v <;> simp [am_pure] at h
    · cases v <;> cases w <;> simp only [am_pure, Option.some.injEq, reduceCtorEq] at h
      subst h
      exact lv_imul hx hb hd k
  case iand =>
    obtain rfl : len = 1 := of_decide_eq_true hl
    rcases st with _ | ⟨v, _ | ⟨w, r⟩⟩
    · simp [am_pure] at h
    · cases v <;> simp [am_pure] at h
    · cases v <;> cases w <;> simp only [am_pure, Option.some.injEq, reduceCtorEq] at h
      subst h
      exact lv_iand hx hb hd k
  case ior =>
    obtain rfl : len = 1 := of_decide_eq_true hl
    rcases st with _ | ⟨v, _ | ⟨w, r⟩⟩
    · simp [am_pure] at h
    · cases v <;> simp [am_pure] at h
    · cases v <;> cases w <;> simp only [am_pure, Option.some.injEq, reduceCtorEq] at h
      subst h
      exact lv_ior hx hb hd k
  case ishl =>
    obtain rfl : len = 1 := of_decide_eq_true hl
    rcases st with _ | ⟨v, _ | ⟨w, r⟩⟩
    · simp [am_pure] at h
    · cases v <;> simp [am_pure] at h
    · cases v <;> cases w <;> simp only [am_pure, Option.some.injEq, reduceCtorEq] at h
      subst h
      exact lv_ishl hx hb hd k
  case ishr =>
    obtain rfl : len = 1 := of_decide_eq_true hl
    rcases st with _ | ⟨v, _ | ⟨w, r⟩⟩
    · simp [am_pure] at h
    · cases v <;> simp [am_pure] at h
    · cases v <;> cases w <;> simp only [am_pure, Option.some.injEq, reduceCtorEq] at h
      subst h
      exact lv_ishr hx hb hd k
  case iushr =>
    obtain rfl : len = 1 := of_decide_eq_true hl
    rcases st with _ | ⟨v, _ | ⟨w, r⟩⟩
    · simp [am_pure] at h
    · cases v <;> simp [am_pure] at h
    · cases v <;> cases w <;> simp only [am_pure, Option.some.injEq, reduceCtorEq] at h
      subst h
      exact lv_iushr hx hb hd rfl k
  case ladd =>
    obtain rfl : len = 1 := of_decide_eq_true hl
    rcases st with _ | ⟨v, _ | ⟨w, r⟩⟩
    · simp [am_pure] at h
    · cases v <;> simp [am_pure] at h
    · cases v <;> cases w <;> simp only [am_pure, Option.some.injEq, reduceCtorEq] at h
      subst h
      exact lv_ladd hx hb hd k
  case lsub =>
    obtain rfl : len = 1 := of_decide_eq_true hl
    rcases st with _ | ⟨v, _ | ⟨w, r⟩⟩
    · simp [am_pure] at h
    · cases v <;> simp [am_pure] at h
    · cases v <;> cases w <;> simp only [am_pure, Option.some.injEq, reduceCtorEq] at h
      subst h
      exact lv_lsub hx hb hd k
  case lmul =>
    obtain rfl : len = 1 := of_decide_eq_true hl
    rcases st with _ | ⟨v, _ | ⟨w, r⟩⟩
    · simp [am_pure] at h
    · cases v <;> simp [am_pure] at h
    · cases v <;> cases w <;> simp only [am_pure, Option.some.injEq, reduceCtorEq] at h
      subst h
      exact lv_lmul hx hb hd k
  case land =>
    obtain rfl : len = 1 := of_decide_eq_true hl
    rcases st with _ | ⟨v, _ | ⟨w, r⟩⟩
    · simp [am_pure] at h
    · cases v <;> simp [am_pure] at h
    · cases v <;> cases w <;> simp only [am_pure, Option.some.injEq, reduceCtorEq] at h
      subst h
      exact lv_land hx hb hd k
  case lor =>
    obtain rfl : len = 1 := of_decide_eq_true hl
    rcases st with _ | ⟨v, _ | ⟨w, r⟩⟩
    · simp [am_pure] at h
    · cases v <;> simp [am_pure] at h
    · cases v <;> cases w <;> simp only [am_pure, Option.some.injEq, reduceCtorEq] at h
      subst h
      exact lv_lor hx hb hd k
  case lshl =>
    obtain rfl : len = 1 := of_decide_eq_true hl
    rcases st with _ | ⟨v, _ | ⟨w, r⟩⟩
    · simp [am_pure] at h
    · cases v <;> simp [am_pure] at h
    · cases v <;> cases w <;> simp only [am_pure, Option.some.injEq, reduceCtorEq] at h
      subst h
      exact lv_lshl hx hb hd rfl k
  case lshr =>
    obtain rfl : len = 1 := of_decide_eq_true hl
    rcases st with _ | ⟨v, _ | ⟨w, r⟩⟩
    · simp [am_pure] at h
    · cases v <;> simp [am_pure] at h
    · cases v <;> cases w <;> simp only [am_pure, Option.some.injEq, reduceCtorEq] at h
      subst h
      exact lv_lshr hx hb hd rfl k
  case lcmp =>
    obtain rfl : len = 1 := of_decide_eq_true hl
    rcases st with _ | ⟨v, _ | ⟨w, r⟩⟩
    · simp [am_pure] at h
    · cases v <;> simp [am_pure] at h
    · cases v <;> cases w <;> simp only [am_pure, Option.some.injEq, reduceCtorEq] at h
      subst h
      exact W.lcmp hx hb hd k
  case idiv =>
    obtain rfl : len = 1 := of_decide_eq_true hl
    rcases st with _ | ⟨v, _ | ⟨w, r⟩⟩
    · simp [am_pure] at h
    · cases v <;> simp [am_pure] at h
    · cases v <;> cases w <;> simp only [am_pure, Option.some.injEq, reduceCtorEq] at h
      rename_i y x
      by_cases h0 : y = 0
      · rw [if_pos h0] at h; cases h
      · rw [if_neg h0] at h; cases h
        exact lv_idiv hx hb hd h0 k
  case irem =>
    obtain rfl : len = 1 := of_decide_eq_true hl
    rcases st with _ | ⟨v, _ | ⟨w, r⟩⟩
    · simp [am_pure] at h
    · cases v <;> simp [am_pure] at h
    · cases v <;> cases w <;> simp only [am_pure, Option.some.injEq, reduceCtorEq] at h
      rename_i y x
      by_cases h0 : y = 0
      · rw [if_pos h0] at h; cases h
      · rw [if_neg h0] at h; cases h
        exact lv_irem hx hb hd h0 k
  case ldiv =>
    obtain rfl : len = 1 := of_decide_eq_true hl
    rcases st with _ | ⟨v, _ | ⟨w, r⟩⟩
    · simp [am_pure] at h
    · cases v <;> simp [am_pure] at h
    · cases v <;> cases w <;> simp only [am_pure, Option.some.injEq, reduceCtorEq] at h
      rename_i y x
      by_cases h0 : y = 0
      · rw [if_pos h0] at h; cases h
      · rw [if_neg h0] at h; cases h
        exact lv_ldiv hx hb hd h0 k
  case ineg =>
    obtain rfl : len = 1 := of_decide_eq_true hl
    rcases st with _ | ⟨v, r⟩
    · simp [am_pure] at h
    · cases v <;> simp only [am_pure, Option.some.injEq, reduceCtorEq] at h
      subst h
      exact lv_ineg hx hb hd k
  case i2l =>
    obtain rfl : len = 1 := of_decide_eq_true hl
    rcases st with _ | ⟨v, r⟩
    · simp [am_pure] at h
    · cases v <;> simp only [am_pure, Option.some.injEq, reduceCtorEq] at h
      subst h
      exact lv_i2l hx hb hd rfl k
  case i2b =>
    obtain rfl : len = 1 := of_decide_eq_true hl
    rcases st with _ | ⟨v, r⟩
    · simp [am_pure] at h
    · cases v <;> simp only [am_pure, Option.some.injEq, reduceCtorEq] at h
      subst h
      exact lv_i2b hx hb hd rfl k
  case i2s =>
    obtain rfl : len = 1 := of_decide_eq_true hl
    rcases st with _ | ⟨v, r⟩
    · simp [am_pure] at h
    · cases v <;> simp only [am_pure, Option.some.injEq, reduceCtorEq] at h
      subst h
      exact lv_i2s hx hb hd rfl k
  case lneg =>
    obtain rfl : len = 1 := of_decide_eq_true hl
    rcases st with _ | ⟨v, r⟩
    · simp [am_pure] at h
    · cases v <;> simp only [am_pure, Option.some.injEq, reduceCtorEq] at h
      subst h
      exact lv_lneg hx hb hd k
  case l2i =>
    obtain rfl : len = 1 := of_decide_eq_true hl
    rcases st with _ | ⟨v, r⟩
    · simp [am_pure] at h
    · cases v <;> simp only [am_pure, Option.some.injEq, reduceCtorEq] at h
      subst h
      exact lv_l2i hx hb hd rfl k
  case dup =>
    obtain rfl : len = 1 := of_decide_eq_true hl
    rcases st with _ | ⟨v, r⟩
    · simp [am_pure] at h
    · simp only [am_pure] at h
      by_cases h0 : v.category = 1
      · rw [if_pos h0] at h; cases h
        exact lv_dup hx hb hd (by rw [am_cv_cat]; exact h0) k
      · rw [if_neg h0] at h; cases h
  case pop =>
    obtain rfl : len = 1 := of_decide_eq_true hl
    rcases st with _ | ⟨v, r⟩
    · simp [am_pure] at h
    · simp only [am_pure] at h
      by_cases h0 : v.category = 1
      · rw [if_pos h0] at h; cases h
        exact lv_pop hx hb hd (by rw [am_cv_cat]; exact h0) k
      · rw [if_neg h0] at h; cases h
  case dup2 =>
    obtain rfl : len = 1 := of_decide_eq_true hl
    rcases st with _ | ⟨v, _ | ⟨w, r⟩⟩
    · simp [am_pure] at h
    · simp [am_pure] at h
    · simp only [am_pure] at h
      by_cases h0 : v.category = 1 ∧ w.category = 1
      · rw [if_pos h0] at h; cases h
        exact lv_dup2_11 hx hb hd (by rw [am_cv_cat]; exact h0.1) (by rw [am_cv_cat]; exact h0.2) k
      · rw [if_neg h0] at h; cases h
  all_goals (exfalso; revert h; simp [am_pure])
set_option maxHeartbeats 4000000 in
theorem am_s_jump {pc' : Nat} (hx : p.tables.exec = Jvm.exec) (hb : c.code = cc) (h : am_jump pc ins st = some (pc', st')) (hd : decode cc pc = .ok (ins, len)) (hl : am_lok ins len = true)
    (k : W p l e R s m args below meth c H locs cells slots Q (F0 m pc' ls (st'.map (am_cv ad)))) : W p l e R s m args below meth c H locs cells slots Q (F0 m pc ls (st.map (am_cv ad))) := by
  cases ins
  case goto off =>
    obtain rfl : len = 3 := of_decide_eq_true hl
    simp only [am_jump] at h
    cases ht : am_to pc off with
    | none => rw [ht] at h; cases h
    | some t =>
      rw [ht] at h; cases h
      exact lv_goto hx hb hd (am_to_spec ht) k
  case ifCond cnd off =>
    obtain rfl : len = 3 := of_decide_eq_true hl
    rcases st with _ | ⟨v, r⟩
    · simp [am_jump] at h
    · cases v <;> simp only [am_jump, reduceCtorEq] at h
      rename_i x
      cases ht : am_to pc off with
      | none => rw [ht] at h; cases h
      | some t =>
        rw [ht] at h; cases h
        cases cnd
        · refine lv_if_eq hx hb hd (am_to_spec ht) (fun hc => ?_) (fun hc => ?_)
          · rw [if_pos (by simpa [am_cmp] using hc)] at k; exact k
          · rw [if_neg (by simpa [am_cmp] using hc)] at k; exact k
        · refine lv_if_ne hx hb hd (am_to_spec ht) (fun hc => ?_) (fun hc => ?_)
          · rw [if_pos (by simpa [am_cmp] using hc)] at k; exact k
          · rw [if_neg (by simpa [am_cmp] using hc)] at k; exact k
        · refine lv_if_lt hx hb hd (am_to_spec ht) (fun hc => ?_) (fun hc => ?_)
          · rw [if_pos (by simpa [am_cmp] using hc)] at k; exact k
          · rw [if_neg (by simpa [am_cmp] using hc)] at k; exact k
        · refine lv_if_ge hx hb hd (am_to_spec ht) (fun hc => ?_) (fun hc => ?_)
          · rw [if_pos (by simpa [am_cmp] using hc)] at k; exact k
          · rw [if_neg (by simpa [am_cmp] using hc)] at k; exact k
        · refine lv_if_gt hx hb hd (am_to_spec ht) (fun hc => ?_) (fun hc => ?_)
          · rw [if_pos (by simpa [am_cmp] using hc)] at k; exact k
          · rw [if_neg (by simpa [am_cmp] using hc)] at k; exact k
        · refine lv_if_le hx hb hd (am_to_spec ht) (fun hc => ?_) (fun hc => ?_)
          · rw [if_pos (by simpa [am_cmp] using hc)] at k; exact k
          · rw [if_neg (by simpa [am_cmp] using hc)] at k; exact k
  case if_icmp cnd off =>
    obtain rfl : len = 3 := of_decide_eq_true hl
    rcases st with _ | ⟨v, _ | ⟨w, r⟩⟩
    · simp [am_jump] at h
    · cases v <;> simp [am_jump] at h
    · cases v <;> cases w <;> simp only [am_jump, reduceCtorEq] at h
      rename_i y x
      cases ht : am_to pc off with
      | none => rw [ht] at h; cases h
      | some t =>
        rw [ht] at h; cases h
        cases cnd
        · refine lv_icmp_eq hx hb hd (am_to_spec ht) (fun hc => ?_) (fun hc => ?_)
          · rw [if_pos (by simpa [am_cmp] using hc)] at k; exact k
          · rw [if_neg (by simpa [am_cmp] using hc)] at k; exact k
        · refine lv_icmp_ne hx hb hd (am_to_spec ht) (fun hc => ?_) (fun hc => ?_)
          · rw [if_pos (by simpa [am_cmp] using hc)] at k; exact k
          · rw [if_neg (by simpa [am_cmp] using hc)] at k; exact k
        · refine lv_icmp_lt hx hb hd (am_to_spec ht) (fun hc => ?_) (fun hc => ?_)
          · rw [if_pos (by simpa [am_cmp] using hc)] at k; exact k
          · rw [if_neg (by simpa [am_cmp] using hc)] at k; exact k
        · refine lv_icmp_ge hx hb hd (am_to_spec ht) (fun hc => ?_) (fun hc => ?_)
          · rw [if_pos (by simpa [am_cmp] using hc)] at k; exact k
          · rw [if_neg (by simpa [am_cmp] using hc)] at k; exact k
        · refine lv_icmp_gt hx hb hd (am_to_spec ht) (fun hc => ?_) (fun hc => ?_)
          · rw [if_pos (by simpa [am_cmp] using hc)] at k; exact k
          · rw [if_neg (by simpa [am_cmp] using hc)] at k; exact k
        · refine lv_icmp_le hx hb hd (am_to_spec ht) (fun hc => ?_) (fun hc => ?_)
          · rw [if_pos (by simpa [am_cmp] using hc)] at k; exact k
          · rw [if_neg (by simpa [am_cmp] using hc)] at k; exact k
  case ifnull off =>
    obtain rfl : len = 3 := of_decide_eq_true hl
    rcases st with _ | ⟨v, r⟩
    · simp [am_jump] at h
    · cases v <;> simp only [am_jump, reduceCtorEq] at h
      · cases ht : am_to pc off with
        | none => rw [ht] at h; cases h
        | some t =>
          rw [ht] at h; cases h
          exact lv_ifnullN hx hb hd (am_to_spec ht) k
      · cases h
        exact lv_ifnull hx hb hd k
  case ifnonnull off =>
    obtain rfl : len = 3 := of_decide_eq_true hl
    rcases st with _ | ⟨v, r⟩
    · simp [am_jump] at h
    · cases v <;> simp only [am_jump, reduceCtorEq] at h
      · cases h
        exact lv_ifnonnullN hx hb hd k
      · cases ht : am_to pc off with
        | none => rw [ht] at h; cases h
        | some t =>
          rw [ht] at h; cases h
          exact lv_ifnonnull hx hb hd (am_to_spec ht) k
  case tableswitch dflt lo hi offs =>
    rcases st with _ | ⟨v, r⟩
    · simp [am_jump] at h
    · cases v <;> simp only [am_jump, reduceCtorEq] at h
      rename_i x
      by_cases h0 : x.toInt < lo ∨ hi < x.toInt
      · rw [if_pos h0] at h
        cases ht : am_to pc dflt with
        | none => rw [ht] at h; cases h
        | some t =>
          rw [ht] at h; cases h
          exact lv_tableOut hx hb hd h0 (am_to_spec ht) k
      · rw [if_neg h0] at h
        cases ho : offs[(x.toInt - lo).toNat]? with
        | none => rw [ho] at h; cases h
        | some off =>
          rw [ho] at h
          simp only at h
          cases ht : am_to pc off with
          | none => rw [ht] at h; cases h
          | some t =>
            rw [ht] at h; cases h
            exact lv_tableIn hx hb hd (fun z => h0 (Or.inl z)) (fun z => h0 (Or.inr z)) ho (am_to_spec ht) k
  case lookupswitch dflt ps =>
    rcases st with _ | ⟨v, r⟩
    · simp [am_jump] at h
    · cases v <;> simp only [am_jump, reduceCtorEq] at h
      rename_i x
      by_cases h0 : (ps.toList.zip (ps.toList.drop 1)).all (fun (a, next) => a.1 < next.1) = true
      · rw [if_pos h0] at h
        cases ht : am_to pc (Op.lookupswitch.offset ps.toList dflt x.toInt) with
        | none => rw [ht] at h; cases h
        | some t =>
          rw [ht] at h; cases h
          exact lv_lookup hx hb hd h0 rfl (am_to_spec ht) k
      · rw [if_neg h0] at h; cases h
  all_goals (exfalso; revert h; simp [am_jump])
set_option maxHeartbeats 4000000 in
theorem am_s_ld {i t : Nat} {v : Value} (hx : p.tables.exec = Jvm.exec) (hb : c.code = cc) (h : am_ld ins = some (i, t)) (hv : am_get lv i = some v) (ht : am_ty t v = true) (hlv : lv_has ls nL (am_lc ad lv)) (hd : decode cc pc = .ok (ins, len)) (hl : am_lok ins len = true)
    (k : W p l e R s m args below meth c H locs cells slots Q (F0 m (pc + len) ls ((v :: st).map (am_cv ad)))) : W p l e R s m args below meth c H locs cells slots Q (F0 m pc ls (st.map (am_cv ad))) := by
  have ha := am_at hlv hv
  cases ins
  case iload j =>
    obtain rfl : len = 2 := of_decide_eq_true hl
    cases h
    cases v <;> first | exact lv_iload hx hb hd ha k | (simp [am_ty] at ht)
  case iload_n j =>
    obtain rfl : len = 1 := of_decide_eq_true hl
    cases h
    cases v <;> first | exact lv_iload_n hx hb hd rfl ha k | (simp [am_ty] at ht)
  case lload j =>
    obtain rfl : len = 2 := of_decide_eq_true hl
    cases h
    cases v <;> first | exact lv_lload hx hb hd ha k | (simp [am_ty] at ht)
  case lload_n j =>
    obtain rfl : len = 1 := of_decide_eq_true hl
    cases h
    cases v <;> first | exact lv_lload_n hx hb hd rfl ha k | (simp [am_ty] at ht)
  case aload j =>
    obtain rfl : len = 2 := of_decide_eq_true hl
    cases h
    cases v <;> first | exact lv_aload hx hb hd ha k | exact lv_aloadN hx hb hd ha k | (simp [am_ty] at ht)
  case aload_n j =>
    obtain rfl : len = 1 := of_decide_eq_true hl
    cases h
    cases v <;> first | exact lv_aload_n hx hb hd rfl ha k | exact lv_aload_nN hx hb hd rfl ha k | (simp [am_ty] at ht)
  all_goals (exfalso; revert h; simp [am_ld])
set_option maxHeartbeats 4000000 in
theorem am_s_sto {i t : Nat} {v : Value} (hx : p.tables.exec = Jvm.exec) (hb : c.code = cc) (h : am_sto ins = some (i, t)) (ht : am_ty t v = true) (hn : i + v.category ≤ nL) (hlv : lv_has ls nL (am_lc ad lv)) (hd : decode cc pc = .ok (ins, len)) (hl : am_lok ins len = true)
    (k : ∀ ls' : Array Slot, lv_has ls' nL (am_lc ad (am_set lv i v)) → W p l e R s m args below meth c H locs cells slots Q (F0 m (pc + len) ls' (st.map (am_cv ad)))) : W p l e R s m args below meth c H locs cells slots Q (F0 m pc ls ((v :: st).map (am_cv ad))) := by
  cases ins
  case istore j =>
    obtain rfl : len = 2 := of_decide_eq_true hl
    cases h
    cases v <;> first | exact lv_istore hx hb hd hlv hn rfl (fun ls' h' => k ls' (am_sub h' (am_set1_sub rfl))) | (simp [am_ty] at ht)
  case istore_n j =>
    obtain rfl : len = 1 := of_decide_eq_true hl
    cases h
    cases v <;> first | exact lv_istore_n hx hb hd rfl hlv hn rfl (fun ls' h' => k ls' (am_sub h' (am_set1_sub rfl))) | (simp [am_ty] at ht)
  case lstore j =>
    obtain rfl : len = 2 := of_decide_eq_true hl
    cases h
    cases v <;> first | exact lv_lstore hx hb hd hlv hn rfl (fun ls' h' => k ls' (am_sub h' (am_set2_sub rfl))) | (simp [am_ty] at ht)
  case lstore_n j =>
    obtain rfl : len = 1 := of_decide_eq_true hl
    cases h
    cases v <;> first | exact lv_lstore_n hx hb hd rfl hlv hn rfl (fun ls' h' => k ls' (am_sub h' (am_set2_sub rfl))) | (simp [am_ty] at ht)
  case astore j =>
    obtain rfl : len = 2 := of_decide_eq_true hl
    cases h
    cases v <;> first | exact lv_astore hx hb hd hlv hn rfl (fun ls' h' => k ls' (am_sub h' (am_set1_sub rfl))) | exact lv_astoreN hx hb hd hlv hn rfl (fun ls' h' => k ls' (am_sub h' (am_set1_sub rfl))) | (simp [am_ty] at ht)
  case astore_n j =>
    obtain rfl : len = 1 := of_decide_eq_true hl
    cases h
    cases v <;> first | exact lv_astore_n hx hb hd rfl hlv hn rfl (fun ls' h' => k ls' (am_sub h' (am_set1_sub rfl))) | exact lv_astore_nN hx hb hd rfl hlv hn rfl (fun ls' h' => k ls' (am_sub h' (am_set1_sub rfl))) | (simp [am_ty] at ht)
  all_goals (exfalso; revert h; simp [am_sto])
theorem am_s_inc {i : Nat} {n : Int} {x : Int32} (hx : p.tables.exec = Jvm.exec) (hb : c.code = cc) (hv : am_get lv i = some (.int x)) (hn : i < nL) (hlv : lv_has ls nL (am_lc ad lv)) (hd : decode cc pc = .ok (.iinc i n, len)) (hl : am_lok (.iinc i n) len = true)
    (k : ∀ ls' : Array Slot, lv_has ls' nL (am_lc ad (am_set lv i (.int (x + Int32.ofInt n)))) → W p l e R s m args below meth c H locs cells slots Q (F0 m (pc + len) ls' (st.map (am_cv ad)))) : W p l e R s m args below meth c H locs cells slots Q (F0 m pc ls (st.map (am_cv ad))) := by
  obtain rfl : len = 3 := of_decide_eq_true hl
  have hm : (i, Value.int x) ∈ am_lc ad lv := List.mem_map.mpr ⟨(i, .int x), am_find_mem hv, rfl⟩
  obtain ⟨j, hj⟩ := List.getElem?_of_mem hm
  exact lv_iinc hx hb hd hlv hj rfl hn rfl (fun ls' h' => k ls' (am_sub h' (am_set1_sub (v := .int (x + Int32.ofInt n)) rfl)))
end SND1
