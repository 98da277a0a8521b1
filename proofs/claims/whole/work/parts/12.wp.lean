/-! ===== what a run comes to, rule by rule ===== -/
abbrev am_O : Type := Option Value ⊕ Nat
def am_WP (d : Nat) (M : am_M) (pc : Nat) (ls : am_Ls) (st : List Value) (σ : am_S) (Q : am_O → am_S → Prop) : Prop :=
  ∃ n o σ', am_run n d M pc ls st σ = some (o, σ') ∧ Q o σ'
section WPR
variable {d : Nat} {M : am_M} {pc len : Nat} {ls ls' : am_Ls} {st st' : List Value} {σ σ' : am_S} {Q : am_O → am_S → Prop} {ins : Instr}
theorem am_go (hd : decode (am_code M) pc = .ok (ins, len)) (hl0 : am_lok ins len = true) (he : am_end M ins st = none) (ht : am_thr M pc ins = none) (hi : am_inv M σ ins st = none) {pc' : Nat}
    (hs : am_step M pc ins len ls st σ = some (pc', ls', st', σ')) (k : am_WP d M pc' ls' st' σ' Q) : am_WP d M pc ls st σ Q := by
  obtain ⟨n, o, s', h, q⟩ := k
  exact ⟨n + 1, o, s', by rw [am_run, hd]; simp only [hl0, he, ht, hi, hs, Bool.true_eq_false, if_false]; exact h, q⟩
theorem wp_cst {v : Value} (hd : decode (am_code M) pc = .ok (ins, len)) (hl0 : am_lok ins len = true) (hc : am_cst M ins = some v) (k : am_WP d M (pc + len) ls (v :: st) σ Q) : am_WP d M pc ls st σ Q := by
  refine am_go hd hl0 ?_ ?_ ?_ (by unfold am_step; simp only [hc]) k <;> cases ins <;> first | rfl | (simp [am_cst] at hc)
theorem wp_ld {i t : Nat} {v : Value} (hd : decode (am_code M) pc = .ok (ins, len)) (hl0 : am_lok ins len = true) (hl : am_ld ins = some (i, t)) (hv : am_get ls i = some v) (ht : am_ty t v = true) (k : am_WP d M (pc + len) ls (v :: st) σ Q) : am_WP d M pc ls st σ Q := by
  have hc : am_cst M ins = none := by cases ins <;> first | rfl | (simp [am_ld] at hl)
  refine am_go hd hl0 ?_ ?_ ?_ (by unfold am_step; simp only [hc, hl, hv, ht, if_true]) k <;> cases ins <;> first | rfl | (simp [am_ld] at hl)
theorem wp_st {i t : Nat} {v : Value} (hd : decode (am_code M) pc = .ok (ins, len)) (hl0 : am_lok ins len = true) (hl : am_sto ins = some (i, t)) (ht : am_ty t v = true) (hn : i + v.category ≤ am_maxL M) (hs : am_set ls i v = ls') (k : am_WP d M (pc + len) ls' st σ Q) : am_WP d M pc ls (v :: st) σ Q := by
  have hc : am_cst M ins = none := by cases ins <;> first | rfl | (simp [am_sto] at hl)
  have hc2 : am_ld ins = none := by cases ins <;> first | rfl | (simp [am_sto] at hl)
  refine am_go hd hl0 ?_ ?_ ?_ (by unfold am_step; simp only [hc, hc2, hl, ht, hn, hs, and_self, if_true]) k <;> cases ins <;> first | rfl | (simp [am_sto] at hl)
theorem am_pure_no (h : am_pure ins st = some st') : am_cst M ins = none ∧ am_ld ins = none ∧ am_sto ins = none ∧ am_end M ins st = none ∧ am_thr M pc ins = none ∧ am_inv M σ ins st = none := by
  cases ins <;> first | exact ⟨rfl, rfl, rfl, rfl, rfl, rfl⟩ | (simp [am_pure] at h)
theorem wp_pu (hd : decode (am_code M) pc = .ok (ins, len)) (hl0 : am_lok ins len = true) (hp : am_pure ins st = some st') (k : am_WP d M (pc + len) ls st' σ Q) : am_WP d M pc ls st σ Q := by
  obtain ⟨h1, h2, h3, h4, h5, h6⟩ := am_pure_no (M := M) (pc := pc) (σ := σ) hp
  exact am_go hd hl0 h4 h5 h6 (by unfold am_step; simp only [h1, h2, h3, hp]) k
theorem am_jump_no {q : Nat × List Value} (h : am_jump pc ins st = some q) : am_cst M ins = none ∧ am_ld ins = none ∧ am_sto ins = none ∧ am_pure ins st = none ∧ am_end M ins st = none ∧ am_thr M pc ins = none ∧ am_inv M σ ins st = none := by
  cases ins <;> first | exact ⟨rfl, rfl, rfl, rfl, rfl, rfl, rfl⟩ | (simp [am_jump] at h)
theorem wp_jp {pc' : Nat} (hd : decode (am_code M) pc = .ok (ins, len)) (hl0 : am_lok ins len = true) (hp : am_jump pc ins st = some (pc', st')) (k : am_WP d M pc' ls st' σ Q) : am_WP d M pc ls st σ Q := by
  obtain ⟨h1, h2, h3, h4, h5, h6, h7⟩ := am_jump_no (M := M) (σ := σ) hp
  exact am_go hd hl0 h5 h6 h7 (by unfold am_step; simp only [h1, h2, h3, h4, hp]) k
theorem wp_if {c : ClassFile.Cond} {off : Int} {t : Nat} {x : Int32} (hd : decode (am_code M) pc = .ok (.ifCond c off, 3)) (ht : am_to pc off = some t)
    (k1 : am_cmp c x 0 = true → am_WP d M t ls st σ Q) (k2 : am_cmp c x 0 = false → am_WP d M (pc + 3) ls st σ Q) : am_WP d M pc ls (.int x :: st) σ Q := by
  cases h : am_cmp c x 0
  · exact wp_jp hd rfl (by simp only [am_jump, ht, h]; rfl) (k2 h)
  · exact wp_jp hd rfl (by simp only [am_jump, ht, h]; rfl) (k1 h)
theorem wp_ic {c : ClassFile.Cond} {off : Int} {t : Nat} {x y : Int32} (hd : decode (am_code M) pc = .ok (.if_icmp c off, 3)) (ht : am_to pc off = some t)
    (k1 : am_cmp c x y = true → am_WP d M t ls st σ Q) (k2 : am_cmp c x y = false → am_WP d M (pc + 3) ls st σ Q) : am_WP d M pc ls (.int y :: .int x :: st) σ Q := by
  cases h : am_cmp c x y
  · exact wp_jp hd rfl (by simp only [am_jump, ht, h]; rfl) (k2 h)
  · exact wp_jp hd rfl (by simp only [am_jump, ht, h]; rfl) (k1 h)
theorem am_cmpD {c : ClassFile.Cond} {x y : Int32} : am_cmp c x y = true ↔ (match c with | .eq => x = y | .ne => ¬ x = y | .lt => x < y | .ge => y ≤ x | .gt => y < x | .le => x ≤ y) := by
  cases c <;> simp [am_cmp]
theorem am_cmpN {c : ClassFile.Cond} {x y : Int32} : am_cmp c x y = false ↔ (match c with | .eq => ¬ x = y | .ne => x = y | .lt => ¬ x < y | .ge => ¬ y ≤ x | .gt => ¬ y < x | .le => ¬ x ≤ y) := by
  cases c <;> simp [am_cmp]
theorem wp_inc {i : Nat} {n : Int} {x v : Int32} (hd : decode (am_code M) pc = .ok (.iinc i n, 3)) (hx : am_get ls i = some (.int x)) (hn : i < am_maxL M) (hv : x + Int32.ofInt n = v) (hs : am_set ls i (.int v) = ls') (k : am_WP d M (pc + 3) ls' st σ Q) : am_WP d M pc ls st σ Q := by
  refine am_go hd rfl rfl rfl rfl ?_ k
  subst hv
  simp only [am_step, am_cst, am_ld, am_sto, am_pure, am_jump, hx, hn, hs, if_true]
theorem am_mem_no {q : List Value × am_S} (h : am_mem M σ ins st = some q) : am_cst M ins = none ∧ am_ld ins = none ∧ am_sto ins = none ∧ am_pure ins st = none ∧ am_jump pc ins st = none ∧ am_end M ins st = none := by
  cases ins <;> first | exact ⟨rfl, rfl, rfl, rfl, rfl, rfl⟩ | (simp [am_mem] at h)
theorem wp_mem (hd : decode (am_code M) pc = .ok (ins, len)) (hl0 : am_lok ins len = true) (ht : am_thr M pc ins = none) (hi : am_inv M σ ins st = none) (hp : am_mem M σ ins st = some (st', σ')) (k : am_WP d M (pc + len) ls st' σ' Q) : am_WP d M pc ls st σ Q := by
  obtain ⟨h1, h2, h3, h4, h5, h6⟩ := am_mem_no (pc := pc) hp
  refine am_go (ls' := ls) hd hl0 h6 ht hi ?_ k
  unfold am_step
  simp only [h1, h2, h3, h4, h5]
  cases ins <;> first | (simp only [hp]; done) | (simp [am_mem] at hp)
theorem wp_end {v : Option Value} (hd : decode (am_code M) pc = .ok (ins, len)) (hl0 : am_lok ins len = true) (he : am_end M ins st = some v) (q : Q (.inl v) σ) : am_WP d M pc ls st σ Q :=
  ⟨1, .inl v, σ, by rw [am_run, hd]; simp only [hl0, he, Bool.true_eq_false, if_false], q⟩
theorem wp_thr {k : Nat} (hd : decode (am_code M) pc = .ok (ins, len)) (hl0 : am_lok ins len = true) (he : am_end M ins [] = none) (ht : am_thr M pc ins = some k) (q : Q (.inr k) (am_tick σ)) : am_WP d M pc ls [] σ Q :=
  ⟨1, .inr k, am_tick σ, by rw [am_run, hd]; simp only [hl0, he, ht, List.isEmpty_nil, if_true, Bool.true_eq_false, if_false], q⟩
/-- more fuel does no harm -/
theorem am_more : ∀ (n d : Nat) (M : am_M) (pc : Nat) (ls : am_Ls) (st : List Value) (σ : am_S) (r : am_O × am_S) (k : Nat), am_run n d M pc ls st σ = some r → am_run (n + k) d M pc ls st σ = some r
  | 0, _, _, _, _, _, _, _, _, h => by simp [am_run] at h
  | n + 1, d, M, pc, ls, st, σ, r, k, h => by
    rw [show n + 1 + k = (n + k) + 1 by omega]
    rw [am_run] at h ⊢
    cases hd : decode (am_code M) pc with
    | error e => rw [hd] at h; cases h
    | ok q =>
      obtain ⟨ins, len⟩ := q
      rw [hd] at h
      simp only at h ⊢
      cases hl0 : am_lok ins len with
      | false => simp only [hl0, if_true] at h; cases h
      | true =>
      simp only [hl0, Bool.true_eq_false, if_false] at h ⊢
      cases he : am_end M ins st with
      | some v => simp only [he] at h ⊢; exact h
      | none =>
        simp only [he] at h ⊢
        cases ht : am_thr M pc ins with
        | some v => simp only [ht] at h ⊢; exact h
        | none =>
          simp only [ht] at h ⊢
          cases hi : am_inv M σ ins st with
          | some q =>
            obtain ⟨M', av, rest⟩ := q
            simp only [hi] at h ⊢
            cases d with
            | zero => cases h
            | succ d' =>
              simp only at h ⊢
              cases hr : am_run n d' M' 0 (lv_args 0 av) [] σ with
              | none => simp only [hr] at h; cases h
              | some z =>
                rw [am_more n d' M' 0 (lv_args 0 av) [] σ z k hr]
                simp only [hr] at h
                obtain ⟨o, s'⟩ := z
                cases o with
                | inl v => simp only at h ⊢; exact am_more n _ M _ _ _ _ r k h
                | inr x =>
                  simp only at h ⊢
                  cases hxo : am_xok M ins with
                  | false => simp only [hxo, if_true] at h; cases h
                  | true =>
                  simp only [hxo, Bool.true_eq_false, if_false] at h ⊢
                  by_cases hh : am_hh M = []
                  · simp only [hh, if_true] at h ⊢; exact h
                  · simp only [hh, if_false] at h ⊢
                    cases hw : am_row M pc x (am_hh M) with
                    | none => simp only [hw] at h; cases h
                    | some y =>
                      obtain ⟨a, b⟩ := y
                      simp only [hw] at h ⊢
                      exact am_more n _ M _ _ _ _ r k h
          | none =>
            simp only [hi] at h ⊢
            cases hs : am_step M pc ins len ls st σ with
            | none => simp only [hs] at h; cases h
            | some y =>
              obtain ⟨a, b, c, e⟩ := y
              simp only [hs] at h ⊢
              exact am_more n _ M _ _ _ _ r k h
/-- a call: what is to come behind it, behind each of its ends -/
theorem wp_call {M' : am_M} {av rest : List Value} (hd : decode (am_code M) pc = .ok (ins, len)) (hl0 : am_lok ins len = true) (he : am_end M ins st = none) (ht : am_thr M pc ins = none) (hi : am_inv M σ ins st = some (M', av, rest))
    (k : am_WP d M' 0 (lv_args 0 av) [] σ (fun o σ' => match o with
      | .inl v => am_WP (d + 1) M (pc + 3) ls (v.toList ++ rest) σ' Q
      | .inr x => am_xok M ins = true ∧ if am_hh M = [] then Q (.inr x) σ' else ∃ h i, am_row M pc x (am_hh M) = some (h, i) ∧ am_WP (d + 1) M h (am_drop ls i) [] σ' Q)) : am_WP (d + 1) M pc ls st σ Q := by
  obtain ⟨n, o, s', hr, hq⟩ := k
  cases o with
  | inl v =>
    obtain ⟨n2, o2, s2, hr2, hq2⟩ := hq
    refine ⟨(n + n2) + 1, o2, s2, ?_, hq2⟩
    rw [am_run, hd]
    simp only [hl0, he, ht, hi, Bool.true_eq_false, if_false]
    rw [am_more n _ _ _ _ _ _ _ n2 hr]
    simp only
    rw [Nat.add_comm]
    exact am_more n2 _ _ _ _ _ _ _ n hr2
  | inr x =>
    obtain ⟨hxo, hq⟩ := hq
    by_cases hh : am_hh M = []
    · simp only [hh, if_true] at hq
      refine ⟨n + 1, .inr x, s', ?_, hq⟩
      rw [am_run, hd]
      simp only [hl0, he, ht, hi, hr, hh, hxo, if_true, Bool.true_eq_false, if_false]
    · simp only [hh, if_false] at hq
      obtain ⟨h, i, hrow, n2, o2, s2, hr2, hq2⟩ := hq
      refine ⟨(n + n2) + 1, o2, s2, ?_, hq2⟩
      rw [am_run, hd]
      simp only [hl0, he, ht, hi, Bool.true_eq_false, if_false]
      rw [am_more n _ _ _ _ _ _ _ n2 hr]
      simp only [hh, hxo, Bool.true_eq_false, if_false, hrow]
      rw [Nat.add_comm]
      exact am_more n2 _ _ _ _ _ _ _ n hr2
theorem am_WP.mono {Q' : am_O → am_S → Prop} (h : am_WP d M pc ls st σ Q) (hq : ∀ o s', Q o s' → Q' o s') : am_WP d M pc ls st σ Q' := by
  obtain ⟨n, o, s', hr, q⟩ := h
  exact ⟨n, o, s', hr, hq o s' q⟩
end WPR
