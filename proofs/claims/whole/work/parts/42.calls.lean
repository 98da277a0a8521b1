/-! ===== the rows' rules over walked functions ===== -/
section RUL
variable {d : Nat} {H : am_S → Prop} {M M' : am_M} {pc len : Nat} {ls ls' : am_Ls} {st rest ar : List Value} {σ : am_S} {Q : am_O → am_S → Prop}
theorem am_inv_s {x na : Nat} (hf : am_find x (am_callT (am_own M)) = some (1, na, M')) (hs : st.drop na = rest) (ha : (st.take na).reverse = ar)
    (hc : (Nat.ble na st.length && Nat.ble ((rest.map fun v => v.category).sum) 8 && Nat.ble (lg_sl ar).length (am_maxL M')) = true) : am_inv M σ (.invokestatic x) st = some (M', ar, rest) := by
  simp only [Bool.and_eq_true, Nat.ble_eq] at hc
  unfold am_inv
  simp only [hf, Option.map_some]
  rw [if_pos ⟨trivial, hc.1.1⟩, if_pos trivial, hs, ha, if_pos ⟨hc.1.2, hc.2⟩]
theorem am_inv_v {x na b z : Nat} (hf : am_find x (am_callT (am_own M)) = some (0, na, M')) (hK : am_K σ b = (am_own M', z)) (hs : st.drop na = .ref b :: rest) (ha : (st.take na).reverse = ar)
    (hc : (Nat.ble na st.length && Nat.ble ((rest.map fun v => v.category).sum) 8 && Nat.ble (lg_sl (.ref b :: ar)).length (am_maxL M')) = true) : am_inv M σ (.invokevirtual x) st = some (M', .ref b :: ar, rest) := by
  simp only [Bool.and_eq_true, Nat.ble_eq] at hc
  unfold am_inv
  simp only [hf, Option.map_some]
  rw [if_pos ⟨trivial, hc.1.1⟩, if_neg (by decide), hs, ha]
  simp only
  rw [if_pos ⟨Or.inr (by rw [hK]), hc.1.2, hc.2⟩]
theorem lp_m {E : Type} {x : am_FE E} {g : E → am_S → am_F} {P : am_O × am_S → Prop} {W : Prop} (k : am_ok (am_lm x g) P) (C : ∀ P' : (am_O × am_S) ⊕ (E × am_S) → Prop, am_ok x P' → (∀ o s, P' (.inl (o, s)) → P (o, s)) → (∀ e s, P' (.inr (e, s)) → am_ok (g e s) P) → W) : W :=
  C _ (ok_lm k) (fun _ _ p => p) (fun _ _ p => p)
theorem lp_l {E E' : Type} {x : am_FE E} {g : E → am_S → am_FE E'} {P : (am_O × am_S) ⊕ (E' × am_S) → Prop} {W : Prop} (k : am_ok (am_ll x g) P) (C : ∀ P' : (am_O × am_S) ⊕ (E × am_S) → Prop, am_ok x P' → (∀ o s, P' (.inl (o, s)) → P (.inl (o, s))) → (∀ e s, P' (.inr (e, s)) → am_ok (g e s) P) → W) : W :=
  C _ (ok_ll k) (fun _ _ p => p) (fun _ _ p => p)
/-- a walked method: what holds of its function's value holds at its end -/
def am_S1 (H : am_S → Prop) (d : Nat) (M' : am_M) (av : List Value) (σ : am_S) (f : am_F) : Prop :=
  ∀ (P : am_O × am_S → Prop) (Q : am_O → am_S → Prop), am_ok f P → (∀ o s, P (o, s) → H s → Q o s) → am_WP d M' 0 (lv_args 0 av) [] σ Q
theorem c_i {x : Instr} {av : List Value} {R : Type} {f : am_F} {g : Int32 → am_S → Option R} {P : R → Prop} (hd : decode (am_code M) pc = .ok (x, 3)) (hl0 : am_lok x 3 = true) (he : am_end M x st = none) (ht : am_thr M pc x = none) (hi : am_inv M σ x st = some (M', av, rest)) (S : am_S1 H d M' av σ f) (k : am_ok (am_bi f g) P)
    (C : ∀ v s, H s → am_ok (g v s) P → am_WP (d + 1) M (pc + 3) ls (.int v :: rest) s Q) : am_WP (d + 1) M pc ls st σ Q := by
  refine wp_call hd hl0 he ht hi (S (fun r => ∃ v, r.1 = .inl (some (.int v)) ∧ am_ok (g v r.2) P) _ (ok_bi k (fun v s kk => ⟨v, rfl, kk⟩)) ?_)
  rintro o s ⟨v, e, kk⟩ h
  subst e
  exact C v s h kk
theorem c_l {x : Instr} {av : List Value} {R : Type} {f : am_F} {g : Int64 → am_S → Option R} {P : R → Prop} (hd : decode (am_code M) pc = .ok (x, 3)) (hl0 : am_lok x 3 = true) (he : am_end M x st = none) (ht : am_thr M pc x = none) (hi : am_inv M σ x st = some (M', av, rest)) (S : am_S1 H d M' av σ f) (k : am_ok (am_bl f g) P)
    (C : ∀ v s, H s → am_ok (g v s) P → am_WP (d + 1) M (pc + 3) ls (.long v :: rest) s Q) : am_WP (d + 1) M pc ls st σ Q := by
  refine wp_call hd hl0 he ht hi (S (fun r => ∃ v, r.1 = .inl (some (.long v)) ∧ am_ok (g v r.2) P) _ (ok_bl k (fun v s kk => ⟨v, rfl, kk⟩)) ?_)
  rintro o s ⟨v, e, kk⟩ h
  subst e
  exact C v s h kk
theorem c_v {x : Instr} {av : List Value} {R : Type} {f : am_F} {g : Value → am_S → Option R} {P : R → Prop} (hd : decode (am_code M) pc = .ok (x, 3)) (hl0 : am_lok x 3 = true) (he : am_end M x st = none) (ht : am_thr M pc x = none) (hi : am_inv M σ x st = some (M', av, rest)) (S : am_S1 H d M' av σ f) (k : am_ok (am_bv f g) P)
    (C : ∀ v s, H s → am_ok (g v s) P → am_WP (d + 1) M (pc + 3) ls (v :: rest) s Q) : am_WP (d + 1) M pc ls st σ Q := by
  refine wp_call hd hl0 he ht hi (S (fun r => ∃ v, r.1 = .inl (some v) ∧ am_ok (g v r.2) P) _ (ok_bv k (fun v s kk => ⟨v, rfl, kk⟩)) ?_)
  rintro o s ⟨v, e, kk⟩ h
  subst e
  exact C v s h kk
theorem c_u {x : Instr} {av : List Value} {R : Type} {f : am_F} {g : am_S → Option R} {P : R → Prop} (hd : decode (am_code M) pc = .ok (x, 3)) (hl0 : am_lok x 3 = true) (he : am_end M x st = none) (ht : am_thr M pc x = none) (hi : am_inv M σ x st = some (M', av, rest)) (S : am_S1 H d M' av σ f) (k : am_ok (am_bu f g) P)
    (C : ∀ s, H s → am_ok (g s) P → am_WP (d + 1) M (pc + 3) ls rest s Q) : am_WP (d + 1) M pc ls st σ Q := by
  refine wp_call hd hl0 he ht hi (S (fun r => r.1 = .inl none ∧ am_ok (g r.2) P) _ (ok_bu k (fun s kk => ⟨rfl, kk⟩)) ?_)
  rintro o s ⟨e, kk⟩ h
  subst e
  exact C s h kk
/-- calls that may throw through -/
theorem t_i {x : Instr} {av : List Value} {f : am_F} {g : Int32 → am_S → am_F} {P : am_O × am_S → Prop} (hd : decode (am_code M) pc = .ok (x, 3)) (hl0 : am_lok x 3 = true) (he : am_end M x st = none) (ht : am_thr M pc x = none) (hi : am_inv M σ x st = some (M', av, rest)) (S : am_S1 H d M' av σ f) (k : am_ok (am_ti f g) P) (hx : am_xok M x = true) (hh : am_hh M = []) (hP : ∀ o s, P (o, s) → H s → Q o s)
    (C : ∀ v s, H s → am_ok (g v s) P → am_WP (d + 1) M (pc + 3) ls (.int v :: rest) s Q) : am_WP (d + 1) M pc ls st σ Q := by
  refine wp_call hd hl0 he ht hi (S (fun r => (∃ v, r.1 = .inl (some (.int v)) ∧ am_ok (g v r.2) P) ∨ ∃ e, r.1 = .inr e ∧ P (.inr e, r.2)) _ (ok_ti k (fun v s kk => Or.inl ⟨v, rfl, kk⟩) (fun e s kk => Or.inr ⟨e, rfl, kk⟩)) ?_)
  rintro o s (⟨v, e, kk⟩ | ⟨v, e, kk⟩) h
  · subst e; exact C v s h kk
  · subst e; exact ⟨hx, by rw [if_pos hh]; exact hP _ _ kk h⟩
theorem t_l {x : Instr} {av : List Value} {f : am_F} {g : Int64 → am_S → am_F} {P : am_O × am_S → Prop} (hd : decode (am_code M) pc = .ok (x, 3)) (hl0 : am_lok x 3 = true) (he : am_end M x st = none) (ht : am_thr M pc x = none) (hi : am_inv M σ x st = some (M', av, rest)) (S : am_S1 H d M' av σ f) (k : am_ok (am_tl f g) P) (hx : am_xok M x = true) (hh : am_hh M = []) (hP : ∀ o s, P (o, s) → H s → Q o s)
    (C : ∀ v s, H s → am_ok (g v s) P → am_WP (d + 1) M (pc + 3) ls (.long v :: rest) s Q) : am_WP (d + 1) M pc ls st σ Q := by
  refine wp_call hd hl0 he ht hi (S (fun r => (∃ v, r.1 = .inl (some (.long v)) ∧ am_ok (g v r.2) P) ∨ ∃ e, r.1 = .inr e ∧ P (.inr e, r.2)) _ (ok_tl k (fun v s kk => Or.inl ⟨v, rfl, kk⟩) (fun e s kk => Or.inr ⟨e, rfl, kk⟩)) ?_)
  rintro o s (⟨v, e, kk⟩ | ⟨v, e, kk⟩) h
  · subst e; exact C v s h kk
  · subst e; exact ⟨hx, by rw [if_pos hh]; exact hP _ _ kk h⟩
theorem t_v {x : Instr} {av : List Value} {f : am_F} {g : Value → am_S → am_F} {P : am_O × am_S → Prop} (hd : decode (am_code M) pc = .ok (x, 3)) (hl0 : am_lok x 3 = true) (he : am_end M x st = none) (ht : am_thr M pc x = none) (hi : am_inv M σ x st = some (M', av, rest)) (S : am_S1 H d M' av σ f) (k : am_ok (am_tv f g) P) (hx : am_xok M x = true) (hh : am_hh M = []) (hP : ∀ o s, P (o, s) → H s → Q o s)
    (C : ∀ v s, H s → am_ok (g v s) P → am_WP (d + 1) M (pc + 3) ls (v :: rest) s Q) : am_WP (d + 1) M pc ls st σ Q := by
  refine wp_call hd hl0 he ht hi (S (fun r => (∃ v, r.1 = .inl (some v) ∧ am_ok (g v r.2) P) ∨ ∃ e, r.1 = .inr e ∧ P (.inr e, r.2)) _ (ok_tv k (fun v s kk => Or.inl ⟨v, rfl, kk⟩) (fun e s kk => Or.inr ⟨e, rfl, kk⟩)) ?_)
  rintro o s (⟨v, e, kk⟩ | ⟨v, e, kk⟩) h
  · subst e; exact C v s h kk
  · subst e; exact ⟨hx, by rw [if_pos hh]; exact hP _ _ kk h⟩
theorem t_u {x : Instr} {av : List Value} {f : am_F} {g : am_S → am_F} {P : am_O × am_S → Prop} (hd : decode (am_code M) pc = .ok (x, 3)) (hl0 : am_lok x 3 = true) (he : am_end M x st = none) (ht : am_thr M pc x = none) (hi : am_inv M σ x st = some (M', av, rest)) (S : am_S1 H d M' av σ f) (k : am_ok (am_tu f g) P) (hx : am_xok M x = true) (hh : am_hh M = []) (hP : ∀ o s, P (o, s) → H s → Q o s)
    (C : ∀ s, H s → am_ok (g s) P → am_WP (d + 1) M (pc + 3) ls rest s Q) : am_WP (d + 1) M pc ls st σ Q := by
  refine wp_call hd hl0 he ht hi (S (fun r => (r.1 = .inl none ∧ am_ok (g r.2) P) ∨ ∃ e, r.1 = .inr e ∧ P (.inr e, r.2)) _ (ok_tu k (fun s kk => Or.inl ⟨rfl, kk⟩) (fun e s kk => Or.inr ⟨e, rfl, kk⟩)) ?_)
  rintro o s (⟨e, kk⟩ | ⟨v, e, kk⟩) h
  · subst e; exact C s h kk
  · subst e; exact ⟨hx, by rw [if_pos hh]; exact hP _ _ kk h⟩
/-- calls whose throws are caught here -/
theorem x_i {x : Instr} {av : List Value} {f : am_F} {g : Int32 → am_S → am_F} {r : Nat → am_S → am_F} {P : am_O × am_S → Prop} (hd : decode (am_code M) pc = .ok (x, 3)) (hl0 : am_lok x 3 = true) (he : am_end M x st = none) (ht : am_thr M pc x = none) (hi : am_inv M σ x st = some (M', av, rest)) (S : am_S1 H d M' av σ f) (k : am_ok (am_xi f g r) P) (hx : am_xok M x = true) (hh : am_hh M ≠ [])
    (C : ∀ v s, H s → am_ok (g v s) P → am_WP (d + 1) M (pc + 3) ls (.int v :: rest) s Q) (C2 : ∀ e s, H s → am_ok (r e s) P → ∃ h i, am_row M pc e (am_hh M) = some (h, i) ∧ am_WP (d + 1) M h (am_drop ls i) [] s Q) : am_WP (d + 1) M pc ls st σ Q := by
  refine wp_call hd hl0 he ht hi (S (fun q => (∃ v, q.1 = .inl (some (.int v)) ∧ am_ok (g v q.2) P) ∨ ∃ e, q.1 = .inr e ∧ am_ok (r e q.2) P) _ (ok_xi k (fun v s kk => Or.inl ⟨v, rfl, kk⟩) (fun e s kk => Or.inr ⟨e, rfl, kk⟩)) ?_)
  rintro o s (⟨v, e, kk⟩ | ⟨v, e, kk⟩) h
  · subst e; exact C v s h kk
  · subst e; exact ⟨hx, by rw [if_neg hh]; exact C2 _ _ h kk⟩
theorem x_l {x : Instr} {av : List Value} {f : am_F} {g : Int64 → am_S → am_F} {r : Nat → am_S → am_F} {P : am_O × am_S → Prop} (hd : decode (am_code M) pc = .ok (x, 3)) (hl0 : am_lok x 3 = true) (he : am_end M x st = none) (ht : am_thr M pc x = none) (hi : am_inv M σ x st = some (M', av, rest)) (S : am_S1 H d M' av σ f) (k : am_ok (am_xl f g r) P) (hx : am_xok M x = true) (hh : am_hh M ≠ [])
    (C : ∀ v s, H s → am_ok (g v s) P → am_WP (d + 1) M (pc + 3) ls (.long v :: rest) s Q) (C2 : ∀ e s, H s → am_ok (r e s) P → ∃ h i, am_row M pc e (am_hh M) = some (h, i) ∧ am_WP (d + 1) M h (am_drop ls i) [] s Q) : am_WP (d + 1) M pc ls st σ Q := by
  refine wp_call hd hl0 he ht hi (S (fun q => (∃ v, q.1 = .inl (some (.long v)) ∧ am_ok (g v q.2) P) ∨ ∃ e, q.1 = .inr e ∧ am_ok (r e q.2) P) _ (ok_xl k (fun v s kk => Or.inl ⟨v, rfl, kk⟩) (fun e s kk => Or.inr ⟨e, rfl, kk⟩)) ?_)
  rintro o s (⟨v, e, kk⟩ | ⟨v, e, kk⟩) h
  · subst e; exact C v s h kk
  · subst e; exact ⟨hx, by rw [if_neg hh]; exact C2 _ _ h kk⟩
theorem x_u {x : Instr} {av : List Value} {f : am_F} {g : am_S → am_F} {r : Nat → am_S → am_F} {P : am_O × am_S → Prop} (hd : decode (am_code M) pc = .ok (x, 3)) (hl0 : am_lok x 3 = true) (he : am_end M x st = none) (ht : am_thr M pc x = none) (hi : am_inv M σ x st = some (M', av, rest)) (S : am_S1 H d M' av σ f) (k : am_ok (am_xu f g r) P) (hx : am_xok M x = true) (hh : am_hh M ≠ [])
    (C : ∀ s, H s → am_ok (g s) P → am_WP (d + 1) M (pc + 3) ls rest s Q) (C2 : ∀ e s, H s → am_ok (r e s) P → ∃ h i, am_row M pc e (am_hh M) = some (h, i) ∧ am_WP (d + 1) M h (am_drop ls i) [] s Q) : am_WP (d + 1) M pc ls st σ Q := by
  refine wp_call hd hl0 he ht hi (S (fun q => (q.1 = .inl none ∧ am_ok (g q.2) P) ∨ ∃ e, q.1 = .inr e ∧ am_ok (r e q.2) P) _ (ok_xu k (fun s kk => Or.inl ⟨rfl, kk⟩) (fun e s kk => Or.inr ⟨e, rfl, kk⟩)) ?_)
  rintro o s (⟨e, kk⟩ | ⟨v, e, kk⟩) h
  · subst e; exact C s h kk
  · subst e; exact ⟨hx, by rw [if_neg hh]; exact C2 _ _ h kk⟩
/-! values told by name -/
variable {x ci k z a b m j i : Nat} {v w : Int32} {l : Int64}
theorem wq_gI (hd : decode (am_code M) pc = .ok (.getfield x, 3)) (hf : am_find x (am_fldT (am_own M)) = some (ci, k)) (h0 : (am_fk ci)[k]? = some 0) (hk : am_K σ a = (ci, z)) (hv : am_I σ a k = v) (kk : am_WP d M (pc + 3) ls (.int v :: st) σ Q) : am_WP d M pc ls (.ref a :: st) σ Q := by
  subst hv; exact wp_gI hd hf h0 hk kk
theorem wq_gL (hd : decode (am_code M) pc = .ok (.getfield x, 3)) (hf : am_find x (am_fldT (am_own M)) = some (ci, k)) (h0 : (am_fk ci)[k]? = some 1) (hk : am_K σ a = (ci, z)) (hv : am_L σ a k = l) (kk : am_WP d M (pc + 3) ls (.long l :: st) σ Q) : am_WP d M pc ls (.ref a :: st) σ Q := by
  subst hv; exact wp_gL hd hf h0 hk kk
theorem wq_iald {y : Int32} (hd : decode (am_code M) pc = .ok (.iaload, 1)) (hk : am_K σ a = (20, m)) (hi : am_in y m = true) (hv : am_I σ a y.toNatClampNeg = v) (kk : am_WP d M (pc + 1) ls (.int v :: st) σ Q) : am_WP d M pc ls (.int y :: .ref a :: st) σ Q := by
  subst hv; exact wp_iald hd hk hi kk
theorem wq_sald {y : Int32} (hd : decode (am_code M) pc = .ok (.iaload, 1)) (hk : am_K σ a = (19, m)) (hi : am_in y m = true) (hv : am_I σ a y.toNatClampNeg = v) (kk : am_WP d M (pc + 1) ls (.int v :: st) σ Q) : am_WP d M pc ls (.int y :: .ref a :: st) σ Q := by
  subst hv; exact wp_sald hd hk hi kk
theorem wq_zald {y : Int32} (hd : decode (am_code M) pc = .ok (.baload, 1)) (hk : am_K σ a = (22, m)) (hi : am_in y m = true) (hv : am_I σ a y.toNatClampNeg = v) (kk : am_WP d M (pc + 1) ls (.int v :: st) σ Q) : am_WP d M pc ls (.int y :: .ref a :: st) σ Q := by
  subst hv; exact wp_zald hd hk hi kk
theorem wq_lald {y : Int32} (hd : decode (am_code M) pc = .ok (.laload, 1)) (hk : am_K σ a = (21, m)) (hi : am_in y m = true) (hv : am_L σ a y.toNatClampNeg = l) (kk : am_WP d M (pc + 1) ls (.long l :: st) σ Q) : am_WP d M pc ls (.int y :: .ref a :: st) σ Q := by
  subst hv; exact wp_lald hd hk hi kk
theorem wq_iast {y : Int32} (hd : decode (am_code M) pc = .ok (.iastore, 1)) (hk : am_K σ a = (20, m)) (hi : am_in y m = true) (hj : y.toNatClampNeg = j) (kk : am_WP d M (pc + 1) ls st (am_sI σ a j v) Q) : am_WP d M pc ls (.int v :: .int y :: .ref a :: st) σ Q := by
  subst hj; exact wp_iast hd hk hi kk
theorem wq_zast {y : Int32} (hd : decode (am_code M) pc = .ok (.bastore, 1)) (hk : am_K σ a = (22, m)) (hi : am_in y m = true) (hj : y.toNatClampNeg = j) (hv : v &&& 1 = w) (kk : am_WP d M (pc + 1) ls st (am_sI σ a j w) Q) : am_WP d M pc ls (.int v :: .int y :: .ref a :: st) σ Q := by
  subst hj; subst hv; exact wp_zast hd hk hi kk
theorem wq_last {y : Int32} (hd : decode (am_code M) pc = .ok (.lastore, 1)) (hk : am_K σ a = (21, m)) (hi : am_in y m = true) (hj : y.toNatClampNeg = j) (kk : am_WP d M (pc + 1) ls st (am_sL σ a j l) Q) : am_WP d M pc ls (.long l :: .int y :: .ref a :: st) σ Q := by
  subst hj; exact wp_last hd hk hi kk
theorem wq_aald {y : Int32} (hd : decode (am_code M) pc = .ok (.aaload, 1)) (hk : am_K σ a = (z, m)) (hz : 23 ≤ z ∧ z ≤ 25) (hi : am_in y m = true) (hv : am_R σ a y.toNatClampNeg = some b) (kk : am_WP d M (pc + 1) ls (.ref b :: st) σ Q) : am_WP d M pc ls (.int y :: .ref a :: st) σ Q :=
  wp_aald hd hk hz hi (by rw [hv]; rfl) kk
theorem wq_aaln {y : Int32} (hd : decode (am_code M) pc = .ok (.aaload, 1)) (hk : am_K σ a = (z, m)) (hz : 23 ≤ z ∧ z ≤ 25) (hi : am_in y m = true) (hv : am_R σ a y.toNatClampNeg = none) (kk : am_WP d M (pc + 1) ls (.null :: st) σ Q) : am_WP d M pc ls (.int y :: .ref a :: st) σ Q :=
  wp_aald hd hk hz hi (by rw [hv]; rfl) kk
/-- a value that gets a name as it is put into a local -/
theorem le_i {ins : Instr} {R : Type} {g : Int32 → Option R} {P : R → Prop} {L : Int32 → am_Ls} (k : am_ok (ax_le v g) P) (hd : decode (am_code M) pc = .ok (ins, len)) (hl0 : am_lok ins len = true) (hl : am_sto ins = some (i, 0)) (hn : i + 1 ≤ am_maxL M) (hs : ∀ y, am_set ls i (.int y) = L y) (C : ∀ y, y = v → am_ok (g y) P → am_WP d M (pc + len) (L y) st σ Q) : am_WP d M pc ls (.int v :: st) σ Q :=
  wp_st hd hl0 hl rfl hn (hs v) (C v rfl k)
theorem le_l {ins : Instr} {R : Type} {g : Int64 → Option R} {P : R → Prop} {L : Int64 → am_Ls} (k : am_ok (ax_le l g) P) (hd : decode (am_code M) pc = .ok (ins, len)) (hl0 : am_lok ins len = true) (hl : am_sto ins = some (i, 1)) (hn : i + 2 ≤ am_maxL M) (hs : ∀ y, am_set ls i (.long y) = L y) (C : ∀ y, y = l → am_ok (g y) P → am_WP d M (pc + len) (L y) st σ Q) : am_WP d M pc ls (.long l :: st) σ Q :=
  wp_st hd hl0 hl rfl hn (hs l) (C l rfl k)
/-- a value that gets a name on the operand stack -/
theorem ls_i {R : Type} {g : Int32 → Option R} {P : R → Prop} (k : am_ok (ax_le v g) P) (C : ∀ y, y = v → am_ok (g y) P → am_WP d M pc ls (.int y :: st) σ Q) : am_WP d M pc ls (.int v :: st) σ Q := C v rfl k
theorem ls_l {R : Type} {g : Int64 → Option R} {P : R → Prop} (k : am_ok (ax_le l g) P) (C : ∀ y, y = l → am_ok (g y) P → am_WP d M pc ls (.long y :: st) σ Q) : am_WP d M pc ls (.long l :: st) σ Q := C l rfl k
theorem wq_ac {y : Int32} {z la lb m : Nat} {q : Nat × am_M} {p0 p1 : Int32} (hd : decode (am_code M) pc = .ok (.invokestatic x, 3)) (hf : am_find x (am_callT (am_own M)) = some (6, q)) (ka : am_K σ a = (z, la)) (hz : z = 20 ∨ z = 19) (kb : am_K σ b = (20, lb)) (e0 : p0 = 0) (e1 : p1 = 0) (hy : y.toNatClampNeg = m) (h0 : ¬ y < 0) (h1 : m ≤ la) (h2 : m ≤ lb) (h3 : (st.map fun v => v.category).sum ≤ 8)
    (kk : am_WP d M (pc + 3) ls st (am_sA σ b (va_cpy (am_I σ a) (am_I σ b) 0 0 m)) Q) : am_WP d M pc ls (.int y :: .int p1 :: .ref b :: .int p0 :: .ref a :: st) σ Q := by
  subst e0 e1 hy
  obtain ⟨q1, q2⟩ := q
  refine wp_mem hd rfl rfl ?_ ?_ kk
  · unfold am_inv
    simp only [hf, Option.map_some]
    rw [if_neg (by intro h; exact absurd h.1 (by decide))]
  · have z0 : (0 : Int32).toNatClampNeg = 0 := rfl
    simp only [am_mem, hf, if_true]
    rw [if_pos ⟨by rw [ka]; exact hz, by rw [kb], by decide, by decide, h0, by rw [ka, z0, Nat.zero_add]; exact h1, by rw [kb, z0, Nat.zero_add]; exact h2, h3⟩, z0]
theorem wq_slen {q : Nat × am_M} (hd : decode (am_code M) pc = .ok (.invokevirtual x, 3)) (hf : am_find x (am_callT (am_own M)) = some (4, q)) (ka : am_K σ a = (18, m)) (h3 : (st.map fun v => v.category).sum ≤ 8) (kk : am_WP d M (pc + 3) ls (.int (Int32.ofNat m) :: st) σ Q) : am_WP d M pc ls (.ref a :: st) σ Q := by
  obtain ⟨q1, q2⟩ := q
  refine wp_mem hd rfl rfl ?_ ?_ kk
  · unfold am_inv
    simp only [hf, Option.map_some]
    rw [if_neg (by intro h; exact absurd h.1 (by decide))]
  · simp only [am_mem, hf]
    rw [if_pos ⟨by rw [ka], h3⟩, ka]
theorem wq_chr {q : Nat × am_M} {y : Int32} (hd : decode (am_code M) pc = .ok (.invokevirtual x, 3)) (hf : am_find x (am_callT (am_own M)) = some (5, q)) (ka : am_K σ a = (18, m)) (hi : am_in y m = true) (h3 : (st.map fun v => v.category).sum ≤ 8) (kk : am_WP d M (pc + 3) ls (.int (am_I σ a y.toNatClampNeg) :: st) σ Q) : am_WP d M pc ls (.int y :: .ref a :: st) σ Q := by
  obtain ⟨q1, q2⟩ := q
  refine wp_mem hd rfl rfl ?_ ?_ kk
  · unfold am_inv
    simp only [hf, Option.map_some]
    rw [if_neg (by intro h; exact absurd h.1 (by decide))]
  · simp only [am_mem, hf]
    rw [if_pos ⟨by rw [ka], by rw [ka]; exact hi, h3⟩]
theorem am_thr_1 {ik is ic e : Nat} (h7 : am_own M = 7) (hh : am_hh M = []) (h3 : decode (am_code M) (pc + 3) = .ok (.dup, 1)) (h4 : decode (am_code M) (pc + 4) = .ok (.ldc is, 2)) (h6 : decode (am_code M) (pc + 6) = .ok (.invokespecial ic, 3)) (h9 : decode (am_code M) (pc + 9) = .ok (.athrow, 1)) (hf : (am_thrT.find? (fun q => decide (q.1 = ik ∧ q.2.1 = is ∧ q.2.2.1 = ic))).map (fun q => q.2.2.2) = some e) : am_thr M pc (.new ik) = some e := by
  rw [am_thr, if_pos ⟨h7, hh⟩, h3, h4]
  simp only
  rw [h6, h9]
  exact hf
theorem am_thr_2 {ik is ic e : Nat} (h7 : am_own M = 7) (hh : am_hh M = []) (h3 : decode (am_code M) (pc + 3) = .ok (.dup, 1)) (h4 : decode (am_code M) (pc + 4) = .ok (.ldc_w is, 3)) (h6 : decode (am_code M) (pc + 7) = .ok (.invokespecial ic, 3)) (h9 : decode (am_code M) (pc + 10) = .ok (.athrow, 1)) (hf : (am_thrT.find? (fun q => decide (q.1 = ik ∧ q.2.1 = is ∧ q.2.2.1 = ic))).map (fun q => q.2.2.2) = some e) : am_thr M pc (.new ik) = some e := by
  rw [am_thr, if_pos ⟨h7, hh⟩, h3, h4]
  simp only
  rw [h6, h9]
  exact hf
theorem am_end_i {v : Int32} (hr : am_ret M = some .int) : am_end M .ireturn [.int v] = some (some (.int v)) := by
  rw [am_end, hr]
  exact if_pos rfl
theorem am_end_l {v : Int64} (hr : am_ret M = some .long) : am_end M .lreturn [.long v] = some (some (.long v)) := by
  rw [am_end, if_pos hr]
theorem am_end_b {v : Int32} (hr : am_ret M = some .boolean) (hv : v = 0 ∨ v = 1) : am_end M .ireturn [.int v] = some (some (.int v)) := by
  rw [am_end, hr]
  rcases hv with hv | hv
  · subst hv; rfl
  · subst hv; rfl
/-! a comparison of longs and the jump behind it -/
theorem lc_lt {x y : Int64} : lg_cmp x y < 0 ↔ x < y := by
  unfold lg_cmp
  split
  next h => constructor
            · intro h1; exact absurd h1 (by decide)
            · intro h1; exact absurd h (Int64.not_lt.mpr (Int64.le_of_lt h1))
  next h => split
            next e => subst e; constructor
                      · intro h1; exact absurd h1 (by decide)
                      · intro h1; exact absurd h1 Int64.lt_irrefl
            next e => constructor
                      · intro _; exact Int64.lt_of_le_of_ne (Int64.not_lt.mp h) e
                      · intro _; decide
theorem lc_eq {x y : Int64} : lg_cmp x y = 0 ↔ x = y := by
  unfold lg_cmp
  split
  next h => constructor
            · intro h1; exact absurd h1 (by decide)
            · intro h1; subst h1; exact absurd h Int64.lt_irrefl
  next h => split
            next e => exact ⟨fun _ => e, fun _ => rfl⟩
            next e => exact ⟨fun h1 => absurd h1 (by decide), fun h1 => absurd h1 e⟩
theorem lc_gt {x y : Int64} : 0 < lg_cmp x y ↔ y < x := by
  unfold lg_cmp
  split
  next h => exact ⟨fun _ => h, fun _ => by decide⟩
  next h => split
            next e => exact ⟨fun h1 => absurd h1 (by decide), fun h1 => absurd h1 h⟩
            next e => exact ⟨fun h1 => absurd h1 (by decide), fun h1 => absurd h1 h⟩
theorem lc_le {x y : Int64} : lg_cmp x y ≤ 0 ↔ x ≤ y := by
  rw [← Int32.not_lt, ← Int64.not_lt, lc_gt]
theorem lc_ge {x y : Int64} : 0 ≤ lg_cmp x y ↔ y ≤ x := by
  rw [← Int32.not_lt, ← Int64.not_lt, lc_lt]
variable {off : Int} {t : Nat} {p q : Int64}
theorem wl_lt (hd : decode (am_code M) pc = .ok (.lcmp, 1)) (hd2 : decode (am_code M) (pc + 1) = .ok (.ifCond .lt off, 3)) (ht : am_to (pc + 1) off = some t) (k1 : p < q → am_WP d M t ls st σ Q) (k2 : ¬ p < q → am_WP d M (pc + 1 + 3) ls st σ Q) : am_WP d M pc ls (.long q :: .long p :: st) σ Q :=
  wp_pu hd rfl rfl (wp_if_lt hd2 ht (fun h => k1 (lc_lt.mp h)) (fun h => k2 (fun h' => h (lc_lt.mpr h'))))
theorem wl_ge (hd : decode (am_code M) pc = .ok (.lcmp, 1)) (hd2 : decode (am_code M) (pc + 1) = .ok (.ifCond .ge off, 3)) (ht : am_to (pc + 1) off = some t) (k1 : q ≤ p → am_WP d M t ls st σ Q) (k2 : ¬ q ≤ p → am_WP d M (pc + 1 + 3) ls st σ Q) : am_WP d M pc ls (.long q :: .long p :: st) σ Q :=
  wp_pu hd rfl rfl (wp_if_ge hd2 ht (fun h => k1 (lc_ge.mp h)) (fun h => k2 (fun h' => h (lc_ge.mpr h'))))
theorem wl_gt (hd : decode (am_code M) pc = .ok (.lcmp, 1)) (hd2 : decode (am_code M) (pc + 1) = .ok (.ifCond .gt off, 3)) (ht : am_to (pc + 1) off = some t) (k1 : q < p → am_WP d M t ls st σ Q) (k2 : ¬ q < p → am_WP d M (pc + 1 + 3) ls st σ Q) : am_WP d M pc ls (.long q :: .long p :: st) σ Q :=
  wp_pu hd rfl rfl (wp_if_gt hd2 ht (fun h => k1 (lc_gt.mp h)) (fun h => k2 (fun h' => h (lc_gt.mpr h'))))
theorem wl_le (hd : decode (am_code M) pc = .ok (.lcmp, 1)) (hd2 : decode (am_code M) (pc + 1) = .ok (.ifCond .le off, 3)) (ht : am_to (pc + 1) off = some t) (k1 : p ≤ q → am_WP d M t ls st σ Q) (k2 : ¬ p ≤ q → am_WP d M (pc + 1 + 3) ls st σ Q) : am_WP d M pc ls (.long q :: .long p :: st) σ Q :=
  wp_pu hd rfl rfl (wp_if_le hd2 ht (fun h => k1 (lc_le.mp h)) (fun h => k2 (fun h' => h (lc_le.mpr h'))))
theorem wl_eq (hd : decode (am_code M) pc = .ok (.lcmp, 1)) (hd2 : decode (am_code M) (pc + 1) = .ok (.ifCond .eq off, 3)) (ht : am_to (pc + 1) off = some t) (k1 : p = q → am_WP d M t ls st σ Q) (k2 : ¬ p = q → am_WP d M (pc + 1 + 3) ls st σ Q) : am_WP d M pc ls (.long q :: .long p :: st) σ Q :=
  wp_pu hd rfl rfl (wp_if_eq hd2 ht (fun h => k1 (lc_eq.mp h)) (fun h => k2 (fun h' => h (lc_eq.mpr h'))))
theorem wl_ne (hd : decode (am_code M) pc = .ok (.lcmp, 1)) (hd2 : decode (am_code M) (pc + 1) = .ok (.ifCond .ne off, 3)) (ht : am_to (pc + 1) off = some t) (k1 : ¬ p = q → am_WP d M t ls st σ Q) (k2 : p = q → am_WP d M (pc + 1 + 3) ls st σ Q) : am_WP d M pc ls (.long q :: .long p :: st) σ Q :=
  wp_pu hd rfl rfl (wp_if_ne hd2 ht (fun h => k1 (fun h' => h (lc_eq.mpr h'))) (fun h => k2 (lc_eq.mp h)))
/-! the switch -/
theorem sw_hit {ins : Instr} {x c : Int32} {t : Nat} (hd : decode (am_code M) pc = .ok (ins, len)) (hl0 : am_lok ins len = true) (e : x = c) (hj : am_jump pc ins (.int c :: st) = some (t, st)) (k : am_WP d M t ls st σ Q) : am_WP d M pc ls (.int x :: st) σ Q := by
  subst e; exact wp_jp hd hl0 hj k
theorem ts_out {dflt lo hi : Int} {offs : Array Int} {x : Int32} {t : Nat} (hd : decode (am_code M) pc = .ok (.tableswitch dflt lo hi offs, len)) (ht : am_to pc dflt = some t) (hx : ∀ j : Int, lo ≤ j → j ≤ hi → ¬ x = Int32.ofInt j) (k : am_WP d M t ls st σ Q) : am_WP d M pc ls (.int x :: st) σ Q := by
  refine wp_jp hd rfl ?_ k
  have ho : x.toInt < lo ∨ hi < x.toInt := by
    by_cases h1 : x.toInt < lo
    · exact Or.inl h1
    · by_cases h2 : hi < x.toInt
      · exact Or.inr h2
      · exact absurd (Int32.ofInt_toInt x).symm (hx x.toInt (by omega) (by omega))
  rw [am_jump, if_pos ho, ht]
  rfl
theorem lk_out {dflt : Int} {ps : Array (Int × Int)} {x : Int32} {t : Nat} (hd : decode (am_code M) pc = .ok (.lookupswitch dflt ps, len)) (hs : (ps.toList.zip (ps.toList.drop 1)).all (fun (a, next) => a.1 < next.1) = true) (ho : Op.lookupswitch.offset ps.toList dflt x.toInt = dflt) (ht : am_to pc dflt = some t) (k : am_WP d M t ls st σ Q) : am_WP d M pc ls (.int x :: st) σ Q := by
  refine wp_jp hd rfl ?_ k
  rw [am_jump, if_pos hs, ho, ht]
  rfl
theorem lk2 {o0 o1 dflt : Int} {x : Int32} (h0 : ¬ x = 0) (h1 : ¬ x = 1) : Op.lookupswitch.offset [(0, o0), (1, o1)] dflt x.toInt = dflt := by
  have e0 : ¬ (0 : Int) = x.toInt := fun e => h0 (Int32.toInt_inj.mp e.symm)
  have e1 : ¬ (1 : Int) = x.toInt := fun e => h1 (Int32.toInt_inj.mp e.symm)
  rw [Op.lookupswitch.offset_cons, if_neg e0, Op.lookupswitch.offset_cons, if_neg e1, Op.lookupswitch.offset_nil]
end RUL
def am_shE (N : Nat) (σ : am_S) : Prop := ∃ n, am_sh N n σ
section RULE
variable {N d : Nat} {M : am_M} {av : List Value} {σ : am_S} {f : am_F}
theorem sE (h : am_shE N σ) (F : ∀ n, am_sh N n σ → am_S1 (am_sh N n) d M av σ f) : am_S1 (am_shE N) d M av σ f := by
  obtain ⟨n, h⟩ := h
  intro P Q k hP
  exact F n h P Q k (fun o s p hs => hP o s p ⟨n, hs⟩)
theorem sEE (h : am_shE N σ) (F : ∀ n, am_sh N n σ → am_S1 (am_shE N) d M av σ f) : am_S1 (am_shE N) d M av σ f := by
  obtain ⟨n, h⟩ := h
  exact F n h
theorem kE_0 (h : am_shE N σ) : am_K σ 0 = (7, 0) := by obtain ⟨n, h⟩ := h; exact kk_0 h
theorem kE_55 (h : am_shE N σ) : am_K σ 55 = (8, 0) := by obtain ⟨n, h⟩ := h; exact kk_55 h
theorem kE_71 (h : am_shE N σ) : am_K σ 71 = (21, 1) := by obtain ⟨n, h⟩ := h; exact kk_71 h
theorem kE_script (h : am_shE N σ) : am_K σ 2000000 = (19, (am_K σ 2000000).2) := by obtain ⟨n, h⟩ := h; exact kk_script h
theorem shE_sL {a k : Nat} {v : Int64} (h : am_shE N σ) : am_shE N (am_sL σ a k v) := h
end RULE
/-! the library's -/
def am_max (x y : Int32) : Int32 := if x < y then y else x
def am_min (x y : Int32) : Int32 := if y < x then y else x
def am_abs (x : Int32) : Int32 := if 0 ≤ x then x else 0 - x
def am_lmax (x y : Int64) : Int64 := if y < x then x else y
def am_lmin (x y : Int64) : Int64 := if y < x then y else x
