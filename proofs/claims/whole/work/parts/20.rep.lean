/-! ===== the abstract heap and the machine's ===== -/
def am_cv (ad : Nat → Nat) : Value → Value
  | .ref a => .ref (ad a)
  | v => v
def am_fv (ad : Nat → Nat) (fi : Nat → Int32) (fl : Nat → Int64) (fr : Nat → Option Nat) (k : Nat) : Nat → Value
  | 0 => .int (fi k)
  | 1 => .long (fl k)
  | _ => va_rf ((fr k).map ad)
def am_fs (ad : Nat → Nat) (fi : Nat → Int32) (fl : Nat → Int64) (fr : Nat → Option Nat) (ks : List Nat) : List Value := ks.mapIdx (fun k t => am_fv ad fi fl fr k t)
def am_Er (cy : Nat → ClassId) (ad : Nat → Nat) (kl : Nat × Nat) (fi : Nat → Int32) (fl : Nat → Int64) (fr : Nat → Option Nat) : va_E :=
  if kl.1 < 9 then .inr (kl.1, am_fs ad fi fl fr (am_fk kl.1)) else
  if kl.1 = 20 ∨ kl.1 = 22 then .inl (cy kl.1, kl.2, .inl fi) else
  if kl.1 = 21 then .inl (cy kl.1, kl.2, .inr (.inl fl)) else
  .inl (cy kl.1, kl.2, .inr (.inr (.inr (.inr (fun j => (fr j).map ad)))))
def am_E (cy : Nat → ClassId) (ad : Nat → Nat) (σ : am_S) (a : Nat) : va_E := am_Er cy ad (am_K σ a) (am_I σ a) (am_L σ a) (am_R σ a)
def am_W (cy : Nat → ClassId) (ad : Nat → Nat) (σ : am_S) : va_W := (List.range (am_n σ)).map (fun a => (ad a, am_E cy ad σ a))
def am_real (k : Nat) : Prop := k < 9 ∨ (20 ≤ k ∧ k ≤ 25)
/-- the heap H holds the things of σ at the addresses ad -/
def am_P (D : va_G) (cy : Nat → ClassId) (A : Nat → Prop) (ad : Nat → Nat) (σ : am_S) (H : Heap) : Prop :=
  va_P D vwCl (am_W cy ad σ) H ∧ va_D A (am_W cy ad σ) ∧ (∀ a, am_real (am_K σ a).1 → a < am_n σ) ∧ (∀ a k b, am_R σ a k = some b → b < am_n σ) ∧ am_n σ ≤ 1000000
def am_vok (n : Nat) : Value → Prop
  | .ref a => a < n ∨ 1000000 ≤ a
  | _ => True
section REP
variable {D : va_G} {cy : Nat → ClassId} {A : Nat → Prop} {ad ad' : Nat → Nat} {σ σ' : am_S} {H : Heap}
theorem am_u_s {α : Type} {f : Nat → Nat → α} {a k : Nat} {v : α} : am_u f a k v a = va_up (f a) k v := by unfold am_u; rw [if_pos rfl]
theorem am_u_n {α : Type} {f : Nat → Nat → α} {a b k : Nat} {v : α} (h : b ≠ a) : am_u f a k v b = f b := by unfold am_u; rw [if_neg h]
theorem am_w_s {α : Type} {f : Nat → α} {a : Nat} {v : α} : am_w f a v a = v := by unfold am_w; rw [if_pos rfl]
theorem am_w_n {α : Type} {f : Nat → α} {a b : Nat} {v : α} (h : b ≠ a) : am_w f a v b = f b := by unfold am_w; rw [if_neg h]
theorem am_W_at {a : Nat} (h : a < am_n σ) : (am_W cy ad σ)[a]? = some (ad a, am_E cy ad σ a) := by
  rw [am_W, List.getElem?_map, List.getElem?_range h]; rfl
theorem am_W_set {a : Nat} {e : va_E} (hn : am_n σ' = am_n σ) (h : a < am_n σ) (ho : ∀ b, b ≠ a → am_E cy ad σ' b = am_E cy ad σ b) (he : am_E cy ad σ' a = e) : (am_W cy ad σ).set a (ad a, e) = am_W cy ad σ' := by
  apply List.ext_getElem?
  intro i
  by_cases hi : i < am_n σ
  · rw [am_W_at (σ := σ') (by rw [hn]; exact hi)]
    by_cases e1 : i = a
    · subst e1
      rw [List.getElem?_set_self (by simp [am_W, hi]), he]
    · rw [List.getElem?_set_ne (Ne.symm e1), am_W_at hi, ho i e1]
  · rw [List.getElem?_eq_none (by simp [am_W]; omega), List.getElem?_eq_none (by simp [am_W, hn]; omega)]
theorem am_fs_at {fi : Nat → Int32} {fl : Nat → Int64} {fr : Nat → Option Nat} {ks : List Nat} {k t : Nat} (h : ks[k]? = some t) : (am_fs ad fi fl fr ks)[k]? = some (am_fv ad fi fl fr k t) := by
  rw [am_fs, List.getElem?_mapIdx, h]; rfl
theorem am_fs_set {fi fi' : Nat → Int32} {fl fl' : Nat → Int64} {fr fr' : Nat → Option Nat} {ks : List Nat} {k t : Nat} {v : Value} (h : ks[k]? = some t) (hv : am_fv ad fi' fl' fr' k t = v) (ho : ∀ j, j ≠ k → ∀ t, am_fv ad fi' fl' fr' j t = am_fv ad fi fl fr j t) : (am_fs ad fi fl fr ks).set k v = am_fs ad fi' fl' fr' ks := by
  apply List.ext_getElem?
  intro i
  by_cases e1 : i = k
  · subst e1
    have hl : i < ks.length := (List.getElem?_eq_some_iff.mp h).1
    rw [List.getElem?_set_self (by simp [am_fs, hl]), am_fs_at h, hv]
  · rw [List.getElem?_set_ne (Ne.symm e1), am_fs, am_fs, List.getElem?_mapIdx, List.getElem?_mapIdx]
    cases ks[i]? with
    | none => rfl
    | some t => simp [ho i e1 t]
theorem am_Er_ad {kl : Nat × Nat} {fi : Nat → Int32} {fl : Nat → Int64} {fr : Nat → Option Nat} (h : ∀ k b, fr k = some b → ad' b = ad b) : am_Er cy ad' kl fi fl fr = am_Er cy ad kl fi fl fr := by
  have hm : ∀ k, (fr k).map ad' = (fr k).map ad := by
    intro k
    cases hk : fr k with
    | none => rfl
    | some b => simp [h k b hk]
  have hf : ∀ ks, am_fs ad' fi fl fr ks = am_fs ad fi fl fr ks := by
    intro ks
    unfold am_fs
    congr 1
    funext k t
    match t with
    | 0 => rfl
    | 1 => rfl
    | t + 2 => show va_rf _ = va_rf _; rw [hm]
  unfold am_Er
  rw [hf, show (fun j => (fr j).map ad') = (fun j => (fr j).map ad) from funext hm]
theorem am_cv_ad {v : Value} {n : Nat} (hv : am_vok n v) (h : ∀ b, (b < n ∨ 1000000 ≤ b) → ad' b = ad b) : am_cv ad' v = am_cv ad v := by
  cases v with
  | ref a => exact congrArg Value.ref (h a hv)
  | _ => rfl
theorem am_cv_cat {v : Value} : (am_cv ad v).category = v.category := by cases v <;> rfl
theorem am_cats (st : List Value) : ((st.map (am_cv ad)).map fun v => v.category).sum = (st.map fun v => v.category).sum := by
  rw [List.map_map]
  congr 2
  funext v
  exact am_cv_cat
theorem am_vok.mono {n n' : Nat} {v : Value} (h : am_vok n v) (hn : n ≤ n') : am_vok n' v := by
  cases v with
  | ref a =>
    rcases h with h | h
    · exact Or.inl (Nat.lt_of_lt_of_le h hn)
    · exact Or.inr h
  | _ => trivial
/-- a thing of σ' = σ but for one row -/
theorem am_P.set {a : Nat} {e : va_E} {H1 : Heap} (h : am_P D cy A ad σ H) (hK : am_K σ' = am_K σ) (hn : am_n σ' = am_n σ) (hR : ∀ a k b, am_R σ' a k = some b → b < am_n σ') (ha : a < am_n σ)
    (ho : ∀ b, b ≠ a → am_E cy ad σ' b = am_E cy ad σ b) (he : am_E cy ad σ' a = e) (hP : va_P D vwCl ((am_W cy ad σ).set a (ad a, e)) H1) (hD : va_D A ((am_W cy ad σ).set a (ad a, e))) : am_P D cy A ad σ' H1 := by
  rw [am_W_set hn ha ho he] at hP hD
  exact ⟨hP, hD, fun a h1 => by rw [hn]; exact h.2.2.1 a (by rw [← hK]; exact h1), hR, by rw [hn]; exact h.2.2.2.2⟩
theorem am_E_obj {a : Nat} {ci z : Nat} (h : am_K σ a = (ci, z)) (hc : ci < 9) : am_E cy ad σ a = .inr (ci, am_fs ad (am_I σ a) (am_L σ a) (am_R σ a) (am_fk ci)) := by
  unfold am_E am_Er; rw [h, if_pos hc]
theorem am_E_int {a k z : Nat} (h : am_K σ a = (k, z)) (hc : k = 20 ∨ k = 22) : am_E cy ad σ a = .inl (cy k, z, .inl (am_I σ a)) := by
  unfold am_E am_Er; rw [h]; rcases hc with rfl | rfl <;> rfl
theorem am_E_long {a z : Nat} (h : am_K σ a = (21, z)) : am_E cy ad σ a = .inl (cy 21, z, .inr (.inl (am_L σ a))) := by
  unfold am_E am_Er; rw [h]; rfl
theorem am_E_ref {a k z : Nat} (h : am_K σ a = (k, z)) (hc : 23 ≤ k ∧ k ≤ 25) : am_E cy ad σ a = .inl (cy k, z, .inr (.inr (.inr (.inr (fun j => (am_R σ a j).map ad))))) := by
  unfold am_E am_Er
  rw [h, if_neg (by show ¬ k < 9; omega), if_neg (by show ¬ (k = 20 ∨ k = 22); omega), if_neg (by show ¬ k = 21; omega)]
end REP
