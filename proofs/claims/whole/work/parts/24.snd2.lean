/-! ===== the machine does what the abstract one does: fields, arrays, new things ===== -/
def am_Q (D : va_G) (cy : Nat → ClassId) (A : Nat → Prop) (adF : Nat → Nat) (fK : Nat → Nat × Nat) (fI : Nat → Nat → Int32) (ad : Nat → Nat) (σ : am_S) (H : Heap) : Prop :=
  am_P D cy A ad σ H ∧ (∀ a, ((am_K σ a).1 = 18 ∨ (am_K σ a).1 = 19) → 1000000 ≤ a ∧ am_K σ a = fK a ∧ am_I σ a = fI a) ∧ ∀ a, 1000000 ≤ a → ad a = adF a
section SND2
variable {p : Program} {l : Launch} {e : Env} {R : Room} {s : State} {m : MethodId} {args : Array Value} {below : List Frame} {meth : Method} {c : Code} {H : Heap} {locs : List Loc} {cells slots : Nat} {Q : State → Prop}
variable {M : am_M} {pc len : Nat} {ls : Array Slot} {st st' rest : List Value} {ad : Nat → Nat} {ins : Instr} {lv lv' : am_Ls} {nL : Nat}
variable {D : va_G} {cy : Nat → ClassId} {A : Nat → Prop} {adF : Nat → Nat} {fK : Nat → Nat × Nat} {fI : Nat → Nat → Int32} {σ σ' : am_S}
theorem am_in_iff {i : Int32} {n : Nat} (h : am_in i n = true) : vp_in i n := by
  simp only [am_in, decide_eq_true_eq] at h
  exact h
def am_nn : Cond → Bool
  | .fieldLinkNest a _ b _ _ _ => decide (a ≠ b)
  | _ => true
theorem am_nn_ok : am_T.all am_nn = true := by decide +kernel
theorem am_no_nest {C n d h : String} {x : Nat} (hw : Cond.fieldLinkNest C x C n d h ∈ am_T) : False := by
  have h1 := List.all_eq_true.mp am_nn_ok _ hw
  simp [am_nn] at h1
theorem am_Q.upd {H1 : Heap} (h : am_Q D cy A adF fK fI ad σ H) (hP : am_P D cy A ad σ' H1) (hK : am_K σ' = am_K σ) (hI : ∀ b, ((am_K σ b).1 = 18 ∨ (am_K σ b).1 = 19) → am_I σ' b = am_I σ b) : am_Q D cy A adF fK fI ad σ' H1 :=
  ⟨hP, fun a ha => by
    rw [hK] at ha ⊢
    obtain ⟨h1, h2, h3⟩ := h.2.1 a ha
    exact ⟨h1, h2, by rw [hI a ha]; exact h3⟩, h.2.2⟩
set_option maxHeartbeats 1000000 in
theorem am_s_cst {v : Value} (hx : p.tables.exec = Jvm.exec) (hb : c.code = am_code M) (hown : s.vm.findClass (am_cn (am_own M)) = some m.cls) (hG : am_G D cy A adF fK fI s s.heap) (hS : va_S A s.heap H locs) (hadF : ∀ a, 1000000 ≤ a → ad a = adF a)
    (h : am_cst M ins = some v) (hd : decode (am_code M) pc = .ok (ins, len)) (hl : am_lok ins len = true)
    (k : W p l e R s m args below meth c H locs cells slots Q (F0 m (pc + len) ls ((v :: st).map (am_cv ad)))) : W p l e R s m args below meth c H locs cells slots Q (F0 m pc ls (st.map (am_cv ad))) := by
  cases ins
  case iconst n =>
    obtain rfl : len = 1 := of_decide_eq_true hl
    cases h
    exact lv_iconst hx hb hd rfl k
  case bipush n =>
    obtain rfl : len = 2 := of_decide_eq_true hl
    cases h
    exact lv_bipush hx hb hd rfl k
  case sipush n =>
    obtain rfl : len = 3 := of_decide_eq_true hl
    cases h
    exact lv_sipush hx hb hd rfl k
  case lconst n =>
    obtain rfl : len = 1 := of_decide_eq_true hl
    cases h
    exact lv_lconst hx hb hd rfl k
  case aconst_null =>
    obtain rfl : len = 1 := of_decide_eq_true hl
    cases h
    exact lv_null hx hb hd k
  case ldc x =>
    obtain rfl : len = 2 := of_decide_eq_true hl
    simp only [am_cst] at h
    cases hi : am_find x (am_ciT (am_own M)) with
    | some w =>
      rw [hi] at h
      cases h
      exact lv_ldc hx hb hown (hG.1.use (am_ichk_use hi) args) hd k
    | none =>
      rw [hi] at h
      simp only at h
      cases hs : am_find x (am_srT (am_own M)) with
      | none => rw [hs] at h; cases h
      | some w =>
        rw [hs] at h
        cases h
        obtain ⟨tx, hz⟩ := hG.2.2.2.2.1 _ _ _ hs
        refine va_ldcS hx hb hown hz hd ?_
        have e1 : ad w = adF w := hadF w (am_sr_big hs)
        rw [← e1]
        exact k
  case ldc2_w x =>
    obtain rfl : len = 3 := of_decide_eq_true hl
    simp only [am_cst] at h
    cases hi : am_find x (am_clT (am_own M)) with
    | none => rw [hi] at h; cases h
    | some w =>
      rw [hi] at h
      cases h
      exact lv_ldc2 hx hb hown (hG.1.use (am_lchk_use hi) args) hd k
  case getstatic x =>
    obtain rfl : len = 3 := of_decide_eq_true hl
    simp only [am_cst] at h
    cases hi : am_find x (am_stT (am_own M)) with
    | none => rw [hi] at h; cases h
    | some w =>
      rw [hi] at h
      cases h
      obtain ⟨hw, hl2⟩ := am_schk_use hi
      have hz := hG.2.2.2.2.2.2.1 (w - 3000000) (by omega)
      rw [show 3000000 + (w - 3000000) = w by omega] at hz
      have e1 : ad w = adF w := hadF w (by omega)
      rw [← e1] at hz
      rcases hl2 with hl2 | hl2
      · exact va_gets hx hb hz hS hown (hG.1.use hl2 args) (fun _ q => q) hd k
      · exact va_getsN hx hb hz hS hown (hG.1.use hl2 args) (fun _ q => q) hd k
  all_goals (exfalso; revert h; simp [am_cst])
theorem am_K_eta {a k : Nat} (h : (am_K σ a).1 = k) : am_K σ a = (k, (am_K σ a).2) := by rw [← h]
theorem am_s_get {x ci k t a : Nat} (hx : p.tables.exec = Jvm.exec) (hb : c.code = am_code M) (hown : s.vm.findClass (am_cn (am_own M)) = some m.cls) (hG : am_G D cy A adF fK fI s s.heap) (hP : am_P D cy A ad σ H)
    (hf : am_find x (am_fldT (am_own M)) = some (ci, k)) (hk : (am_K σ a).1 = ci) (ht : (am_fk ci)[k]? = some t) (hd : decode (am_code M) pc = .ok (.getfield x, 3))
    (kk : W p l e R s m args below meth c H locs cells slots Q (F0 m (pc + 3) ls (am_fv ad (am_I σ a) (am_L σ a) (am_R σ a) k t :: rest))) : W p l e R s m args below meth c H locs cells slots Q (F0 m pc ls (.ref (ad a) :: rest)) := by
  obtain ⟨h1, h2, h3, h4, h5⟩ := am_fchk_use hf
  have ha : a < am_n σ := hP.2.2.1 a (Or.inl (by rw [hk]; exact h1))
  have hw := am_W_at (cy := cy) (ad := ad) ha
  rw [am_E_obj (am_K_eta hk) h1] at hw
  rcases h5 with h5 | h5
  · exact va_get hx hb (fun w hw => hG.1.use hw args) (am_lay_all ci h1) hown hG.2.1 hP.1 a hw (am_cl_at ci h1) k h2 (hG.1.use h5 args) (fun x q => by rw [← h3]; exact q) (am_fs_at ht) hd kk
  · exact va_getN hx hb (fun w hw => hG.1.use hw args) (am_lay_all ci h1) hown hG.2.1 hP.1 a hw (am_cl_at ci h1) k h2 (hG.1.use h5 args) (fun x q => by rw [← h3]; exact q) (am_fs_at ht) hd kk
/-- a field is written; w: the value as the machine has it -/
theorem am_s_put {x ci k t a : Nat} {w : Value} (hx : p.tables.exec = Jvm.exec) (hb : c.code = am_code M) (hown : s.vm.findClass (am_cn (am_own M)) = some m.cls) (hin : meth.name = (am_name M).name) (hG : am_G D cy A adF fK fI s s.heap) (hP : am_P D cy A ad σ H) (hS : va_S A s.heap H locs)
    (hf : am_find x (am_fldT (am_own M)) = some (ci, k)) (hk : (am_K σ a).1 = ci) (ht : (am_fk ci)[k]? = some t) (hfin : am_fin ci k = false ∨ ((am_name M).name = "<init>" ∧ am_own M = ci))
    (hn : narrow (am_TY ci k) w = w) (hfit : fits (am_TY ci k) w = true) (hd : decode (am_code M) pc = .ok (.putfield x, 3))
    (hK : am_K σ' = am_K σ) (hnn : am_n σ' = am_n σ) (hR : ∀ a k b, am_R σ' a k = some b → b < am_n σ') (ho : ∀ b, b ≠ a → am_E cy ad σ' b = am_E cy ad σ b)
    (hv : am_fv ad (am_I σ' a) (am_L σ' a) (am_R σ' a) k t = w) (hoj : ∀ j, j ≠ k → ∀ t, am_fv ad (am_I σ' a) (am_L σ' a) (am_R σ' a) j t = am_fv ad (am_I σ a) (am_L σ a) (am_R σ a) j t)
    (kk : ∀ (H1 : Heap) (locs1 : List Loc), am_P D cy A ad σ' H1 → va_S A s.heap H1 locs1 → W p l e R s m args below meth c H1 locs1 cells slots Q (F0 m (pc + 3) ls rest)) : W p l e R s m args below meth c H locs cells slots Q (F0 m pc ls (w :: .ref (ad a) :: rest)) := by
  obtain ⟨h1, h2, h3, h4, h5⟩ := am_fchk_use hf
  have ha : a < am_n σ := hP.2.2.1 a (Or.inl (by rw [hk]; exact h1))
  have hw := am_W_at (cy := cy) (ad := ad) ha
  rw [am_E_obj (am_K_eta hk) h1] at hw
  have hl : k < (am_fs ad (am_I σ a) (am_L σ a) (am_R σ a) (am_fk ci)).length := by simp [am_fs, h2]
  have he : am_E cy ad σ' a = .inr (ci, (am_fs ad (am_I σ a) (am_L σ a) (am_R σ a) (am_fk ci)).set k w) := by
    rw [am_E_obj (σ := σ') (by rw [hK]; exact am_K_eta hk) h1, am_fs_set ht hv hoj]
  have key : ∀ (H1 : Heap) (locs1 : List Loc), va_P D vwCl ((am_W cy ad σ).set a (ad a, .inr (ci, (am_fs ad (am_I σ a) (am_L σ a) (am_R σ a) (am_fk ci)).set k w))) H1 → va_D A ((am_W cy ad σ).set a (ad a, .inr (ci, (am_fs ad (am_I σ a) (am_L σ a) (am_R σ a) (am_fk ci)).set k w))) → va_S A s.heap H1 locs1 → W p l e R s m args below meth c H1 locs1 cells slots Q (F0 m (pc + 3) ls rest) :=
    fun H1 locs1 q1 q2 q3 => kk H1 locs1 (hP.set hK hnn hR ha ho he q1 q2) q3
  have hts : ∀ w ∈ am_T, w.before args s = true := fun w hw => hG.1.use hw args
  cases hff : am_fin ci k with
  | false =>
    rcases h5 with h5 | h5
    · exact va_put hx hb hts (am_lay_all ci h1) (am_TY ci) (am_TY_ok ci h1) (am_nm_ok ci h1) hown hG.2.1 hP.1 hP.2.1 hS a hw (am_cl_at ci h1) k h2 (hG.1.use h5 args) (fun x q => by rw [← h3]; exact q) (by rw [h4]; exact hff) (am_TY_ok ci h1 k h2) hn hfit hl hd key
    · exact va_putN hx hb hts (am_lay_all ci h1) (am_TY ci) (am_TY_ok ci h1) (am_nm_ok ci h1) hown hG.2.1 hP.1 hP.2.1 hS a hw (am_cl_at ci h1) k h2 (hG.1.use h5 args) (fun x q => by rw [← h3]; exact q) (by rw [h4]; exact hff) (am_TY_ok ci h1 k h2) hn hfit hl hd key
  | true =>
    rcases hfin with hfin | ⟨hfin, hoc⟩
    · rw [hff] at hfin; cases hfin
    · have hown2 : s.vm.findClass (am_cn ci) = some m.cls := by rw [← hoc]; exact hown
      rcases h5 with h5 | h5
      · rw [hoc] at h5
        exact va_putF hx hb hts (am_lay_all ci h1) (am_TY ci) (am_TY_ok ci h1) (am_nm_ok ci h1) hown2 hG.2.1 hP.1 hP.2.1 hS a hw (am_cl_at ci h1) k h2 (hG.1.use h5 args) (fun x q => by rw [← h3]; exact q) (by rw [h4]; exact hff) (by rw [hin]; exact hfin) h3 (am_TY_ok ci h1 k h2) hn hfit hl hd key
      · rw [hoc] at h5; exact (am_no_nest h5).elim
theorem am_ad_ok (hR : ∀ a k b, am_R σ a k = some b → b < am_n σ) {a k : Nat} : ∀ v, am_rv (am_R σ a k) = v → am_vok (am_n σ) v := by
  intro v hv
  subst hv
  cases h : am_R σ a k with
  | none => exact trivial
  | some b => exact Or.inl (hR a k b h)
theorem am_cv_rv {r : Option Nat} : am_cv ad (am_rv r) = va_rf (r.map ad) := by
  cases r <;> rfl
/-- an int array is read -/
theorem am_s_iald {a : Nat} {i : Int32} (hx : p.tables.exec = Jvm.exec) (hb : c.code = am_code M) (hG : am_G D cy A adF fK fI s s.heap) (hQ : am_Q D cy A adF fK fI ad σ H) (hS : va_S A s.heap H locs)
    (hk : (am_K σ a).1 = 20 ∨ (am_K σ a).1 = 19) (hi : am_in i (am_K σ a).2 = true) (hd : decode (am_code M) pc = .ok (.iaload, 1))
    (kk : W p l e R s m args below meth c H locs cells slots Q (F0 m (pc + 1) ls (.int (am_I σ a i.toNatClampNeg) :: rest))) : W p l e R s m args below meth c H locs cells slots Q (F0 m pc ls (.int i :: .ref (ad a) :: rest)) := by
  rcases hk with hk | hk
  · have ha : a < am_n σ := hQ.1.2.2.1 a (Or.inr (by omega))
    have hw := am_W_at (cy := cy) (ad := ad) ha
    rw [am_E_int (am_K_eta hk) (Or.inl rfl)] at hw
    exact va_iald hx hb hG.2.1 hQ.1.1 a 0 hw rfl (am_in_iff hi) hd kk
  · obtain ⟨h1, h2, h3⟩ := hQ.2.1 a (Or.inr hk)
    have hz := hG.2.2.1 a (am_K σ a).2 (by rw [← h2]; exact am_K_eta hk)
    rw [← hQ.2.2 a h1, ← h3] at hz
    exact va_ti hx hb hz hS (am_in_iff hi) rfl hd kk
theorem am_s_alen {a : Nat} (hx : p.tables.exec = Jvm.exec) (hb : c.code = am_code M) (hG : am_G D cy A adF fK fI s s.heap) (hQ : am_Q D cy A adF fK fI ad σ H) (hS : va_S A s.heap H locs)
    (hk : 19 ≤ (am_K σ a).1 ∧ (am_K σ a).1 ≤ 25) (hd : decode (am_code M) pc = .ok (.arraylength, 1))
    (kk : W p l e R s m args below meth c H locs cells slots Q (F0 m (pc + 1) ls (.int (Int32.ofNat (am_K σ a).2) :: rest))) : W p l e R s m args below meth c H locs cells slots Q (F0 m pc ls (.ref (ad a) :: rest)) := by
  rcases (show (am_K σ a).1 = 19 ∨ (am_K σ a).1 = 20 ∨ (am_K σ a).1 = 21 ∨ (am_K σ a).1 = 22 ∨ (am_K σ a).1 = 23 ∨ (am_K σ a).1 = 24 ∨ (am_K σ a).1 = 25 by omega) with hk | hk | hk | hk | hk | hk | hk
  · obtain ⟨h1, h2, h3⟩ := hQ.2.1 a (Or.inr hk)
    have hz := hG.2.2.1 a (am_K σ a).2 (by rw [← h2]; exact am_K_eta hk)
    rw [← hQ.2.2 a h1] at hz
    exact va_tlen hx hb hz hS rfl hd kk
  all_goals
    have ha : a < am_n σ := hQ.1.2.2.1 a (Or.inr (by omega))
    have hw := am_W_at (cy := cy) (ad := ad) ha
  · rw [am_E_int (am_K_eta hk) (Or.inl rfl)] at hw
    exact va_alen hx hb hG.2.1 hQ.1.1 a 0 hw rfl rfl hd kk
  · rw [am_E_long (am_K_eta hk)] at hw
    exact va_alen hx hb hG.2.1 hQ.1.1 a 1 hw rfl rfl hd kk
  · rw [am_E_int (am_K_eta hk) (Or.inr rfl)] at hw
    exact va_alen hx hb hG.2.1 hQ.1.1 a 2 hw rfl rfl hd kk
  · rw [am_E_ref (am_K_eta hk) (by omega)] at hw
    exact va_alen hx hb hG.2.1 hQ.1.1 a 3 hw rfl rfl hd kk
  · rw [am_E_ref (am_K_eta hk) (by omega)] at hw
    exact va_alen hx hb hG.2.1 hQ.1.1 a 4 hw rfl rfl hd kk
  · rw [am_E_ref (am_K_eta hk) (by omega)] at hw
    exact va_alen hx hb hG.2.1 hQ.1.1 a 5 hw rfl rfl hd kk
theorem am_E_ne {a : Nat} (hK : am_K σ' = am_K σ) (hI : ∀ b, b ≠ a → am_I σ' b = am_I σ b) (hL : ∀ b, b ≠ a → am_L σ' b = am_L σ b) (hR : ∀ b, b ≠ a → am_R σ' b = am_R σ b) : ∀ b, b ≠ a → am_E cy ad σ' b = am_E cy ad σ b := by
  intro b hb
  unfold am_E
  rw [hK, hI b hb, hL b hb, hR b hb]
theorem am_E_sI {a k : Nat} {v : Int32} : ∀ b, b ≠ a → am_E cy ad (am_sI σ a k v) b = am_E cy ad σ b := am_E_ne rfl (fun b hb => am_u_n hb) (fun _ _ => rfl) (fun _ _ => rfl)
theorem am_E_sL {a k : Nat} {v : Int64} : ∀ b, b ≠ a → am_E cy ad (am_sL σ a k v) b = am_E cy ad σ b := am_E_ne rfl (fun _ _ => rfl) (fun b hb => am_u_n hb) (fun _ _ => rfl)
theorem am_E_sR {a k : Nat} {v : Option Nat} : ∀ b, b ≠ a → am_E cy ad (am_sR σ a k v) b = am_E cy ad σ b := am_E_ne rfl (fun _ _ => rfl) (fun _ _ => rfl) (fun b hb => am_u_n hb)
theorem am_E_sA {a : Nat} {f : Nat → Int32} : ∀ b, b ≠ a → am_E cy ad (am_sA σ a f) b = am_E cy ad σ b := am_E_ne rfl (fun b hb => am_w_n hb) (fun _ _ => rfl) (fun _ _ => rfl)
/-- a row of ints is written -/
theorem am_s_ist {a n kd t0 : Nat} {ty : FieldType} {g : Nat → Int32} {H1 : Heap} (hQ : am_Q D cy A adF fK fI ad σ H) (hk : am_K σ a = (kd, n)) (hkd : kd = 20 ∨ kd = 22) (hI : am_I σ' a = g) (hK : am_K σ' = am_K σ) (hn : am_n σ' = am_n σ) (hR : am_R σ' = am_R σ) (ho : ∀ b, b ≠ a → am_E cy ad σ' b = am_E cy ad σ b) (hI2 : ∀ b, b ≠ a → am_I σ' b = am_I σ b)
    (q1 : va_P D vwCl ((am_W cy ad σ).set a (ad a, .inl (cy kd, n, .inl g))) H1) (q2 : va_D A ((am_W cy ad σ).set a (ad a, .inl (cy kd, n, .inl g)))) : am_Q D cy A adF fK fI ad σ' H1 := by
  have ha : a < am_n σ := hQ.1.2.2.1 a (Or.inr (by rw [hk]; omega))
  refine hQ.upd (hQ.1.set hK hn (by rw [hR, hn]; exact hQ.1.2.2.2.1) ha ho ?_ q1 q2) hK (fun b hb => hI2 b (fun e1 => by rw [e1, hk] at hb; omega))
  rw [am_E_int (σ := σ') (by rw [hK]; exact hk) hkd, hI]
theorem am_s_lst {a n : Nat} {g : Nat → Int64} {H1 : Heap} (hQ : am_Q D cy A adF fK fI ad σ H) (hk : am_K σ a = (21, n)) (hI : am_L σ' a = g) (hK : am_K σ' = am_K σ) (hn : am_n σ' = am_n σ) (hR : am_R σ' = am_R σ) (ho : ∀ b, b ≠ a → am_E cy ad σ' b = am_E cy ad σ b) (hI2 : am_I σ' = am_I σ)
    (q1 : va_P D vwCl ((am_W cy ad σ).set a (ad a, .inl (cy 21, n, .inr (.inl g)))) H1) (q2 : va_D A ((am_W cy ad σ).set a (ad a, .inl (cy 21, n, .inr (.inl g))))) : am_Q D cy A adF fK fI ad σ' H1 := by
  have ha : a < am_n σ := hQ.1.2.2.1 a (Or.inr (by rw [hk]; show 20 ≤ 21 ∧ 21 ≤ 25; omega))
  refine hQ.upd (hQ.1.set hK hn (by rw [hR, hn]; exact hQ.1.2.2.2.1) ha ho ?_ q1 q2) hK (fun b _ => by rw [hI2])
  rw [am_E_long (σ := σ') (by rw [hK]; exact hk), hI]
end SND2
