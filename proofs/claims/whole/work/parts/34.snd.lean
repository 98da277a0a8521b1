/-! ===== the machine does what the abstract one does ===== -/
/-- what is to come at a return, at a throw, at an exception that passes -/
def am_KA (p : Program) (l : Launch) (e : Env) (R : Room) (s : State) (m : MethodId) (args : Array Value) (below : List Frame) (meth : Method) (c : Code) (Q : State → Prop) (D : va_G) (cy : Nat → ClassId) (A : Nat → Prop) (adF : Nat → Nat) (fK : Nat → Nat × Nat) (fI : Nat → Nat → Int32) (M : am_M) (ad : Nat → Nat) (σ σ' : am_S) (c1 z1 : Nat) (o : am_O) : Prop :=
  (∀ v, o = .inl v → ∀ (H1 : Heap) (locs1 : List Loc) (ad1 : Nat → Nat) (ls1 : Array Slot) (pc1 : Nat) (ins1 : Instr) (len1 : Nat) (st1 : List Value), decode (am_code M) pc1 = .ok (ins1, len1) → am_lok ins1 len1 = true → am_end M ins1 st1 = some v → am_ext ad ad1 σ → am_Q D cy A adF fK fI ad1 σ' H1 → va_S A s.heap H1 locs1 → (∀ w ∈ st1, am_vok (am_n σ') w) →
    W p l e R s m args below meth c H1 locs1 c1 z1 Q (F0 m pc1 ls1 (st1.map (am_cv ad1)))) ∧
  (∀ k, o = .inr k → ∀ (H1 : Heap) (locs1 : List Loc) (ad1 : Nat → Nat) (ls1 : Array Slot) (pc1 : Nat) (ins1 : Instr) (len1 : Nat) (σ1 : am_S) (c2 z2 : Nat), decode (am_code M) pc1 = .ok (ins1, len1) → am_lok ins1 len1 = true → am_thr M pc1 ins1 = some k → am_ext ad ad1 σ → σ' = am_tick σ1 → am_Q D cy A adF fK fI ad1 σ1 H1 → va_S A s.heap H1 locs1 → ls1.size = am_maxL M → c2 + 1 = c1 → z2 + 6 = z1 →
    W p l e R s m args below meth c H1 locs1 c2 z2 Q (F0 m pc1 ls1 [])) ∧
  (∀ k, o = .inr k → am_hh M = [] → ∀ (H1 : Heap) (locs1 : List Loc) (ad1 : Nat → Nat) (ls1 : Array Slot) (pc1 : Nat) (q : Addr) (ce : Cell) (rest : List Value), am_ext ad ad1 σ → am_Q D cy A adF fK fI ad1 σ' H1 → va_S A s.heap H1 locs1 → H1[q]? = some ce → ce.vm = .none → s.vm.findClass (am_ex k) = some ce.cls →
    vx_W p l e R s m args below meth c H1 locs1 c1 z1 Q (F0 m pc1 ls1 rest) q)
def am_Snd (D : va_G) (cy : Nat → ClassId) (A : Nat → Prop) (adF : Nat → Nat) (fK : Nat → Nat × Nat) (fI : Nat → Nat → Int32) (n : Nat) : Prop :=
  ∀ (d : Nat) (M : am_M) (pc : Nat) (lv : am_Ls) (st : List Value) (σ : am_S) (o : am_O) (σ' : am_S), am_run n d M pc lv st σ = some (o, σ') →
  ∀ (p : Program) (l : Launch) (e : Env) (R : Room) (s : State) (m : MethodId) (args : Array Value) (below : List Frame) (meth : Method) (c : Code) (H : Heap) (locs : List Loc) (cells slots : Nat) (Q : State → Prop) (ls : Array Slot) (ad : Nat → Nat) (c1 z1 : Nat),
  l.stackTraces = false → am_Ctx p R s m meth c M D cy A adF fK fI → 10 + d ≤ R.frames → 300 + 60 * d ≤ R.locals → c.exceptionTable.toList = tableOf (am_hh M) → am_Q D cy A adF fK fI ad σ H → va_S A s.heap H locs → (∀ v ∈ st, am_vok (am_n σ) v) → (∀ q ∈ lv, am_vok (am_n σ) q.2) → lv_has ls (am_maxL M) (am_lc ad lv) →
  cells + (am_c σ' - am_c σ) = c1 → slots + (am_z σ' - am_z σ) = z1 → c1 ≤ R.cells → z1 ≤ R.slots → am_KA p l e R s m args below meth c Q D cy A adF fK fI M ad σ σ' c1 z1 o →
  W p l e R s m args below meth c H locs cells slots Q (F0 m pc ls (st.map (am_cv ad)))
section SND11
variable {p : Program} {l : Launch} {e : Env} {R : Room} {s : State} {m : MethodId} {args : Array Value} {below : List Frame} {meth : Method} {c : Code} {H : Heap} {locs : List Loc} {cells slots : Nat} {Q : State → Prop}
variable {M : am_M} {pc len : Nat} {ls : Array Slot} {st st' rest : List Value} {ad : Nat → Nat} {ins : Instr} {lv lv' : am_Ls}
variable {D : va_G} {cy : Nat → ClassId} {A : Nat → Prop} {adF : Nat → Nat} {fK : Nat → Nat × Nat} {fI : Nat → Nat → Int32} {σ σ' : am_S}
theorem am_KA.step {ad2 : Nat → Nat} {σ2 : am_S} {c1 z1 : Nat} {o : am_O} (k : am_KA p l e R s m args below meth c Q D cy A adF fK fI M ad σ σ' c1 z1 o) (hx : am_ext ad ad2 σ) (hle : am_le σ σ2) : am_KA p l e R s m args below meth c Q D cy A adF fK fI M ad2 σ2 σ' c1 z1 o := by
  have key : ∀ ad1, am_ext ad2 ad1 σ2 → am_ext ad ad1 σ := fun ad1 h b hb => (h b (hb.imp_left (fun z => Nat.lt_of_lt_of_le z hle.1))).trans (hx b hb)
  obtain ⟨k1, k2, k3⟩ := k
  exact ⟨fun v hv H1 locs1 ad1 ls1 pc1 ins1 len1 st1 a1 a2 a3 a4 a5 a6 a7 => k1 v hv H1 locs1 ad1 ls1 pc1 ins1 len1 st1 a1 a2 a3 (key _ a4) a5 a6 a7,
    fun x hx H1 locs1 ad1 ls1 pc1 ins1 len1 σ1 c2 z2 a1 a2 a3 a4 a5 a6 a7 a8 a9 a10 => k2 x hx H1 locs1 ad1 ls1 pc1 ins1 len1 σ1 c2 z2 a1 a2 a3 (key _ a4) a5 a6 a7 a8 a9 a10,
    fun x hx hh H1 locs1 ad1 ls1 pc1 q ce rest a1 a2 a3 a4 a5 a6 => k3 x hx hh H1 locs1 ad1 ls1 pc1 q ce rest (key _ a1) a2 a3 a4 a5 a6⟩
theorem am_sl_len (vs : List Value) : (lg_sl (vs.map (am_cv ad))).length = (lg_sl vs).length := by
  induction vs with
  | nil => rfl
  | cons v r ih =>
    simp only [lg_sl, List.map_cons, List.flatMap_cons, List.length_append, am_cv_cat] at ih ⊢
    rw [ih]
    split <;> rfl
theorem am_args_lc : ∀ (vs : List Value) (i : Nat), lv_args i (vs.map (am_cv ad)) = am_lc ad (lv_args i vs)
  | [], _ => rfl
  | v :: r, i => by
    show (i, am_cv ad v) :: lv_args (if (am_cv ad v).category = 2 then i + 2 else i + 1) (r.map (am_cv ad)) = (i, am_cv ad v) :: am_lc ad (lv_args (if v.category = 2 then i + 2 else i + 1) r)
    rw [am_cv_cat, am_args_lc r]
theorem am_args_ok {n : Nat} : ∀ (vs : List Value) (i : Nat), (∀ v ∈ vs, am_vok n v) → ∀ q ∈ lv_args i vs, am_vok n q.2
  | [], _, _, q, hq => by cases hq
  | v :: r, i, h, q, hq => by
    rcases List.mem_cons.mp hq with rfl | hq
    · exact h v List.mem_cons_self
    · exact am_args_ok r _ (am_tailok h) q hq
theorem am_end_ok {v : Option Value} (h : am_end M ins st = some v) : ∀ w ∈ v.toList, w ∈ st := by
  unfold am_end at h
  repeat' split at h
  all_goals first
    | (cases h; done)
    | (cases h; intro w hw; simpa using hw)
theorem am_met_body {n d : Nat} {av : List Value} {o : am_O} {σ1 : am_S} {ws : List Cond} (hs : am_Snd D cy A adF fK fI n) (hl : l.stackTraces = false) (hr : am_run n d M 0 (lv_args 0 av) [] σ = some (o, σ1)) (hav : ∀ v ∈ av, am_vok (am_n σ) v) (harg : (lg_sl av).length ≤ am_maxL M) (hcls : (am_name M).cls = am_cn (am_own M)) :
    ∀ p e s m args below meth c s₁, BodyLoose p l (am_name M) (headSpec ws (am_rm d (am_c σ1 - am_c σ) (am_z σ1 - am_z σ))) (am_code M) (am_maxL M) (am_ret M) e s m args below meth c s₁ → c.maxLocals = am_maxL M → c.exceptionTable.toList = tableOf (am_hh M) → am_PC D cy A adF fK fI av ad σ args s →
      W p l e (headSpec ws (am_rm d (am_c σ1 - am_c σ) (am_z σ1 - am_z σ))).room s m args below meth c s.heap [] 0 0 (vx_MQ below (am_QC D cy A adF fK fI ad σ o σ1) (am_XC D cy A adF fK fI ad σ o σ1) args s (am_c σ1 - am_c σ) (am_z σ1 - am_z σ) A) (entryFrame m args (am_maxL M)) := by
  intro p e s m args below meth c s₁ B hml hcov hP
  obtain ⟨rfl, hQ, hG, hA⟩ := hP
  have hown : s.vm.findClass (am_cn (am_own M)) = some m.cls := by rw [← hcls]; exact findClass_of_methodNamed B.named
  rw [lg_entry_eq]
  have hlv := lv_entry (av.map (am_cv ad)) (n := am_maxL M) (by rw [am_sl_len]; exact harg)
  rw [am_args_lc] at hlv
  have C : am_Ctx p (headSpec ws (am_rm d (am_c σ1 - am_c σ) (am_z σ1 - am_z σ))).room s m meth c M D cy A adF fK fI := ⟨B.exec, B.bytes, hml, hown, (name_of_methodNamed B.named B.method).1, hG, hA, by show 10 ≤ 10 + d; omega, by show 300 ≤ 300 + 60 * d; omega⟩
  refine hs d M 0 (lv_args 0 av) [] σ o σ1 hr p l e _ s m _ below meth c s.heap [] 0 0 _ _ ad (am_c σ1 - am_c σ) (am_z σ1 - am_z σ) hl C (Nat.le_refl _) (Nat.le_refl _) hcov hQ va_S.rf (fun v hv => by cases hv) (am_args_ok av 0 hav) hlv (by omega) (by omega) (Nat.le_refl _) (Nat.le_refl _) ⟨?_, ?_, ?_⟩
  · intro v hv H1 locs1 ad1 ls1 pc1 ins1 len1 st1 a1 a2 a3 a4 a5 a6 a7
    exact am_s_end B.exec B.bytes B.returns B.notSynchronized a3 a1 a2 (fun t ht _ => ⟨⟨v, ad1, hv, rfl, a4, by rw [ht]; exact a5, fun w hw => a7 w (am_end_ok a3 w hw)⟩, a6.F ht⟩) a6.2.2
  · intro x hx H1 locs1 ad1 ls1 pc1 ins1 len1 σ2 c2 z2 a1 a2 a3 a4 a5 a6 a7 a8 a9 a10
    subst a5
    exact am_s_thr C hl B.notSynchronized a7 a8 hcov a3 a1 a2 a9 a10 (Nat.le_refl _) (Nat.le_refl _) a7.2.2 (fun t q1 q2 => ⟨⟨x, ad1, hx, rfl, a4, am_Q.ext (H := H1) a6 q2⟩, Nat.le_trans a7.1 q1, fun q g1 g2 => by rw [q2 q (Nat.lt_of_lt_of_le g1 a7.1), a7.2.1 q g1 g2]⟩)
  · intro x hx hh H1 locs1 ad1 ls1 pc1 q ce rest a1 a2 a3 a4 a5 a6
    exact vx_out (fun y hy => by rw [hcov, hh] at hy; cases hy) B.notSynchronized a4 a5 a6 (fun t ht _ => ⟨⟨x, ad1, hx, rfl, a1, by rw [ht]; exact a2⟩, a3.F ht⟩) a3.2.2 (Nat.le_refl _) (Nat.le_refl _)
theorem am_met {n d : Nat} {av : List Value} {o : am_O} {σ1 : am_S} (hs : am_Snd D cy A adF fK fI n) (hl : l.stackTraces = false) (hr : am_run n d M 0 (lv_args 0 av) [] σ = some (o, σ1)) (hav : ∀ v ∈ av, am_vok (am_n σ) v) (harg : (lg_sl av).length ≤ am_maxL M) (hcls : (am_name M).cls = am_cn (am_own M)) (hpl : plainName (am_name M).cls = true) :
    vx_Met l (am_name M) [am_cw M] (am_rm d (am_c σ1 - am_c σ) (am_z σ1 - am_z σ)) (am_PC D cy A adF fK fI av ad σ) (am_QC D cy A adF fK fI ad σ o σ1) (am_XC D cy A adF fK fI ad σ o σ1) (am_c σ1 - am_c σ) (am_z σ1 - am_z σ) A := by
  by_cases hh : am_hh M = []
  · have ew : am_cw M = .code (am_name M) (am_code M) (am_maxL M) (am_ret M) := if_pos hh
    refine vx_ofW (cc := am_code M) (maxL := am_maxL M) (ret := am_ret M) hpl (by rw [ew]) ?_
    intro p e s m args below meth c s₁ B hml ht hP
    refine am_met_body hs hl hr hav harg hcls p e s m args below meth c s₁ B hml ?_ hP
    rw [hh]
    exact List.eq_nil_iff_forall_not_mem.mpr (fun x hx => ht x hx)
  · have ew : am_cw M = .codeWith (am_name M) (am_code M) (am_maxL M) (am_ret M) (am_hh M) := if_neg hh
    refine vx_ofWH (cc := am_code M) (maxL := am_maxL M) (ret := am_ret M) (hh := am_hh M) hpl (by rw [ew]) ?_
    intro p e s m args below meth c s₁ B hml hP
    have hw : (Cond.codeWith (am_name M) (am_code M) (am_maxL M) (am_ret M) (am_hh M)).before args s = true := by
      refine atoms_spec (ws := [am_cw M]) B.pre _ ?_
      rw [ew]
      exact List.mem_cons_self
    exact am_met_body hs hl hr hav harg hcls p e s m args below meth c s₁ B hml (vx_table (x := am_name M) B hw) hP
theorem am_row_spec {k : Nat} : ∀ {hh : List (Nat × Nat × Nat × Nat)} {h i : Nat}, am_row M pc k hh = some (h, i) → ∃ pre x suf, hh = pre ++ x :: suf ∧ x.1 ≤ pc ∧ pc < x.2.1 ∧ am_find x.2.2.2 (am_catT (am_own M)) = some k ∧ i < am_maxL M ∧
    ((∃ j : Fin 4, decode (am_code M) x.2.2.1 = .ok (.astore_n j, 1) ∧ (j : Nat) = i ∧ h = x.2.2.1 + 1) ∨ (decode (am_code M) x.2.2.1 = .ok (.astore i, 2) ∧ h = x.2.2.1 + 2)) ∧ ∀ y ∈ pre, ¬ (y.1 ≤ pc ∧ pc < y.2.1) ∨ ∃ k', am_find y.2.2.2 (am_catT (am_own M)) = some k' ∧ k' ≠ k
  | [], _, _, h => by cases h
  | (a, b, hp, t) :: r, h, i, hr => by
    unfold am_row at hr
    split at hr
    · rename_i h1
      split at hr
      · rename_i j hd
        split at hr
        · rename_i hlt
          cases hr
          exact ⟨[], (a, b, hp, t), r, rfl, h1.1, h1.2.1, h1.2.2, hlt, Or.inl ⟨j, hd, rfl, rfl⟩, fun y hy => by cases hy⟩
        · cases hr
      · rename_i j hd
        split at hr
        · rename_i hlt
          cases hr
          exact ⟨[], (a, b, hp, t), r, rfl, h1.1, h1.2.1, h1.2.2, hlt, Or.inr ⟨hd, rfl⟩, fun y hy => by cases hy⟩
        · cases hr
      · cases hr
    · rename_i h1
      split at hr
      · cases hr
      · rename_i h2
        obtain ⟨pre, x, suf, e1, g1, g2, g3, g4, g5, g6⟩ := am_row_spec hr
        refine ⟨(a, b, hp, t) :: pre, x, suf, by rw [e1]; rfl, g1, g2, g3, g4, g5, fun y hy => ?_⟩
        rcases List.mem_cons.mp hy with rfl | hy
        · by_cases hc : a ≤ pc ∧ pc < b
          · right
            cases hf : am_find t (am_catT (am_own M)) with
            | none => exact absurd ⟨hc.1, hc.2, by rw [hf]; rfl⟩ h2
            | some k' => exact ⟨k', rfl, fun e => h1 ⟨hc.1, hc.2, by rw [hf, e]⟩⟩
          · exact Or.inl hc
        · exact g6 y hy
theorem am_cw0 : Cond.castable (am_ex 0) (am_ex 0) ∈ lw_tbl := by decide +kernel
theorem am_cw1 : Cond.castable (am_ex 1) (am_ex 1) ∈ lw_tbl := by decide +kernel
theorem am_cw2 : Cond.castable (am_ex 2) (am_ex 2) ∈ lw_tbl := by decide +kernel
theorem am_cw3 : Cond.castable (am_ex 3) (am_ex 3) ∈ lw_tbl := by decide +kernel
theorem am_cl0 : Cond.classLink (am_cn 9) 13 (am_ex 0) ∈ lw_tbl := by decide +kernel
theorem am_cl1 : Cond.classLink (am_cn 9) 34 (am_ex 1) ∈ lw_tbl := by decide +kernel
theorem am_cl2 : Cond.classLink (am_cn 9) 120 (am_ex 2) ∈ lw_tbl := by decide +kernel
theorem am_cl3 : Cond.classLink (am_cn 9) 26 (am_ex 3) ∈ lw_tbl := by decide +kernel
theorem am_cat_use {o t k : Nat} (h : am_find t (am_catT o) = some k) : t ≠ 0 ∧ k < 4 ∧ Cond.classLink (am_cn o) t (am_ex k) ∈ am_T ∧ Cond.castable (am_ex k) (am_ex k) ∈ am_T := by
  have hm := am_find_mem h
  unfold am_catT at hm
  split at hm
  · simp only [List.mem_cons, Prod.mk.injEq, List.not_mem_nil, or_false] at hm
    rcases hm with ⟨rfl, rfl⟩ | ⟨rfl, rfl⟩ | ⟨rfl, rfl⟩ | ⟨rfl, rfl⟩
    · exact ⟨by decide, by decide, am_tin am_cl0 rfl, am_tin am_cw0 rfl⟩
    · exact ⟨by decide, by decide, am_tin am_cl3 rfl, am_tin am_cw3 rfl⟩
    · exact ⟨by decide, by decide, am_tin am_cl1 rfl, am_tin am_cw1 rfl⟩
    · exact ⟨by decide, by decide, am_tin am_cl2 rfl, am_tin am_cw2 rfl⟩
  · cases hm
/-- caught in this method -/
theorem am_s_catch {k h i : Nat} {q : Addr} {ce : Cell} (C : am_Ctx p R s m meth c M D cy A adF fK fI) (hcov : c.exceptionTable.toList = tableOf (am_hh M)) (hr : am_row M pc k (am_hh M) = some (h, i)) (hls : lv_has ls (am_maxL M) (am_lc ad lv)) (hce : H[q]? = some ce) (hv : ce.vm = .none) (hcl : s.vm.findClass (am_ex k) = some ce.cls)
    (kk : ∀ ls' : Array Slot, lv_has ls' (am_maxL M) (am_lc ad (am_drop lv i)) → W p l e R s m args below meth c H locs cells slots Q (F0 m h ls' [])) : vx_W p l e R s m args below meth c H locs cells slots Q (F0 m pc ls rest) q := by
  obtain ⟨hx, hb, hml, hown, -, hG, hA, hfr, hlo⟩ := C
  obtain ⟨pre, ⟨a, b, hp, t⟩, suf, e1, g1, g2, g3, g4, g5, g6⟩ := am_row_spec hr
  obtain ⟨t0, hk4, w1, w2⟩ := am_cat_use g3
  have hsplit : c.exceptionTable.toList = tableOf pre ++ (⟨a, b, hp, t⟩ : ExceptionTableEntry) :: tableOf suf := by
    rw [hcov, e1]
    simp [tableOf]
  refine vx_catch hown (tableOf pre) ⟨a, b, hp, t⟩ (tableOf suf) hsplit (fun z hz => ?_) (by simp only [covers, Bool.and_eq_true, decide_eq_true_eq]; exact ⟨g1, g2⟩) t0 (hG.1.use w1 _) (hG.1.use w2 _) hce hv hcl ?_
  · obtain ⟨y, hy, rfl⟩ := List.mem_map.mp hz
    rcases g6 y hy with g | ⟨k', gf, gn⟩
    · left
      simp only [covers, Bool.and_eq_false_iff, decide_eq_false_iff_not]
      by_cases q1 : y.1 ≤ pc
      · exact Or.inr (fun q2 => g ⟨q1, q2⟩)
      · exact Or.inl q1
    · obtain ⟨t1, hk5, w3, w4⟩ := am_cat_use gf
      exact Or.inr ⟨t1, am_ex k', hG.1.use w3 _, hG.2.2.2.2.2.2.2.2.1 k k' hk4 hk5 (Ne.symm gn)⟩
  · rcases g5 with ⟨j, hd, e2, e3⟩ | ⟨hd, e3⟩
    · subst e3
      exact lv_astore_n hx hb hd e2 hls g4 rfl (fun ls' h' => kk ls' (am_sub h' am_drop_sub))
    · subst e3
      exact lv_astore hx hb hd hls g4 rfl (fun ls' h' => kk ls' (am_sub h' am_drop_sub))
theorem am_s_callq {n d : Nat} {M' : am_M} {av : List Value} {o1 : am_O} {s1 : am_S} (ih : am_Snd D cy A adF fK fI n) (hl : l.stackTraces = false) (C : am_Ctx p R s m meth c M D cy A adF fK fI) (hRf : 10 + (d + 1) ≤ R.frames) (hRl : 300 + 60 * (d + 1) ≤ R.locals) (hQ : am_Q D cy A adF fK fI ad σ H) (hS : va_S A s.heap H locs) (hls : ls.size = am_maxL M)
    (hst : ∀ v ∈ st, am_vok (am_n σ) v) (hi : am_inv M σ ins st = some (M', av, rest)) (hd : decode (am_code M) pc = .ok (ins, len)) (hl0 : am_lok ins len = true) (hr : am_run n d M' 0 (lv_args 0 av) [] σ = some (o1, s1)) (hxo : (∃ v, o1 = .inl v) ∨ am_xok M ins = true)
    (hc : cells + (am_c s1 - am_c σ) ≤ R.cells) (hz : slots + (am_z s1 - am_z σ) ≤ R.slots)
    (kin : ∀ (v1 : Option Value) (ad1 : Nat → Nat) (H1 : Heap) (locs1 : List Loc), o1 = .inl v1 → am_ext ad ad1 σ → am_Q D cy A adF fK fI ad1 s1 H1 → va_S A s.heap H1 locs1 → (∀ w ∈ v1.toList ++ rest, am_vok (am_n s1) w) → W p l e R s m args below meth c H1 locs1 (cells + (am_c s1 - am_c σ)) (slots + (am_z s1 - am_z σ)) Q (F0 m (pc + 3) ls ((v1.toList ++ rest).map (am_cv ad1))))
    (kx : ∀ (k1 : Nat) (ad1 : Nat → Nat) (H1 : Heap) (locs1 : List Loc) (q : Addr) (ce : Cell), o1 = .inr k1 → am_ext ad ad1 σ → am_Q D cy A adF fK fI ad1 s1 H1 → va_S A s.heap H1 locs1 → H1[q]? = some ce → ce.vm = .none → s.vm.findClass (am_ex k1) = some ce.cls → vx_W p l e R s m args below meth c H1 locs1 (cells + (am_c s1 - am_c σ)) (slots + (am_z s1 - am_z σ)) Q (F0 m pc ls (rest.map (am_cv ad))) q) :
    W p l e R s m args below meth c H locs cells slots Q (F0 m pc ls (st.map (am_cv ad))) := by
  obtain ⟨x, kd, na, hf1, harg, hcat, hk⟩ := am_inv_spec hi
  have hk2 : kd ≤ 2 := by rcases hk with ⟨g, -⟩ | ⟨⟨g, -⟩ | ⟨g, -⟩, -⟩ <;> omega
  obtain ⟨u1, u2, u3, u4, u5, u6, u7, u8, u9, u10, u11⟩ := am_call_use hf1 hk2
  have hlen3 : len = 3 := by
    rcases hk with ⟨-, g, -⟩ | ⟨⟨-, g⟩ | ⟨-, g⟩, -⟩ <;> subst g <;> exact of_decide_eq_true hl0
  subst hlen3
  have hsub : (∀ v ∈ av, v ∈ st) ∧ ∀ v ∈ rest, v ∈ st := by
    rcases hk with ⟨-, -, g, -⟩ | ⟨-, b, As, g1, g2, -⟩
    · rw [g]
      exact ⟨fun v hv => List.mem_append_left _ (List.mem_reverse.mpr hv), fun v hv => List.mem_append_right _ hv⟩
    · rw [g1, g2]
      refine ⟨fun v hv => ?_, fun v hv => List.mem_append_right _ (List.mem_cons_of_mem _ hv)⟩
      rcases List.mem_cons.mp hv with rfl | hv
      · exact List.mem_append_right _ List.mem_cons_self
      · exact List.mem_append_left _ (List.mem_reverse.mpr hv)
  have hav : ∀ v ∈ av, am_vok (am_n σ) v := fun v hv => hst v (hsub.1 v hv)
  have hrest : ∀ v ∈ rest, am_vok (am_n σ) v := fun v hv => hst v (hsub.2 v hv)
  have hle1 := am_run_le _ _ _ _ _ _ _ _ _ hr
  have met := am_met (ad := ad) ih hl hr hav harg u4 u8
  have hf : cells + (am_c s1 - am_c σ) ≤ R.cells ∧ slots + (am_z s1 - am_z σ) ≤ R.slots := ⟨hc, hz⟩
  generalize am_c s1 - am_c σ = k at met hf kin kx
  generalize am_z s1 - am_z σ = z at met hf kin kx
  have run := am_s_run (p := p) (l := l) (e := e) (R := R) (s := s) (m := m) (args := args) (below := below) (meth := meth) (c := c) (H := H) (locs := locs) (cells := cells) (slots := slots) (M := M) (pc := pc) (ls := ls) (st := st) (rest := rest) (ad := ad) (ins := ins) (σ := σ) (M' := M') (av := av) (o1 := o1) (σ1 := s1) (d := d) (k := k) (z := z) C hRf hRl hQ hS hls hi hd hxo met hf
  refine am_s_back hS hrest run (fun v1 ad1 H1 locs1 e1 b1 b2 b3 b4 => kin v1 ad1 H1 locs1 e1 b1 b2 b3 (fun w hw => ?_)) kx
  rcases List.mem_append.mp hw with hw | hw
  · exact b4 w hw
  · exact (hrest w hw).mono hle1.1
end SND11
