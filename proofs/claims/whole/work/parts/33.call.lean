/-! ===== calls ===== -/
abbrev am_rm (d k z : Nat) : Room := { frames := 10 + d, cells := k, slots := z, locals := 300 + 60 * d }
abbrev am_ext (ad ad1 : Nat → Nat) (σ : am_S) : Prop := ∀ b, b < am_n σ ∨ 1000000 ≤ b → ad1 b = ad b
def am_PC (D : va_G) (cy : Nat → ClassId) (A : Nat → Prop) (adF : Nat → Nat) (fK : Nat → Nat × Nat) (fI : Nat → Nat → Int32) (av : List Value) (ad : Nat → Nat) (σ : am_S) : Array Value → State → Prop := fun a U =>
  a = (av.map (am_cv ad)).toArray ∧ am_Q D cy A adF fK fI ad σ U.heap ∧ am_G D cy A adF fK fI U U.heap ∧ ∀ q, U.heap.size ≤ q → A q
def am_QC (D : va_G) (cy : Nat → ClassId) (A : Nat → Prop) (adF : Nat → Nat) (fK : Nat → Nat × Nat) (fI : Nat → Nat → Int32) (ad : Nat → Nat) (σ : am_S) (o : am_O) (σ1 : am_S) : Array Value → State → Outcome → State → Prop := fun _ st oc t =>
  (∃ (v : Option Value) (ad1 : Nat → Nat), o = .inl v ∧ oc = .returned (v.map (am_cv ad1)) ∧ am_ext ad ad1 σ ∧ am_Q D cy A adF fK fI ad1 σ1 t.heap ∧ ∀ w ∈ v.toList, am_vok (am_n σ1) w) ∧ va_F A st t
def am_XC (D : va_G) (cy : Nat → ClassId) (A : Nat → Prop) (adF : Nat → Nat) (fK : Nat → Nat × Nat) (fI : Nat → Nat → Int32) (ad : Nat → Nat) (σ : am_S) (o : am_O) (σ1 : am_S) : String → State → State → Prop := fun E st t =>
  (∃ (k : Nat) (ad1 : Nat → Nat), o = .inr k ∧ E = am_ex k ∧ am_ext ad ad1 σ ∧ am_Q D cy A adF fK fI ad1 σ1 t.heap) ∧ va_F A st t
section SND10
variable {p : Program} {l : Launch} {e : Env} {R : Room} {s : State} {m : MethodId} {args : Array Value} {below : List Frame} {meth : Method} {c : Code} {H : Heap} {locs : List Loc} {cells slots : Nat} {Q : State → Prop}
variable {M : am_M} {pc len : Nat} {ls : Array Slot} {st st' rest : List Value} {ad : Nat → Nat} {ins : Instr} {lv lv' : am_Ls}
variable {D : va_G} {cy : Nat → ClassId} {A : Nat → Prop} {adF : Nat → Nat} {fK : Nat → Nat × Nat} {fI : Nat → Nat → Int32} {σ σ' : am_S}
theorem am_Q.ext {H1 : Heap} (h : am_Q D cy A adF fK fI ad σ H) (hk : ∀ q : Nat, q < H.size → H1[q]? = H[q]?) : am_Q D cy A adF fK fI ad σ H1 :=
  ⟨⟨fun k q hq => (h.1.1 k q hq).kept (hk _ (h.1.1 k q hq).lt), h.1.2⟩, h.2⟩
theorem am_met_in {y : MethodName} {ws : List Cond} {rm : Room} {Pc : Array Value → State → Prop} {Qc : Array Value → State → Outcome → State → Prop} {XC : String → State → State → Prop} {mc ms : Nat} {free : Addr → Prop} (h : vx_Met l y ws rm Pc Qc XC mc ms free) (hno : ∀ E st t, ¬ XC E st t) : Met l y ws rm Pc Qc mc ms free := by
  intro p e ha hc hk s m args below hf happ hP hK
  obtain ⟨n, o, h1, h2, h3, h4⟩ := h p e ha hc hk s m args below hf happ hP hK
  refine ⟨n, o, h1, h2, h3, ?_⟩
  rcases h4 with h4 | ⟨q, -, E, ce, L, h5, -⟩
  · exact h4
  · exact absurd h5 (hno _ _ _)
theorem am_inv_spec {M' : am_M} {av : List Value} (h : am_inv M σ ins st = some (M', av, rest)) : ∃ x kd na, am_find x (am_callT (am_own M)) = some (kd, na, M') ∧ (lg_sl av).length ≤ am_maxL M' ∧ (rest.map fun v => v.category).sum ≤ 8 ∧
    ((kd = 1 ∧ ins = .invokestatic x ∧ st = av.reverse ++ rest ∧ av.length = na) ∨ (((kd = 0 ∧ ins = .invokevirtual x) ∨ (kd = 2 ∧ ins = .invokespecial x)) ∧ ∃ b As, av = .ref b :: As ∧ st = As.reverse ++ .ref b :: rest ∧ As.length = na ∧ (kd = 2 ∨ (am_K σ b).1 = am_own M'))) := by
  unfold am_inv at h
  split at h
  · rename_i kd kd' na M1 heq
    split at h
    · rename_i hk
      obtain ⟨hk, hn⟩ := hk
      subst hk
      have hlen : ((st.take na).reverse).length = na := by rw [List.length_reverse, List.length_take]; omega
      have hst0 : st = ((st.take na).reverse).reverse ++ st.drop na := by rw [List.reverse_reverse, List.take_append_drop]
      have hkd : ∃ x, am_find x (am_callT (am_own M)) = some (kd, na, M1) ∧ ((kd = 0 ∧ ins = .invokevirtual x) ∨ (kd = 1 ∧ ins = .invokestatic x) ∨ (kd = 2 ∧ ins = .invokespecial x)) := by
        split at heq
        · obtain ⟨q, hq, e1⟩ := Option.map_eq_some_iff.mp heq
          cases e1
          exact ⟨_, hq, Or.inl ⟨rfl, rfl⟩⟩
        · obtain ⟨q, hq, e1⟩ := Option.map_eq_some_iff.mp heq
          cases e1
          exact ⟨_, hq, Or.inr (Or.inl ⟨rfl, rfl⟩)⟩
        · obtain ⟨q, hq, e1⟩ := Option.map_eq_some_iff.mp heq
          cases e1
          exact ⟨_, hq, Or.inr (Or.inr ⟨rfl, rfl⟩)⟩
        · cases heq
      obtain ⟨x, hf, hkd⟩ := hkd
      split at h
      · rename_i h1
        split at h
        · rename_i h2
          cases h
          rcases hkd with ⟨e1, -⟩ | ⟨e1, e2⟩ | ⟨e1, -⟩
          · omega
          · exact ⟨x, kd, na, hf, h2.2, h2.1, Or.inl ⟨e1, e2, hst0, hlen⟩⟩
          · omega
        · cases h
      · rename_i h1
        split at h
        · rename_i b r hr
          split at h
          · rename_i h2
            cases h
            have hst1 : st = ((st.take na).reverse).reverse ++ .ref b :: rest := by rw [← hr]; exact hst0
            rcases hkd with ⟨e1, e2⟩ | ⟨e1, e2⟩ | ⟨e1, e2⟩
            · exact ⟨x, kd, na, hf, h2.2.2, h2.2.1, Or.inr ⟨Or.inl ⟨e1, e2⟩, b, _, rfl, hst1, hlen, h2.1⟩⟩
            · omega
            · exact ⟨x, kd, na, hf, h2.2.2, h2.2.1, Or.inr ⟨Or.inr ⟨e1, e2⟩, b, _, rfl, hst1, hlen, h2.1⟩⟩
          · cases h
        · cases h
    · cases h
  · cases h
/-- what the tables say of a called method -/
theorem am_call_use {o x kd na : Nat} {M' : am_M} (h : am_find x (am_callT o) = some (kd, na, M')) (hk : kd ≤ 2) :
    (Cond.methodLink (am_cn o) x (am_name M') ∈ am_T ∨ (Cond.methodLinkNest (am_cn o) x (am_name M') "DartHangar" ∈ am_T ∧ kd ≠ 0 ∧ am_hh M' = [])) ∧ Cond.initialized (am_name M').cls ∈ am_T ∧ am_cw M' ∈ am_T ∧ (am_name M').cls = am_cn (am_own M') ∧ am_maxL M' ≤ 40 ∧
    ((am_name M').cls ≠ "java/lang/invoke/MethodHandle" ∧ (am_name M').cls ≠ "java/lang/invoke/VarHandle") ∧ (parseMethodDescriptor (am_name M').desc).map (fun d => d.parameters.length) = some na ∧ plainName (am_name M').cls = true ∧
    (kd = 0 → Cond.instanceMethod (am_name M') ∈ am_T ∧ Cond.selects (am_name M').cls (am_name M') (am_name M') ∈ am_T ∧ am_own M' < 9 ∧ am_hh M' = []) ∧ (kd = 1 → Cond.static (am_name M') ∈ am_T) ∧
    (kd = 2 → Cond.instanceMethod (am_name M') ∈ am_T ∧ (am_name M').name = "<init>" ∧ am_ret M' = none ∧ am_hh M' = []) := by
  obtain ⟨r, hr⟩ := am_cchk_use h
  obtain ⟨p0, p1, p2, p3, p4, rfl⟩ := am_cchk_len hr
  simp only [am_cchk, if_pos hk, Bool.and_eq_true, decide_eq_true_eq] at hr
  obtain ⟨⟨⟨⟨⟨⟨⟨⟨h1, h2⟩, h3⟩, h4⟩, h5⟩, h6⟩, h7⟩, h8⟩, h9⟩ := hr
  refine ⟨?_, am_wat_in h2, am_wat_in h3, h4, h5, h6, h7, h8, fun e1 => ?_, fun e1 => ?_, fun e1 => ?_⟩
  · split at h1
    · exact Or.inl (am_wat_in h1)
    · simp only [Bool.and_eq_true, decide_eq_true_eq] at h1
      exact Or.inr ⟨am_wat_in h1.1.1, h1.1.2, h1.2⟩
  · subst e1
    simp only [if_true, Bool.and_eq_true, decide_eq_true_eq] at h9
    exact ⟨am_wat_in h9.1.1.1, am_wat_in h9.1.1.2, h9.1.2, h9.2⟩
  · subst e1
    simp only [Nat.reduceEqDiff, if_true, if_false] at h9
    exact am_wat_in h9
  · subst e1
    simp only [Nat.reduceEqDiff, if_true, if_false, Bool.and_eq_true, decide_eq_true_eq] at h9
    exact ⟨am_wat_in h9.1.1.1, h9.1.1.2, h9.1.2, h9.2⟩
def am_nn79 : Cond → Bool
  | .methodLinkNest a _ y _ => (decide (a ≠ RX7) && decide (a ≠ am_cn 9)) || decide (y.name = "<init>")
  | .static y => decide (y.name ≠ "<init>")
  | _ => true
theorem am_nn79_ok : lw_tbl.all am_nn79 = true := by decide +kernel
theorem am_no79 {o x : Nat} {y : MethodName} {h : String} (ho : o = 7 ∨ o = 9) (hw : Cond.methodLinkNest (am_cn o) x y h ∈ am_T) (hs : Cond.static y ∈ am_T) : False := by
  have h1 := List.all_eq_true.mp am_nn79_ok _ (List.mem_filter.mp hw).1
  have h2 := List.all_eq_true.mp am_nn79_ok _ (List.mem_filter.mp hs).1
  simp only [am_nn79, Bool.and_eq_true, Bool.or_eq_true, decide_eq_true_eq] at h1 h2
  rcases h1 with h1 | h1
  · rcases ho with rfl | rfl
    · exact h1.1 rfl
    · exact h1.2 rfl
  · exact h2 h1
theorem am_cw_warm {M' : am_M} (hG : am_Ws s) (hw : am_cw M' ∈ am_T) : ∀ w ∈ [am_cw M'], ∀ (a' : Array Value) (U : State), s.WarmedH U.vm → w.before a' U = true := by
  intro w hw2 a' U hU
  rcases List.mem_cons.mp hw2 with rfl | h
  · exact (hG.warm hU).use hw a'
  · cases h
/-- the call, out of the called method's contract -/
theorem am_s_run {M' : am_M} {av : List Value} {o1 : am_O} {σ1 : am_S} {d k z : Nat} (C : am_Ctx p R s m meth c M D cy A adF fK fI) (hRf : 10 + (d + 1) ≤ R.frames) (hRl : 300 + 60 * (d + 1) ≤ R.locals) (hQ : am_Q D cy A adF fK fI ad σ H) (hS : va_S A s.heap H locs) (hls : ls.size = am_maxL M)
    (hi : am_inv M σ ins st = some (M', av, rest)) (hd : decode (am_code M) pc = .ok (ins, 3)) (hxo : (∃ v, o1 = .inl v) ∨ am_xok M ins = true)
    (met : vx_Met l (am_name M') [am_cw M'] (am_rm d k z) (am_PC D cy A adF fK fI av ad σ) (am_QC D cy A adF fK fI ad σ o1 σ1) (am_XC D cy A adF fK fI ad σ o1 σ1) k z A) (hf : cells + k ≤ R.cells ∧ slots + z ≤ R.slots) :
    vx_Run p l e R s m args below meth c H locs cells slots k z (F0 m pc ls (st.map (am_cv ad))) (rest.map (am_cv ad)) (am_QC D cy A adF fK fI ad σ o1 σ1 (av.map (am_cv ad)).toArray) (am_XC D cy A adF fK fI ad σ o1 σ1) A := by
  obtain ⟨hx, hb, hml, hown, -, hG, hA, hfr, hlo⟩ := C
  obtain ⟨x, kd, na, hf1, -, hcat, hk⟩ := am_inv_spec hi
  have hk2 : kd ≤ 2 := by rcases hk with ⟨h, -⟩ | ⟨⟨h, -⟩ | ⟨h, -⟩, -⟩ <;> omega
  obtain ⟨u1, u2, u3, u4, u5, u6, u7, u8, u9, u10, u11⟩ := am_call_use hf1 hk2
  have hS0 : CallFix p m c (am_code M) (am_maxL M) s args [] (am_cn (am_own M)) := ⟨hx, hb, hml, hown, fun _ h => by cases h⟩
  have hblind : FrameBlind (am_PC D cy A adF fK fI av ad σ) := fun a U g mk q => ⟨q.1, q.2.1, am_G.same (u := U) rfl q.2.2.1, q.2.2.2⟩
  have hPre : ∀ U : State, U.heap = H → s.WarmedH U.vm → am_PC D cy A adF fK fI av ad σ (av.map (am_cv ad)).toArray U := fun U hU hW => ⟨rfl, by rw [hU]; exact hQ, hG.at hS hU hW, fun q hq => hA q (Nat.le_trans hS.1 (by rw [← hU]; exact hq))⟩
  have hR : (am_rm d k z).frames + 1 ≤ R.frames ∧ 8 + (am_maxL M' + 11) + (am_rm d k z).locals ≤ R.locals := ⟨by show 10 + d + 1 ≤ _; omega, by show 8 + (am_maxL M' + 11) + (300 + 60 * d) ≤ _; omega⟩
  have hcat2 : 2 * (F0 m pc ls (st.map (am_cv ad))).monitorRoom + ((rest.map (am_cv ad)).map fun v => v.category).sum ≤ 8 := by
    show 2 * 0 + _ ≤ 8
    rw [am_cats]
    omega
  have hlen : ∀ sig, parseMethodDescriptor (am_name M').desc = some sig → na = sig.parameters.length := by
    intro sig h
    rw [h] at u7
    exact (Option.some.inj u7).symm
  have hwarm := am_cw_warm hG.1 u3
  have hnoX : (∃ v, o1 = .inl v) → ∀ E st t, ¬ am_XC D cy A adF fK fI ad σ o1 σ1 E st t := by
    rintro ⟨v, rfl⟩ E st t ⟨⟨k, ad1, h, -⟩, -⟩
    cases h
  rcases hk with ⟨e1, e2, e3, e4⟩ | ⟨hk, b, As, e3, e4, e5, e6⟩
  · subst e1; subst e2
    have hstk : (F0 m pc ls (st.map (am_cv ad))).stack = (av.map (am_cv ad)).reverse ++ rest.map (am_cv ad) := by
      show st.map (am_cv ad) = _
      rw [e3, List.map_append, List.map_reverse]
    have hn : (av.map (am_cv ad)).length = na := by rw [List.length_map]; exact e4
    have hstat := hG.1.use (u10 rfl) args
    rcases u1 with u1 | ⟨u1, -, hh⟩
    · by_cases hh : am_hh M' = []
      · have ew : am_cw M' = .code (am_name M') (am_code M') (am_maxL M') (am_ret M') := if_pos hh
        rw [ew] at met u3 hwarm
        exact vx_runS hS0 met ⟨⟨rfl, rfl, hR.1, hR.2, hwarm, List.mem_cons_self, hG.1.use u3 _, hG.1.use u2 _, u6, hlen, hG.1.use u1 _⟩, hstat⟩ ⟨hblind, hPre⟩ rfl hn hls hstk hcat2 hd hf
      · have ew : am_cw M' = .codeWith (am_name M') (am_code M') (am_maxL M') (am_ret M') (am_hh M') := if_neg hh
        rw [ew] at met u3 hwarm
        exact vx_runSX (hh := am_hh M') hS0 met ⟨⟨rfl, rfl, hR.1, hR.2, hwarm, List.mem_cons_self⟩, hG.1.use u3 _, hG.1.use u2 _, u6, hlen, hG.1.use u1 _, hstat⟩ ⟨hblind, hPre⟩ rfl hn hls hstk hcat2 hd hf
    · have ew : am_cw M' = .code (am_name M') (am_code M') (am_maxL M') (am_ret M') := if_pos hh
      have hin : ∃ v, o1 = .inl v := by
        rcases hxo with h | h
        · exact h
        · exact (am_no79 (of_decide_eq_true h) u1 (u10 rfl)).elim
      have met2 := am_met_in met (hnoX hin)
      rw [ew] at met2 u3 hwarm
      intro T hT X
      exact Or.inl (va_runSN (host := "DartHangar") hS0 met2 ⟨⟨⟨rfl, rfl, hR.1, hR.2, hwarm, List.mem_cons_self⟩, hG.1.use u3 _, hG.1.use u2 _, u6, hlen, hG.1.use u1 _⟩, hstat, trivial⟩ ⟨hblind, hPre⟩ rfl hn hls hstk hcat2 hd hf T hT X)
  · subst e3
    have hstk : (F0 m pc ls (st.map (am_cv ad))).stack = (As.map (am_cv ad)).reverse ++ .ref (ad b) :: rest.map (am_cv ad) := by
      show st.map (am_cv ad) = _
      rw [e4, List.map_append, List.map_reverse]
      rfl
    have hn : (As.map (am_cv ad)).length = na := by rw [List.length_map]; exact e5
    rcases hk with ⟨e1, e2⟩ | ⟨e1, e2⟩
    · subst e1; subst e2
      obtain ⟨w1, w2, w3, hh⟩ := u9 rfl
      have ew : am_cw M' = .code (am_name M') (am_code M') (am_maxL M') (am_ret M') := if_pos hh
      rw [ew] at met u3 hwarm
      have u1' : Cond.methodLink (am_cn (am_own M)) x (am_name M') ∈ am_T := by
        rcases u1 with u1 | ⟨-, u1, -⟩
        · exact u1
        · exact absurd rfl u1
      have hkb : (am_K σ b).1 = am_own M' := by
        rcases e6 with e6 | e6
        · cases e6
        · exact e6
      have hbn : b < am_n σ := hQ.1.2.2.1 b (Or.inl (by rw [hkb]; exact w3))
      have hwb := am_W_at (cy := cy) (ad := ad) hbn
      rw [am_E_obj (am_K_eta hkb) w3] at hwb
      have hrc := va_recv hG.2.1 hQ.1.1 (am_cl_at _ w3) hwb
      rw [u4] at w2
      exact vx_runV hS0 met ⟨⟨rfl, rfl, hR.1, hR.2, hwarm, List.mem_cons_self, hG.1.use u3 _, hG.1.use u2 _, u6, hlen, hG.1.use u1' _⟩, hG.1.use w1 _, hG.1.use w2 _⟩ ⟨hblind, hrc, hPre⟩ rfl hn hls hstk hcat2 hd hf
    · subst e1; subst e2
      obtain ⟨w1, w2, w3, hh⟩ := u11 rfl
      have ew : am_cw M' = .code (am_name M') (am_code M') (am_maxL M') none := by rw [← w3]; exact if_pos hh
      have hin : ∃ v, o1 = .inl v := by
        rcases hxo with h | h
        · exact h
        · cases h
      have met2 := am_met_in met (hnoX hin)
      rw [ew] at met2 u3 hwarm
      intro T hT X
      rcases u1 with u1 | ⟨u1, -, -⟩
      · exact Or.inl (va_runI hS0 met2 ⟨⟨rfl, rfl, hR.1, hR.2, hwarm, List.mem_cons_self, hG.1.use u3 _, hG.1.use u2 _, u6, hlen, hG.1.use u1 _⟩, w2, hG.1.use w1 _⟩ ⟨hblind, hPre⟩ rfl hn hls hstk hcat2 hd hf T hT X)
      · exact Or.inl (va_runIN (host := "DartHangar") hS0 met2 ⟨⟨⟨rfl, rfl, hR.1, hR.2, hwarm, List.mem_cons_self⟩, hG.1.use u3 _, hG.1.use u2 _, u6, hlen, hG.1.use u1 _⟩, w2, hG.1.use w1 _⟩ ⟨hblind, hPre⟩ rfl hn hls hstk hcat2 hd hf T hT X)
/-- behind the call -/
theorem am_s_back {av : List Value} {o1 : am_O} {σ1 : am_S} {k z : Nat} (hS : va_S A s.heap H locs) (hrest : ∀ v ∈ rest, am_vok (am_n σ) v)
    (run : vx_Run p l e R s m args below meth c H locs cells slots k z (F0 m pc ls (st.map (am_cv ad))) (rest.map (am_cv ad)) (am_QC D cy A adF fK fI ad σ o1 σ1 (av.map (am_cv ad)).toArray) (am_XC D cy A adF fK fI ad σ o1 σ1) A)
    (kin : ∀ (v1 : Option Value) (ad1 : Nat → Nat) (H1 : Heap) (locs1 : List Loc), o1 = .inl v1 → am_ext ad ad1 σ → am_Q D cy A adF fK fI ad1 σ1 H1 → va_S A s.heap H1 locs1 → (∀ w ∈ v1.toList, am_vok (am_n σ1) w) → W p l e R s m args below meth c H1 locs1 (cells + k) (slots + z) Q (F0 m (pc + 3) ls ((v1.toList ++ rest).map (am_cv ad1))))
    (kx : ∀ (k1 : Nat) (ad1 : Nat → Nat) (H1 : Heap) (locs1 : List Loc) (q : Addr) (ce : Cell), o1 = .inr k1 → am_ext ad ad1 σ → am_Q D cy A adF fK fI ad1 σ1 H1 → va_S A s.heap H1 locs1 → H1[q]? = some ce → ce.vm = .none → s.vm.findClass (am_ex k1) = some ce.cls → vx_W p l e R s m args below meth c H1 locs1 (cells + k) (slots + z) Q (F0 m pc ls (rest.map (am_cv ad))) q) :
    W p l e R s m args below meth c H locs cells slots Q (F0 m pc ls (st.map (am_cv ad))) := by
  intro T hT X
  rcases run T hT X with ⟨v, st₀, t, T', L, h0, X', hL, e1, e2, ⟨⟨v1, ad1, ho, hoc, hext, hQ1, hok⟩, hF⟩, st1⟩ | ⟨q, st₀, t, T', L, E, ce, h0, X', hL, e1, e2, ⟨⟨k1, ad1, ho, hE, hext, hQ1⟩, hF⟩, hce, hcv, hcl, st1⟩
  · cases hoc
    obtain ⟨-, -, k3⟩ := vx_keep h0 e1 hS (fun _ _ h => h) (fun _ h => h) hL hF
    have kk := kin v1 ad1 T'.heap (locs ++ L) ho hext (by rw [e1]; exact hQ1) k3 hok
    have es : (v1.map (am_cv ad1)).toList ++ rest.map (am_cv ad) = (v1.toList ++ rest).map (am_cv ad1) := by
      rw [List.map_append, am_map_ad hrest hext]
      cases v1 <;> rfl
    rw [es] at st1
    obtain ⟨t2, a1, b1⟩ := kk T' rfl X'
    exact ⟨t2, st1 t2 a1, b1⟩
  · subst hE
    obtain ⟨-, -, k3⟩ := vx_keep h0 e1 hS (fun _ _ h => h) (fun _ h => h) hL hF
    obtain ⟨t2, a1, b1⟩ := kx k1 ad1 T'.heap (locs ++ L) q ce ho hext (by rw [e1]; exact hQ1) k3 (by rw [e1]; exact hce) hcv hcl T' rfl X'
    exact ⟨t2, st1.trans a1, b1⟩
end SND10
