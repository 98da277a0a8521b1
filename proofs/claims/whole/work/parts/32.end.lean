/-! ===== ends and throws ===== -/
section SND9
variable {p : Program} {l : Launch} {e : Env} {R : Room} {s : State} {m : MethodId} {args : Array Value} {below : List Frame} {meth : Method} {c : Code} {H : Heap} {locs : List Loc} {cells slots : Nat} {Q : State → Prop}
variable {M : am_M} {pc len : Nat} {ls : Array Slot} {st st' rest : List Value} {ad : Nat → Nat} {ins : Instr} {lv lv' : am_Ls}
variable {D : va_G} {cy : Nat → ClassId} {A : Nat → Prop} {adF : Nat → Nat} {fK : Nat → Nat × Nat} {fI : Nat → Nat → Int32} {σ σ' : am_S}
variable {Qc : Array Value → State → Outcome → State → Prop} {XC : String → State → State → Prop} {free : Addr → Prop} {mc ms : Nat}
theorem am_s_end {v : Option Value} (hx : p.tables.exec = Jvm.exec) (hb : c.code = am_code M) (hr : meth.sig.returnType = am_ret M) (hlocks : meth.locks = false) (h : am_end M ins st = some v) (hd : decode (am_code M) pc = .ok (ins, len)) (hl : am_lok ins len = true)
    (hq : ∀ t : State, t.heap = H → s.WarmedH t.vm → Qc args s (.returned (v.map (am_cv ad))) t) (hf : ∀ q ∈ locs, free q.base) : W p l e R s m args below meth c H locs cells slots (vx_MQ below Qc XC args s cells slots free) (F0 m pc ls (st.map (am_cv ad))) := by
  refine vx_ret ?_
  unfold am_end at h
  split at h
  · obtain rfl : len = 1 := of_decide_eq_true hl
    split at h
    · rename_i hty
      split at h
      · rename_i hn
        cases h
        exact W.zret hx hb (hr.trans hty) hn hq hf hd hlocks
      · cases h
    · cases h
  · obtain rfl : len = 1 := of_decide_eq_true hl
    split at h
    · rename_i hty
      cases h
      exact W.lret hx hb (hr.trans hty) hq hf hd hlocks
    · cases h
  · obtain rfl : len = 1 := of_decide_eq_true hl
    split at h
    · rename_i hty
      cases h
      exact W.aret hx hb (hr.trans hty) (Or.inl ⟨_, rfl⟩) (Or.inr ⟨_, rfl⟩) hq hf hd hlocks
    · cases h
  · obtain rfl : len = 1 := of_decide_eq_true hl
    split at h
    · rename_i hty
      cases h
      exact W.aret hx hb (hr.trans hty) (Or.inl ⟨_, rfl⟩) (Or.inl rfl) hq hf hd hlocks
    · cases h
  · obtain rfl : len = 1 := of_decide_eq_true hl
    split at h
    · rename_i hty
      cases h
      exact W.vret hx hb (hr.trans hty) hq hf hd hlocks
    · cases h
  · cases h
theorem am_tin {w : Cond} (h1 : w ∈ lw_tbl) (h2 : w.onTables = true) : w ∈ am_T := List.mem_filter.mpr ⟨h1, h2⟩
def am_ik : Nat → Nat
  | 0 => 253
  | 1 => 382
  | 2 => 359
  | _ => 310
def am_ic : Nat → Nat
  | 0 => 257
  | 1 => 386
  | 2 => 363
  | _ => 314
theorem am_thr_rows : am_thrT.all (fun q => decide (q.2.2.2 < 4 ∧ q.1 = am_ik q.2.2.2 ∧ q.2.2.1 = am_ic q.2.2.2)) = true := by decide +kernel
abbrev am_xn : List String := ["java/lang/RuntimeException", "java/lang/Exception"]
theorem am_xw0 : ∀ w ∈ vx_atS RX7 257 "java/lang/IllegalArgumentException" am_xn, w ∈ lw_tbl := by decide +kernel
theorem am_xt0 : ∀ w ∈ vx_atS RX7 257 "java/lang/IllegalArgumentException" am_xn, w.onTables = true := by decide +kernel
theorem am_xl0 : Cond.classLink RX7 253 "java/lang/IllegalArgumentException" ∈ lw_tbl := by decide +kernel
theorem am_xi0 : Cond.initialized "java/lang/IllegalArgumentException" ∈ lw_tbl := by decide +kernel
theorem am_xw1 : ∀ w ∈ vx_atS RX7 386 "java/lang/IllegalStateException" am_xn, w ∈ lw_tbl := by decide +kernel
theorem am_xt1 : ∀ w ∈ vx_atS RX7 386 "java/lang/IllegalStateException" am_xn, w.onTables = true := by decide +kernel
theorem am_xl1 : Cond.classLink RX7 382 "java/lang/IllegalStateException" ∈ lw_tbl := by decide +kernel
theorem am_xi1 : Cond.initialized "java/lang/IllegalStateException" ∈ lw_tbl := by decide +kernel
theorem am_xw2 : ∀ w ∈ vx_atS RX7 363 "java/lang/IndexOutOfBoundsException" am_xn, w ∈ lw_tbl := by decide +kernel
theorem am_xt2 : ∀ w ∈ vx_atS RX7 363 "java/lang/IndexOutOfBoundsException" am_xn, w.onTables = true := by decide +kernel
theorem am_xl2 : Cond.classLink RX7 359 "java/lang/IndexOutOfBoundsException" ∈ lw_tbl := by decide +kernel
theorem am_xi2 : Cond.initialized "java/lang/IndexOutOfBoundsException" ∈ lw_tbl := by decide +kernel
theorem am_xw3 : ∀ w ∈ vx_atS RX7 314 nxC nxN, nx_b w = true → w ∈ lw_tbl := by decide +kernel
theorem am_xt3 : ∀ w ∈ vx_atS RX7 314 nxC nxN, w.onTables = true := by decide +kernel
theorem am_xp3 : ∀ w ∈ Bundle.passSAtoms nxC nxY 13 nx_six, w ∈ lw_tbl ∧ w.onTables = true := by decide +kernel
theorem am_xl3 : Cond.classLink RX7 310 "java/util/NoSuchElementException" ∈ lw_tbl := by decide +kernel
theorem am_xi3 : Cond.initialized "java/util/NoSuchElementException" ∈ lw_tbl := by decide +kernel
theorem am_xwords {k : Nat} (hk : k < 3) : (∀ w ∈ vx_atS RX7 (am_ic k) (am_ex k) am_xn, w ∈ am_T) ∧ Cond.classLink RX7 (am_ik k) (am_ex k) ∈ am_T ∧ Cond.initialized (am_ex k) ∈ am_T ∧ Bundle.fit (am_ex k) = true := match k, hk with
  | 0, _ => ⟨fun w h => am_tin (am_xw0 w h) (am_xt0 w h), am_tin am_xl0 rfl, am_tin am_xi0 rfl, by decide +kernel⟩
  | 1, _ => ⟨fun w h => am_tin (am_xw1 w h) (am_xt1 w h), am_tin am_xl1 rfl, am_tin am_xi1 rfl, by decide +kernel⟩
  | 2, _ => ⟨fun w h => am_tin (am_xw2 w h) (am_xt2 w h), am_tin am_xl2 rfl, am_tin am_xi2 rfl, by decide +kernel⟩
theorem am_thr_spec {k : Nat} (h : am_thr M pc ins = some k) : ∃ ik is ic, ins = .new ik ∧ am_own M = 7 ∧ am_hh M = [] ∧ (ik, is, ic, k) ∈ am_thrT ∧ decode (am_code M) (pc + 3) = .ok (.dup, 1) ∧
    ((decode (am_code M) (pc + 4) = .ok (.ldc is, 2) ∧ decode (am_code M) (pc + 6) = .ok (.invokespecial ic, 3) ∧ decode (am_code M) (pc + 9) = .ok (.athrow, 1)) ∨ (decode (am_code M) (pc + 4) = .ok (.ldc_w is, 3) ∧ decode (am_code M) (pc + 7) = .ok (.invokespecial ic, 3) ∧ decode (am_code M) (pc + 10) = .ok (.athrow, 1))) := by
  have key : ∀ ik is ic, (am_thrT.find? (fun q => decide (q.1 = ik ∧ q.2.1 = is ∧ q.2.2.1 = ic))).map (fun q => q.2.2.2) = some k → (ik, is, ic, k) ∈ am_thrT := by
    intro ik is ic h
    obtain ⟨q, hq, e1⟩ := Option.map_eq_some_iff.mp h
    have h1 := List.find?_some hq
    have h2 := List.mem_of_find?_eq_some hq
    simp only [decide_eq_true_eq] at h1
    obtain ⟨a1, a2, a3⟩ := h1
    obtain ⟨q1, q2, q3, q4⟩ := q
    simp only at a1 a2 a3 e1
    subst a1; subst a2; subst a3; subst e1
    exact h2
  unfold am_thr at h
  split at h
  · split at h
    · rename_i ho
      split at h
      · rename_i d3 d4
        split at h
        · rename_i d6 d9
          exact ⟨_, _, _, rfl, ho.1, ho.2, key _ _ _ h, d3, Or.inl ⟨d4, d6, d9⟩⟩
        · cases h
      · rename_i d3 d4
        split at h
        · rename_i d6 d9
          exact ⟨_, _, _, rfl, ho.1, ho.2, key _ _ _ h, d3, Or.inr ⟨d4, d6, d9⟩⟩
        · cases h
      · cases h
    · cases h
  · cases h
theorem am_s_thr {k : Nat} (C : am_Ctx p R s m meth c M D cy A adF fK fI) (hl : l.stackTraces = false) (hlocks : meth.locks = false) (hS : va_S A s.heap H locs) (hls : ls.size = am_maxL M) (hcov : c.exceptionTable.toList = tableOf (am_hh M))
    (h : am_thr M pc ins = some k) (hd : decode (am_code M) pc = .ok (ins, len)) (hl0 : am_lok ins len = true) (hc : cells + 1 = mc) (hz : slots + 6 = ms) (hmc : mc ≤ R.cells) (hms : ms ≤ R.slots) (hf : ∀ z ∈ locs, free z.base)
    (hX : ∀ t : State, H.size ≤ t.heap.size → (∀ q : Nat, q < H.size → t.heap[q]? = H[q]?) → XC (am_ex k) s t) : W p l e R s m args below meth c H locs cells slots (vx_MQ below Qc XC args s mc ms free) (F0 m pc ls []) := by
  obtain ⟨hx, hb, hml, hown, -, hG, hA, hfr, hlo⟩ := C
  obtain ⟨ik, is, ic, rfl, ho, hh, hrow, d3, hdd⟩ := am_thr_spec h
  obtain rfl : len = 3 := of_decide_eq_true hl0
  have hr := List.all_eq_true.mp am_thr_rows _ hrow
  simp only [decide_eq_true_eq] at hr
  obtain ⟨hk, h1, h2⟩ := hr
  rw [ho] at hown
  have hout : ∀ pc2, ∀ x ∈ c.exceptionTable.toList, covers x pc2 = false := by
    intro pc2 x hx2
    rw [hcov, hh] at hx2
    cases hx2
  obtain ⟨tx, sa, hstr⟩ := hG.2.2.2.2.2.1 _ hrow
  by_cases hk3 : k = 3
  · subst hk3
    have h1 : ik = 310 := h1
    have h2 : ic = 314 := h2
    subst h1; subst h2
    have w1 : ∀ w ∈ vx_atS RX7 314 nxC nxN, nx_b w = true → w ∈ am_T := fun w g1 g2 => am_tin (am_xw3 w g1 g2) (am_xt3 w g1)
    have w2 : ∀ w ∈ Bundle.passSAtoms nxC nxY 13 nx_six, w ∈ am_T := fun w g1 => am_tin (am_xp3 w g1).1 (am_xp3 w g1).2
    have w3 : Cond.classLink RX7 310 nxC ∈ am_T := am_tin am_xl3 rfl
    have w4 : Cond.initialized nxC ∈ am_T := am_tin am_xi3 rfl
    have hgood : ∀ w ∈ Cond.classLink RX7 310 nxC :: Cond.initialized nxC :: (vx_atS RX7 314 nxC nxN ++ Bundle.passSAtoms nxC nxY 13 nx_six), nx_b w = true → vx_ot w = true := by
      intro w hw hb
      have : w.onTables = true := by
        rcases List.mem_cons.mp hw with rfl | hw
        · rfl
        · rcases List.mem_cons.mp hw with rfl | hw
          · rfl
          · rcases List.mem_append.mp hw with hw | hw
            · exact am_xt3 w hw
            · exact (am_xp3 w hw).2
      simp [vx_ot, this]
    rcases hdd with ⟨d4, d6, d9⟩ | ⟨d4, d7, d10⟩
    · exact nx_throwS hx hb hl hown (hG.1.use w3 _) (hG.1.use w4 _) hstr (fun w g1 g2 => hG.1.use (w1 w g1 g2) _) (fun w g1 => hG.1.use (w2 w g1) _) hgood hG.2.2.2.2.2.2.2.1.1 hG.2.2.2.2.2.2.2.1.2 hS (hls.trans hml.symm) hd d3 d4 d6 d9 (hout _)
        (by omega) (by show 0 + (13 * (2 + 1) + 43) ≤ R.locals; omega) (by omega) (by omega) hlocks (fun t _ q1 q2 => hX t q1 q2) hf (by omega) (by omega)
    · exact nx_throwSW hx hb hl hown (hG.1.use w3 _) (hG.1.use w4 _) hstr (fun w g1 g2 => hG.1.use (w1 w g1 g2) _) (fun w g1 => hG.1.use (w2 w g1) _) hgood hG.2.2.2.2.2.2.2.1.1 hG.2.2.2.2.2.2.2.1.2 hS (hls.trans hml.symm) hd d3 d4 d7 d10 (hout _)
        (by omega) (by show 0 + (13 * (2 + 1) + 43) ≤ R.locals; omega) (by omega) (by omega) hlocks (fun t _ q1 q2 => hX t q1 q2) hf (by omega) (by omega)
  obtain ⟨w1, w2, w3, w4⟩ := am_xwords (k := k) (by omega)
  have hgood : ∀ w ∈ Cond.classLink RX7 ik (am_ex k) :: Cond.initialized (am_ex k) :: vx_atS RX7 ic (am_ex k) am_xn, vx_ot w = true := by
    intro w hw
    have : w.onTables = true := by
      rcases List.mem_cons.mp hw with rfl | hw
      · rfl
      · rcases List.mem_cons.mp hw with rfl | hw
        · rfl
        · rw [h2] at hw
          exact am_T_on (w1 w hw)
    simp [vx_ot, this]
  have hnames : ∀ n ∈ am_xn, Bundle.fit n = true := by decide +kernel
  rw [← h1] at w2
  rw [← h2] at w1
  rcases hdd with ⟨d4, d6, d9⟩ | ⟨d4, d7, d10⟩
  · exact vx_throwS (names := am_xn) hx hb hl hown w4 hnames (hG.1.use w2 _) (hG.1.use w3 _) hstr (fun w hw => hG.1.use (w1 w hw) _) hgood hG.2.2.2.2.2.2.2.1.1 hG.2.2.2.2.2.2.2.1.2 hS (hls.trans hml.symm) hd d3 d4 d6 d9 (hout _)
      (by show 2 + 3 < R.frames; omega) (by show 0 + (13 * (2 + 1) + 43) ≤ R.locals; omega) (by omega) (by omega) hlocks (fun t _ q1 q2 => hX t q1 q2) hf (by omega) (by omega)
  · exact vx_throwSW (names := am_xn) hx hb hl hown w4 hnames (hG.1.use w2 _) (hG.1.use w3 _) hstr (fun w hw => hG.1.use (w1 w hw) _) hgood hG.2.2.2.2.2.2.2.1.1 hG.2.2.2.2.2.2.2.1.2 hS (hls.trans hml.symm) hd d3 d4 d7 d10 (hout _)
      (by show 2 + 3 < R.frames; omega) (by show 0 + (13 * (2 + 1) + 43) ≤ R.locals; omega) (by omega) (by omega) hlocks (fun t _ q1 q2 => hX t q1 q2) hf (by omega) (by omega)
end SND9
