theorem js_c_length : Cond.code yJ0_length_8abf5 cJ0_length_8abf5 1 (some .int) ∈ am_T := am_wat_in (i := 698) (by decide +kernel)
theorem js_i_length : Cond.instanceMethod yJ0_length_8abf5 ∈ am_T := am_wat_in (i := 696) (by decide +kernel)
theorem js_s_length : Cond.selects RJ0 yJ0_length_8abf5 yJ0_length_8abf5 ∈ am_T := am_wat_in (i := 697) (by decide +kernel)
theorem js_c_charAt : Cond.code yJ0_charAt_5068e cJ0_charAt_5068e 2 (some .char) ∈ am_T := am_wat_in (i := 708) (by decide +kernel)
theorem js_i_charAt : Cond.instanceMethod yJ0_charAt_5068e ∈ am_T := am_wat_in (i := 706) (by decide +kernel)
theorem js_s_charAt : Cond.selects RJ0 yJ0_charAt_5068e yJ0_charAt_5068e ∈ am_T := am_wat_in (i := 707) (by decide +kernel)
theorem js_c_coder : Cond.code yJ0_coder_7d493 cJ0_coder_7d493 1 (some .byte) ∈ am_T := am_wat_in (i := 702) (by decide +kernel)
theorem js_i_coder : Cond.instanceMethod yJ0_coder_7d493 ∈ am_T := am_wat_in (i := 700) (by decide +kernel)
theorem js_s_coder : Cond.selects RJ0 yJ0_coder_7d493 yJ0_coder_7d493 ∈ am_T := am_wat_in (i := 701) (by decide +kernel)
theorem js_c_isLatin1 : Cond.code yJ0_isLatin1_aae02 cJ0_isLatin1_aae02 1 (some .boolean) ∈ am_T := am_wat_in (i := 712) (by decide +kernel)
theorem js_i_isLatin1 : Cond.instanceMethod yJ0_isLatin1_aae02 ∈ am_T := am_wat_in (i := 710) (by decide +kernel)
theorem js_s_isLatin1 : Cond.selects RJ0 yJ0_isLatin1_aae02 yJ0_isLatin1_aae02 ∈ am_T := am_wat_in (i := 711) (by decide +kernel)
theorem js_c_check : Cond.code yJ0_checkIndex_df160 cJ0_checkIndex_df160 2 none ∈ am_T := am_wat_in (i := 718) (by decide +kernel)
theorem js_t_check : Cond.static yJ0_checkIndex_df160 ∈ am_T := am_wat_in (i := 717) (by decide +kernel)
theorem js_c_lat : Cond.code yJ1_charAt_3b067 cJ1_charAt_3b067 2 (some .char) ∈ am_T := am_wat_in (i := 715) (by decide +kernel)
theorem js_t_lat : Cond.static yJ1_charAt_3b067 ∈ am_T := am_wat_in (i := 714) (by decide +kernel)
theorem js_c_pre : Cond.code yJ3_checkIndex_8e157 cJ3_checkIndex_8e157 3 (some .int) ∈ am_T := am_wat_in (i := 723) (by decide +kernel)
theorem js_t_pre : Cond.static yJ3_checkIndex_8e157 ∈ am_T := am_wat_in (i := 722) (by decide +kernel)
theorem js_n_RJ0 : Cond.initialized RJ0 ∈ am_T := am_wat_in (i := 108) (by decide +kernel)
theorem js_n_RJ1 : Cond.initialized RJ1 ∈ am_T := am_wat_in (i := 109) (by decide +kernel)
theorem js_n_RJ3 : Cond.initialized RJ3 ∈ am_T := am_wat_in (i := 110) (by decide +kernel)
theorem js_f_value : Cond.fieldLink RJ0 9 "java/lang/String" "value" "[B" ∈ am_T := am_wat_in (i := 1897) (by decide +kernel)
theorem js_f_compact : Cond.fieldLink RJ0 38 "java/lang/String" "COMPACT_STRINGS" "Z" ∈ am_T := am_wat_in (i := 703) (by decide +kernel)
theorem js_f_coder : Cond.fieldLink RJ0 15 "java/lang/String" "coder" "B" ∈ am_T := am_wat_in (i := 1898) (by decide +kernel)
theorem js_f_form : Cond.fieldLink RJ0 1053 "jdk/internal/util/Preconditions" "SIOOBE_FORMATTER" "Ljava/util/function/BiFunction;" ∈ am_T := am_wat_in (i := 719) (by decide +kernel)
theorem js_l_coder : Cond.methodLink RJ0 335 yJ0_coder_7d493 ∈ am_T := am_wat_in (i := 699) (by decide +kernel)
theorem js_l_isLatin1 : Cond.methodLink RJ0 492 yJ0_isLatin1_aae02 ∈ am_T := am_wat_in (i := 709) (by decide +kernel)
theorem js_l_lat : Cond.methodLink RJ0 495 yJ1_charAt_3b067 ∈ am_T := am_wat_in (i := 713) (by decide +kernel)
theorem js_l_check : Cond.methodLink RJ1 9 yJ0_checkIndex_df160 ∈ am_T := am_wat_in (i := 716) (by decide +kernel)
theorem js_l_pre : Cond.methodLink RJ0 1059 yJ3_checkIndex_8e157 ∈ am_T := am_wat_in (i := 721) (by decide +kernel)
/-! ===== texts: length and charAt of the library, walked ===== -/
section JS
variable {l : Launch} {A : Nat → Prop} {t m : Nat} {f : Nat → Int32}
theorem am_CB {R : Room} {s : State} {args : Array Value} {own : String} {idx maxL mc ms n : Nat} {y : MethodName} {bytes : ByteArray} {ret : Option FieldType} {rm : Room} (hW : am_Ws s) (h1 : Cond.methodLink own idx y ∈ am_T) (h2 : Cond.initialized y.cls ∈ am_T) (h3 : Cond.code y bytes maxL ret ∈ am_T)
    (hd : y.cls ≠ "java/lang/invoke/MethodHandle" ∧ y.cls ≠ "java/lang/invoke/VarHandle" ∧ (parseMethodDescriptor y.desc).map (fun d => d.parameters.length) = some n) (hR : rm.frames + 1 ≤ R.frames ∧ 8 + (maxL + 11) + rm.locals ≤ R.locals) (hrc : rm.cells = mc) (hrs : rm.slots = ms) :
    CallB R s args own idx y bytes maxL ret [.code y bytes maxL ret] rm mc ms n := by
  refine ⟨hrc, hrs, hR.1, hR.2, fun w hw a' U hU => ?_, List.mem_cons_self, hW.use h3 args, hW.use h2 args, ⟨hd.1, hd.2.1⟩, fun sig h => ?_, hW.use h1 args⟩
  · rcases List.mem_cons.mp hw with rfl | h
    · exact word_at hU (good_of_word rfl) (hW.use h3 args)
    · cases h
  · have h2 := hd.2.2
    rw [h] at h2
    exact (Option.some.inj h2).symm
def js_P (A : Nat → Prop) (t m : Nat) (f : Nat → Int32) (U : State) : Prop :=
  am_Ws U ∧ va_Z "java/lang/String" "COMPACT_STRINGS" "Z" (.int 1) A U U.heap ∧ am_Str t m f A U U.heap ∧ va_Zq RJ3 "SIOOBE_FORMATTER" "Ljava/util/function/BiFunction;" A U U.heap
theorem js_P.same {u U : State} (e : u.vm = U.vm) (e2 : u.heap = U.heap) (h : js_P A t m f u) : js_P A t m f U := by
  obtain ⟨h1, h2, h3, h4⟩ := h
  have hv : u.vm.Alike U.vm := by rw [e]; exact Vm.Alike.refl _
  exact ⟨h1.same e, by rw [← e2]; exact va_Z.moved hv h2, by rw [← e2]; exact h3.moved hv, by rw [← e2]; exact va_Zq.moved hv h4⟩
theorem js_P.warm {s U : State} (hW : s.WarmedH U.vm) (e2 : U.heap = s.heap) (h : js_P A t m f s) : js_P A t m f U := by
  obtain ⟨h1, h2, h3, h4⟩ := h
  exact ⟨h1.warm hW, by rw [e2]; exact va_Z.moved hW.alike h2, by rw [e2]; exact h3.moved hW.alike, by rw [e2]; exact va_Zq.moved hW.alike h4⟩
abbrev js_rm (k : Nat) : Room := { frames := k, cells := 0, slots := 0, locals := 40 * k }
theorem js_recv {s : State} {H : Heap} (h : am_Str t m f A s H) : ∃ cellB : Cell, H[t]? = some cellB ∧ cellB.vm.isStatics = false ∧ s.vm.findClass RJ0 = some cellB.cls := by
  obtain ⟨⟨cell, h1, h2, h3, -⟩, -⟩ := h
  exact ⟨cell, h1, h2, h3⟩
set_option maxRecDepth 100000 in
theorem js_coder : Met l yJ0_coder_7d493 [.code yJ0_coder_7d493 cJ0_coder_7d493 1 (some .byte)] (js_rm 1) (va_Pc [.ref t] (js_P A t m f)) (vp_Si (fun r => r = 0)) 0 0 (fun _ => False) := by
  refine Met.ofW (cc := cJ0_coder_7d493) (maxL := 1) (ret := some .byte) (by decide) rfl ?_
  intro p e s m' args below meth c s₁ B hml hv
  obtain ⟨rfl, hP⟩ := hv
  have hx := B.exec
  have hb := B.bytes
  have hr := B.returns
  have hown : s.vm.findClass RJ0 = some m'.cls := findClass_of_methodNamed B.named
  have hlocks := B.notSynchronized
  have hS : va_S A s.heap s.heap [] := va_S.rf
  have hl := lv_entry ([.ref t]) (n := 1) (Nat.le_of_ble_eq_true rfl)
  rw [lg_entry_eq]
  generalize (lg_sl ([.ref t]) ++ List.replicate (1 - (lg_sl ([.ref t])).length) Slot.unset).toArray = ls at hl ⊢
  have hl : lv_has ls 1 [(0, .ref t)] := hl
  refine va_gets hx hb hP.2.1 hS hown (hP.1.use js_f_compact _) (fun _ q => q) dJ0_coder_7d493_0 ?_
  refine lv_if_eq (tgt := 13) hx hb dJ0_coder_7d493_3 (by decide) (fun h => absurd h (by decide)) (fun _ => ?_)
  refine lv_aload_n hx hb dJ0_coder_7d493_6 rfl (lv_at hl 0 rfl) ?_
  refine vk_getf hx hb hP.2.2.1.2.1 hS hown (hP.1.use js_f_coder _) (fun _ q => q) dJ0_coder_7d493_7 ?_
  refine lv_goto (tgt := 14) hx hb dJ0_coder_7d493_10 (by decide) ?_
  exact W.zret hx hb hr rfl (fun t ht _ => ⟨0, rfl, rfl, ht⟩) (fun _ h => by cases h) dJ0_coder_7d493_14
set_option maxRecDepth 100000 in
theorem js_isLatin1 : Met l yJ0_isLatin1_aae02 [.code yJ0_isLatin1_aae02 cJ0_isLatin1_aae02 1 (some .boolean)] (js_rm 1) (va_Pc [.ref t] (js_P A t m f)) (vp_Si (fun r => r = 1)) 0 0 (fun _ => False) := by
  refine Met.ofW (cc := cJ0_isLatin1_aae02) (maxL := 1) (ret := some .boolean) (by decide) rfl ?_
  intro p e s m' args below meth c s₁ B hml hv
  obtain ⟨rfl, hP⟩ := hv
  have hx := B.exec
  have hb := B.bytes
  have hr := B.returns
  have hown : s.vm.findClass RJ0 = some m'.cls := findClass_of_methodNamed B.named
  have hlocks := B.notSynchronized
  have hS : va_S A s.heap s.heap [] := va_S.rf
  have hl := lv_entry ([.ref t]) (n := 1) (Nat.le_of_ble_eq_true rfl)
  rw [lg_entry_eq]
  generalize (lg_sl ([.ref t]) ++ List.replicate (1 - (lg_sl ([.ref t])).length) Slot.unset).toArray = ls at hl ⊢
  have hl : lv_has ls 1 [(0, .ref t)] := hl
  refine va_gets hx hb hP.2.1 hS hown (hP.1.use js_f_compact _) (fun _ q => q) dJ0_isLatin1_aae02_0 ?_
  refine lv_if_eq (tgt := 17) hx hb dJ0_isLatin1_aae02_3 (by decide) (fun h => absurd h (by decide)) (fun _ => ?_)
  refine lv_aload_n hx hb dJ0_isLatin1_aae02_6 rfl (lv_at hl 0 rfl) ?_
  refine vk_getf hx hb hP.2.2.1.2.1 hS hown (hP.1.use js_f_coder _) (fun _ q => q) dJ0_isLatin1_aae02_7 ?_
  refine lv_if_ne (tgt := 17) hx hb dJ0_isLatin1_aae02_10 (by decide) (fun h => absurd rfl h) (fun _ => ?_)
  refine lv_iconst (v := 1) hx hb dJ0_isLatin1_aae02_13 (by decide) ?_
  refine lv_goto (tgt := 18) hx hb dJ0_isLatin1_aae02_14 (by decide) ?_
  exact W.zret hx hb hr rfl (fun t ht _ => ⟨1, rfl, rfl, ht⟩) (fun _ h => by cases h) dJ0_isLatin1_aae02_18
set_option maxRecDepth 100000 in
theorem js_length : Met l yJ0_length_8abf5 [.code yJ0_length_8abf5 cJ0_length_8abf5 1 (some .int)] (js_rm 3) (va_Pc [.ref t] (js_P A t m f)) (vp_Si (fun r => r = nI m)) 0 0 (fun _ => False) := by
  refine Met.ofW (cc := cJ0_length_8abf5) (maxL := 1) (ret := some .int) (by decide) rfl ?_
  intro p e s m' args below meth c s₁ B hml hv
  obtain ⟨rfl, hP⟩ := hv
  have hx := B.exec
  have hb := B.bytes
  have hr := B.returns
  have hown : s.vm.findClass RJ0 = some m'.cls := findClass_of_methodNamed B.named
  have hlocks := B.notSynchronized
  have hS : va_S A s.heap s.heap [] := va_S.rf
  have hl := lv_entry ([.ref t]) (n := 1) (Nat.le_of_ble_eq_true rfl)
  rw [lg_entry_eq]
  generalize (lg_sl ([.ref t]) ++ List.replicate (1 - (lg_sl ([.ref t])).length) Slot.unset).toArray = ls at hl ⊢
  have hl : lv_has ls 1 [(0, .ref t)] := hl
  obtain ⟨-, -, hm, av, g, hav, hT, -⟩ := id hP.2.2.1
  refine lv_aload_n hx hb dJ0_length_8abf5_0 rfl (lv_at hl 0 rfl) ?_
  refine vk_getf hx hb hav hS hown (hP.1.use js_f_value _) (fun _ q => q) dJ0_length_8abf5_1 ?_
  refine va_tlen hx hb hT hS (v := nI m) rfl dJ0_length_8abf5_4 ?_
  refine lv_aload_n hx hb dJ0_length_8abf5_5 rfl (lv_at hl 0 rfl) ?_
  refine vp_callSi (W.runV (As := []) (rest := [.int (nI m)]) (Ts := []) ⟨hx, hb, hml, hown, fun _ h => by cases h⟩ (js_coder (A := A) (t := t) (m := m) (f := f)) ⟨am_CB hP.1 js_l_coder js_n_RJ0 js_c_coder (by decide +kernel) ⟨Nat.le_of_ble_eq_true rfl, Nat.le_of_ble_eq_true rfl⟩ rfl rfl, hP.1.use js_i_coder _, hP.1.use js_s_coder _⟩
    ⟨fun a U g mk q => ⟨q.1, js_P.same (u := U) rfl rfl q.2⟩, js_recv hP.2.2.1, fun U hU hW => ⟨rfl, hP.warm hW hU⟩⟩ rfl rfl hl.1 rfl (lv_room (Nat.le_of_ble_eq_true rfl)) dJ0_length_8abf5_6 ⟨Nat.le_of_ble_eq_true rfl, Nat.le_of_ble_eq_true rfl⟩) (fun r hr0 => ?_)
  subst hr0
  refine lv_ishr hx hb dJ0_length_8abf5_9 ?_
  rw [sc_shr0 (show m < 2 ^ 31 by omega)]
  exact W.iret hx hb hr (fun t ht _ => ⟨nI m, rfl, rfl, ht⟩) (fun _ h => by cases h) dJ0_length_8abf5_10
set_option maxRecDepth 100000 in
theorem js_pre {i n : Int32} {w : Value} (hw : w = .null ∨ ∃ z, w = .ref z) (h0 : ¬ i < 0) (h1 : i < n) : Met l yJ3_checkIndex_8e157 [.code yJ3_checkIndex_8e157 cJ3_checkIndex_8e157 3 (some .int)] (js_rm 1) (va_Pc [.int i, .int n, w] (fun _ => True)) (vp_Si (fun r => r = i)) 0 0 (fun _ => False) := by
  refine Met.ofW (cc := cJ3_checkIndex_8e157) (maxL := 3) (ret := some .int) (by decide) rfl ?_
  intro p e s m' args below meth c s₁ B hml hv
  obtain ⟨rfl, hP⟩ := hv
  have hx := B.exec
  have hb := B.bytes
  have hr := B.returns
  have hlocks := B.notSynchronized
  have hlen : (lg_sl ([.int i, .int n, w])).length ≤ 3 := by rcases hw with rfl | ⟨z, rfl⟩ <;> exact Nat.le_of_ble_eq_true rfl
  have hl := lv_entry ([.int i, .int n, w]) (n := 3) hlen
  rw [lg_entry_eq]
  generalize (lg_sl ([.int i, .int n, w]) ++ List.replicate (3 - (lg_sl ([.int i, .int n, w])).length) Slot.unset).toArray = ls at hl ⊢
  have hl : lv_has ls 3 [(0, .int i), (1, .int n)] := ⟨hl.1, hl.2.1, fun q hq => hl.2.2 q (by
    rcases List.mem_cons.mp hq with rfl | hq
    · exact List.mem_cons_self
    · rcases List.mem_cons.mp hq with rfl | hq
      · exact List.mem_cons_of_mem _ List.mem_cons_self
      · cases hq)⟩
  refine lv_iload_n hx hb dJ3_checkIndex_8e157_0 rfl (lv_at hl 0 rfl) ?_
  refine lv_if_lt (tgt := 9) hx hb dJ3_checkIndex_8e157_1 (by decide) (fun h => absurd h h0) (fun _ => ?_)
  refine lv_iload_n hx hb dJ3_checkIndex_8e157_4 rfl (lv_at hl 0 rfl) ?_
  refine lv_iload_n hx hb dJ3_checkIndex_8e157_5 rfl (lv_at hl 1 rfl) ?_
  refine lv_icmp_lt (tgt := 16) hx hb dJ3_checkIndex_8e157_6 (by decide) (fun _ => ?_) (fun h => absurd h1 h)
  refine lv_iload_n hx hb dJ3_checkIndex_8e157_16 rfl (lv_at hl 0 rfl) ?_
  exact W.iret hx hb hr (fun t ht _ => ⟨i, rfl, rfl, ht⟩) (fun _ h => by cases h) dJ3_checkIndex_8e157_17
set_option maxRecDepth 100000 in
theorem js_check {i n : Int32} (h0 : ¬ i < 0) (h1 : i < n) : Met l yJ0_checkIndex_df160 [.code yJ0_checkIndex_df160 cJ0_checkIndex_df160 2 none] (js_rm 2) (va_Pc [.int i, .int n] (js_P A t m f)) (va_Sv (fun _ => True)) 0 0 (fun _ => False) := by
  refine Met.ofW (cc := cJ0_checkIndex_df160) (maxL := 2) (ret := none) (by decide) rfl ?_
  intro p e s m' args below meth c s₁ B hml hv
  obtain ⟨rfl, hP⟩ := hv
  have hx := B.exec
  have hb := B.bytes
  have hr := B.returns
  have hown : s.vm.findClass RJ0 = some m'.cls := findClass_of_methodNamed B.named
  have hlocks := B.notSynchronized
  have hS : va_S A s.heap s.heap [] := va_S.rf
  have hl := lv_entry ([.int i, .int n]) (n := 2) (Nat.le_of_ble_eq_true rfl)
  rw [lg_entry_eq]
  generalize (lg_sl ([.int i, .int n]) ++ List.replicate (2 - (lg_sl ([.int i, .int n])).length) Slot.unset).toArray = ls at hl ⊢
  have hl : lv_has ls 2 [(0, .int i), (1, .int n)] := hl
  refine lv_iload_n hx hb dJ0_checkIndex_df160_0 rfl (lv_at hl 0 rfl) ?_
  refine lv_iload_n hx hb dJ0_checkIndex_df160_1 rfl (lv_at hl 1 rfl) ?_
  obtain ⟨w, hw, hZ⟩ : ∃ w : Value, (w = .null ∨ ∃ z, w = .ref z) ∧ va_Z RJ3 "SIOOBE_FORMATTER" "Ljava/util/function/BiFunction;" w A s s.heap := by
    rcases hP.2.2.2 with h | ⟨z, h⟩
    · exact ⟨_, Or.inl rfl, h⟩
    · exact ⟨_, Or.inr ⟨z, rfl⟩, h⟩
  refine va_gets hx hb hZ hS hown (hP.1.use js_f_form _) (fun _ q => q) dJ0_checkIndex_df160_2 ?_
  refine vp_callSi (W.runS (As := [.int i, .int n, w]) (rest := []) (Ts := []) ⟨hx, hb, hml, hown, fun _ h => by cases h⟩ (js_pre hw h0 h1) ⟨am_CB (n := 3) hP.1 js_l_pre js_n_RJ3 js_c_pre (by decide +kernel) ⟨Nat.le_of_ble_eq_true rfl, Nat.le_of_ble_eq_true rfl⟩ rfl rfl, hP.1.use js_t_pre _⟩
    ⟨fun a U g mk q => q, fun U hU hW => ⟨rfl, trivial⟩⟩ rfl rfl hl.1 rfl (lv_room (Nat.le_of_ble_eq_true rfl)) dJ0_checkIndex_df160_5 ⟨Nat.le_of_ble_eq_true rfl, Nat.le_of_ble_eq_true rfl⟩) (fun r _ => ?_)
  refine lv_pop hx hb dJ0_checkIndex_df160_8 rfl ?_
  exact W.vret hx hb hr (fun t ht _ => ⟨rfl, trivial, ht⟩) (fun _ h => by cases h) dJ0_checkIndex_df160_9
theorem js_ch {g v : Int32} (h : ∃ c : Nat, c < 128 ∧ g = nI c ∧ v = nI c) : ((g &&& 255).toUInt32 % 65536).toInt32 = v ∧ narrow .char (.int v) = .int v := by
  obtain ⟨c, hc, rfl, rfl⟩ := h
  have key : ∀ c, c < 128 → ((nI c &&& 255).toUInt32 % 65536).toInt32 = nI c ∧ narrow .char (.int (nI c)) = .int (nI c) := by decide +kernel
  exact key c hc
set_option maxRecDepth 100000 in
theorem js_lat {av : Nat} {g : Nat → Int32} {i : Int32} (hi : vp_in i m) (hm : m < 100) (hch : ∃ c : Nat, c < 128 ∧ g i.toNatClampNeg = nI c ∧ f i.toNatClampNeg = nI c) : Met l yJ1_charAt_3b067 [.code yJ1_charAt_3b067 cJ1_charAt_3b067 2 (some .char)] (js_rm 4) (va_Pc [.ref av, .int i] (fun U => js_P A t m f U ∧ va_T .byte av m (fun j => .int (g j)) A U U.heap)) (vp_Si (fun r => r = f i.toNatClampNeg)) 0 0 (fun _ => False) := by
  refine Met.ofW (cc := cJ1_charAt_3b067) (maxL := 2) (ret := some .char) (by decide) rfl ?_
  intro p e s m' args below meth c s₁ B hml hv
  obtain ⟨rfl, hP, hT⟩ := hv
  have hx := B.exec
  have hb := B.bytes
  have hr := B.returns
  have hown : s.vm.findClass RJ1 = some m'.cls := findClass_of_methodNamed B.named
  have hlocks := B.notSynchronized
  have hS : va_S A s.heap s.heap [] := va_S.rf
  have hl := lv_entry ([.ref av, .int i]) (n := 2) (Nat.le_of_ble_eq_true rfl)
  rw [lg_entry_eq]
  generalize (lg_sl ([.ref av, .int i]) ++ List.replicate (2 - (lg_sl ([.ref av, .int i])).length) Slot.unset).toArray = ls at hl ⊢
  have hl : lv_has ls 2 [(0, .ref av), (1, .int i)] := hl
  have hz0 : ¬ i < 0 := fun h => hi (Or.inl h)
  have hlt : i < nI m := by
    obtain ⟨j, hj, rfl⟩ := vp_in_of hi (by omega)
    exact nI_lt hj (by omega)
  refine lv_iload_n hx hb dJ1_charAt_3b067_0 rfl (lv_at hl 1 rfl) ?_
  refine lv_aload_n hx hb dJ1_charAt_3b067_1 rfl (lv_at hl 0 rfl) ?_
  refine va_tlen hx hb hT hS (v := nI m) rfl dJ1_charAt_3b067_2 ?_
  refine va_csv (W.runS (As := [.int i, .int (nI m)]) (rest := []) (Ts := []) ⟨hx, hb, hml, hown, fun _ h => by cases h⟩ (js_check (A := A) (t := t) (m := m) (f := f) hz0 hlt) ⟨am_CB (n := 2) hP.1 js_l_check js_n_RJ0 js_c_check (by decide +kernel) ⟨Nat.le_of_ble_eq_true rfl, Nat.le_of_ble_eq_true rfl⟩ rfl rfl, hP.1.use js_t_check _⟩
    ⟨fun a U g mk q => ⟨q.1, js_P.same (u := U) rfl rfl q.2⟩, fun U hU hW => ⟨rfl, hP.warm hW hU⟩⟩ rfl rfl hl.1 rfl (lv_room (Nat.le_of_ble_eq_true rfl)) dJ1_charAt_3b067_3 ⟨Nat.le_of_ble_eq_true rfl, Nat.le_of_ble_eq_true rfl⟩) (fun _ => ?_)
  refine lv_aload_n hx hb dJ1_charAt_3b067_6 rfl (lv_at hl 0 rfl) ?_
  refine lv_iload_n hx hb dJ1_charAt_3b067_7 rfl (lv_at hl 1 rfl) ?_
  refine va_tb hx hb hT hS hi rfl dJ1_charAt_3b067_8 ?_
  refine lv_sipush (v := 255) hx hb dJ1_charAt_3b067_9 (by decide) ?_
  refine lv_iand hx hb dJ1_charAt_3b067_12 ?_
  refine lv_i2c hx hb dJ1_charAt_3b067_13 (js_ch hch).1 ?_
  exact W.zret hx hb hr (js_ch hch).2 (fun t ht _ => ⟨_, rfl, rfl, ht⟩) (fun _ h => by cases h) dJ1_charAt_3b067_14
set_option maxRecDepth 100000 in
theorem js_charAt {i : Int32} (hi : vp_in i m) : Met l yJ0_charAt_5068e [.code yJ0_charAt_5068e cJ0_charAt_5068e 2 (some .char)] (js_rm 6) (va_Pc [.ref t, .int i] (js_P A t m f)) (vp_Si (fun r => r = f i.toNatClampNeg)) 0 0 (fun _ => False) := by
  refine Met.ofW (cc := cJ0_charAt_5068e) (maxL := 2) (ret := some .char) (by decide) rfl ?_
  intro p e s m' args below meth c s₁ B hml hv
  obtain ⟨rfl, hP⟩ := hv
  have hx := B.exec
  have hb := B.bytes
  have hr := B.returns
  have hown : s.vm.findClass RJ0 = some m'.cls := findClass_of_methodNamed B.named
  have hlocks := B.notSynchronized
  have hS : va_S A s.heap s.heap [] := va_S.rf
  have hl := lv_entry ([.ref t, .int i]) (n := 2) (Nat.le_of_ble_eq_true rfl)
  rw [lg_entry_eq]
  generalize (lg_sl ([.ref t, .int i]) ++ List.replicate (2 - (lg_sl ([.ref t, .int i])).length) Slot.unset).toArray = ls at hl ⊢
  have hl : lv_has ls 2 [(0, .ref t), (1, .int i)] := hl
  obtain ⟨-, -, hm, av, g, hav, hT, hch⟩ := id hP.2.2.1
  have hlt : i.toNatClampNeg < m := Nat.not_le.mp fun q => hi (Or.inr q)
  refine lv_aload_n hx hb dJ0_charAt_5068e_0 rfl (lv_at hl 0 rfl) ?_
  refine vp_callSi (W.runV (As := []) (rest := []) (Ts := []) ⟨hx, hb, hml, hown, fun _ h => by cases h⟩ (js_isLatin1 (A := A) (t := t) (m := m) (f := f)) ⟨am_CB hP.1 js_l_isLatin1 js_n_RJ0 js_c_isLatin1 (by decide +kernel) ⟨Nat.le_of_ble_eq_true rfl, Nat.le_of_ble_eq_true rfl⟩ rfl rfl, hP.1.use js_i_isLatin1 _, hP.1.use js_s_isLatin1 _⟩
    ⟨fun a U g mk q => ⟨q.1, js_P.same (u := U) rfl rfl q.2⟩, js_recv hP.2.2.1, fun U hU hW => ⟨rfl, hP.warm hW hU⟩⟩ rfl rfl hl.1 rfl (lv_room (Nat.le_of_ble_eq_true rfl)) dJ0_charAt_5068e_1 ⟨Nat.le_of_ble_eq_true rfl, Nat.le_of_ble_eq_true rfl⟩) (fun r hr0 => ?_)
  subst hr0
  refine lv_if_eq (tgt := 16) hx hb dJ0_charAt_5068e_4 (by decide) (fun h => absurd h (by decide)) (fun _ => ?_)
  refine lv_aload_n hx hb dJ0_charAt_5068e_7 rfl (lv_at hl 0 rfl) ?_
  refine vk_getf hx hb hav hS hown (hP.1.use js_f_value _) (fun _ q => q) dJ0_charAt_5068e_8 ?_
  refine lv_iload_n hx hb dJ0_charAt_5068e_11 rfl (lv_at hl 1 rfl) ?_
  refine vp_callSi (W.runS (As := [.ref av, .int i]) (rest := []) (Ts := []) ⟨hx, hb, hml, hown, fun _ h => by cases h⟩ (js_lat (A := A) (t := t) (f := f) (av := av) (g := g) hi hm (hch _ hlt)) ⟨am_CB (n := 2) hP.1 js_l_lat js_n_RJ1 js_c_lat (by decide +kernel) ⟨Nat.le_of_ble_eq_true rfl, Nat.le_of_ble_eq_true rfl⟩ rfl rfl, hP.1.use js_t_lat _⟩
    ⟨fun a U g mk q => ⟨q.1, js_P.same (u := U) rfl rfl q.2.1, va_T.moved (Vm.Alike.refl U.vm) q.2.2⟩, fun U hU hW => ⟨rfl, hP.warm hW hU, by rw [hU]; exact va_T.moved hW.alike hT⟩⟩ rfl rfl hl.1 rfl (lv_room (Nat.le_of_ble_eq_true rfl)) dJ0_charAt_5068e_12 ⟨Nat.le_of_ble_eq_true rfl, Nat.le_of_ble_eq_true rfl⟩) (fun r hr0 => ?_)
  subst hr0
  exact W.zret hx hb hr (js_ch (hch _ hlt)).2 (fun t ht _ => ⟨_, rfl, rfl, ht⟩) (fun _ h => by cases h) dJ0_charAt_5068e_15
end JS
