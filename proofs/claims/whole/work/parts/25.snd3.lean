/-! ===== new things, copies, the library's small functions ===== -/
section SND3
variable {p : Program} {l : Launch} {e : Env} {R : Room} {s : State} {m : MethodId} {args : Array Value} {below : List Frame} {meth : Method} {c : Code} {H : Heap} {locs : List Loc} {cells slots : Nat} {Q : State → Prop}
variable {M : am_M} {pc len : Nat} {ls : Array Slot} {st st' rest : List Value} {ad : Nat → Nat} {ins : Instr}
variable {D : va_G} {cy : Nat → ClassId} {A : Nat → Prop} {adF : Nat → Nat} {fK : Nat → Nat × Nat} {fI : Nat → Nat → Int32} {σ σ' : am_S}
theorem am_W_new {q kd ln zs : Nat} (hR : ∀ a k b, am_R σ a k = some b → b < am_n σ) :
    am_W cy (va_up ad (am_n σ) q) (am_new σ kd ln zs) = am_W cy ad σ ++ [(q, am_Er cy ad (kd, ln) (fun _ => 0) (fun _ => 0) (fun _ => none))] := by
  have hup : ∀ b, b ≠ am_n σ → va_up ad (am_n σ) q b = ad b := fun b hb => by unfold va_up; rw [if_neg hb]
  have hlast : am_E cy (va_up ad (am_n σ) q) (am_new σ kd ln zs) (am_n σ) = am_Er cy ad (kd, ln) (fun _ => 0) (fun _ => 0) (fun _ => none) := by
    have e1 : am_K (am_new σ kd ln zs) (am_n σ) = (kd, ln) := am_w_s
    have e2 : am_I (am_new σ kd ln zs) (am_n σ) = fun _ => 0 := am_w_s
    have e3 : am_L (am_new σ kd ln zs) (am_n σ) = fun _ => 0 := am_w_s
    have e4 : am_R (am_new σ kd ln zs) (am_n σ) = fun _ => none := am_w_s
    unfold am_E
    rw [e1, e2, e3, e4]
    exact am_Er_ad (fun k b h => by cases h)
  have hn : va_up ad (am_n σ) q (am_n σ) = q := by unfold va_up; rw [if_pos rfl]
  show (List.range (am_n σ + 1)).map _ = _
  rw [List.range_succ, List.map_append, List.map_singleton, hlast, hn]
  congr 1
  apply List.map_congr_left
  intro a ha
  have hne : a ≠ am_n σ := Nat.ne_of_lt (List.mem_range.mp ha)
  have e1 : am_K (am_new σ kd ln zs) a = am_K σ a := am_w_n hne
  have e2 : am_I (am_new σ kd ln zs) a = am_I σ a := am_w_n hne
  have e3 : am_L (am_new σ kd ln zs) a = am_L σ a := am_w_n hne
  have e4 : am_R (am_new σ kd ln zs) a = am_R σ a := am_w_n hne
  rw [hup a hne]
  congr 1
  unfold am_E
  rw [e1, e2, e3, e4]
  exact am_Er_ad (fun k b h => hup b (Nat.ne_of_lt (hR a k b h)))
theorem am_Q.new {q kd ln zs : Nat} {H1 : Heap} (h : am_Q D cy A adF fK fI ad σ H) (hn : am_n σ < 1000000) (hkd : kd ≠ 18 ∧ kd ≠ 19)
    (q1 : va_P D vwCl (am_W cy ad σ ++ [(q, am_Er cy ad (kd, ln) (fun _ => 0) (fun _ => 0) (fun _ => none))]) H1) (q2 : va_D A (am_W cy ad σ ++ [(q, am_Er cy ad (kd, ln) (fun _ => 0) (fun _ => 0) (fun _ => none))])) :
    am_Q D cy A adF fK fI (va_up ad (am_n σ) q) (am_new σ kd ln zs) H1 ∧ (∀ b, b < am_n σ ∨ 1000000 ≤ b → va_up ad (am_n σ) q b = ad b) := by
  have hup : ∀ b, b ≠ am_n σ → va_up ad (am_n σ) q b = ad b := fun b hb => by unfold va_up; rw [if_neg hb]
  rw [← am_W_new (zs := zs) h.1.2.2.2.1] at q1 q2
  refine ⟨⟨⟨q1, q2, fun a ha => ?_, fun a k b hb => ?_, ?_⟩, fun a ha => ?_, fun a ha => ?_⟩, fun b hb => hup b (by omega)⟩
  · by_cases e1 : a = am_n σ
    · subst e1; exact Nat.lt_succ_self _
    · have e2 : am_K (am_new σ kd ln zs) a = am_K σ a := am_w_n e1
      rw [e2] at ha
      exact Nat.lt_succ_of_lt (h.1.2.2.1 a ha)
  · by_cases e1 : a = am_n σ
    · subst e1
      have e2 : am_R (am_new σ kd ln zs) (am_n σ) = fun _ => none := am_w_s
      rw [e2] at hb
      cases hb
    · have e2 : am_R (am_new σ kd ln zs) a = am_R σ a := am_w_n e1
      rw [e2] at hb
      exact Nat.lt_succ_of_lt (h.1.2.2.2.1 a k b hb)
  · exact hn
  · by_cases e1 : a = am_n σ
    · subst e1
      have e2 : am_K (am_new σ kd ln zs) (am_n σ) = (kd, ln) := am_w_s
      rw [e2] at ha
      exact absurd ha (by rintro (z | z); exact hkd.1 z; exact hkd.2 z)
    · have e2 : am_K (am_new σ kd ln zs) a = am_K σ a := am_w_n e1
      have e3 : am_I (am_new σ kd ln zs) a = am_I σ a := am_w_n e1
      rw [e2] at ha ⊢
      rw [e3]
      exact h.2.1 a ha
  · rw [hup a (by omega)]
    exact h.2.2 a ha
theorem am_Er_obj {ci ln : Nat} (hc : ci < 9) : am_Er cy ad (ci, ln) (fun _ => 0) (fun _ => 0) (fun _ => none) = .inr (ci, am_fs ad (fun _ => 0) (fun _ => 0) (fun _ => none) (am_fk ci)) := by
  unfold am_Er; rw [if_pos hc]
theorem am_fs_dv {ci : Nat} (hc : ci < 9) : ∀ j, j < (am_fk ci).length → defaultValue (am_TY ci j) = vp_V (am_fs ad (fun _ => 0) (fun _ => 0) (fun _ => none) (am_fk ci)) j := by
  intro j hj
  have ht : (am_fk ci)[j]? = some (am_fk ci)[j] := List.getElem?_eq_getElem hj
  obtain ⟨h1, h2, -⟩ := am_kind_at hc hj ht
  rw [h1, vp_V, List.getD_eq_getElem?_getD, am_fs_at ht]
  rcases (show (am_fk ci)[j] = 0 ∨ (am_fk ci)[j] = 1 ∨ (am_fk ci)[j] = 2 by omega) with e1 | e1 | e1 <;> rw [e1] <;> rfl
theorem am_s_new {x ci : Nat} (hx : p.tables.exec = Jvm.exec) (hb : c.code = am_code M) (hown : s.vm.findClass (am_cn (am_own M)) = some m.cls) (hG : am_G D cy A adF fK fI s s.heap) (hQ : am_Q D cy A adF fK fI ad σ H) (hS : va_S A s.heap H locs) (hA : ∀ q, s.heap.size ≤ q → A q)
    (hf : am_find x (am_newT (am_own M)) = some ci) (hn : am_n σ < 1000000) (hc : cells + 1 ≤ R.cells) (hz : slots + (am_fk ci).length ≤ R.slots) (hd : decode (am_code M) pc = .ok (.new x, 3))
    (kk : ∀ (H1 : Heap) (ad1 : Nat → Nat), (∀ b, b < am_n σ ∨ 1000000 ≤ b → ad1 b = ad b) → am_Q D cy A adF fK fI ad1 (am_new σ ci 0 (am_fk ci).length) H1 → va_S A s.heap H1 locs → W p l e R s m args below meth c H1 locs (cells + 1) (slots + (am_fk ci).length) Q (F0 m (pc + 3) ls (.ref (ad1 (am_n σ)) :: rest))) : W p l e R s m args below meth c H locs cells slots Q (F0 m pc ls rest) := by
  obtain ⟨h1, h2, h3, h4⟩ := am_nchk_use hf
  refine va_new (fs := am_fs ad (fun _ => 0) (fun _ => 0) (fun _ => none) (am_fk ci)) hx hb (fun w hw => hG.1.use hw args) (am_lay_all ci h1) (am_TY ci) (am_TY_ok ci h1) hown (hG.1.use h2 args) (hG.1.use h3 args) (hG.1.use h4 args) hG.2.1 hQ.1.1 hQ.1.2.1 hS hA (am_cl_at ci h1) (am_fs_dv h1) hc hz hd (fun q H1 q1 q2 q3 => ?_)
  rw [← am_Er_obj (cy := cy) (ln := 0) h1] at q1 q2
  obtain ⟨k1, k2⟩ := hQ.new (zs := (am_fk ci).length) hn (by omega) q1 q2
  have e1 : va_up ad (am_n σ) q (am_n σ) = q := by unfold va_up; rw [if_pos rfl]
  have := kk H1 _ k2 k1 q3
  rw [e1] at this
  exact this
theorem am_cy {t0 : Nat} {ty : FieldType} {k : Nat} {cA : ClassId} (h1 : va_K D vwCl (am_tys cy) s) (ht : (am_tys cy)[t0]? = some (cy k, ty)) (h2 : va_K D vwCl (am_tys cy ++ [(cA, ty)]) s) : cA = cy k := by
  have g1 := (h1.2 t0 _ ht).2
  have g2 := (h2.2 6 (cA, ty) rfl).2
  unfold va_RA at g1 g2
  cases ty with
  | object C =>
    obtain ⟨_, _, -, -, -, z1⟩ := g1
    obtain ⟨_, _, -, -, -, z2⟩ := g2
    exact Option.some.inj (z2.symm.trans z1)
  | _ => exact Option.some.inj (g2.symm.trans g1)
theorem am_s_newa {kd t0 : Nat} {t : ArrayType} {ty : FieldType} {n : Int32} {a0 : vp_A} (hx : p.tables.exec = Jvm.exec) (hb : c.code = am_code M) (hG : am_G D cy A adF fK fI s s.heap) (hQ : am_Q D cy A adF fK fI ad σ H) (hS : va_S A s.heap H locs) (hA : ∀ q, s.heap.size ≤ q → A q)
    (hty : newarray.typeOf t = ty) (hok : ty = .int ∨ ty = .long ∨ ty = .boolean) (ht : (am_tys cy)[t0]? = some (cy kd, ty)) (hkd : kd ≠ 18 ∧ kd ≠ 19) (ha : ∀ cA : ClassId, vp_cell cA a0 = arrV cA n.toNatClampNeg (fun _ => defaultValue ty))
    (he : am_Er cy ad (kd, n.toNatClampNeg) (fun _ => 0) (fun _ => 0) (fun _ => none) = .inl (cy kd, a0))
    (hn0 : ¬ n < 0) (hn1 : n.toNatClampNeg ≤ 1000) (hn : am_n σ < 1000000) (hc : cells + 1 ≤ R.cells) (hz : slots + n.toNatClampNeg ≤ R.slots) (hd : decode (am_code M) pc = .ok (.newarray t, 2))
    (kk : ∀ (H1 : Heap) (ad1 : Nat → Nat), (∀ b, b < am_n σ ∨ 1000000 ≤ b → ad1 b = ad b) → am_Q D cy A adF fK fI ad1 (am_new σ kd n.toNatClampNeg n.toNatClampNeg) H1 → va_S A s.heap H1 locs → W p l e R s m args below meth c H1 locs (cells + 1) (slots + n.toNatClampNeg) Q (F0 m (pc + 2) ls (.ref (ad1 (am_n σ)) :: rest))) : W p l e R s m args below meth c H locs cells slots Q (F0 m pc ls (.int n :: rest)) := by
  have hcb : componentBytes ty ≤ 8 := by rcases hok with rfl | rfl | rfl <;> decide
  refine va_newa (ty := ty) hx hb (word_at (State.WarmedH.refl s) (Or.inr ⟨_, rfl⟩) (hG.2.2.2.2.2.2.2.2.2.2.1 _ (by rw [hty]; exact hok))) hty hG.2.1 hQ.1.1 hQ.1.2.1 hS hA ha hn0 rfl ?_ hc hz hd (fun q cA H1 q0 q1 q2 q3 => ?_)
  · exact Nat.le_trans (Nat.mul_le_mul hn1 hcb) (by decide)
  · have e0 := am_cy hG.2.1 ht q0
    subst e0
    rw [← he] at q1 q2
    obtain ⟨k1, k2⟩ := hQ.new (zs := n.toNatClampNeg) hn hkd q1 q2
    have e1 : va_up ad (am_n σ) q (am_n σ) = q := by unfold va_up; rw [if_pos rfl]
    have := kk H1 _ k2 k1 q3
    rw [e1] at this
    exact this
theorem am_s_anew {x kd : Nat} {n : Int32} (hx : p.tables.exec = Jvm.exec) (hb : c.code = am_code M) (hown : s.vm.findClass (am_cn (am_own M)) = some m.cls) (hG : am_G D cy A adF fK fI s s.heap) (hQ : am_Q D cy A adF fK fI ad σ H) (hS : va_S A s.heap H locs) (hA : ∀ q, s.heap.size ≤ q → A q)
    (hf : am_find x (am_anewT (am_own M)) = some kd) (hn0 : ¬ n < 0) (hn1 : n.toNatClampNeg ≤ 1000) (hn : am_n σ < 1000000) (hc : cells + 1 ≤ R.cells) (hz : slots + n.toNatClampNeg ≤ R.slots) (hd : decode (am_code M) pc = .ok (.anewarray x, 3))
    (kk : ∀ (H1 : Heap) (ad1 : Nat → Nat), (∀ b, b < am_n σ ∨ 1000000 ≤ b → ad1 b = ad b) → am_Q D cy A adF fK fI ad1 (am_new σ kd n.toNatClampNeg n.toNatClampNeg) H1 → va_S A s.heap H1 locs → W p l e R s m args below meth c H1 locs (cells + 1) (slots + n.toNatClampNeg) Q (F0 m (pc + 3) ls (.ref (ad1 (am_n σ)) :: rest))) : W p l e R s m args below meth c H locs cells slots Q (F0 m pc ls (.int n :: rest)) := by
  obtain ⟨h1, h2⟩ := am_achk_use hf
  have key : ∀ (t0 : Nat) (C : String), C = am_cn (kd - 19) → va_AO C s → (am_tys cy)[t0]? = some (cy kd, .object C) → W p l e R s m args below meth c H locs cells slots Q (F0 m pc ls (.int n :: rest)) := by
    intro t0 C hC hao ht
    subst hC
    refine va_newq hx hb hown (hG.1.use h2 args) hao hG.2.1 hQ.1.1 hQ.1.2.1 hS hA hn0 rfl (by omega) hc hz hd (fun q cA H1 q0 q1 q2 q3 => ?_)
    have e0 := am_cy hG.2.1 ht q0
    subst e0
    have he : am_Er cy ad (kd, n.toNatClampNeg) (fun _ => 0) (fun _ => 0) (fun _ => none) = .inl (cy kd, n.toNatClampNeg, .inr (.inr (.inr (.inr (fun _ => none))))) := by
      unfold am_Er
      rw [if_neg (by show ¬ kd < 9; omega), if_neg (by show ¬ (kd = 20 ∨ kd = 22); omega), if_neg (by show ¬ kd = 21; omega)]
      rfl
    rw [← he] at q1 q2
    obtain ⟨k1, k2⟩ := hQ.new (zs := n.toNatClampNeg) hn (by omega) q1 q2
    have e1 : va_up ad (am_n σ) q (am_n σ) = q := by unfold va_up; rw [if_pos rfl]
    have := kk H1 _ k2 k1 q3
    rw [e1] at this
    exact this
  have hao := hG.2.2.2.2.2.2.2.2.2.1
  rcases (show kd = 23 ∨ kd = 24 ∨ kd = 25 by omega) with rfl | rfl | rfl
  · exact key 3 RX4 rfl hao.1 rfl
  · exact key 4 RX5 rfl hao.2.1 rfl
  · exact key 5 RX6 rfl hao.2.2 rfl
/-- a copy out of an array of ints that was there -/
theorem am_copyT {own : String} {index : Nat} {cc : ByteArray} {a : Nat} {tys : List (ClassId × FieldType)} {ws : va_W} {cl : List vw_C} (hexec : p.tables.exec = Jvm.exec) (hb : c.code = cc) (hml : c.maxLocals = ls.size) (hown : s.vm.findClass own = some m.cls) (hlink : (Cond.methodLink own index arraycopyName).before args s = true) (hnat : (Cond.native arraycopyName).before args s = true) (hstat : (Cond.static arraycopyName).before args s = true) (hini : (Cond.initialized "java/lang/System").before args s = true)
    (hK : va_K D cl tys s) (hP : va_P D cl ws H) (hD : va_D A ws) (hS : va_S A s.heap H locs) {b0 n0 : Nat} {f : Nat → Int32} (hX : va_T .int b0 n0 (fun j => .int (f j)) A s s.heap) (q1 t1 : Nat) {c1 : ClassId} {n1 : Nat} {g : Nat → Int32} (ha1 : ws[q1]? = some (a, .inl (c1, n1, .inl g))) (ht1 : tys[t1]? = some (c1, .int))
    {sp dp n : Int32} (h1 : ¬ sp < 0) (h2 : ¬ dp < 0) (h3 : ¬ n < 0) (h4 : sp.toNatClampNeg + n.toNatClampNeg ≤ n0) (h5 : dp.toNatClampNeg + n.toNatClampNeg ≤ n1)
    (hframes : 1 ≤ R.frames) (hlocals : (rest.map fun v => v.category).sum + (nativeFrameWords "java/lang/System" "arraycopy" 5 + 11) ≤ R.locals) (hdg : decode cc pc = .ok (.invokestatic index, 3))
    (kk : ∀ (H1 : Heap) (locs1 : List Loc), va_P D cl (ws.set q1 (a, .inl (c1, n1, .inl (va_cpy f g sp.toNatClampNeg dp.toNatClampNeg n.toNatClampNeg)))) H1 → va_D A (ws.set q1 (a, .inl (c1, n1, .inl (va_cpy f g sp.toNatClampNeg dp.toNatClampNeg n.toNatClampNeg)))) → va_S A s.heap H1 locs1 → W p l e R s m args below meth c H1 locs1 cells slots Q (F0 m (pc + 3) ls rest)) : W p l e R s m args below meth c H locs cells slots Q (F0 m pc ls (.int n :: .int dp :: .ref a :: .int sp :: .ref b0 :: rest)) := by
  have nn : ∀ z : Int32, ¬ z < 0 → z.toInt = (z.toNatClampNeg : Int) := by
    intro z hz
    have hz0 : (0 : Int) ≤ z.toInt := by
      have := Int32.not_lt.mp hz
      simpa using Int32.le_iff_toInt_le.mp this
    show z.toInt = ((z.toInt.toNat : Nat) : Int)
    omega
  intro T hT X
  obtain ⟨scr, hs1, hs2, hs3, hs4, -, hs5, hs7⟩ := hX
  have hc0 : H[b0]? = some scr := by rw [hS.2.1 b0 (Array.getElem?_eq_some_iff.mp hs1).1 hs7]; exact hs1
  have hc1 : H[a]? = some (vp_cell c1 (n1, .inl g)) := hP q1 _ ha1
  obtain ⟨hs6, k0, hk0, cm0, hkk0⟩ := hs2
  obtain ⟨-, k1, hk1, cm1, hkk1⟩ := (hK.2 t1 _ ht1).1 n1 (fun j => .int (g j))
  obtain ⟨vm', X', step⟩ := X.arraycopy hexec hown hlink hnat hstat hini (src := b0) (dst := a) (cs := scr) (cd := vp_cell c1 (n1, .inl g)) (srcPos := sp) (destPos := dp) (n := n) (by rw [hT]; exact hc0) (by rw [hT]; exact hc1)
    hs6 (fun _ h => by cases h) hs3 (fun h => by cases h) hk0 hk1 hkk0 hkk1 (by simp [refKind]) h1 h2 h3
    (by rw [nn sp h1, nn n h3]; omega)
    (by rw [nn dp h2, nn n h3]; show ¬ _ > ((arrV c1 n1 (fun j => .int (g j))).slots.size : Int); rw [arrV_size]; omega)
    (fun vm₁ _ i hi => by
      have e : scr.slots.getD (sp.toNatClampNeg + i) .null = .int (f (sp.toNatClampNeg + i)) := by
        rw [Array.getD_eq_getD_getElem?, hs5 _ (by omega)]
        rfl
      refine ⟨?_, ?_⟩
      · rw [e]; rfl
      · rw [e]; exact trivial)
    (g := F0 m pc ls (.int n :: .int dp :: .ref a :: .int sp :: .ref b0 :: rest)) rfl (by rw [hml]) (rest := rest) rfl (by rw [hb]; exact hdg) hframes (by show 2 * 0 + _ + _ ≤ _; omega)
  have e1 : copied scr (vp_cell c1 (n1, .inl g)) sp dp n = vp_cell c1 (n1, .inl (va_cpy f g sp.toNatClampNeg dp.toNatClampNeg n.toNatClampNeg)) := va_copiedX (fun z => .int z) scr c1 f g hs5 h4
  rw [e1] at X' step
  have hl : a < H.size := (Array.getElem?_eq_some_iff.mp hc1).1
  have hheap : ((T.setVm vm').setCell a (vp_cell c1 (n1, .inl (va_cpy f g sp.toNatClampNeg dp.toNatClampNeg n.toNatClampNeg)))).heap = H.setIfInBounds a (vp_cell c1 (n1, .inl (va_cpy f g sp.toNatClampNeg dp.toNatClampNeg n.toNatClampNeg))) := by rw [← hT]; rfl
  have oq : ∀ q : Nat, q ≠ a → (H.setIfInBounds a (vp_cell c1 (n1, .inl (va_cpy f g sp.toNatClampNeg dp.toNatClampNeg n.toNatClampNeg))))[q]? = H[q]? := fun q hq => by simp [Array.getElem?_setIfInBounds, Ne.symm hq]
  obtain ⟨t, a1, b1⟩ := kk _ _ (hP.set hD ha1 (show (H.setIfInBounds a _)[a]? = some _ by simp [Array.getElem?_setIfInBounds, hl]) oq) (hD.set ha1) ⟨by simp; exact hS.1, fun q g1 g2 => by
      rw [oq q (fun e => g2 (by rw [e]; exact hD.2 q1 _ ha1))]
      exact hS.2.1 q g1 g2, fun q hq => by
      rcases List.mem_append.mp hq with h | h
      · exact hS.2.2 q h
      · obtain ⟨z, -, hz⟩ := List.mem_map.mp h
        rw [← hz]
        exact hD.2 q1 _ ha1⟩ _ hheap X'
  exact ⟨t, step t a1, b1⟩
end SND3
