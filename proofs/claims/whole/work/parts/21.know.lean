/-! ===== what is known of the tables and of what was there before ===== -/
def am_nest : Cond → Bool
  | .fieldLinkNest .. => true
  | .methodLinkNest .. => true
  | _ => false
theorem am_T_ok : am_T.all (fun w => goodWord w || w.keepsFace || am_nest w) = true := by decide +kernel
def am_Ws (U : State) : Prop := ∀ w ∈ am_T, w.before #[] U = true
theorem am_T_on {w : Cond} (h : w ∈ am_T) : w.onTables = true := by
  have := (List.mem_filter.mp h).2
  simpa using this
theorem am_Ws.use {U : State} (h : am_Ws U) {w : Cond} (hw : w ∈ am_T) (args : Array Value) : w.before args U = true := va_tabs (am_T_on hw) rfl (h w hw)
theorem am_Ws.same {u U : State} (e : u.vm = U.vm) (h : am_Ws u) : am_Ws U := fun w hw => va_tabs (am_T_on hw) e (h w hw)
theorem am_Ws.warm {s U : State} (hW : s.WarmedH U.vm) (h : am_Ws s) : am_Ws U := by
  intro w hw
  have h1 := List.all_eq_true.mp am_T_ok w hw
  simp only [Bool.or_eq_true] at h1
  rcases h1 with (h1 | h1) | h1
  · exact word_at hW (good_of_word h1) (h w hw)
  · exact va_tabs (am_T_on hw) (rfl : (s.setVm U.vm).vm = U.vm) (Cond.before_shiftedFace (State.Shifted.of_warmed hW) _ h1 (h w hw))
  · cases w <;> first | exact va_Nw.warmF hW (h _ hw) | exact va_Nw.warmM hW (h _ hw) | (simp [am_nest] at h1)
def am_ex : Nat → String
  | 0 => "java/lang/IllegalArgumentException"
  | 1 => "java/lang/IllegalStateException"
  | 2 => "java/lang/IndexOutOfBoundsException"
  | _ => "java/util/NoSuchElementException"
def am_sn : Nat → String
  | 0 => "FIRST_LAW"
  | 1 => "LINE_PLACE"
  | 2 => "LINE_MANY"
  | 3 => "LINE_LEAST"
  | 4 => "LINE_MOST"
  | 5 => "SINES"
  | _ => "RISES"
def am_tys (cy : Nat → ClassId) : List (ClassId × FieldType) := [(cy 20, .int), (cy 21, .long), (cy 22, .boolean), (cy 23, .object RX4), (cy 24, .object RX5), (cy 25, .object RX6)]
/-- a text that was there: its length and its letters -/
def am_Str (t m : Nat) (f : Nat → Int32) (A : Nat → Prop) (U : State) (H : Heap) : Prop :=
  va_O "java/lang/String" t A U H ∧ va_OF "java/lang/String" "coder" "B" (.int 0) t A U H ∧ m < 100 ∧ ∃ (av : Nat) (g : Nat → Int32), va_OF "java/lang/String" "value" "[B" (.ref av) t A U H ∧ va_T .byte av m (fun j => .int (g j)) A U H ∧ ∀ j, j < m → ∃ c : Nat, c < 128 ∧ g j = nI c ∧ f j = nI c
/-- the tables, and what lies outside A -/
def am_G (D : va_G) (cy : Nat → ClassId) (A : Nat → Prop) (adF : Nat → Nat) (fK : Nat → Nat × Nat) (fI : Nat → Nat → Int32) (U : State) (H : Heap) : Prop :=
  am_Ws U ∧ va_K D vwCl (am_tys cy) U ∧
  (∀ a m, fK a = (19, m) → va_T .int (adF a) m (fun j => .int (fI a j)) A U H) ∧
  (∀ a m, fK a = (18, m) → am_Str (adF a) m (fI a) A U H) ∧
  (∀ o k v, am_find k (am_srT o) = some v → ∃ tx, vk_R (am_cn o) k tx (adF v) U) ∧
  (∀ q ∈ am_thrT, ∃ tx sa, vk_R RX7 q.2.1 tx sa U) ∧
  (∀ j, j < 7 → va_Z RX7 (am_sn j) "[I" (.ref (adF (3000000 + j))) A U H) ∧
  (vx_Zq Bundle.tN "UNASSIGNED_STACK" Bundle.steD A U H ∧ vx_Zq Bundle.tN "SUPPRESSED_SENTINEL" Bundle.listD A U H) ∧
  (∀ i j, i < 4 → j < 4 → i ≠ j → va_Nc (am_ex i) (am_ex j) U) ∧
  (va_AO RX4 U ∧ va_AO RX5 U ∧ va_AO RX6 U) ∧
  (∀ ty, ty = FieldType.int ∨ ty = FieldType.long ∨ ty = FieldType.boolean → (Cond.arrayClass ty).before #[] U = true) ∧
  va_Z "java/lang/String" "COMPACT_STRINGS" "Z" (.int 1) A U H ∧ va_Zq RJ3 "SIOOBE_FORMATTER" "Ljava/util/function/BiFunction;" A U H
section KNOW
variable {D : va_G} {cy : Nat → ClassId} {A : Nat → Prop} {adF : Nat → Nat} {fK : Nat → Nat × Nat} {fI : Nat → Nat → Int32}
theorem am_Str.moved {t m : Nat} {f : Nat → Int32} {u U : State} {H : Heap} (hvm : u.vm.Alike U.vm) (h : am_Str t m f A u H) : am_Str t m f A U H := by
  obtain ⟨h1, h2, h3, av, g, h4, h5, h6⟩ := h
  exact ⟨va_O.moved hvm h1, va_OF.moved hvm h2, h3, av, g, va_OF.moved hvm h4, va_T.moved hvm h5, h6⟩
theorem am_Str.kept {t m : Nat} {f : Nat → Int32} {U : State} {H H1 : Heap} (h : am_Str t m f A U H) (hq : ∀ a : Nat, a < H.size → ¬ A a → H1[a]? = H[a]?) : am_Str t m f A U H1 := by
  obtain ⟨h1, h2, h3, av, g, h4, h5, h6⟩ := h
  exact ⟨h1.kept hq, h2.kept hq, h3, av, g, h4.kept hq, h5.kept hq, h6⟩
theorem am_G.warm {s U : State} {H : Heap} (hW : s.WarmedH U.vm) (h : am_G D cy A adF fK fI s H) : am_G D cy A adF fK fI U H := by
  obtain ⟨h1, h2, h3, h4, h5, h6, h7, h8, h9, h10, h11, h12, h13⟩ := h
  have hv := hW.alike
  exact ⟨h1.warm hW, va_K.moved hv h2, fun a m e => va_T.moved hv (h3 a m e), fun a m e => (h4 a m e).moved hv, fun o k v e => by obtain ⟨tx, q⟩ := h5 o k v e; exact ⟨tx, vk_R.warm hW q⟩,
    fun q e => by obtain ⟨tx, sa, z⟩ := h6 q e; exact ⟨tx, sa, vk_R.warm hW z⟩, fun j e => va_Z.moved hv (h7 j e), ⟨vx_Zq.moved hv h8.1, vx_Zq.moved hv h8.2⟩, fun i j a b c => va_Nc.moved hv (h9 i j a b c),
    ⟨va_AO.moved hv h10.1, va_AO.moved hv h10.2.1, va_AO.moved hv h10.2.2⟩, fun ty e => word_at hW (Or.inr ⟨ty, rfl⟩) (h11 ty e), va_Z.moved hv h12, va_Zq.moved hv h13⟩
theorem am_G.kept {U : State} {H H1 : Heap} (h : am_G D cy A adF fK fI U H) (hq : ∀ a : Nat, a < H.size → ¬ A a → H1[a]? = H[a]?) : am_G D cy A adF fK fI U H1 := by
  obtain ⟨h1, h2, h3, h4, h5, h6, h7, h8, h9, h10, h11, h12, h13⟩ := h
  exact ⟨h1, h2, fun a m e => (h3 a m e).kept hq, fun a m e => (h4 a m e).kept hq, h5, h6, fun j e => (h7 j e).kept hq, ⟨h8.1.kept hq, h8.2.kept hq⟩, h9, h10, h11, h12.kept hq, h13.kept hq⟩
theorem am_G.same {u U : State} {H : Heap} (e : u.vm = U.vm) (h : am_G D cy A adF fK fI u H) : am_G D cy A adF fK fI U H := by
  obtain ⟨h1, h2, h3, h4, h5, h6, h7, h8, h9, h10, h11, h12, h13⟩ := h
  have hv : u.vm.Alike U.vm := by rw [e]; exact Vm.Alike.refl _
  exact ⟨h1.same e, va_K.moved hv h2, fun a m e => va_T.moved hv (h3 a m e), fun a m e => (h4 a m e).moved hv, fun o k v z => by obtain ⟨tx, q⟩ := h5 o k v z; exact ⟨tx, vk_R.same e.symm q⟩,
    fun q z => by obtain ⟨tx, sa, y⟩ := h6 q z; exact ⟨tx, sa, vk_R.same e.symm y⟩, fun j e => va_Z.moved hv (h7 j e), ⟨vx_Zq.moved hv h8.1, vx_Zq.moved hv h8.2⟩, fun i j a b c => va_Nc.moved hv (h9 i j a b c),
    ⟨va_AO.moved hv h10.1, va_AO.moved hv h10.2.1, va_AO.moved hv h10.2.2⟩, fun ty z => by
      have hW : u.WarmedH U.vm := by rw [← e]; exact State.WarmedH.refl u
      exact word_at hW (Or.inr ⟨ty, rfl⟩) (h11 ty z), va_Z.moved hv h12, va_Zq.moved hv h13⟩
end KNOW
