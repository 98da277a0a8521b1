/-! ===== one command of the script ===== -/
def IV (N : Nat) (g : Nat → Int32) (s : am_S) : Prop := (∃ T X, tO T ∧ xO X ∧ cZ s T X ∧ mZ s T X) ∧ txS s ∧ (am_K s 2000000).2 = N ∧ am_I s 2000000 = g
def GD (N : Nat) (g : Nat → Int32) (s t1 : am_S) : Prop := IV N g t1 ∧ am_c t1 ≤ am_c s + 33 ∧ am_z t1 ≤ am_z s + 1006
def AR (N : Nat) (g : Nat → Int32) (s : am_S) (f : am_FE Unit) : Prop := ∃ s1, f = some (.inr ((), s1)) ∧ GD N g s s1
/-- what the law does with out -/
def pO (p : am_S → am_S) : Prop := ∀ s, am_I (p s) = am_I s ∧ (∀ a, a ≠ 71 → am_L (p s) a = am_L s a) ∧ (p s).2.2 = s.2.2
section ARM
variable {α : Type} {w : α → Option Value} {k : Nat → Int32} {fc : am_F} {fm : am_S → am_F} {N : Nat} {g : Nat → Int32} {s s1 t t1 : am_S} {T : hT} {X : hX} {E : List Nat} {r : Nat → am_S → am_F} {p : Nat}
theorem inj2 {a b : am_O} {x y : am_S} (h : (some (a, x) : am_F) = some (b, y)) : a = b ∧ x = y := ⟨congrArg Prod.fst (Option.some.inj h), congrArg Prod.snd (Option.some.inj h)⟩
theorem pO_id : pO (fun s => s) := fun _ => ⟨rfl, fun _ _ => rfl, rfl⟩
theorem pO_sL {V : Int64} : pO (fun s => am_sL s 71 0 V) := fun _ => ⟨rfl, fun _ h => L_sLne h, rfl⟩
theorem mZ.same (h : mZ s T X) (eI : ∀ a, 55 ≤ a → a < 71 → am_I s1 a = am_I s a) (eL : ∀ a, 55 ≤ a → a < 71 → am_L s1 a = am_L s a) : mZ s1 T X := by
  have e55 := eI 55 (by omega) (by omega)
  refine ⟨by rw [eI 56 (by omega) (by omega)]; exact h.1, ⟨by rw [e55]; exact h.2.1.1, mSi_of h.2.1.2 (by rw [e55]) (eI _ (by omega) (by omega)) (eI _ (by omega) (by omega))⟩, h.2.2.1.keep (eI _ (by omega) (by omega)) (by rw [e55]) (by rw [e55]) (by rw [e55]), h.2.2.2.1.keep (eI _ (by omega) (by omega)) (eI _ (by omega) (by omega)) (eL _ (by omega) (by omega)), h.2.2.2.2.keep (eI _ (by omega) (by omega)) (eI _ (by omega) (by omega))⟩
theorem cZ.same (h : cZ s T X) (oT : tO T) (oX : xO X) (eI : am_I s1 = am_I s) (eL : ∀ a, a ≠ 71 → am_L s1 a = am_L s a) (eR : am_R s1 = am_R s) (eN : am_n s1 = am_n s) : cZ s1 T X := by
  obtain ⟨h1, h2, h3, h4, h5, h6⟩ := h
  refine ⟨h1.out oT (fun j hj => by rw [eI]), ⟨⟨fun k hk => by rw [eI]; exact h2.1.1 k hk, fun k hk => by rw [eI]; exact h2.1.2 k hk⟩, by rw [eI]; exact h2.2⟩, by unfold stS; rw [eI]; exact h3, h4.keep (by rw [eI]) (by rw [eI]), h5.keep (fun a _ _ => by rw [eI]) (fun a h1 h2 => eL a (by omega)), h6.keep oX.2.2 (fun a _ _ => by rw [eI]) (by rw [eR]) eN⟩
theorem txS.same (h : txS s) (e : ∀ a, 1000000 ≤ a → am_I s1 a = am_I s a) : txS s1 := by
  intro j hj k hk
  rw [e _ (by omega)]
  exact h j hj k hk
/-- the class has done its part, the model comes -/
theorem core (hw : ∀ a b, w a = w b → a = b) (hC : cZ s T X) (hM : mZ s T X) (hx : txS s) (hK : (am_K s 2000000).2 = N) (hI : am_I s 2000000 = g) (W : ∀ t, mZ t T X → txS t → JG w k s t fc (fm t)) :
    (∃ v s1, fc = some (.inl (w v), s1) ∧ (am_K s1 2000000).2 = N ∧ am_I s1 2000000 = g ∧ ∀ q, pO q → ∃ t1, fm (q s1) = some (.inl (w v), t1) ∧ am_I t1 55 3 = 0 ∧ am_L t1 71 = am_L (q s1) 71 ∧ GD N g s t1) ∨
    (∃ e s1 v, fc = some (.inr e, s1) ∧ (am_K s1 2000000).2 = N ∧ am_I s1 2000000 = g ∧ ∃ t1, fm s1 = some (.inl (w v), t1) ∧ am_I t1 55 3 = k e ∧ GD N g s t1) := by
  have fin : ∀ {s1 u t1 : am_S} {T' : hT} {X' : hX}, tO T' → xO X' → oJ s s1 → am_c s1 ≤ am_c s + 32 → am_z s1 ≤ am_z s + 1000 → am_K s1 2000000 = am_K s 2000000 → cZ s1 T' X' → am_I u = am_I s1 → (∀ a, a ≠ 71 → am_L u a = am_L s1 a) → u.2.2.1 = s1.2.2.1 → am_K u = am_K s1 → am_n u = am_n s1 → am_c u ≤ am_c s1 + 1 → am_z u ≤ am_z s1 + 6 → fr mA u t1 → mZ t1 T' X' → GD N g s t1 := by
    intro s1 u t1 T' X' oT' oX' h1 h2 h3 h4 h5 eI eL eR eK eN ec ez f h6
    have cu : cZ u T' X' := cZ.same h5 oT' oX' eI eL eR eN
    refine ⟨⟨⟨T', X', oT', oX', cu.mod oT' oX' f (by decide), h6⟩, ?_, ?_, ?_⟩, ?_, ?_⟩
    · exact (hx.same (fun a ha => (h1 a (Or.inr ha)).1)).same (s1 := t1) (fun a ha => by rw [f.I (by unfold mA; rw [List.mem_range']; rintro ⟨j, q1, q2⟩; omega), eI])
    · rw [f.K, eK, h4]; exact hK
    · rw [f.I (by decide), eI, (h1 2000000 (by omega)).1]; exact hI
    · have : am_c t1 = am_c u := by show t1.2.2.2.2.2.1 = _; rw [f.2]
      omega
    · have : am_z t1 = am_z u := by show t1.2.2.2.2.2.2 = _; rw [f.2]
      omega
  obtain ⟨o, T', X', oT', oX', ⟨s1, h1, h2, h3, h4, h5, h6⟩, _⟩ := W s hM hx
  have hI1 : am_I s1 2000000 = g := by rw [(h1 2000000 (by omega)).1]; exact hI
  have hm1 : mZ s1 T X := hM.same (fun a q1 q2 => (h1 a (by omega)).1) (fun a q1 q2 => (h1 a (by omega)).2)
  have hx1 : txS s1 := hx.same (fun a ha => (h1 a (Or.inr ha)).1)
  cases o with
  | inl e =>
    dsimp only at h6
    have ht : mZ (am_tick s1) T X := hm1.same (fun a _ _ => rfl) (fun a _ _ => rfl)
    obtain ⟨o2, T2, X2, oT2, oX2, ⟨s2, j1, j2, j3, j4, j5, j6⟩, ⟨t1, v, m1, m2, m3, m4⟩⟩ := W (am_tick s1) ht (hx1.same (fun _ _ => rfl))
    rw [h6] at j6
    cases o2 with
    | inl e2 =>
      dsimp only at j6 m4
      have ee : e = e2 := Sum.inr.inj (inj2 j6).1
      subst ee
      have es : am_tick s1 = am_tick s2 := (inj2 j6).2
      refine Or.inr ⟨e, am_tick s1, v, h6, by show (am_K s1 2000000).2 = N; rw [h4]; exact hK, hI1, t1, m3, m4, ?_⟩
      rw [es] at m1
      exact fin oT2 oX2 j1 j2 j3 j4 j5 (u := am_tick s2) rfl (fun _ _ => rfl) rfl rfl rfl (Nat.le_refl _) (Nat.le_refl _) m1 m2
    | inr v2 => exact absurd (inj2 j6).1 (by intro h; cases h)
  | inr v =>
    dsimp only at h6
    refine Or.inl ⟨v, s1, h6, by rw [h4]; exact hK, hI1, fun q hq => ?_⟩
    obtain ⟨q1, q2, q3⟩ := hq s1
    have ht : mZ (q s1) T X := hm1.same (fun a _ _ => by rw [q1]) (fun a _ h => q2 a (by omega))
    obtain ⟨o2, T2, X2, oT2, oX2, ⟨s2, j1, j2, j3, j4, j5, j6⟩, ⟨t1, v', m1, m2, m3, m4⟩⟩ := W (q s1) ht (hx1.same (fun _ _ => by rw [q1]))
    rw [h6] at j6
    cases o2 with
    | inl e2 => exact absurd (inj2 j6).1 (by intro h; cases h)
    | inr v2 =>
      dsimp only at j6 m4
      have es : s1 = s2 := (inj2 j6).2
      subst es
      have ev := hw _ _ (Sum.inl.inj (inj2 j6).1)
      obtain ⟨m4, m5⟩ := m4
      subst m5 ev
      exact ⟨t1, m3, m4, m1.L (by decide), fin oT2 oX2 j1 j2 j3 j4 j5 (u := q s1) q1 q2 (by rw [q3]) (by show (q s1).2.2.2.1 = _; rw [q3]) (by show (q s1).2.2.2.2.1 = _; rw [q3]) (by show (q s1).2.2.2.2.2.1 ≤ _; rw [q3]; exact Nat.le_succ _) (by show (q s1).2.2.2.2.2.2 ≤ _; rw [q3]; exact Nat.le_add_right _ _) m1 m2⟩
theorem jb {R : Type} {J : Int32 → am_S → Option R} {c : Prop} [Decidable c] : am_jn J (fun J' => if c then J' (0 : Int32) s else J' (1 : Int32) s) = J (if c then 0 else 1) s := by
  rw [jn_s]
  by_cases h : c
  · rw [if_pos h, if_pos h]
  · rw [if_neg h, if_neg h]
theorem w_int : ∀ a b : Int32, (fun v => some (Value.int v)) a = (fun v => some (Value.int v)) b → a = b := by intro a b h; cases h; rfl
theorem w_long : ∀ a b : Int64, (fun v => some (Value.long v)) a = (fun v => some (Value.long v)) b → a = b := by intro a b h; cases h; rfl
theorem w_none : ∀ a b : Unit, (fun _ : Unit => (none : Option Value)) a = (fun _ : Unit => none) b → a = b := by intro a b h; rfl
theorem armI {G : Int32 → am_S → am_FE Unit} (hC : cZ s T X) (hM : mZ s T X) (hx : txS s) (hK : (am_K s 2000000).2 = N) (hI : am_I s 2000000 = g) (W : ∀ t, mZ t T X → txS t → JG (fun v => some (Value.int v)) k s t fc (fm t)) (th : tH selF E fc) (hr : ∀ e ∈ E, ∀ s, r e s = some (.inl (some (.int (k e))), s)) (hk : ∀ e ∈ E, ¬ k e = 0)
    (hG : ∀ v1 s1, (am_K s1 2000000).2 = N → am_I s1 2000000 = g → G v1 s1 = am_bi (fm s1) (fun v2 s2 => am_bi (f_X8_thrown s2) (fun v3 s3 => if v3 = v1 then (if v1 = 0 then (if am_L s3 71 0 = v2.toInt64 then some (.inr ((), s3)) else some (.inl (.inl (some (.int (0 : Int32))), s3))) else some (.inr ((), s3))) else some (.inl (.inl (some (.int (0 : Int32))), s3))))) :
    AR N g s (am_bi (am_xi fc (fun v2 s1 => some (.inl (some (.int (0 : Int32))), (am_sL s1 71 0 v2.toInt64))) r) G) := by
  rcases core w_int hC hM hx hK hI W with ⟨v, s1, e1, e2, e3, e4⟩ | ⟨e, s1, v, e1, e2, e3, t1, e4, e5, e6⟩
  · obtain ⟨t1, z1, z2, z3, z4⟩ := e4 _ (pO_sL (V := v.toInt64))
    rw [e1]
    show AR N g s (G 0 (am_sL s1 71 0 v.toInt64))
    rw [hG 0 (am_sL s1 71 0 v.toInt64) e2 e3, z1, bi_s]
    unfold f_X8_thrown
    rw [bi_s, z2, if_pos rfl, if_pos rfl, if_pos (by rw [z3, L_sL, if_pos ⟨rfl, rfl⟩])]
    exact ⟨t1, rfl, z4⟩
  · have he := th _ e e1 rfl
    rw [e1]
    show AR N g s (am_bi (r e s1) G)
    rw [hr e he s1, bi_s, hG (k e) s1 e2 e3, e4, bi_s]
    unfold f_X8_thrown
    rw [bi_s, e5, if_pos rfl, if_neg (hk e he)]
    exact ⟨t1, rfl, e6⟩
theorem armL {G : Int32 → am_S → am_FE Unit} (hC : cZ s T X) (hM : mZ s T X) (hx : txS s) (hK : (am_K s 2000000).2 = N) (hI : am_I s 2000000 = g) (W : ∀ t, mZ t T X → txS t → JG (fun v => some (Value.long v)) k s t fc (fm t)) (th : tH selF E fc) (hr : ∀ e ∈ E, ∀ s, r e s = some (.inl (some (.int (k e))), s)) (hk : ∀ e ∈ E, ¬ k e = 0)
    (hG : ∀ v1 s1, (am_K s1 2000000).2 = N → am_I s1 2000000 = g → G v1 s1 = am_bl (fm s1) (fun v2 s2 => am_bi (f_X8_thrown s2) (fun v3 s3 => if v3 = v1 then (if v1 = 0 then (if am_L s3 71 0 = v2 then some (.inr ((), s3)) else some (.inl (.inl (some (.int (0 : Int32))), s3))) else some (.inr ((), s3))) else some (.inl (.inl (some (.int (0 : Int32))), s3))))) :
    AR N g s (am_bi (am_xl fc (fun v2 s1 => some (.inl (some (.int (0 : Int32))), (am_sL s1 71 0 v2))) r) G) := by
  rcases core w_long hC hM hx hK hI W with ⟨v, s1, e1, e2, e3, e4⟩ | ⟨e, s1, v, e1, e2, e3, t1, e4, e5, e6⟩
  · obtain ⟨t1, z1, z2, z3, z4⟩ := e4 _ (pO_sL (V := v))
    rw [e1]
    show AR N g s (G 0 (am_sL s1 71 0 v))
    rw [hG 0 (am_sL s1 71 0 v) e2 e3, z1]
    unfold f_X8_thrown
    show AR N g s (am_bi (some (.inl (some (.int (am_I t1 55 3))), t1)) (fun v3 s3 => if v3 = 0 then (if (0 : Int32) = 0 then (if am_L s3 71 0 = v then some (.inr ((), s3)) else some (.inl (.inl (some (.int (0 : Int32))), s3))) else some (.inr ((), s3))) else some (.inl (.inl (some (.int (0 : Int32))), s3))))
    rw [bi_s, z2, if_pos rfl, if_pos rfl, if_pos (by rw [z3, L_sL, if_pos ⟨rfl, rfl⟩])]
    exact ⟨t1, rfl, z4⟩
  · have he := th _ e e1 rfl
    rw [e1]
    show AR N g s (am_bi (r e s1) G)
    rw [hr e he s1, bi_s, hG (k e) s1 e2 e3, e4]
    unfold f_X8_thrown
    show AR N g s (am_bi (some (.inl (some (.int (am_I t1 55 3))), t1)) (fun v3 s3 => if v3 = k e then (if k e = 0 then (if am_L s3 71 0 = v then some (.inr ((), s3)) else some (.inl (.inl (some (.int (0 : Int32))), s3))) else some (.inr ((), s3))) else some (.inl (.inl (some (.int (0 : Int32))), s3))))
    rw [bi_s, e5, if_pos rfl, if_neg (hk e he)]
    exact ⟨t1, rfl, e6⟩
theorem armV {G : Int32 → am_S → am_FE Unit} (hC : cZ s T X) (hM : mZ s T X) (hx : txS s) (hK : (am_K s 2000000).2 = N) (hI : am_I s 2000000 = g) (W : ∀ t, mZ t T X → txS t → JG (fun _ : Unit => none) k s t fc (fm t)) (th : tH selF E fc) (hr : ∀ e ∈ E, ∀ s, r e s = some (.inl (some (.int (k e))), s)) (hk : ∀ e ∈ E, ¬ k e = 0)
    (hG : ∀ v1 s1, (am_K s1 2000000).2 = N → am_I s1 2000000 = g → G v1 s1 = am_bu (fm s1) (fun s2 => am_bi (f_X8_thrown s2) (fun v3 s3 => if v3 = v1 then some (.inr ((), s3)) else some (.inl (.inl (some (.int (0 : Int32))), s3))))) :
    AR N g s (am_bi (am_xu fc (fun s1 => some (.inl (some (.int (0 : Int32))), s1)) r) G) := by
  rcases core w_none hC hM hx hK hI W with ⟨v, s1, e1, e2, e3, e4⟩ | ⟨e, s1, v, e1, e2, e3, t1, e4, e5, e6⟩
  · obtain ⟨t1, z1, z2, z3, z4⟩ := e4 _ pO_id
    rw [e1]
    show AR N g s (G 0 s1)
    rw [hG 0 s1 e2 e3, z1, bu_s]
    unfold f_X8_thrown
    rw [bi_s, z2, if_pos rfl]
    exact ⟨t1, rfl, z4⟩
  · have he := th _ e e1 rfl
    rw [e1]
    show AR N g s (am_bi (r e s1) G)
    rw [hr e he s1, bi_s, hG (k e) s1 e2 e3, e4, bu_s]
    unfold f_X8_thrown
    rw [bi_s, e5, if_pos rfl]
    exact ⟨t1, rfl, e6⟩
theorem armD {G : Int32 → am_S → am_FE Unit} (hC : cZ s T X) (hM : mZ s T X) (hx : txS s) (hK : (am_K s 2000000).2 = N) (hI : am_I s 2000000 = g) (W : ∀ t, mZ t T X → txS t → JG (fun v => some (Value.int v)) k s t fc (fm t)) (th : tH selF [] fc)
    (hG : ∀ v1 s1, (am_K s1 2000000).2 = N → am_I s1 2000000 = g → G v1 s1 = am_bi (fm s1) (fun v2 s2 => if v1 = v2 then some (.inr ((), s2)) else some (.inl (.inl (some (.int (0 : Int32))), s2)))) :
    AR N g s (am_bi fc G) := by
  rcases core w_int hC hM hx hK hI W with ⟨v, s1, e1, e2, e3, e4⟩ | ⟨e, s1, v, e1, e2, e3, t1, e4, e5, e6⟩
  · obtain ⟨t1, z1, z2, z3, z4⟩ := e4 _ pO_id
    rw [e1, bi_s, hG v s1 e2 e3, z1, bi_s, if_pos rfl]
    exact ⟨t1, rfl, z4⟩
  · have he := th _ e e1 rfl
    cases he
end ARM
