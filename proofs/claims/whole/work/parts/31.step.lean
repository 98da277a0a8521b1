/-! ===== one step, an end, how the counts grow ===== -/
section SND8
variable {p : Program} {l : Launch} {e : Env} {R : Room} {s : State} {m : MethodId} {args : Array Value} {below : List Frame} {meth : Method} {c : Code} {H : Heap} {locs : List Loc} {cells slots : Nat} {Q : State → Prop}
variable {M : am_M} {pc len : Nat} {ls : Array Slot} {st st' rest : List Value} {ad : Nat → Nat} {ins : Instr} {lv lv' : am_Ls}
variable {D : va_G} {cy : Nat → ClassId} {A : Nat → Prop} {adF : Nat → Nat} {fK : Nat → Nat × Nat} {fI : Nat → Nat → Int32} {σ σ' : am_S}
abbrev am_le (σ σ' : am_S) : Prop := am_n σ ≤ am_n σ' ∧ am_c σ ≤ am_c σ' ∧ am_z σ ≤ am_z σ'
theorem am_le.rf : am_le σ σ := ⟨Nat.le_refl _, Nat.le_refl _, Nat.le_refl _⟩
theorem am_le.tr {σ2 : am_S} (h : am_le σ σ') (h2 : am_le σ' σ2) : am_le σ σ2 := ⟨Nat.le_trans h.1 h2.1, Nat.le_trans h.2.1 h2.2.1, Nat.le_trans h.2.2 h2.2.2⟩
theorem am_le.new {kd ln zs : Nat} : am_le σ (am_new σ kd ln zs) := ⟨Nat.le_succ _, Nat.le_succ _, Nat.le_add_right _ _⟩
set_option maxHeartbeats 4000000 in
theorem am_mem_le (h : am_mem M σ ins st = some (st', σ')) : am_le σ σ' := by
  unfold am_mem at h
  repeat' split at h
  all_goals first
    | (cases h; done)
    | (cases h; exact am_le.rf)
    | (cases h; exact am_le.new)
    | (obtain ⟨_, _, e1⟩ := Option.map_eq_some_iff.mp h; cases e1; exact am_le.rf)
theorem am_step_le {pc' : Nat} (h : am_step M pc ins len lv st σ = some (pc', lv', st', σ')) : am_le σ σ' := by
  unfold am_step at h
  repeat' split at h
  all_goals first
    | (cases h; done)
    | (cases h; exact am_le.rf)
    | (cases h; rename_i hm; exact am_mem_le hm)
theorem am_run_le : ∀ (n d : Nat) (M : am_M) (pc : Nat) (ls : am_Ls) (st : List Value) (σ : am_S) (o : am_O) (σ' : am_S), am_run n d M pc ls st σ = some (o, σ') → am_le σ σ'
  | 0, _, _, _, _, _, _, _, _, h => by simp [am_run] at h
  | n + 1, d, M, pc, ls, st, σ, o, σ', h => by
    rw [am_run] at h
    cases hd : decode (am_code M) pc with
    | error e => rw [hd] at h; cases h
    | ok q =>
      obtain ⟨ins, len⟩ := q
      rw [hd] at h
      simp only at h
      cases hl0 : am_lok ins len with
      | false => simp only [hl0, if_true] at h; cases h
      | true =>
      simp only [hl0, Bool.true_eq_false, if_false] at h
      cases he : am_end M ins st with
      | some v => simp only [he] at h; cases h; exact am_le.rf
      | none =>
        simp only [he] at h
        cases ht : am_thr M pc ins with
        | some v =>
          simp only [ht] at h
          split at h
          · cases h; exact ⟨Nat.le_refl _, Nat.le_succ _, Nat.le_add_right _ _⟩
          · cases h
        | none =>
          simp only [ht] at h
          cases hi : am_inv M σ ins st with
          | some q =>
            obtain ⟨M', av, rest⟩ := q
            simp only [hi] at h
            cases d with
            | zero => cases h
            | succ d' =>
              simp only at h
              cases hr : am_run n d' M' 0 (lv_args 0 av) [] σ with
              | none => simp only [hr] at h; cases h
              | some z =>
                obtain ⟨o1, s1⟩ := z
                have h1 := am_run_le n d' M' 0 (lv_args 0 av) [] σ o1 s1 hr
                simp only [hr] at h
                cases o1 with
                | inl v => exact h1.tr (am_run_le n _ M _ _ _ _ o σ' h)
                | inr x =>
                  simp only at h
                  cases hxo : am_xok M ins with
                  | false => simp only [hxo, if_true] at h; cases h
                  | true =>
                  simp only [hxo, Bool.true_eq_false, if_false] at h
                  by_cases hh : am_hh M = []
                  · simp only [hh, if_true] at h; cases h; exact h1
                  · simp only [hh, if_false] at h
                    cases hw : am_row M pc x (am_hh M) with
                    | none => simp only [hw] at h; cases h
                    | some y =>
                      obtain ⟨a, b⟩ := y
                      simp only [hw] at h
                      exact h1.tr (am_run_le n _ M _ _ _ _ o σ' h)
          | none =>
            simp only [hi] at h
            cases hs : am_step M pc ins len ls st σ with
            | none => simp only [hs] at h; cases h
            | some y =>
              obtain ⟨a, b, c, e⟩ := y
              simp only [hs] at h
              exact (am_step_le hs).tr (am_run_le n _ M _ _ _ _ o σ' h)
/-- values stay values of things that are there -/
theorem am_cst_ok {v : Value} {n : Nat} (h : am_cst M ins = some v) : am_vok n v := by
  unfold am_cst at h
  split at h
  all_goals first
    | (cases h; done)
    | (cases h; exact trivial)
    | skip
  · split at h
    · cases h; exact trivial
    · obtain ⟨a, h1, e1⟩ := Option.map_eq_some_iff.mp h
      cases e1
      exact Or.inr (am_sr_big h1)
  · obtain ⟨a, h1, e1⟩ := Option.map_eq_some_iff.mp h
    cases e1
    exact trivial
  · obtain ⟨a, h1, e1⟩ := Option.map_eq_some_iff.mp h
    cases e1
    have := (am_schk_use h1).1.1
    exact Or.inr (Nat.le_trans (by decide) this)
set_option maxHeartbeats 4000000 in
theorem am_pure_ok {n : Nat} (h : am_pure ins st = some st') (hv : ∀ v ∈ st, am_vok n v) : ∀ v ∈ st', am_vok n v := by
  unfold am_pure at h
  split at h
  all_goals first
    | (cases h; done)
    | (cases h; exact am_consok (am_tailok (am_tailok hv)) trivial)
    | (cases h; exact am_consok (am_tailok hv) trivial)
    | (split at h <;> first | (cases h; done) | (cases h; exact am_consok (am_tailok (am_tailok hv)) trivial) | (cases h; exact am_consok hv (hv _ List.mem_cons_self)) | (cases h; exact am_tailok hv) | (cases h; exact am_consok (am_consok hv (hv _ (List.mem_cons_of_mem _ List.mem_cons_self))) (hv _ List.mem_cons_self)))
theorem am_jump_ok {n pc' : Nat} (h : am_jump pc ins st = some (pc', st')) (hv : ∀ v ∈ st, am_vok n v) : ∀ v ∈ st', am_vok n v := by
  unfold am_jump at h
  repeat' split at h
  all_goals first
    | (cases h; done)
    | (cases h; exact am_tailok hv)
    | (obtain ⟨_, _, e1⟩ := Option.map_eq_some_iff.mp h; cases e1; first | exact hv | exact am_tailok hv | exact am_tailok (am_tailok hv))
theorem am_set_ok {n i : Nat} {v : Value} (hv : am_vok n v) (hl : ∀ q ∈ lv, am_vok n q.2) : ∀ q ∈ am_set lv i v, am_vok n q.2 := by
  intro q hq
  unfold am_set at hq
  split at hq
  · rcases am_ins_mem hq with rfl | h
    · exact hv
    · exact hl q (List.mem_filter.mp h).1
  · rcases am_ins_mem hq with rfl | h
    · exact hv
    · exact hl q (List.mem_filter.mp h).1
theorem am_lc_ad {ad1 : Nat → Nat} {n : Nat} (h : ∀ q ∈ lv, am_vok n q.2) (h1 : ∀ b, b < n ∨ 1000000 ≤ b → ad1 b = ad b) : am_lc ad1 lv = am_lc ad lv :=
  List.map_congr_left (fun q hq => by rw [am_cv_ad (h q hq) h1])
/-- what a step's row asks -/
def am_KS (p : Program) (l : Launch) (e : Env) (R : Room) (s : State) (m : MethodId) (args : Array Value) (below : List Frame) (meth : Method) (c : Code) (Q : State → Prop) (D : va_G) (cy : Nat → ClassId) (A : Nat → Prop) (adF : Nat → Nat) (fK : Nat → Nat × Nat) (fI : Nat → Nat → Int32) (M : am_M) (ad : Nat → Nat) (σ σ' : am_S) (cells slots : Nat) (lv' : am_Ls) (st' : List Value) (pc : Nat) : Prop :=
  ∀ (H1 : Heap) (locs1 : List Loc) (ad1 : Nat → Nat) (c1 z1 : Nat) (ls1 : Array Slot), c1 = cells + (am_c σ' - am_c σ) → z1 = slots + (am_z σ' - am_z σ) → (∀ b, b < am_n σ ∨ 1000000 ≤ b → ad1 b = ad b) → am_Q D cy A adF fK fI ad1 σ' H1 → va_S A s.heap H1 locs1 → lv_has ls1 (am_maxL M) (am_lc ad1 lv') → (∀ v ∈ st', am_vok (am_n σ') v) → (∀ q ∈ lv', am_vok (am_n σ') q.2) →
    W p l e R s m args below meth c H1 locs1 c1 z1 Q (F0 m pc ls1 (st'.map (am_cv ad1)))
set_option maxHeartbeats 4000000 in
theorem am_s_mem (C : am_Ctx p R s m meth c M D cy A adF fK fI) (hQ : am_Q D cy A adF fK fI ad σ H) (hS : va_S A s.heap H locs) (hst : ∀ v ∈ st, am_vok (am_n σ) v) (hls : ls.size = am_maxL M)
    (h : am_mem M σ ins st = some (st', σ')) (hd : decode (am_code M) pc = .ok (ins, len)) (hl : am_lok ins len = true) (hc : cells + (am_c σ' - am_c σ) ≤ R.cells) (hz : slots + (am_z σ' - am_z σ) ≤ R.slots)
    (k : am_KK p l e R s m args below meth c Q D cy A adF fK fI ad σ σ' cells slots st' ls (pc + len)) : W p l e R s m args below meth c H locs cells slots Q (F0 m pc ls (st.map (am_cv ad))) := by
  have C0 := C
  obtain ⟨hx, hb, hml, hown, hin, hG, -⟩ := C
  cases ins
  case getfield x =>
    obtain rfl : len = 3 := of_decide_eq_true hl
    exact am_s_getf hx hb hown hG hQ hS hst h hd k
  case putfield x =>
    obtain rfl : len = 3 := of_decide_eq_true hl
    exact am_s_putf hx hb hown hin hG hQ hS hst h hd k
  case iaload =>
    obtain rfl : len = 1 := of_decide_eq_true hl
    exact am_s_load C0 hQ hS hst (Or.inl rfl) h hd k
  case laload =>
    obtain rfl : len = 1 := of_decide_eq_true hl
    exact am_s_load C0 hQ hS hst (Or.inr (Or.inl rfl)) h hd k
  case baload =>
    obtain rfl : len = 1 := of_decide_eq_true hl
    exact am_s_load C0 hQ hS hst (Or.inr (Or.inr (Or.inl rfl))) h hd k
  case aaload =>
    obtain rfl : len = 1 := of_decide_eq_true hl
    exact am_s_load C0 hQ hS hst (Or.inr (Or.inr (Or.inr (Or.inl rfl)))) h hd k
  case arraylength =>
    obtain rfl : len = 1 := of_decide_eq_true hl
    exact am_s_load C0 hQ hS hst (Or.inr (Or.inr (Or.inr (Or.inr rfl)))) h hd k
  case iastore =>
    obtain rfl : len = 1 := of_decide_eq_true hl
    exact am_s_store C0 hQ hS hst (Or.inl rfl) h hd k
  case lastore =>
    obtain rfl : len = 1 := of_decide_eq_true hl
    exact am_s_store C0 hQ hS hst (Or.inr (Or.inl rfl)) h hd k
  case bastore =>
    obtain rfl : len = 1 := of_decide_eq_true hl
    exact am_s_store C0 hQ hS hst (Or.inr (Or.inr (Or.inl rfl))) h hd k
  case aastore =>
    obtain rfl : len = 1 := of_decide_eq_true hl
    exact am_s_store C0 hQ hS hst (Or.inr (Or.inr (Or.inr rfl))) h hd k
  case new x => exact am_s_make C0 hQ hS hst (Or.inl ⟨x, rfl⟩) h hd hl hc hz k
  case newarray t => exact am_s_make C0 hQ hS hst (Or.inr (Or.inl ⟨t, rfl⟩)) h hd hl hc hz k
  case anewarray x => exact am_s_make C0 hQ hS hst (Or.inr (Or.inr ⟨x, rfl⟩)) h hd hl hc hz k
  case invokespecial x =>
    obtain rfl : len = 3 := of_decide_eq_true hl
    exact am_s_lib C0 hQ hS hst hls (Or.inl ⟨x, rfl⟩) h hd (by omega) (by omega) k
  case invokevirtual x =>
    obtain rfl : len = 3 := of_decide_eq_true hl
    exact am_s_lib C0 hQ hS hst hls (Or.inr (Or.inl ⟨x, rfl⟩)) h hd (by omega) (by omega) k
  case invokestatic x =>
    obtain rfl : len = 3 := of_decide_eq_true hl
    exact am_s_lib C0 hQ hS hst hls (Or.inr (Or.inr ⟨x, rfl⟩)) h hd (by omega) (by omega) k
  all_goals (simp [am_mem] at h)
set_option maxHeartbeats 4000000 in
theorem am_s_step {pc' : Nat} (C : am_Ctx p R s m meth c M D cy A adF fK fI) (hQ : am_Q D cy A adF fK fI ad σ H) (hS : va_S A s.heap H locs) (hst : ∀ v ∈ st, am_vok (am_n σ) v) (hlv : ∀ q ∈ lv, am_vok (am_n σ) q.2) (hls : lv_has ls (am_maxL M) (am_lc ad lv))
    (h : am_step M pc ins len lv st σ = some (pc', lv', st', σ')) (hd : decode (am_code M) pc = .ok (ins, len)) (hl : am_lok ins len = true) (hc : cells + (am_c σ' - am_c σ) ≤ R.cells) (hz : slots + (am_z σ' - am_z σ) ≤ R.slots)
    (k : am_KS p l e R s m args below meth c Q D cy A adF fK fI M ad σ σ' cells slots lv' st' pc') : W p l e R s m args below meth c H locs cells slots Q (F0 m pc ls (st.map (am_cv ad))) := by
  have C0 := C
  obtain ⟨hx, hb, hml, hown, hin, hG, -⟩ := C
  unfold am_step at h
  cases h1 : am_cst M ins with
  | some v =>
    rw [h1] at h
    cases h
    exact am_s_cst hx hb hown hG hS hQ.2.2 h1 hd hl (k H locs ad _ _ ls (by omega) (by omega) (fun _ _ => rfl) hQ hS hls (am_consok hst (am_cst_ok h1)) hlv)
  | none =>
    rw [h1] at h
    simp only at h
    cases h2 : am_ld ins with
    | some q =>
      obtain ⟨i, t⟩ := q
      rw [h2] at h
      simp only at h
      cases h3 : am_get lv i with
      | none => rw [h3] at h; cases h
      | some v =>
        rw [h3] at h
        simp only at h
        by_cases h4 : am_ty t v = true
        · rw [if_pos h4] at h
          cases h
          exact am_s_ld hx hb h2 h3 h4 hls hd hl (k H locs ad _ _ ls (by omega) (by omega) (fun _ _ => rfl) hQ hS hls (am_consok hst (hlv _ (am_find_mem h3))) hlv)
        · rw [if_neg h4] at h; cases h
    | none =>
      rw [h2] at h
      simp only at h
      cases h3 : am_sto ins with
      | some q =>
        obtain ⟨i, t⟩ := q
        rw [h3] at h
        simp only at h
        rcases st with _ | ⟨v, r⟩
        · cases h
        · simp only at h
          by_cases h4 : am_ty t v = true ∧ i + v.category ≤ am_maxL M
          · rw [if_pos h4] at h
            cases h
            exact am_s_sto hx hb h3 h4.1 h4.2 hls hd hl (fun ls' hls' => k H locs ad _ _ ls' (by omega) (by omega) (fun _ _ => rfl) hQ hS hls' (am_tailok hst) (am_set_ok (hst _ List.mem_cons_self) hlv))
          · rw [if_neg h4] at h; cases h
      | none =>
        rw [h3] at h
        simp only at h
        cases h4 : am_pure ins st with
        | some z =>
          rw [h4] at h
          cases h
          exact am_s_pure hx hb h4 hd hl (k H locs ad _ _ ls (by omega) (by omega) (fun _ _ => rfl) hQ hS hls (am_pure_ok h4 hst) hlv)
        | none =>
          rw [h4] at h
          simp only at h
          cases h5 : am_jump pc ins st with
          | some z =>
            obtain ⟨a, b⟩ := z
            rw [h5] at h
            cases h
            exact am_s_jump hx hb h5 hd hl (k H locs ad _ _ ls (by omega) (by omega) (fun _ _ => rfl) hQ hS hls (am_jump_ok h5 hst) hlv)
          | none =>
            rw [h5] at h
            simp only at h
            have memc : ∀ st2 σ2, am_mem M σ ins st = some (st2, σ2) → pc + len = pc' → lv = lv' → st2 = st' → σ2 = σ' → W p l e R s m args below meth c H locs cells slots Q (F0 m pc ls (st.map (am_cv ad))) := by
              intro st2 σ2 h6 e1 e2 e3 e4
              subst e1; subst e2; subst e3; subst e4
              have hle := am_mem_le h6
              refine am_s_mem C0 hQ hS hst hls.1 h6 hd hl hc hz (fun H1 locs1 ad1 c1 z1 q1 q2 q3 q4 q5 q6 => k H1 locs1 ad1 c1 z1 ls q1 q2 q3 q4 q5 ?_ q6 (fun q hq => (hlv q hq).mono hle.1))
              rw [am_lc_ad hlv q3]
              exact hls
            cases ins
            case iinc i n =>
              simp only at h
              cases h6 : am_get lv i with
              | none => rw [h6] at h; cases h
              | some v =>
                rw [h6] at h
                cases v <;> simp only [reduceCtorEq] at h
                rename_i x
                by_cases h7 : i < am_maxL M
                · rw [if_pos h7] at h
                  cases h
                  exact am_s_inc hx hb h6 h7 hls hd hl (fun ls' hls' => k H locs ad _ _ ls' (by omega) (by omega) (fun _ _ => rfl) hQ hS hls' hst (am_set_ok trivial hlv))
                · rw [if_neg h7] at h; cases h
            all_goals
              simp only at h
              split at h
              · rename_i h6
                cases h
                exact memc _ _ h6 rfl rfl rfl rfl
              · cases h
end SND8
