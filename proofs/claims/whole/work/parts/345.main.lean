section SND12
variable {D : va_G} {cy : Nat → ClassId} {A : Nat → Prop} {adF : Nat → Nat} {fK : Nat → Nat × Nat} {fI : Nat → Nat → Int32}
set_option maxHeartbeats 4000000 in
theorem am_snd : ∀ n : Nat, am_Snd D cy A adF fK fI n
  | 0 => by
    intro d M pc lv st σ o σ' h
    simp [am_run] at h
  | n + 1 => by
    have ih := am_snd n
    intro d M pc lv st σ o σ' h p l e R s m args below meth c H locs cells slots Q ls ad c1 z1 hl C hRf hRl hcov hQ hS hst hlv hls hc1 hz1 hcR hzR K
    have hle0 := am_run_le _ _ _ _ _ _ _ _ _ h
    rw [am_run] at h
    cases hd : decode (am_code M) pc with
    | error e => rw [hd] at h; cases h
    | ok q =>
      obtain ⟨ins, len⟩ := q
      rw [hd] at h
      simp only at h
      cases hl0 : am_lok ins len with
      | false => simp only [hl0, if_true] at h; cases h
      | true =>
      simp only [hl0, Bool.true_eq_false, if_false] at h
      cases he : am_end M ins st with
      | some v =>
        simp only [he] at h
        cases h
        obtain rfl : cells = c1 := by omega
        obtain rfl : slots = z1 := by omega
        exact K.1 v rfl H locs ad ls pc ins len st hd hl0 he (fun _ _ => rfl) hQ hS hst
      | none =>
        simp only [he] at h
        cases ht : am_thr M pc ins with
        | some x =>
          simp only [ht] at h
          split at h
          · rename_i hemp
            cases h
            obtain rfl : st = [] := List.isEmpty_iff.mp hemp
            have q1 : am_c (am_tick σ) = am_c σ + 1 := rfl
            have q2 : am_z (am_tick σ) = am_z σ + 6 := rfl
            exact K.2.1 x rfl H locs ad ls pc ins len σ cells slots hd hl0 ht (fun _ _ => rfl) rfl hQ hS hls.1 (by omega) (by omega)
          · cases h
        | none =>
          simp only [ht] at h
          cases hi : am_inv M σ ins st with
          | some q =>
            obtain ⟨M', av, rest⟩ := q
            simp only [hi] at h
            cases d with
            | zero => cases h
            | succ d' =>
              simp only at h
              cases hr : am_run n d' M' 0 (lv_args 0 av) [] σ with
              | none => simp only [hr] at h; cases h
              | some z =>
                obtain ⟨o1, s1⟩ := z
                have hle1 := am_run_le _ _ _ _ _ _ _ _ _ hr
                simp only [hr] at h
                have hxo : (∃ v, o1 = .inl v) ∨ am_xok M ins = true := by
                  cases o1 with
                  | inl v => exact Or.inl ⟨v, rfl⟩
                  | inr y =>
                    right
                    cases hxo : am_xok M ins with
                    | false => simp only [hxo, if_true] at h; cases h
                    | true => rfl
                have hle2 : am_le s1 σ' := by
                  cases o1 with
                  | inl v => exact am_run_le _ _ _ _ _ _ _ _ _ h
                  | inr y =>
                    simp only at h
                    cases hxo : am_xok M ins with
                    | false => simp only [hxo, if_true] at h; cases h
                    | true =>
                    simp only [hxo, Bool.true_eq_false, if_false] at h
                    by_cases hh : am_hh M = []
                    · simp only [hh, if_true] at h; cases h; exact am_le.rf
                    · simp only [hh, if_false] at h
                      cases hw : am_row M pc y (am_hh M) with
                      | none => simp only [hw] at h; cases h
                      | some w =>
                        obtain ⟨a, b⟩ := w
                        simp only [hw] at h
                        exact am_run_le _ _ _ _ _ _ _ _ _ h
                have hc2 := hle1.2.1
                have hc3 := hle2.2.1
                have hz2 := hle1.2.2
                have hz3 := hle2.2.2
                have hk1 : cells + (am_c s1 - am_c σ) ≤ R.cells := by omega
                have hk2 : slots + (am_z s1 - am_z σ) ≤ R.slots := by omega
                have hk3 : cells + (am_c s1 - am_c σ) + (am_c σ' - am_c s1) = c1 := by omega
                have hk4 : slots + (am_z s1 - am_z σ) + (am_z σ' - am_z s1) = z1 := by omega
                refine am_s_callq ih hl C hRf hRl hQ hS hls.1 hst hi hd hl0 hr hxo hk1 hk2 ?_ ?_
                · intro v1 ad1 H1 locs1 e1 b1 b2 b3 b4
                  subst e1
                  simp only at h
                  exact ih (d' + 1) M (pc + 3) lv (v1.toList ++ rest) s1 o σ' h p l e R s m args below meth c H1 locs1 _ _ Q ls ad1 c1 z1 hl C hRf hRl hcov b2 b3 b4 (fun q hq => (hlv q hq).mono hle1.1) (by rw [am_lc_ad hlv b1]; exact hls) hk3 hk4 hcR hzR (K.step b1 hle1)
                · intro k1 ad1 H1 locs1 q ce e1 b1 b2 b3 b4 b5 b6
                  subst e1
                  simp only at h
                  cases hxo : am_xok M ins with
                  | false => simp only [hxo, if_true] at h; cases h
                  | true =>
                  simp only [hxo, Bool.true_eq_false, if_false] at h
                  by_cases hh : am_hh M = []
                  · simp only [hh, if_true] at h
                    cases h
                    rw [hc1, hz1]
                    exact K.2.2 k1 rfl hh H1 locs1 ad1 ls pc q ce _ b1 b2 b3 b4 b5 b6
                  · simp only [hh, if_false] at h
                    cases hw : am_row M pc k1 (am_hh M) with
                    | none => simp only [hw] at h; cases h
                    | some w =>
                      obtain ⟨hp, i⟩ := w
                      simp only [hw] at h
                      refine am_s_catch (ad := ad1) (lv := lv) C hcov hw (by rw [am_lc_ad hlv b1]; exact hls) b4 b5 b6 (fun ls' hls' => ?_)
                      exact ih (d' + 1) M hp (am_drop lv i) [] s1 o σ' h p l e R s m args below meth c H1 locs1 _ _ Q ls' ad1 c1 z1 hl C hRf hRl hcov b2 b3 (fun w hw => by cases hw) (fun q hq => (hlv q (List.mem_filter.mp hq).1).mono hle1.1) hls' hk3 hk4 hcR hzR (K.step b1 hle1)
          | none =>
            simp only [hi] at h
            cases hs : am_step M pc ins len lv st σ with
            | none => simp only [hs] at h; cases h
            | some y =>
              obtain ⟨pc', lv', st', σ2⟩ := y
              simp only [hs] at h
              have hle1 := am_step_le hs
              have hle2 := am_run_le _ _ _ _ _ _ _ _ _ h
              have hc2 := hle1.2.1
              have hc3 := hle2.2.1
              have hz2 := hle1.2.2
              have hz3 := hle2.2.2
              refine am_s_step C hQ hS hst hlv hls hs hd hl0 (by omega) (by omega) ?_
              intro H1 locs1 ad1 c' z' ls1 e1 e2 b1 b2 b3 b4 b5 b6
              exact ih d M pc' lv' st' σ2 o σ' h p l e R s m args below meth c H1 locs1 c' z' Q ls1 ad1 c1 z1 hl C hRf hRl hcov b2 b3 b5 b6 b4 (by omega) (by omega) hcR hzR (K.step b1 hle1)
end SND12
