/-! ===== image ===== -/
def sO (b : Nat) (σ σ' : am_S) : Prop := ∀ a, ¬ (b ≤ a ∧ a < b + 32) → am_I σ' a = am_I σ a ∧ am_L σ' a = am_L σ a ∧ am_R σ' a = am_R σ a ∧ am_K σ' a = am_K σ a
section IM1
variable {σ σ' : am_S} {b m k a kd l z n : Nat} {v : Int32} {r : Option Nat}
theorem sO.refl : sO b σ σ := fun _ _ => ⟨rfl, rfl, rfl, rfl⟩
theorem w_ne {α : Type} {f : Nat → α} {a m : Nat} {v : α} (h : ¬ a = m) : am_w f m v a = f a := by unfold am_w; rw [if_neg h]
theorem u_ne {α : Type} {f : Nat → Nat → α} {a m k : Nat} {v : α} (h : ¬ a = m) : am_u f m k v a = f a := by unfold am_u; rw [if_neg h]
theorem sO.nat (hm : b ≤ m ∧ m < b + 32) (h : sO b σ σ') : sO b σ (am_nat σ' m kd l z) := by
  intro a ha
  obtain ⟨h1, h2, h3, h4⟩ := h a ha
  have hne : ¬ a = m := by intro e; exact ha (by omega)
  exact ⟨(w_ne hne).trans h1, (w_ne hne).trans h2, (w_ne hne).trans h3, (w_ne hne).trans h4⟩
theorem sO.sR (hm : b ≤ m ∧ m < b + 32) (h : sO b σ σ') : sO b σ (am_sR σ' m k r) := by
  intro a ha
  obtain ⟨h1, h2, h3, h4⟩ := h a ha
  have hne : ¬ a = m := by intro e; exact ha (by omega)
  exact ⟨h1, h2, (u_ne hne).trans h3, h4⟩
theorem sO.sI (hm : b ≤ m ∧ m < b + 32) (h : sO b σ σ') : sO b σ (am_sI σ' m k v) := by
  intro a ha
  obtain ⟨h1, h2, h3, h4⟩ := h a ha
  have hne : ¬ a = m := by intro e; exact ha (by omega)
  exact ⟨(u_ne hne).trans h1, h2, h3, h4⟩
theorem sO.cp (hm : b ≤ m ∧ m < b + 32) (h : sO b σ σ') : sO b σ (ax_cp σ' m a n) := by
  intro a ha
  obtain ⟨h1, h2, h3, h4⟩ := h a ha
  have hne : ¬ a = m := by intro e; exact ha (by omega)
  exact ⟨(w_ne hne).trans h1, h2, h3, h4⟩
set_option maxRecDepth 100000 in
theorem nSt_out : sO b σ (nSt b σ) := by
  unfold nSt
  repeat' (first | exact sO.refl | (refine sO.nat ⟨by omega, by omega⟩ ?_) | (refine sO.sR ⟨by omega, by omega⟩ ?_) | (refine sO.sI ⟨by omega, by omega⟩ ?_) | (refine sO.cp ⟨by omega, by omega⟩ ?_))
theorem nSt_n : am_n (nSt b σ) = b + 32 := rfl
theorem nSt_c : am_c (nSt b σ) = am_c σ + 32 := rfl
theorem nSt_z : am_z (nSt b σ) ≤ am_z σ + 1000 := by
  show am_z σ + 11 + 23 + 6 + 5 + 3 + 33 + 3 + 33 + 3 + 33 + 3 + 33 + 3 + 33 + 3 + 33 + 3 + 33 + 3 + 33 + 3 + 33 + 3 + 33 + 3 + 33 + 3 + 33 + 3 + 33 + 3 + 33 ≤ _
  omega
set_option maxRecDepth 100000 in
theorem ntK72 : ∀ j, j < 32 → am_K (nSt 72 σ) (72 + j) = am_k0 (72 + j) := fun j hj => match j, hj with
  | 0, _ => rfl
  | 1, _ => rfl
  | 2, _ => rfl
  | 3, _ => rfl
  | 4, _ => rfl
  | 5, _ => rfl
  | 6, _ => rfl
  | 7, _ => rfl
  | 8, _ => rfl
  | 9, _ => rfl
  | 10, _ => rfl
  | 11, _ => rfl
  | 12, _ => rfl
  | 13, _ => rfl
  | 14, _ => rfl
  | 15, _ => rfl
  | 16, _ => rfl
  | 17, _ => rfl
  | 18, _ => rfl
  | 19, _ => rfl
  | 20, _ => rfl
  | 21, _ => rfl
  | 22, _ => rfl
  | 23, _ => rfl
  | 24, _ => rfl
  | 25, _ => rfl
  | 26, _ => rfl
  | 27, _ => rfl
  | 28, _ => rfl
  | 29, _ => rfl
  | 30, _ => rfl
  | 31, _ => rfl
  | j + 32, h => absurd h (by omega)
set_option maxRecDepth 100000 in
theorem ntR72 : ∀ j k, j < 32 → am_R (nSt 72 σ) (72 + j) k = am_r0 (72 + j) k := fun j k hj => match j, hj with
  | 0, _ => match k with
    | 0 => rfl
    | 1 => rfl
    | 2 => rfl
    | 3 => rfl
    | 4 => rfl
    | 5 => rfl
    | 6 => rfl
    | 7 => rfl
    | 8 => rfl
    | 9 => rfl
    | 10 => rfl
    | k + 11 => rfl
  | 1, _ => rfl
  | 2, _ => match k with
    | 0 => rfl
    | 1 => rfl
    | 2 => rfl
    | 3 => rfl
    | 4 => rfl
    | 5 => rfl
    | k + 6 => rfl
  | 3, _ => match k with
    | 0 => rfl
    | 1 => rfl
    | 2 => rfl
    | 3 => rfl
    | 4 => rfl
    | k + 5 => rfl
  | 4, _ => match k with
    | 0 => rfl
    | k + 1 => rfl
  | 5, _ => rfl
  | 6, _ => match k with
    | 0 => rfl
    | k + 1 => rfl
  | 7, _ => rfl
  | 8, _ => match k with
    | 0 => rfl
    | k + 1 => rfl
  | 9, _ => rfl
  | 10, _ => match k with
    | 0 => rfl
    | k + 1 => rfl
  | 11, _ => rfl
  | 12, _ => match k with
    | 0 => rfl
    | k + 1 => rfl
  | 13, _ => rfl
  | 14, _ => match k with
    | 0 => rfl
    | k + 1 => rfl
  | 15, _ => rfl
  | 16, _ => match k with
    | 0 => rfl
    | k + 1 => rfl
  | 17, _ => rfl
  | 18, _ => match k with
    | 0 => rfl
    | k + 1 => rfl
  | 19, _ => rfl
  | 20, _ => match k with
    | 0 => rfl
    | k + 1 => rfl
  | 21, _ => rfl
  | 22, _ => match k with
    | 0 => rfl
    | k + 1 => rfl
  | 23, _ => rfl
  | 24, _ => match k with
    | 0 => rfl
    | k + 1 => rfl
  | 25, _ => rfl
  | 26, _ => match k with
    | 0 => rfl
    | k + 1 => rfl
  | 27, _ => rfl
  | 28, _ => match k with
    | 0 => rfl
    | k + 1 => rfl
  | 29, _ => rfl
  | 30, _ => match k with
    | 0 => rfl
    | k + 1 => rfl
  | 31, _ => rfl
  | j + 32, h => absurd h (by omega)
set_option maxRecDepth 100000 in
theorem ntL72 : cLim (nSt 72 σ) 72 := by
  refine ⟨fun w hw => ?_, fun w hw => ?_, rfl, rfl, rfl⟩
  · exact match w, hw with
    | 0, _ => rfl
    | 1, _ => rfl
    | 2, _ => rfl
    | 3, _ => rfl
    | 4, _ => rfl
    | 5, _ => rfl
    | w + 6, h => absurd h (by omega)
  · exact match w, hw with
    | 0, _ => rfl
    | 1, _ => rfl
    | 2, _ => rfl
    | 3, _ => rfl
    | 4, _ => rfl
    | w + 5, h => absurd h (by omega)
set_option maxRecDepth 100000 in
theorem ntK104 : ∀ j, j < 32 → am_K (nSt 104 σ) (104 + j) = am_k0 (104 + j) := fun j hj => match j, hj with
  | 0, _ => rfl
  | 1, _ => rfl
  | 2, _ => rfl
  | 3, _ => rfl
  | 4, _ => rfl
  | 5, _ => rfl
  | 6, _ => rfl
  | 7, _ => rfl
  | 8, _ => rfl
  | 9, _ => rfl
  | 10, _ => rfl
  | 11, _ => rfl
  | 12, _ => rfl
  | 13, _ => rfl
  | 14, _ => rfl
  | 15, _ => rfl
  | 16, _ => rfl
  | 17, _ => rfl
  | 18, _ => rfl
  | 19, _ => rfl
  | 20, _ => rfl
  | 21, _ => rfl
  | 22, _ => rfl
  | 23, _ => rfl
  | 24, _ => rfl
  | 25, _ => rfl
  | 26, _ => rfl
  | 27, _ => rfl
  | 28, _ => rfl
  | 29, _ => rfl
  | 30, _ => rfl
  | 31, _ => rfl
  | j + 32, h => absurd h (by omega)
set_option maxRecDepth 100000 in
theorem ntR104 : ∀ j k, j < 32 → am_R (nSt 104 σ) (104 + j) k = am_r0 (104 + j) k := fun j k hj => match j, hj with
  | 0, _ => match k with
    | 0 => rfl
    | 1 => rfl
    | 2 => rfl
    | 3 => rfl
    | 4 => rfl
    | 5 => rfl
    | 6 => rfl
    | 7 => rfl
    | 8 => rfl
    | 9 => rfl
    | 10 => rfl
    | k + 11 => rfl
  | 1, _ => rfl
  | 2, _ => match k with
    | 0 => rfl
    | 1 => rfl
    | 2 => rfl
    | 3 => rfl
    | 4 => rfl
    | 5 => rfl
    | k + 6 => rfl
  | 3, _ => match k with
    | 0 => rfl
    | 1 => rfl
    | 2 => rfl
    | 3 => rfl
    | 4 => rfl
    | k + 5 => rfl
  | 4, _ => match k with
    | 0 => rfl
    | k + 1 => rfl
  | 5, _ => rfl
  | 6, _ => match k with
    | 0 => rfl
    | k + 1 => rfl
  | 7, _ => rfl
  | 8, _ => match k with
    | 0 => rfl
    | k + 1 => rfl
  | 9, _ => rfl
  | 10, _ => match k with
    | 0 => rfl
    | k + 1 => rfl
  | 11, _ => rfl
  | 12, _ => match k with
    | 0 => rfl
    | k + 1 => rfl
  | 13, _ => rfl
  | 14, _ => match k with
    | 0 => rfl
    | k + 1 => rfl
  | 15, _ => rfl
  | 16, _ => match k with
    | 0 => rfl
    | k + 1 => rfl
  | 17, _ => rfl
  | 18, _ => match k with
    | 0 => rfl
    | k + 1 => rfl
  | 19, _ => rfl
  | 20, _ => match k with
    | 0 => rfl
    | k + 1 => rfl
  | 21, _ => rfl
  | 22, _ => match k with
    | 0 => rfl
    | k + 1 => rfl
  | 23, _ => rfl
  | 24, _ => match k with
    | 0 => rfl
    | k + 1 => rfl
  | 25, _ => rfl
  | 26, _ => match k with
    | 0 => rfl
    | k + 1 => rfl
  | 27, _ => rfl
  | 28, _ => match k with
    | 0 => rfl
    | k + 1 => rfl
  | 29, _ => rfl
  | 30, _ => match k with
    | 0 => rfl
    | k + 1 => rfl
  | 31, _ => rfl
  | j + 32, h => absurd h (by omega)
set_option maxRecDepth 100000 in
theorem ntL104 : cLim (nSt 104 σ) 104 := by
  refine ⟨fun w hw => ?_, fun w hw => ?_, rfl, rfl, rfl⟩
  · exact match w, hw with
    | 0, _ => rfl
    | 1, _ => rfl
    | 2, _ => rfl
    | 3, _ => rfl
    | 4, _ => rfl
    | 5, _ => rfl
    | w + 6, h => absurd h (by omega)
  · exact match w, hw with
    | 0, _ => rfl
    | 1, _ => rfl
    | 2, _ => rfl
    | 3, _ => rfl
    | 4, _ => rfl
    | w + 5, h => absurd h (by omega)
set_option maxRecDepth 100000 in
theorem ntK136 : ∀ j, j < 32 → am_K (nSt 136 σ) (136 + j) = am_k0 (136 + j) := fun j hj => match j, hj with
  | 0, _ => rfl
  | 1, _ => rfl
  | 2, _ => rfl
  | 3, _ => rfl
  | 4, _ => rfl
  | 5, _ => rfl
  | 6, _ => rfl
  | 7, _ => rfl
  | 8, _ => rfl
  | 9, _ => rfl
  | 10, _ => rfl
  | 11, _ => rfl
  | 12, _ => rfl
  | 13, _ => rfl
  | 14, _ => rfl
  | 15, _ => rfl
  | 16, _ => rfl
  | 17, _ => rfl
  | 18, _ => rfl
  | 19, _ => rfl
  | 20, _ => rfl
  | 21, _ => rfl
  | 22, _ => rfl
  | 23, _ => rfl
  | 24, _ => rfl
  | 25, _ => rfl
  | 26, _ => rfl
  | 27, _ => rfl
  | 28, _ => rfl
  | 29, _ => rfl
  | 30, _ => rfl
  | 31, _ => rfl
  | j + 32, h => absurd h (by omega)
set_option maxRecDepth 100000 in
theorem ntR136 : ∀ j k, j < 32 → am_R (nSt 136 σ) (136 + j) k = am_r0 (136 + j) k := fun j k hj => match j, hj with
  | 0, _ => match k with
    | 0 => rfl
    | 1 => rfl
    | 2 => rfl
    | 3 => rfl
    | 4 => rfl
    | 5 => rfl
    | 6 => rfl
    | 7 => rfl
    | 8 => rfl
    | 9 => rfl
    | 10 => rfl
    | k + 11 => rfl
  | 1, _ => rfl
  | 2, _ => match k with
    | 0 => rfl
    | 1 => rfl
    | 2 => rfl
    | 3 => rfl
    | 4 => rfl
    | 5 => rfl
    | k + 6 => rfl
  | 3, _ => match k with
    | 0 => rfl
    | 1 => rfl
    | 2 => rfl
    | 3 => rfl
    | 4 => rfl
    | k + 5 => rfl
  | 4, _ => match k with
    | 0 => rfl
    | k + 1 => rfl
  | 5, _ => rfl
  | 6, _ => match k with
    | 0 => rfl
    | k + 1 => rfl
  | 7, _ => rfl
  | 8, _ => match k with
    | 0 => rfl
    | k + 1 => rfl
  | 9, _ => rfl
  | 10, _ => match k with
    | 0 => rfl
    | k + 1 => rfl
  | 11, _ => rfl
  | 12, _ => match k with
    | 0 => rfl
    | k + 1 => rfl
  | 13, _ => rfl
  | 14, _ => match k with
    | 0 => rfl
    | k + 1 => rfl
  | 15, _ => rfl
  | 16, _ => match k with
    | 0 => rfl
    | k + 1 => rfl
  | 17, _ => rfl
  | 18, _ => match k with
    | 0 => rfl
    | k + 1 => rfl
  | 19, _ => rfl
  | 20, _ => match k with
    | 0 => rfl
    | k + 1 => rfl
  | 21, _ => rfl
  | 22, _ => match k with
    | 0 => rfl
    | k + 1 => rfl
  | 23, _ => rfl
  | 24, _ => match k with
    | 0 => rfl
    | k + 1 => rfl
  | 25, _ => rfl
  | 26, _ => match k with
    | 0 => rfl
    | k + 1 => rfl
  | 27, _ => rfl
  | 28, _ => match k with
    | 0 => rfl
    | k + 1 => rfl
  | 29, _ => rfl
  | 30, _ => match k with
    | 0 => rfl
    | k + 1 => rfl
  | 31, _ => rfl
  | j + 32, h => absurd h (by omega)
set_option maxRecDepth 100000 in
theorem ntL136 : cLim (nSt 136 σ) 136 := by
  refine ⟨fun w hw => ?_, fun w hw => ?_, rfl, rfl, rfl⟩
  · exact match w, hw with
    | 0, _ => rfl
    | 1, _ => rfl
    | 2, _ => rfl
    | 3, _ => rfl
    | 4, _ => rfl
    | 5, _ => rfl
    | w + 6, h => absurd h (by omega)
  · exact match w, hw with
    | 0, _ => rfl
    | 1, _ => rfl
    | 2, _ => rfl
    | 3, _ => rfl
    | 4, _ => rfl
    | w + 5, h => absurd h (by omega)
theorem ntK (hb : b = 72 ∨ b = 104 ∨ b = 136) : ∀ j, j < 32 → am_K (nSt b σ) (b + j) = am_k0 (b + j) := by
  rcases hb with e | e | e <;> subst e
  · exact ntK72
  · exact ntK104
  · exact ntK136
theorem ntR (hb : b = 72 ∨ b = 104 ∨ b = 136) : ∀ j k, j < 32 → am_R (nSt b σ) (b + j) k = am_r0 (b + j) k := by
  rcases hb with e | e | e <;> subst e
  · exact ntR72
  · exact ntR104
  · exact ntR136
theorem ntL (hb : b = 72 ∨ b = 104 ∨ b = 136) : cLim (nSt b σ) b := by
  rcases hb with e | e | e <;> subst e
  · exact ntL72
  · exact ntL104
  · exact ntL136
end IM1
section IM2
variable {N n b i d : Nat} {s s1 t t1 : am_S} {T : hT} {X : hX} {x x1 : Int32}
theorem k0_st (hb : b = 72 ∨ b = 104 ∨ b = 136) : am_k0 b = (5, 0) := by rcases hb with e | e | e <;> subst e <;> rfl
theorem sh_img (h : am_sh N b s) (hb : b = 72 ∨ b = 104 ∨ b = 136) : am_sh N (b + 32) (am_sR (nSt b s) 33 i (some b)) := by
  obtain ⟨h1, h2, h3, h4, h5, h6, h7⟩ := h
  have o := nSt_out (b := b) (σ := s)
  refine ⟨by unfold ax_nn; omega, rfl, ?_, ?_, ?_, ?_, ?_⟩
  · intro a ha
    show am_K (nSt b s) a = _
    by_cases c : a < b
    · rw [(o a (by omega)).2.2.2]; exact h3 a c
    · obtain ⟨j, rfl⟩ : ∃ j, a = b + j := ⟨a - b, by omega⟩
      exact ntK hb j (by omega)
  · intro a h8 h9
    show am_K (nSt b s) a = _
    rw [(o a (by omega)).2.2.2]; exact h4 a h8 h9
  · show am_K (nSt b s) 2000000 = _
    rw [(o 2000000 (by omega)).2.2.2]; exact h5
  · intro a k ha h33
    show am_u (am_R (nSt b s)) 33 i (some b) a k = _
    rw [u_ne h33]
    by_cases c : a < b
    · rw [(o a (by omega)).2.2.1]; exact h6 a k c h33
    · obtain ⟨j, rfl⟩ : ∃ j, a = b + j := ⟨a - b, by omega⟩
      exact ntR hb j k (by omega)
  · intro k c hk
    have hk : am_u (am_R (nSt b s)) 33 i (some b) 33 k = some c := hk
    unfold am_u va_up at hk
    rw [if_pos rfl] at hk
    by_cases e : k = i
    · rw [if_pos e] at hk
      cases hk
      exact ⟨k0_st hb, by omega⟩
    · rw [if_neg e, (o 33 (by omega)).2.2.1] at hk
      obtain ⟨q1, q2⟩ := h7 k c hk
      exact ⟨q1, by omega⟩
noncomputable def f_X7_image (x1 : Int32) (s : am_S) : am_F :=
  am_tu (f_X7_needImageNumber x1 s) (fun s1 =>
    if am_in x1 3 = true then
      am_mr (am_R s1 33 x1.toNatClampNeg) (
        if am_n s1 = 72 ∨ am_n s1 = 104 ∨ am_n s1 = 136 then
          am_bu (f_X5_copyFrom (am_n s1) 1 (am_sR (nSt (am_n s1) s1) 33 x1.toNatClampNeg (some (am_n s1)))) (fun s7 => some (.inl none, s7))
        else none
      ) (fun t4 =>
        am_bu (f_X5_copyFrom t4 1 s1) (fun s7 =>
          some (.inl none, s7)
        )
      )
    else none
  )
theorem stW {Q : am_O → am_S → Prop} (h : am_sh N b s) (hb : b = 72 ∨ b = 104 ∨ b = 136) (hQ : Q (.inl none) (nSt b s)) : am_WP (d + 1) mX5_init 0 [(0, .ref b)] [] (am_nat s b 5 0 11) Q := by
  obtain ⟨I, L, R, K, n, c, z⟩ := s
  obtain ⟨h1, h2, h3, h4, h5, h6, h7⟩ := h
  have hF : K 3000000 = (19, 23) := h4 3000000 (by omega) (by omega)
  have hn : n = b := h2
  subst hn
  rcases hb with e | e | e <;> subst e
  · exact st72 hF hQ
  · exact st104 hF hQ
  · exact st136 hF hQ
theorem kf_new (hb : b = 72 ∨ b = 104 ∨ b = 136) : am_kf (b + 32) b 5 := ⟨k0_st hb, by omega⟩
theorem sh_E (h : am_sh N n s) : am_shE N s := ⟨n, h⟩
theorem s_X7_image (h : am_sh N n s) : am_S1 (am_shE N) (d + 2) mX7_image [.ref 0, .int x1] s (f_X7_image x1 s) := by
  intro P Q k hP
  show am_WP (d + 2) mX7_image 0 [(0, .ref 0), (1, .int x1)] [] s Q
  unfold f_X7_image at k
  refine wp_ld (v := .int x1) dX7_image_0 rfl rfl rfl rfl ?_
  refine t_u dX7_image_1 rfl rfl rfl (am_inv_s rfl rfl rfl rfl) (s_X7_needImageNumber h) k rfl rfl (fun o s p q => hP o s p (sh_E q)) (fun s1 h k => ?_)
  refine wp_ld (v := .ref 0) dX7_image_4 rfl rfl rfl rfl ?_
  refine wp_gr dX7_image_5 rfl rfl (kk_0 h) (rr_0_1 h) ?_
  refine wp_ld (v := .int x1) dX7_image_8 rfl rfl rfl rfl ?_
  obtain ⟨g3, k⟩ := ok_g k
  rcases ok_mr k with ⟨c5, k⟩ | ⟨t4, c5, k⟩
  · obtain ⟨hb, k⟩ := ok_g k
    have en : am_n s1 = n := h.2.1
    rw [en] at hb k
    have h' := sh_img (i := x1.toNatClampNeg) h hb
    refine wq_aaln dX7_image_9 (kk_33 h) (by decide) g3 c5 ?_
    refine wp_st (ls' := [(0, .ref 0), (1, .int x1), (2, .null)]) dX7_image_10 rfl rfl rfl (Nat.le_of_ble_eq_true rfl) rfl ?_
    refine wp_ld (v := .null) dX7_image_11 rfl rfl rfl rfl ?_
    refine wp_jp dX7_image_12 rfl rfl ?_
    refine wq_new (m := n) dX7_image_15 rfl rfl en (by rcases hb with e | e | e <;> subst e <;> rfl) rfl ?_
    refine wp_pu (st' := [.ref n, .ref n]) dX7_image_18 rfl rfl ?_
    refine wp_call (M' := mX5_init) (av := [.ref n]) (rest := [.ref n]) dX7_image_19 rfl rfl rfl rfl ?_
    refine stW h hb ?_
    have o := nSt_out (b := n) (σ := s1)
    have k33 : am_K (nSt n s1) 33 = (24, 3) := by rw [(o 33 (by omega)).2.2.2]; exact kk_33 h
    have k0 : am_K (nSt n s1) 0 = (7, 0) := by rw [(o 0 (by omega)).2.2.2]; exact kk_0 h
    have r01 : am_R (nSt n s1) 0 1 = some 33 := by rw [(o 0 (by omega)).2.2.1]; exact rr_0_1 h
    have kn : am_K (nSt n s1) n = (5, 0) := (ntK hb 0 (by omega)).trans (k0_st hb)
    show am_WP (d + 2) mX7_image 22 [(0, .ref 0), (1, .int x1), (2, .null)] [.ref n] (nSt n s1) Q
    refine wp_st (ls' := [(0, .ref 0), (1, .int x1), (2, .ref n)]) dX7_image_22 rfl rfl rfl (Nat.le_of_ble_eq_true rfl) rfl ?_
    refine wp_ld (v := .ref 0) dX7_image_23 rfl rfl rfl rfl ?_
    refine wp_gr dX7_image_24 rfl rfl k0 r01 ?_
    refine wp_ld (v := .int x1) dX7_image_27 rfl rfl rfl rfl ?_
    refine wp_ld (v := .ref n) dX7_image_28 rfl rfl rfl rfl ?_
    refine wp_aast dX7_image_29 k33 (by decide) g3 kn rfl ?_
    refine wp_ld (v := .ref n) dX7_image_30 rfl rfl rfl rfl ?_
    refine wp_ld (v := .ref 0) dX7_image_31 rfl rfl rfl rfl ?_
    refine wp_gr dX7_image_32 rfl rfl (kk_0 h') (rr_0_0 h') ?_
    refine c_u dX7_image_35 rfl rfl rfl (am_inv_v rfl (kk_f h' (kf_new hb)) rfl rfl rfl) (s_X5_copyFrom h' (kf_new hb) (kf_1 h')) k (fun s7 h k => ?_)
    exact wp_end dX7_image_38 rfl rfl (hP _ _ (ok_s k) (sh_E h))
  · have f6 := kf_img h c5
    refine wq_aald dX7_image_9 (kk_33 h) (by decide) g3 c5 ?_
    refine wp_st (ls' := [(0, .ref 0), (1, .int x1), (2, .ref t4)]) dX7_image_10 rfl rfl rfl (Nat.le_of_ble_eq_true rfl) rfl ?_
    refine wp_ld (v := .ref t4) dX7_image_11 rfl rfl rfl rfl ?_
    refine wp_jp dX7_image_12 rfl rfl ?_
    refine wp_ld (v := .ref t4) dX7_image_30 rfl rfl rfl rfl ?_
    refine wp_ld (v := .ref 0) dX7_image_31 rfl rfl rfl rfl ?_
    refine wp_gr dX7_image_32 rfl rfl (kk_0 h) (rr_0_0 h) ?_
    refine c_u dX7_image_35 rfl rfl rfl (am_inv_v rfl (kk_f h f6) rfl rfl rfl) (s_X5_copyFrom h f6 (kf_1 h)) k (fun s7 h k => ?_)
    exact wp_end dX7_image_38 rfl rfl (hP _ _ (ok_s k) (sh_E h))
end IM2
