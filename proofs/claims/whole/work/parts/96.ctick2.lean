/-! how the joints compute -/
theorem bi_s {R : Type} {v : Int32} {s : am_S} {g : Int32 → am_S → Option R} : am_bi (some (.inl (some (.int v)), s)) g = g v s := rfl
theorem bl_s {R : Type} {v : Int64} {s : am_S} {g : Int64 → am_S → Option R} : am_bl (some (.inl (some (.long v)), s)) g = g v s := rfl
theorem bu_s {R : Type} {s : am_S} {g : am_S → Option R} : am_bu (some (.inl none, s)) g = g s := rfl
theorem bv_s {R : Type} {v : Value} {s : am_S} {g : Value → am_S → Option R} : am_bv (some (.inl (some v), s)) g = g v s := rfl
theorem ti_s {v : Int32} {s : am_S} {g : Int32 → am_S → am_F} : am_ti (some (.inl (some (.int v)), s)) g = g v s := rfl
theorem tu_s {s : am_S} {g : am_S → am_F} : am_tu (some (.inl none, s)) g = g s := rfl
theorem tv_s {v : Value} {s : am_S} {g : Value → am_S → am_F} : am_tv (some (.inl (some v), s)) g = g v s := rfl
theorem tl_s {v : Int64} {s : am_S} {g : Int64 → am_S → am_F} : am_tl (some (.inl (some (.long v)), s)) g = g v s := rfl
theorem tu_x {e : Nat} {s : am_S} {g : am_S → am_F} : am_tu (some (.inr e, s)) g = some (.inr e, s) := rfl
theorem tv_x {e : Nat} {s : am_S} {g : Value → am_S → am_F} : am_tv (some (.inr e, s)) g = some (.inr e, s) := rfl
theorem ti_x {e : Nat} {s : am_S} {g : Int32 → am_S → am_F} : am_ti (some (.inr e, s)) g = some (.inr e, s) := rfl
theorem lm_r {E : Type} {r : am_O × am_S} {g : E → am_S → am_F} : am_lm (some (.inl r)) g = some r := rfl
theorem lm_e {E : Type} {e : E} {s : am_S} {g : E → am_S → am_F} : am_lm (some (.inr (e, s))) g = g e s := rfl
theorem ll_e {E E' : Type} {e : E} {s : am_S} {g : E → am_S → am_FE E'} : am_ll (some (.inr (e, s))) g = g e s := rfl
theorem mv_r {R : Type} {a : Nat} {A : Option R} {B : Nat → Option R} : am_mv (.ref a) A B = B a := rfl
theorem le_s {α R : Type} {v : α} {g : α → Option R} : ax_le v g = g v := rfl
theorem jn_s {T R : Type} {J : T → am_S → Option R} {b : (T → am_S → Option R) → Option R} : am_jn J b = b J := rfl
section CT2
variable {s : am_S} {lw : Nat → Int32} {A V e : Int32} {Ld : Int64} {dr : List T3} {cr : List T2}
theorem turn_is {pu : Int64} : ∃ s', f_X1_turnNose pu s = some (.inl none, s') ∧ fr [41] s s' ∧ am_L s' = am_L s ∧ (∀ k, k ≠ 8 → k ≠ 9 → k ≠ 13 → k ≠ 14 → am_I s' 41 k = am_I s 41 k) ∧
    am_I s' 41 9 = trn (am_I s 41 9) pu (am_I s 2 21) ∧ am_I s' 41 8 = ((am_I s 41 8 + trn (am_I s 41 9) pu (am_I s 2 21)) &&& 1023) ∧ am_I s' 41 13 = am_I s 41 13 + trn (am_I s 41 9) pu (am_I s 2 21) ∧
    am_I s' 41 14 = (if trn (am_I s 41 9) pu (am_I s 2 21) < -2 then am_I s 41 11 else if trn (am_I s 41 9) pu (am_I s 2 21) ≤ 2 then am_I s 41 14 else am_I s 41 11) := by
  have ek : ∀ v, f_X7_keptWithin v 200 s = some (.inl (some (.int (kpt v 200))), s) := fun v => rfl
  unfold f_X1_turnNose
  rw [le_s, ek, bi_s, jn_s]
  have et : kpt ((am_I s 41 9).toInt64 + pu - ((am_I s 41 9).toInt64 + pu) * (am_I s 2 21).toInt64 / 10) 200 = trn (am_I s 41 9) pu (am_I s 2 21) := rfl
  rw [et]
  generalize trn (am_I s 41 9) pu (am_I s 2 21) = w
  have f1 : fr [41] s (am_sI (am_sI (am_sI s 41 9 w) 41 8 ((am_I s 41 8 + w) &&& 1023)) 41 13 (am_I s 41 13 + w)) := ((fr.refl.sI (by simp)).sI (by simp)).sI (by simp)
  by_cases c1 : w < -2
  · refine ⟨_, if_pos c1, f1.sI (by simp), rfl, ?_, ?_, ?_, ?_, ?_⟩
    · intro k h1 h2 h3 h4
      rw [I_sI, if_neg (by omega), I_sI, if_neg (by omega), I_sI, if_neg (by omega), I_sI, if_neg (by omega)]
    · rw [I_sI, if_neg (by omega), I_sI, if_neg (by omega), I_sI, if_neg (by omega), I_sI, if_pos ⟨rfl, rfl⟩]
    · rw [I_sI, if_neg (by omega), I_sI, if_neg (by omega), I_sI, if_pos ⟨rfl, rfl⟩]
    · rw [I_sI, if_neg (by omega), I_sI, if_pos ⟨rfl, rfl⟩]
    · rw [I_sI, if_pos ⟨rfl, rfl⟩, if_pos c1, I_sI, if_neg (by omega), I_sI, if_neg (by omega), I_sI, if_neg (by omega)]
  · by_cases c2 : w ≤ 2
    · refine ⟨_, (if_neg c1).trans (if_pos c2), f1, rfl, ?_, ?_, ?_, ?_, ?_⟩
      · intro k h1 h2 h3 h4
        rw [I_sI, if_neg (by omega), I_sI, if_neg (by omega), I_sI, if_neg (by omega)]
      · rw [I_sI, if_neg (by omega), I_sI, if_neg (by omega), I_sI, if_pos ⟨rfl, rfl⟩]
      · rw [I_sI, if_neg (by omega), I_sI, if_pos ⟨rfl, rfl⟩]
      · rw [I_sI, if_pos ⟨rfl, rfl⟩]
      · rw [if_neg c1, if_pos c2, I_sI, if_neg (by omega), I_sI, if_neg (by omega), I_sI, if_neg (by omega)]
    · refine ⟨_, (if_neg c1).trans (if_neg c2), f1.sI (by simp), rfl, ?_, ?_, ?_, ?_, ?_⟩
      · intro k h1 h2 h3 h4
        rw [I_sI, if_neg (by omega), I_sI, if_neg (by omega), I_sI, if_neg (by omega), I_sI, if_neg (by omega)]
      · rw [I_sI, if_neg (by omega), I_sI, if_neg (by omega), I_sI, if_neg (by omega), I_sI, if_pos ⟨rfl, rfl⟩]
      · rw [I_sI, if_neg (by omega), I_sI, if_neg (by omega), I_sI, if_pos ⟨rfl, rfl⟩]
      · rw [I_sI, if_neg (by omega), I_sI, if_pos ⟨rfl, rfl⟩]
      · rw [I_sI, if_pos ⟨rfl, rfl⟩, if_neg c1, if_neg c2, I_sI, if_neg (by omega), I_sI, if_neg (by omega), I_sI, if_neg (by omega)]
theorem cF_fr {A : List Nat} {s' : am_S} (h : cF s) (f : fr A s s') (h1 : 3000005 ∉ A) (h2 : 3000006 ∉ A) : cF s' := by
  refine ⟨fun k hk => ?_, fun k hk => ?_⟩
  · rw [f.I h1]; exact h.1 k hk
  · rw [f.I h2]; exact h.2 k hk
theorem push_is {p : Nat} {lf dg : Int64} (hf : cF s) (hp : p < 64) (hl : dr.length ≤ 4) (hc : cR3 s 5 dr) : ∃ s', (∀ K : am_S → am_F, am_bi (f_X7_sine (oN p) s) (fun v18 s17 => am_bi (f_X7_cosine (oN p) s17) (fun v20 s19 =>
    am_bi (f_X7_keptWithin ((am_I s19 41 6).toInt64 + ((((-dg) * v20.toInt64) - (lf * v18.toInt64)) / (1000 : Int64))) (2000 : Int32) s19) (fun v22 s21 =>
      am_bi (f_X1_pullNow (am_sI s21 41 6 v22)) (fun v24 s23 =>
        am_bi (f_X7_keptWithin (((am_I s21 41 7).toInt64 + ((((-dg) * v18.toInt64) + (lf * v20.toInt64)) / (1000 : Int64))) - v24.toInt64) (2000 : Int32) s23) (fun v26 s25 => K (am_sI s25 41 7 v26)))))) = K s') ∧ fr [41] s s' ∧ am_L s' = am_L s ∧ (∀ k, k ≠ 6 → k ≠ 7 → am_I s' 41 k = am_I s 41 k) ∧
    am_I s' 41 6 = kpt ((am_I s 41 6).toInt64 + (((-dg) * (Int32.ofInt (cs p)).toInt64) - (lf * (Int32.ofInt (sn p)).toInt64)) / 1000) 2000 ∧
    am_I s' 41 7 = kpt (((am_I s 41 7).toInt64 + (((-dg) * (Int32.ofInt (sn p)).toInt64) + (lf * (Int32.ofInt (cs p)).toInt64)) / 1000) - (pul (am_I s 41 11) (am_I s 2 18) dr).toInt64) 2000 := by
  have ek : ∀ v s, f_X7_keptWithin v 2000 s = some (.inl (some (.int (kpt v 2000))), s) := fun v s => rfl
  generalize hw : kpt ((am_I s 41 6).toInt64 + (((-dg) * (Int32.ofInt (cs p)).toInt64) - (lf * (Int32.ofInt (sn p)).toInt64)) / 1000) 2000 = w
  have hpn := pull_is (s := am_sI s 41 6 w) (dr := dr) hl (tk := am_I s 41 11) (by rw [I_sI, if_neg (by omega)]) (hc.same (by rw [I_ne (by decide)]) (by rw [I_ne (by decide)]))
  rw [I_ne (show ¬ 2 = 41 by decide)] at hpn
  refine ⟨am_sI (am_sI s 41 6 w) 41 7 (kpt (((am_I s 41 7).toInt64 + (((-dg) * (Int32.ofInt (sn p)).toInt64) + (lf * (Int32.ofInt (cs p)).toInt64)) / 1000) - (pul (am_I s 41 11) (am_I s 2 18) dr).toInt64) 2000), fun K => ?_, (fr.refl.sI (by simp)).sI (by simp), rfl, ?_, ?_, ?_⟩
  · rw [c_sine hf hp, bi_s, c_cosine hf hp, bi_s, ek, bi_s, hw, hpn, bi_s, ek, bi_s]
  · intro k h1 h2
    rw [I_sI, if_neg (by omega), I_sI, if_neg (by omega)]
  · rw [I_sI, if_neg (by omega), I_sI, if_pos ⟨rfl, rfl⟩]
  · rw [I_sI, if_pos ⟨rfl, rfl⟩]
theorem move_is : ∃ s', f_X1_move s = some (.inl none, s') ∧ fr [41] s s' ∧ am_L s' = am_L s ∧ (∀ k, k ≠ 4 → k ≠ 5 → k ≠ 7 → k ≠ 10 → k ≠ 12 → am_I s' 41 k = am_I s 41 k) ∧
    am_I s' 41 10 = am_I s 41 4 ∧ am_I s' 41 4 = am_I s 41 4 + am_I s 41 6 ∧
    am_I s' 41 5 = (if am_I s 2 22 = -1 then am_I s 41 5 + am_I s 41 7 else if am_I s 41 5 + am_I s 41 7 ≤ 100 * am_I s 2 22 then am_I s 41 5 + am_I s 41 7 else 100 * am_I s 2 22) ∧
    am_I s' 41 7 = (if am_I s 2 22 = -1 then am_I s 41 7 else if am_I s 41 5 + am_I s 41 7 ≤ 100 * am_I s 2 22 then am_I s 41 7 else (-am_I s 41 7) / 2) ∧
    am_I s' 41 12 = am_max (am_I s 41 12) (if am_I s 2 22 = -1 then am_I s 41 5 + am_I s 41 7 else if am_I s 41 5 + am_I s 41 7 ≤ 100 * am_I s 2 22 then am_I s 41 5 + am_I s 41 7 else 100 * am_I s 2 22) := by
  unfold f_X1_move
  rw [jn_s]
  have plain : ∃ s', (some (Sum.inl none, am_sI (am_sI (am_sI (am_sI s 41 10 (am_I s 41 4)) 41 4 (am_I s 41 4 + am_I s 41 6)) 41 5 (am_I s 41 5 + am_I s 41 7)) 41 12 (am_max (am_I (am_sI (am_sI (am_sI s 41 10 (am_I s 41 4)) 41 4 (am_I s 41 4 + am_I s 41 6)) 41 5 (am_I s 41 5 + am_I s 41 7)) 41 12) (am_I (am_sI (am_sI (am_sI s 41 10 (am_I s 41 4)) 41 4 (am_I s 41 4 + am_I s 41 6)) 41 5 (am_I s 41 5 + am_I s 41 7)) 41 5))) : am_F) = some (.inl none, s') ∧ fr [41] s s' ∧ am_L s' = am_L s ∧ (∀ k, k ≠ 4 → k ≠ 5 → k ≠ 7 → k ≠ 10 → k ≠ 12 → am_I s' 41 k = am_I s 41 k) ∧ am_I s' 41 10 = am_I s 41 4 ∧ am_I s' 41 4 = am_I s 41 4 + am_I s 41 6 ∧ am_I s' 41 5 = am_I s 41 5 + am_I s 41 7 ∧ am_I s' 41 7 = am_I s 41 7 ∧ am_I s' 41 12 = am_max (am_I s 41 12) (am_I s 41 5 + am_I s 41 7) := by
    refine ⟨_, rfl, (((fr.refl.sI (by simp)).sI (by simp)).sI (by simp)).sI (by simp), rfl, ?_, ?_, ?_, ?_, ?_, ?_⟩
    · intro k h1 h2 h3 h4 h5
      rw [I_sI, if_neg (by omega), I_sI, if_neg (by omega), I_sI, if_neg (by omega), I_sI, if_neg (by omega)]
    · rw [I_sI, if_neg (by omega), I_sI, if_neg (by omega), I_sI, if_neg (by omega), I_sI, if_pos ⟨rfl, rfl⟩]
    · rw [I_sI, if_neg (by omega), I_sI, if_neg (by omega), I_sI, if_pos ⟨rfl, rfl⟩]
    · rw [I_sI, if_neg (by omega), I_sI, if_pos ⟨rfl, rfl⟩]
    · rw [I_sI, if_neg (by omega), I_sI, if_neg (by omega), I_sI, if_neg (by omega), I_sI, if_neg (by omega)]
    · rw [I_sI, if_pos ⟨rfl, rfl⟩, I_sI, if_neg (by omega), I_sI, if_neg (by omega), I_sI, if_neg (by omega), I_sI, if_pos ⟨rfl, rfl⟩]
  by_cases c1 : am_I s 2 22 = -1
  · rw [if_pos c1, if_pos c1, if_pos c1]
    exact plain
  · by_cases c2 : am_I s 41 5 + am_I s 41 7 ≤ 100 * am_I s 2 22
    · rw [if_neg c1, if_neg c1, if_neg c1, if_pos c2, if_pos c2, if_pos c2]
      exact plain
    · rw [if_neg c1, if_neg c1, if_neg c1, if_neg c2, if_neg c2, if_neg c2]
      refine ⟨_, rfl, (((((fr.refl.sI (by simp)).sI (by simp)).sI (by simp)).sI (by simp)).sI (by simp)).sI (by simp), rfl, ?_, ?_, ?_, ?_, ?_, ?_⟩
      · intro k h1 h2 h3 h4 h5
        rw [I_sI, if_neg (by omega), I_sI, if_neg (by omega), I_sI, if_neg (by omega), I_sI, if_neg (by omega), I_sI, if_neg (by omega), I_sI, if_neg (by omega)]
      · rw [I_sI, if_neg (by omega), I_sI, if_neg (by omega), I_sI, if_neg (by omega), I_sI, if_neg (by omega), I_sI, if_neg (by omega), I_sI, if_pos ⟨rfl, rfl⟩]
      · rw [I_sI, if_neg (by omega), I_sI, if_neg (by omega), I_sI, if_neg (by omega), I_sI, if_neg (by omega), I_sI, if_pos ⟨rfl, rfl⟩]
      · rw [I_sI, if_neg (by omega), I_sI, if_neg (by omega), I_sI, if_pos ⟨rfl, rfl⟩]
      · rw [I_sI, if_neg (by omega), I_sI, if_pos ⟨rfl, rfl⟩]
      · rw [I_sI, if_pos ⟨rfl, rfl⟩, I_sI, if_neg (by omega), I_sI, if_neg (by omega), I_sI, if_neg (by omega), I_sI, if_neg (by omega), I_sI, if_neg (by omega), I_sI, if_neg (by omega), I_sI, if_pos ⟨rfl, rfl⟩]
end CT2
