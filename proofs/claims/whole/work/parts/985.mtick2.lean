section MT2
variable {s : am_S} {lw : Nat → Int32} {A V e : Int32} {Ld : Int64} {dr : List T3} {cr : List T2}
theorem heavy_is : f_X8_heavy s = some (.inl (some (.long ((am_I s 55 24) + (((am_I s 55 24) * (am_I s 56 7)) / (100 : Int32))).toInt64)), s) := rfl
theorem m_air (hE : mE s (lw, A, V, Ld, e, dr, cr)) (oL : 0 < Ld.toInt) (odr : dr.length ≤ 4) {vx vy ns sp tk : Int32} (f33 : am_I s 55 33 = vx) (f34 : am_I s 55 34 = vy) (f35 : am_I s 55 35 = ns) (f36 : am_I s 55 36 = sp) (f37 : am_I s 55 37 = tk) (o1 : -2000 ≤ vx.toInt ∧ vx.toInt ≤ 2000) (o2 : -2000 ≤ vy.toInt ∧ vy.toInt ≤ 2000) (o3 : 0 ≤ ns.toInt ∧ ns.toInt ≤ 1023) :
    ∃ s', f_X8_air e s = some (.inl none, s') ∧ fr [55] s s' ∧ (∀ k, k ≠ 33 → k ≠ 34 → k ≠ 35 → k ≠ 36 → am_I s' 55 k = am_I s 55 k) ∧
      am_I s' 55 36 = trn sp (((e.toInt64 * qv vx vy - V.toInt64 * lft lw A Ld (atk ns (pth vx.toInt vy.toInt)) (qv vx vy)) * (lw 20).toInt64) / 1000) (lw 21) ∧
      am_I s' 55 35 = ((ns + trn sp (((e.toInt64 * qv vx vy - V.toInt64 * lft lw A Ld (atk ns (pth vx.toInt vy.toInt)) (qv vx vy)) * (lw 20).toInt64) / 1000) (lw 21)) &&& 1023) ∧
      am_I s' 55 33 = kpt (vx.toInt64 + (((-drg lw A Ld (atk ns (pth vx.toInt vy.toInt)) (qv vx vy)) * (Int32.ofInt (cs (pth vx.toInt vy.toInt))).toInt64) - (lft lw A Ld (atk ns (pth vx.toInt vy.toInt)) (qv vx vy) * (Int32.ofInt (sn (pth vx.toInt vy.toInt))).toInt64)) / 1000) 2000 ∧
      am_I s' 55 34 = kpt ((vy.toInt64 + (((-drg lw A Ld (atk ns (pth vx.toInt vy.toInt)) (qv vx vy)) * (Int32.ofInt (sn (pth vx.toInt vy.toInt))).toInt64) + (lft lw A Ld (atk ns (pth vx.toInt vy.toInt)) (qv vx vy) * (Int32.ofInt (cs (pth vx.toInt vy.toInt))).toInt64)) / 1000) - (pul tk (lw 18) dr).toInt64) 2000 := by
  have hp := pth_lt vx.toInt vy.toInt
  have ha := atk_b ns (pth vx.toInt vy.toInt)
  obtain ⟨n, a1, a2, a3⟩ := abs_b (b := 8) (by omega) ha
  have hv : ((am_I s 55 24) + (((am_I s 55 24) * (am_I s 56 7)) / (100 : Int32))).toInt64 * (am_I s 56 9).toInt64 = Ld := hE.2.2.2.1
  have hA : am_I s 55 23 = A := hE.2.1
  have hn0 : ¬ Ld = 0 := by
    intro hh
    rw [hh] at oL
    have : (0 : Int64).toInt = 0 := rfl
    omega
  have rest := air_c (s := s) (p := pth vx.toInt vy.toInt) (a := atk ns (pth vx.toInt vy.toInt)) (lf := lft lw A Ld (atk ns (pth vx.toInt vy.toInt)) (qv vx vy)) hE oL odr hp ha f33 f34 f35 f36 f37 o3 (q := qv vx vy) hv
  have i1 : (13 : Int32) + am_abs (atk ns (pth vx.toInt vy.toInt)) = oN (13 + n) := by rw [a1]; exact oN_addR
  have ln : am_I s 56 (13 + n) = lw n := by
    have := hE.1 n (by omega)
    unfold lp at this
    rw [if_pos (by omega)] at this
    exact this
  have l0 : am_I s 56 13 = lw 0 := hE.1 0 (by omega)
  have eB : airB e (oN (pth vx.toInt vy.toInt)) (atk ns (pth vx.toInt vy.toInt)) s = airC e (oN (pth vx.toInt vy.toInt)) (atk ns (pth vx.toInt vy.toInt)) (qv vx vy) ((am_I s 55 24) + (((am_I s 55 24) * (am_I s 56 7)) / (100 : Int32))).toInt64 (lft lw A Ld (atk ns (pth vx.toInt vy.toInt)) (qv vx vy)) s s := by
    rw [airB_e]
    have hq : (vx.toInt64 * vx.toInt64 + vy.toInt64 * vy.toInt64) / 1000 = qv vx vy := rfl
    have hn1 : ¬ ((am_I s 55 24) + (((am_I s 55 24) * (am_I s 56 7)) / (100 : Int32))).toInt64 * (am_I s 56 9).toInt64 = 0 := by rw [hv]; exact hn0
    rw [f33, f34, hq, le_s, heavy_is, bl_s, i1, if_pos (by rw [am_in_oN (by omega)]; exact decide_eq_true (by omega)), if_pos hn1, oN_nat (by omega), ln, hA, hv, le_s, jn_s]
    have hfr : (lw n).toInt64 * qv vx vy * A.toInt64 / Ld = frc A Ld (lw n) (qv vx vy) := rfl
    rw [hfr]
    by_cases c1 : 0 ≤ atk ns (pth vx.toInt vy.toInt)
    · rw [if_pos c1]
      have el : lft lw A Ld (atk ns (pth vx.toInt vy.toInt)) (qv vx vy) = frc A Ld (lw n) (qv vx vy) := by unfold lft; rw [if_pos c1, a3]
      by_cases c2 : atk ns (pth vx.toInt vy.toInt) = 0
      · rw [if_pos c2]
        show am_jn _ _ = _
        have hn : n = 0 := by
          rw [c2] at a1
          have h0 : am_abs (0 : Int32) = 0 := rfl
          rw [h0] at a1
          have := (oN_eq (a := 0) (b := n) (by omega) (by omega)).mp a1
          omega
        rw [jn_s, if_pos c2, if_pos hn0, l0, hA, el, hn]
        rfl
      · rw [if_neg c2]
        show am_jn _ _ = _
        rw [jn_s, if_neg c2, el]
    · rw [if_neg c1]
      show am_jn _ _ = _
      have el : lft lw A Ld (atk ns (pth vx.toInt vy.toInt)) (qv vx vy) = - frc A Ld (lw n) (qv vx vy) := by unfold lft; rw [if_neg c1, a3]
      have c2 : ¬ atk ns (pth vx.toInt vy.toInt) = 0 := by
        intro hh
        apply c1
        rw [hh]
        exact Int32.le_refl 0
      rw [jn_s, if_neg c2, el]
  rw [← eB] at rest
  rw [air_e, m_path o1 o2 f33 f34 hE.2.2.2.2.2.2, bi_s, jn_s, f35]
  obtain ⟨t1, t2, t3⟩ := atk_is (ns := ns) (p := pth vx.toInt vy.toInt)
  by_cases c1 : ns / 16 - oN (pth vx.toInt vy.toInt) ≤ 31
  · rw [if_pos c1]
    by_cases c2 : (-32 : Int32) ≤ ns / 16 - oN (pth vx.toInt vy.toInt)
    · rw [if_pos c2]
      show ∃ s', am_bi _ _ = _ ∧ _
      rw [kept_is, bi_s, t1 c1 c2]
      exact rest
    · rw [if_neg c2]
      show ∃ s', am_bi _ _ = _ ∧ _
      rw [kept_is, bi_s, t2 c1 c2]
      exact rest
  · rw [if_neg c1]
    show ∃ s', am_bi _ _ = _ ∧ _
    rw [kept_is, bi_s, t3 c1]
    exact rest
/-- the crates of the model -/
theorem mstop_in (hl : cr.length ≤ 3) {lx x y : Int32} (h31 : am_I s 55 31 = x) (h32 : am_I s 55 32 = y) (h5 : am_I s 56 5 = oN cr.length) (hc : hp2 (am_I s 56) 246 2 cr) : ∀ (m i : Nat) (p : Int32), cr.length - i < m → i ≤ cr.length → L_X8_tick_119 m lx p (oN i) s = some (.inr (stp lx x y p (cr.drop i), s)) := by
  intro m
  induction m with
  | zero => intro i p hm; exact absurd hm (Nat.not_lt_zero _)
  | succ m ih =>
    intro i p hm hi
    rw [L_X8_tick_119, h5]
    by_cases e : cr.length ≤ i
    · rw [if_pos ((oN_le (by omega) (by omega)).mpr e), List.drop_eq_nil_of_le e]
      rfl
    · have hi2 : i < cr.length := by omega
      have hd : cr.drop i = cr[i] :: cr.drop (i + 1) := List.drop_eq_getElem_cons hi2
      obtain ⟨g1, g2⟩ := hc i cr[i] (List.getElem?_eq_getElem hi2)
      have e1 : (246 : Int32) + (2 : Int32) * oN i = oN (246 + 2 * i) := by rw [oN_mulR, oN_addR]
      have e2 : oN (246 + 2 * i) + 1 = oN (246 + 2 * i + 1) := oN_addL
      have step : ∀ p', L_X8_tick_119 m lx p' (oN i + 1) s = some (.inr (stp lx x y p' (cr.drop (i + 1)), s)) := by
        intro p'
        rw [oN_addL]
        exact ih (i + 1) p' (by omega) (by omega)
      rw [if_neg (fun hh => e ((oN_le (by omega) (by omega)).mp hh)), e1, e2, if_pos (by rw [am_in_oN (by omega)]; exact decide_eq_true (by omega)), oN_nat (by omega), oN_nat (by omega), g1, g2, h31, h32, hd, stp]
      by_cases c1 : cr[i].1 ≤ lx
      · rw [if_pos c1, if_pos c1]; exact step p
      · rw [if_neg c1, if_neg c1]
        by_cases c2 : x < cr[i].1
        · rw [if_pos c2, if_pos c2]; exact step p
        · rw [if_neg c2, if_neg c2, if_pos (by rw [am_in_oN (by omega)]; exact decide_eq_true (by omega))]
          by_cases c3 : cr[i].2 < y
          · rw [if_pos c3, if_pos c3]; exact step p
          · rw [if_neg c3, if_neg c3]
            by_cases c4 : p = 0
            · rw [if_pos c4, if_pos c4]; exact step _
            · rw [if_neg c4, if_neg c4]
              by_cases c5 : p ≤ cr[i].1
              · rw [if_pos c5, if_pos c5]; exact step p
              · rw [if_neg c5, if_neg c5]; exact step _
end MT2
