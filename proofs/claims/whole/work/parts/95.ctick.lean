/-! ===== a flight's state; its tick ===== -/
/-- x, y, vx, vy, nose, spin, ticks, high, turned, last uneven tick, ending -/
abbrev hF : Type := Int32 × Int32 × Int32 × Int32 × Int32 × Int32 × Int32 × Int32 × Int32 × Int32 × Int32
/-- law, area, lever, load, ears, draughts, crates -/
abbrev hE : Type := (Nat → Int32) × Int32 × Int32 × Int64 × Int32 × List T3 × List T2
def tkF (E : hE) (F : hF) : hF :=
  match E, F with
  | (lw, A, V, Ld, e, dr, cr), (x, y, vx, vy, ns, sp, tk, hi, tu, un, _) =>
    let p := pth vx.toInt vy.toInt
    let a := atk ns p
    let q := qv vx vy
    let lf := lft lw A Ld a q
    let dg := drg lw A Ld a q
    let sp1 := trn sp (((e.toInt64 * q - V.toInt64 * lf) * (lw 20).toInt64) / 1000) (lw 21)
    let vx1 := kpt (vx.toInt64 + (((-dg) * (Int32.ofInt (cs p)).toInt64) - (lf * (Int32.ofInt (sn p)).toInt64)) / 1000) 2000
    let vy1 := kpt ((vy.toInt64 + (((-dg) * (Int32.ofInt (sn p)).toInt64) + (lf * (Int32.ofInt (cs p)).toInt64)) / 1000) - (pul (tk + 1) (lw 18) dr).toInt64) 2000
    let y2 := if lw 22 = -1 then y + vy1 else if y + vy1 ≤ 100 * lw 22 then y + vy1 else 100 * lw 22
    let vy2 := if lw 22 = -1 then vy1 else if y + vy1 ≤ 100 * lw 22 then vy1 else (-vy1) / 2
    let st := stp x (x + vx1) y2 0 cr
    (if st = 0 then x + vx1 else st, y2, vx1, vy2, (ns + sp1) &&& 1023, sp1, tk + 1, am_max hi y2, tu + sp1, if sp1 < -2 then tk + 1 else if sp1 ≤ 2 then un else tk + 1, if st = 0 then (if 0 < y2 then 0 else 1) else 2)
def okFl (F : hF) : Prop := (-2000 ≤ F.2.2.1.toInt ∧ F.2.2.1.toInt ≤ 2000) ∧ (-2000 ≤ F.2.2.2.1.toInt ∧ F.2.2.2.1.toInt ≤ 2000) ∧ (0 ≤ F.2.2.2.2.1.toInt ∧ F.2.2.2.2.1.toInt ≤ 1023) ∧ (-200 ≤ F.2.2.2.2.2.1.toInt ∧ F.2.2.2.2.2.1.toInt ≤ 200)
/-- the class's flight -/
def cFl (s : am_S) (F : hF) : Prop := am_I s 41 4 = F.1 ∧ am_I s 41 5 = F.2.1 ∧ am_I s 41 6 = F.2.2.1 ∧ am_I s 41 7 = F.2.2.2.1 ∧ am_I s 41 8 = F.2.2.2.2.1 ∧ am_I s 41 9 = F.2.2.2.2.2.1 ∧ am_I s 41 11 = F.2.2.2.2.2.2.1 ∧ am_I s 41 12 = F.2.2.2.2.2.2.2.1 ∧ am_I s 41 13 = F.2.2.2.2.2.2.2.2.1 ∧ am_I s 41 14 = F.2.2.2.2.2.2.2.2.2.1 ∧ am_I s 41 15 = F.2.2.2.2.2.2.2.2.2.2
/-- what a flight of the class is worked by -/
def cE (s : am_S) (E : hE) : Prop := (∀ k, k < 23 → am_I s 2 k = E.1 k) ∧ am_I s 37 4 = E.2.1 ∧ am_I s 37 8 = E.2.2.1 ∧ am_L s 41 3 = E.2.2.2.1 ∧ am_I s 41 2 = E.2.2.2.2.1 ∧ cR3 s 5 E.2.2.2.2.2.1 ∧ cR2 s 7 E.2.2.2.2.2.2
def okE (E : hE) : Prop := 0 < E.2.2.2.1.toInt ∧ E.2.2.2.2.2.1.length ≤ 4 ∧ E.2.2.2.2.2.2.length ≤ 3 ∧ (∀ q ∈ E.2.2.2.2.2.2, 1 ≤ q.1.toInt)
section CT
variable {s : am_S} {x y z : Int32} {lw : Nat → Int32} {A V e : Int32} {Ld : Int64} {dr : List T3} {cr : List T2}
theorem force_is {n : Int32} {q : Int64} (hl : am_L s 41 3 = Ld) (hp : 0 < Ld.toInt) (ha : am_I s 37 4 = A) : f_X1_force n q s = some (.inl (some (.long (frc A Ld n q))), s) := by
  have z0 : (0 : Int64).toInt = 0 := rfl
  unfold f_X1_force
  rw [hl, ha, if_neg (by rw [Int64.le_iff_toInt_le, z0]; omega), if_pos (by intro hh; rw [hh, z0] at hp; omega)]
  rfl
theorem attack_is {p : Nat} : f_X7_attackOf x (oN p) s = some (.inl (some (.int (atk x p))), s) := by
  unfold f_X7_attackOf am_jn atk
  by_cases h1 : (-32 : Int32) ≤ x / 16 - oN p
  · by_cases h2 : x / 16 - oN p < 32
    · show (if (-32 : Int32) ≤ x / 16 - oN p then _ else _) = _
      rw [if_pos h1, if_pos h2, if_pos h1, if_pos h2]
      rfl
    · show (if (-32 : Int32) ≤ x / 16 - oN p then _ else _) = _
      rw [if_pos h1, if_neg h2, if_pos h1, if_neg h2]
      rfl
  · show (if (-32 : Int32) ≤ x / 16 - oN p then _ else _) = _
    rw [if_neg h1, if_neg h1]
    rfl
theorem pull_in (hl : dr.length ≤ 4) {tk : Int32} (ht : am_I s 41 11 = tk) (hc : cR3 s 5 dr) : ∀ (m i : Nat) (p : Int32), dr.length - i < m → i ≤ dr.length → L_X1_pullNow_13 m p (oN i) s = some (.inr (pul tk p (dr.drop i), s)) := by
  intro m
  induction m with
  | zero => intro i p hm; exact absurd hm (Nat.not_lt_zero _)
  | succ m ih =>
    intro i p hm hi
    rw [L_X1_pullNow_13, hc.1]
    by_cases e : dr.length ≤ i
    · rw [if_pos ((oN_le (by omega) (by omega)).mpr e), List.drop_eq_nil_of_le e]
      rfl
    · have hi2 : i < dr.length := by omega
      have hd : dr.drop i = dr[i] :: dr.drop (i + 1) := List.drop_eq_getElem_cons hi2
      obtain ⟨g1, g2, g3⟩ := hc.2 i dr[i] (List.getElem?_eq_getElem hi2)
      rw [Nat.zero_add] at g1 g2 g3
      rw [if_neg (fun hh => e ((oN_le (by omega) (by omega)).mp hh)), f_get0 (by omega), hd]
      show (if am_I s 41 11 < am_I s (5 + 1) (3 * i) then _ else _) = _
      rw [ht, g1]
      have step : ∀ p', L_X1_pullNow_13 m p' (oN i + 1) s = some (.inr (pul tk p' (dr.drop (i + 1)), s)) := by
        intro p'
        rw [oN_addL]
        exact ih (i + 1) p' (by omega) (by omega)
      rw [pul]
      by_cases h1 : tk < dr[i].1
      · rw [if_pos h1, if_pos h1]; exact step p
      · rw [if_neg h1, if_neg h1, f_get1 (by omega)]
        show (if am_I s (5 + 1) (3 * i + 1) < tk then _ else _) = _
        rw [g2]
        by_cases h2 : dr[i].2.1 < tk
        · rw [if_pos h2, if_pos h2]; exact step p
        · rw [if_neg h2, if_neg h2, f_get2 (by omega)]
          show L_X1_pullNow_13 m (p - am_I s (5 + 1) (3 * i + 2)) (oN i + 1) s = _
          rw [g3]
          exact step _
theorem pull_is (hl : dr.length ≤ 4) {tk : Int32} (ht : am_I s 41 11 = tk) (hc : cR3 s 5 dr) : f_X1_pullNow s = some (.inl (some (.int (pul tk (am_I s 2 18) dr))), s) := by
  have h := pull_in hl ht hc ax_fuel 0 (am_I s 2 18) (by rw [ax_fuel_is]; omega) (by omega)
  have h' : L_X1_pullNow_13 ax_fuel (am_I s 2 18) 0 s = some (.inr (pul tk (am_I s 2 18) (dr.drop 0), s)) := h
  unfold f_X1_pullNow
  rw [h', List.drop_zero]
  rfl
def gN (p : Int32) : Int32 := if p = 0 then -1 else p
theorem note_in (hl : cr.length ≤ 3) (hb : ∀ q ∈ cr, 1 ≤ q.1.toInt) {lx x y : Int32} (h1 : am_I s 41 10 = lx) (h2 : am_I s 41 4 = x) (h3 : am_I s 41 5 = y) (hc : cR2 s 7 cr) : ∀ (m i : Nat) (p : Int32), cr.length - i < m → i ≤ cr.length → 0 ≤ p.toInt → L_X1_noteEnd_4 m (gN p) (oN i) s = some (.inr (gN (stp lx x y p (cr.drop i)), s)) := by
  intro m
  induction m with
  | zero => intro i p hm; exact absurd hm (Nat.not_lt_zero _)
  | succ m ih =>
    intro i p hm hi hp
    rw [L_X1_noteEnd_4, hc.1]
    by_cases e : cr.length ≤ i
    · rw [if_pos ((oN_le (by omega) (by omega)).mpr e), List.drop_eq_nil_of_le e]
      rfl
    · have hi2 : i < cr.length := by omega
      have hd : cr.drop i = cr[i] :: cr.drop (i + 1) := List.drop_eq_getElem_cons hi2
      obtain ⟨g1, g2⟩ := hc.2 i cr[i] (List.getElem?_eq_getElem hi2)
      have hq := hb _ (List.getElem_mem hi2)
      rw [Nat.zero_add] at g1 g2
      rw [if_neg (fun hh => e ((oN_le (by omega) (by omega)).mp hh)), f_get0 (by omega), hd]
      show (if am_I s (7 + 1) (3 * i) ≤ am_I s 41 10 then _ else _) = _
      rw [h1, g1]
      have step : ∀ p', 0 ≤ p'.toInt → L_X1_noteEnd_4 m (gN p') (oN i + 1) s = some (.inr (gN (stp lx x y p' (cr.drop (i + 1))), s)) := by
        intro p' hp'
        rw [oN_addL]
        exact ih (i + 1) p' (by omega) (by omega) hp'
      have n0 : ¬ cr[i].1 = 0 := by
        intro hh
        rw [hh, Int32.toInt_zero] at hq
        omega
      have g0 : gN cr[i].1 = cr[i].1 := by unfold gN; rw [if_neg n0]
      rw [stp]
      by_cases c1 : cr[i].1 ≤ lx
      · rw [if_pos c1, if_pos c1]; exact step p hp
      · rw [if_neg c1, if_neg c1, h2]
        by_cases c2 : x < cr[i].1
        · rw [if_pos c2, if_pos c2]; exact step p hp
        · rw [if_neg c2, if_neg c2, f_get1 (by omega)]
          show (if am_I s (7 + 1) (3 * i + 1) < am_I s 41 5 then _ else _) = _
          rw [g2, h3]
          by_cases c3 : cr[i].2 < y
          · rw [if_pos c3, if_pos c3]; exact step p hp
          · rw [if_neg c3, if_neg c3]
            by_cases c4 : p = 0
            · have : gN p = -1 := by unfold gN; rw [if_pos c4]
              rw [if_pos this, if_pos c4]
              have := step cr[i].1 (by omega)
              rw [g0] at this
              exact this
            · have hg : gN p = p := by unfold gN; rw [if_neg c4]
              have hn : ¬ gN p = -1 := by
                rw [hg]
                intro hh
                rw [hh] at hp
                have : (-1 : Int32).toInt = -1 := rfl
                omega
              rw [if_neg hn, if_neg c4, hg]
              by_cases c5 : p ≤ cr[i].1
              · rw [if_pos c5, if_pos c5]
                have := step p hp
                rw [hg] at this
                exact this
              · rw [if_neg c5, if_neg c5]
                have := step cr[i].1 (by omega)
                rw [g0] at this
                exact this
theorem stp_nn {lx x y : Int32} : ∀ {l : List T2} {p : Int32}, (∀ q ∈ l, 1 ≤ q.1.toInt) → 0 ≤ p.toInt → 0 ≤ (stp lx x y p l).toInt
  | [], p, _, hp => hp
  | q :: l, p, hb, hp => by
    have hq := hb q List.mem_cons_self
    rw [stp]
    apply stp_nn (fun z hz => hb z (List.mem_cons_of_mem _ hz))
    repeat' split
    all_goals omega
theorem note_is (hl : cr.length ≤ 3) (hb : ∀ q ∈ cr, 1 ≤ q.1.toInt) {lx x y : Int32} (h1 : am_I s 41 10 = lx) (h2 : am_I s 41 4 = x) (h3 : am_I s 41 5 = y) (hc : cR2 s 7 cr) : f_X1_noteEnd s = some (.inl none, if stp lx x y 0 cr = 0 then (if 0 < y then s else am_sI s 41 15 1) else am_sI (am_sI s 41 4 (stp lx x y 0 cr)) 41 15 2) := by
  have h := note_in hl hb h1 h2 h3 hc ax_fuel 0 0 (by rw [ax_fuel_is]; omega) (by omega) (by decide)
  have h' : L_X1_noteEnd_4 ax_fuel (-1) 0 s = some (.inr (gN (stp lx x y 0 (cr.drop 0)), s)) := h
  rw [List.drop_zero] at h'
  have hn := stp_nn (lx := lx) (x := x) (y := y) hb (show 0 ≤ (0 : Int32).toInt by decide)
  unfold f_X1_noteEnd
  rw [h']
  show (if gN (stp lx x y 0 cr) = -1 then _ else _) = _
  by_cases c : stp lx x y 0 cr = 0
  · have : gN (stp lx x y 0 cr) = -1 := by unfold gN; rw [if_pos c]
    rw [if_pos this, if_pos c, h3]
    by_cases c2 : 0 < y
    · rw [if_pos c2, if_pos c2]
    · rw [if_neg c2, if_neg c2]
  · have hg : gN (stp lx x y 0 cr) = stp lx x y 0 cr := by unfold gN; rw [if_neg c]
    have hn2 : ¬ gN (stp lx x y 0 cr) = -1 := by
      rw [hg]
      intro hh
      rw [hh] at hn
      have : (-1 : Int32).toInt = -1 := rfl
      omega
    rw [if_neg hn2, if_neg c, hg]
end CT
