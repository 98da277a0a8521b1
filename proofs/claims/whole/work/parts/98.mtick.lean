/-! ===== the model's tick ===== -/
noncomputable def airB (x1 v2 v7 : Int32) (s6 : am_S) : am_F :=
  ax_le ((((am_I s6 55 33).toInt64 * (am_I s6 55 33).toInt64) + ((am_I s6 55 34).toInt64 * (am_I s6 55 34).toInt64)) / (1000 : Int64)) (fun y8 =>
    am_bl (f_X8_heavy s6) (fun v10 s9 =>
      if am_in ((13 : Int32) + (am_abs v7)) 264 = true then
        if ¬ (v10 * (am_I s9 56 9).toInt64) = 0 then
          ax_le ((((am_I s9 56 (((13 : Int32) + (am_abs v7)).toNatClampNeg)).toInt64 * y8) * (am_I s9 55 23).toInt64) / (v10 * (am_I s9 56 9).toInt64)) (fun y13 =>
            am_jn (fun (e15 : Int64) s16 =>
              am_jn (fun (e18 : Int64) s19 =>
                if am_in ((22 : Int32) + (am_abs v7)) 264 = true then
                  if ¬ (v10 * (am_I s9 56 9).toInt64) = 0 then
                    ax_le ((((am_I s19 56 (((22 : Int32) + (am_abs v7)).toNatClampNeg)).toInt64 * y8) * (am_I s19 55 23).toInt64) / (v10 * (am_I s9 56 9).toInt64)) (fun y22 =>
                      ax_le ((am_I s19 55 36).toInt64 + ((((x1.toInt64 * y8) - ((am_I s19 55 27).toInt64 * e18)) * (am_I s19 56 10).toInt64) / (1000 : Int64))) (fun y23 =>
                        am_bi (f_X8_kept (y23 - ((y23 * (am_I s19 56 11).toInt64) / (10 : Int64))) (200 : Int32) s19) (fun v25 s24 =>
                          ax_le ((((am_I s24 55 35) + v25) + (1024 : Int32)) - (((am_I s24 55 35) + v25) + (1024 : Int32)) / (1024 : Int32) * (1024 : Int32)) (fun y26 =>
                            if am_in v2 64 = true then
                              if am_in v2 64 = true then
                                am_bi (f_X8_kept ((am_I s24 55 33).toInt64 + ((((-y22) * (am_I s24 66 v2.toNatClampNeg).toInt64) - (e18 * (am_I s24 65 v2.toNatClampNeg).toInt64)) / (1000 : Int64))) (2000 : Int32) (am_sI (am_sI s24 55 36 v25) 55 35 y26)) (fun v30 s29 =>
                                  if am_in v2 64 = true then
                                    if am_in v2 64 = true then
                                      am_bi (f_X8_pull s29) (fun v34 s33 =>
                                        am_bi (f_X8_kept (((am_I s29 55 34).toInt64 + ((((-y22) * (am_I s29 65 v2.toNatClampNeg).toInt64) + (e18 * (am_I s29 66 v2.toNatClampNeg).toInt64)) / (1000 : Int64))) - v34.toInt64) (2000 : Int32) s33) (fun v36 s35 =>
                                          some (.inl none, (am_sI (am_sI s35 55 34 v36) 55 33 v30))
                                        )
                                      )
                                    else none
                                  else none
                                )
                              else none
                            else none
                          )
                        )
                      )
                    )
                  else none
                else none
              ) (fun J17 =>
                if v7 = 0 then
                  if ¬ (v10 * (am_I s9 56 9).toInt64) = 0 then
                    J17 ((((am_I s16 56 13).toInt64 * y8) * (am_I s16 55 23).toInt64) / (v10 * (am_I s9 56 9).toInt64)) s16
                  else none
                else
                  J17 e15 s16
              )
            ) (fun J14 =>
              if 0 ≤ v7 then
                if v7 = 0 then
                  J14 (0 : Int64) s9
                else
                  J14 y13 s9
              else
                J14 (-y13) s9
            )
          )
        else none
      else none
    )
  )
noncomputable def airC (x1 v2 v7 : Int32) (y8 v10 e18 : Int64) (s9 s19 : am_S) : am_F :=
  if am_in ((22 : Int32) + (am_abs v7)) 264 = true then
    if ¬ (v10 * (am_I s9 56 9).toInt64) = 0 then
      ax_le ((((am_I s19 56 (((22 : Int32) + (am_abs v7)).toNatClampNeg)).toInt64 * y8) * (am_I s19 55 23).toInt64) / (v10 * (am_I s9 56 9).toInt64)) (fun y22 =>
        ax_le ((am_I s19 55 36).toInt64 + ((((x1.toInt64 * y8) - ((am_I s19 55 27).toInt64 * e18)) * (am_I s19 56 10).toInt64) / (1000 : Int64))) (fun y23 =>
          am_bi (f_X8_kept (y23 - ((y23 * (am_I s19 56 11).toInt64) / (10 : Int64))) (200 : Int32) s19) (fun v25 s24 =>
            ax_le ((((am_I s24 55 35) + v25) + (1024 : Int32)) - (((am_I s24 55 35) + v25) + (1024 : Int32)) / (1024 : Int32) * (1024 : Int32)) (fun y26 =>
              if am_in v2 64 = true then
                if am_in v2 64 = true then
                  am_bi (f_X8_kept ((am_I s24 55 33).toInt64 + ((((-y22) * (am_I s24 66 v2.toNatClampNeg).toInt64) - (e18 * (am_I s24 65 v2.toNatClampNeg).toInt64)) / (1000 : Int64))) (2000 : Int32) (am_sI (am_sI s24 55 36 v25) 55 35 y26)) (fun v30 s29 =>
                    if am_in v2 64 = true then
                      if am_in v2 64 = true then
                        am_bi (f_X8_pull s29) (fun v34 s33 =>
                          am_bi (f_X8_kept (((am_I s29 55 34).toInt64 + ((((-y22) * (am_I s29 65 v2.toNatClampNeg).toInt64) + (e18 * (am_I s29 66 v2.toNatClampNeg).toInt64)) / (1000 : Int64))) - v34.toInt64) (2000 : Int32) s33) (fun v36 s35 =>
                            some (.inl none, (am_sI (am_sI s35 55 34 v36) 55 33 v30))
                          )
                        )
                      else none
                    else none
                  )
                else none
              else none
            )
          )
        )
      )
    else none
  else none
theorem air_e {x1 : Int32} {s : am_S} : f_X8_air x1 s =
    am_bi (f_X8_path s) (fun v2 s1 =>
      am_jn (fun (e4 : Int32) s5 =>
        am_bi (f_X8_kept e4.toInt64 (8 : Int32) s5) (fun v7 s6 =>
          airB x1 v2 v7 s6
        )
      ) (fun J3 =>
        if (((am_I s1 55 35) / (16 : Int32)) - v2) ≤ (31 : Int32) then
          if (-32 : Int32) ≤ (((am_I s1 55 35) / (16 : Int32)) - v2) then
            J3 (((am_I s1 55 35) / (16 : Int32)) - v2) s1
          else
            J3 ((((am_I s1 55 35) / (16 : Int32)) - v2) + (64 : Int32)) s1
        else
          J3 ((((am_I s1 55 35) / (16 : Int32)) - v2) - (64 : Int32)) s1
      )
    ) := rfl
theorem airB_e {x1 v2 v7 : Int32} {s6 : am_S} : airB x1 v2 v7 s6 =
  ax_le ((((am_I s6 55 33).toInt64 * (am_I s6 55 33).toInt64) + ((am_I s6 55 34).toInt64 * (am_I s6 55 34).toInt64)) / (1000 : Int64)) (fun y8 =>
    am_bl (f_X8_heavy s6) (fun v10 s9 =>
      if am_in ((13 : Int32) + (am_abs v7)) 264 = true then
        if ¬ (v10 * (am_I s9 56 9).toInt64) = 0 then
          ax_le ((((am_I s9 56 (((13 : Int32) + (am_abs v7)).toNatClampNeg)).toInt64 * y8) * (am_I s9 55 23).toInt64) / (v10 * (am_I s9 56 9).toInt64)) (fun y13 =>
            am_jn (fun (e15 : Int64) s16 =>
              am_jn (fun (e18 : Int64) s19 =>
                airC x1 v2 v7 y8 v10 e18 s9 s19
              ) (fun J17 =>
                if v7 = 0 then
                  if ¬ (v10 * (am_I s9 56 9).toInt64) = 0 then
                    J17 ((((am_I s16 56 13).toInt64 * y8) * (am_I s16 55 23).toInt64) / (v10 * (am_I s9 56 9).toInt64)) s16
                  else none
                else
                  J17 e15 s16
              )
            ) (fun J14 =>
              if 0 ≤ v7 then
                if v7 = 0 then
                  J14 (0 : Int64) s9
                else
                  J14 y13 s9
              else
                J14 (-y13) s9
            )
          )
        else none
      else none
    )
  ) := rfl
/-- what a flight of the model is worked by -/
def mE (s : am_S) (E : hE) : Prop := (∀ k, k < 23 → am_I s 56 (lp k) = E.1 k) ∧ am_I s 55 23 = E.2.1 ∧ am_I s 55 27 = E.2.2.1 ∧ ((am_I s 55 24) + (((am_I s 55 24) * (am_I s 56 7)) / (100 : Int32))).toInt64 * (am_I s 56 9).toInt64 = E.2.2.2.1 ∧ (am_I s 56 4 = oN E.2.2.2.2.2.1.length ∧ hp3 (am_I s 56) 234 3 E.2.2.2.2.2.1) ∧ (am_I s 56 5 = oN E.2.2.2.2.2.2.length ∧ hp2 (am_I s 56) 246 2 E.2.2.2.2.2.2) ∧ mSn s 64
/-- the model's flight -/
def mFl (s : am_S) (F : hF) : Prop := am_I s 55 31 = F.1 ∧ am_I s 55 32 = F.2.1 ∧ am_I s 55 33 = F.2.2.1 ∧ am_I s 55 34 = F.2.2.2.1 ∧ am_I s 55 35 = F.2.2.2.2.1 ∧ am_I s 55 36 = F.2.2.2.2.2.1 ∧ am_I s 55 37 = F.2.2.2.2.2.2.1 ∧ am_I s 55 38 = F.2.2.2.2.2.2.2.1 ∧ am_I s 55 40 = F.2.2.2.2.2.2.2.2.1 ∧ am_I s 55 41 = F.2.2.2.2.2.2.1 - F.2.2.2.2.2.2.2.2.2.1 ∧ am_I s 55 39 = F.2.2.2.2.2.2.2.2.2.2
section MT
variable {s : am_S} {lw : Nat → Int32} {A V e : Int32} {Ld : Int64} {dr : List T3} {cr : List T2}
theorem atk_is {ns : Int32} {p : Nat} : (ns / 16 - oN p ≤ 31 → (-32 : Int32) ≤ ns / 16 - oN p → kpt (ns / 16 - oN p).toInt64 8 = atk ns p) ∧ (ns / 16 - oN p ≤ 31 → ¬ (-32 : Int32) ≤ ns / 16 - oN p → kpt (ns / 16 - oN p + 64).toInt64 8 = atk ns p) ∧ (¬ ns / 16 - oN p ≤ 31 → kpt (ns / 16 - oN p - 64).toInt64 8 = atk ns p) := by
  have t1 : (31 : Int32).toInt = 31 := rfl
  have t2 : (32 : Int32).toInt = 32 := rfl
  have t3 : (-32 : Int32).toInt = -32 := rfl
  unfold atk
  generalize ns / 16 - oN p = w
  refine ⟨?_, ?_, ?_⟩
  · intro h1 h2
    have h3 : w < 32 := by rw [Int32.lt_iff_toInt_lt, t2]; rw [Int32.le_iff_toInt_le, t1] at h1; omega
    rw [if_pos h2, if_pos h3]
  · intro h1 h2
    rw [if_neg h2]
  · intro h1
    have h2 : (-32 : Int32) ≤ w := by rw [Int32.le_iff_toInt_le, t3]; rw [Int32.le_iff_toInt_le, t1] at h1; omega
    have h3 : ¬ w < 32 := by rw [Int32.lt_iff_toInt_lt, t2]; rw [Int32.le_iff_toInt_le, t1] at h1; omega
    rw [if_pos h2, if_neg h3, Int32.sub_eq_add_neg]
theorem mpull_in (hl : dr.length ≤ 4) {tk : Int32} (ht : am_I s 55 37 = tk) (h4 : am_I s 56 4 = oN dr.length) (hc : hp3 (am_I s 56) 234 3 dr) : ∀ (m i : Nat) (p : Int32), dr.length - i < m → i ≤ dr.length → L_X8_pull_10 m p (oN i) s = some (.inr (pul tk p (dr.drop i), s)) := by
  intro m
  induction m with
  | zero => intro i p hm; exact absurd hm (Nat.not_lt_zero _)
  | succ m ih =>
    intro i p hm hi
    rw [L_X8_pull_10, h4]
    by_cases e : dr.length ≤ i
    · rw [if_pos ((oN_le (by omega) (by omega)).mpr e), List.drop_eq_nil_of_le e]
      rfl
    · have hi2 : i < dr.length := by omega
      have hd : dr.drop i = dr[i] :: dr.drop (i + 1) := List.drop_eq_getElem_cons hi2
      obtain ⟨g1, g2, g3⟩ := hc i dr[i] (List.getElem?_eq_getElem hi2)
      have e1 : (234 : Int32) + (3 : Int32) * oN i = oN (234 + 3 * i) := by rw [oN_mulR, oN_addR]
      have e2 : oN (234 + 3 * i) + 1 = oN (234 + 3 * i + 1) := oN_addL
      have e3 : oN (234 + 3 * i) + 2 = oN (234 + 3 * i + 2) := oN_addL
      rw [if_neg (fun hh => e ((oN_le (by omega) (by omega)).mp hh)), e1, e2, e3, if_pos (by rw [am_in_oN (by omega)]; exact decide_eq_true (by omega)), if_pos (by rw [am_in_oN (by omega)]; exact decide_eq_true (by omega)), oN_nat (by omega), oN_nat (by omega), oN_nat (by omega), ht, g1, g2, f_within, bi_s, Int32.toInt_toInt64, Int32.toInt_toInt64, Int32.toInt_toInt64, hd]
      have step : ∀ p', L_X8_pull_10 m p' (oN i + 1) s = some (.inr (pul tk p' (dr.drop (i + 1)), s)) := by
        intro p'
        rw [oN_addL]
        exact ih (i + 1) p' (by omega) (by omega)
      have e10 : ¬ ((1 : Int32) = 0) := by decide
      rw [pul]
      by_cases h1 : tk < dr[i].1
      · have h1' := h1
        rw [Int32.lt_iff_toInt_lt] at h1'
        have hw : ¬ wi tk.toInt dr[i].1.toInt dr[i].2.1.toInt = true := fun hh => by have := wi_t.mp hh; omega
        rw [if_neg hw, if_pos rfl, if_pos h1]; exact step p
      · have h1' := h1
        rw [Int32.lt_iff_toInt_lt] at h1'
        by_cases h2 : dr[i].2.1 < tk
        · have h2' := h2
          rw [Int32.lt_iff_toInt_lt] at h2'
          have hw : ¬ wi tk.toInt dr[i].1.toInt dr[i].2.1.toInt = true := fun hh => by have := wi_t.mp hh; omega
          rw [if_neg hw, if_pos rfl, if_neg h1, if_pos h2]; exact step p
        · have h2' := h2
          rw [Int32.lt_iff_toInt_lt] at h2'
          have hw : wi tk.toInt dr[i].1.toInt dr[i].2.1.toInt = true := wi_t.mpr (by omega)
          rw [if_pos hw, if_neg e10, if_neg h1, if_neg h2, if_pos (by rw [am_in_oN (by omega)]; exact decide_eq_true (by omega)), le_s, g3]
          exact step _
theorem mpull_is (hl : dr.length ≤ 4) {tk : Int32} (ht : am_I s 55 37 = tk) (h4 : am_I s 56 4 = oN dr.length) (hc : hp3 (am_I s 56) 234 3 dr) : f_X8_pull s = some (.inl (some (.int (pul tk (am_I s 56 8) dr))), s) := by
  have h := mpull_in hl ht h4 hc ax_fuel 0 (am_I s 56 8) (by rw [ax_fuel_is]; omega) (by omega)
  have h' : L_X8_pull_10 ax_fuel (am_I s 56 8) 0 s = some (.inr (pul tk (am_I s 56 8) (dr.drop 0), s)) := h
  unfold f_X8_pull
  rw [h', List.drop_zero]
  rfl
theorem kept_is {v : Int64} {b : Int32} : f_X8_kept v b s = some (.inl (some (.int (kpt v b))), s) := rfl
theorem air_c {p : Nat} {a : Int32} {lf : Int64} (hE : mE s (lw, A, V, Ld, e, dr, cr)) (oL : 0 < Ld.toInt) (odr : dr.length ≤ 4) (hp : p < 64) (ha : -8 ≤ a.toInt ∧ a.toInt ≤ 8) {vx vy ns sp tk : Int32} (f33 : am_I s 55 33 = vx) (f34 : am_I s 55 34 = vy) (f35 : am_I s 55 35 = ns) (f36 : am_I s 55 36 = sp) (f37 : am_I s 55 37 = tk) (o3 : 0 ≤ ns.toInt ∧ ns.toInt ≤ 1023) {q v10 : Int64} (hv : v10 * (am_I s 56 9).toInt64 = Ld) :
    ∃ s', airC e (oN p) a q v10 lf s s = some (.inl none, s') ∧ fr [55] s s' ∧ (∀ k, k ≠ 33 → k ≠ 34 → k ≠ 35 → k ≠ 36 → am_I s' 55 k = am_I s 55 k) ∧
      am_I s' 55 36 = trn sp (((e.toInt64 * q - V.toInt64 * lf) * (lw 20).toInt64) / 1000) (lw 21) ∧
      am_I s' 55 35 = ((ns + trn sp (((e.toInt64 * q - V.toInt64 * lf) * (lw 20).toInt64) / 1000) (lw 21)) &&& 1023) ∧
      am_I s' 55 33 = kpt (vx.toInt64 + (((-drg lw A Ld a q) * (Int32.ofInt (cs p)).toInt64) - (lf * (Int32.ofInt (sn p)).toInt64)) / 1000) 2000 ∧
      am_I s' 55 34 = kpt ((vy.toInt64 + (((-drg lw A Ld a q) * (Int32.ofInt (sn p)).toInt64) + (lf * (Int32.ofInt (cs p)).toInt64)) / 1000) - (pul tk (lw 18) dr).toInt64) 2000 := by
  obtain ⟨hlw, hA, hV, hLd, hdr, hcr, hsn⟩ := hE
  simp only at hlw hA hV hLd hdr hcr
  obtain ⟨n, a1, a2, a3⟩ := abs_b (b := 8) (by omega) ha
  have i2 : (22 : Int32) + am_abs a = oN (22 + n) := by rw [a1]; exact oN_addR
  have l9 : am_I s 56 (22 + n) = lw (9 + n) := by
    have := hlw (9 + n) (by omega)
    unfold lp at this
    rw [if_pos (by omega), show 13 + (9 + n) = 22 + n by omega] at this
    exact this
  have l20 : am_I s 56 10 = lw 20 := hlw 20 (by omega)
  have l21 : am_I s 56 11 = lw 21 := hlw 21 (by omega)
  have l18 : am_I s 56 8 = lw 18 := hlw 18 (by omega)
  have hn0 : ¬ Ld = 0 := by
    intro hh
    rw [hh] at oL
    have : (0 : Int64).toInt = 0 := rfl
    omega
  have hin : am_in (oN p) 64 = true := by rw [am_in_oN (by omega)]; exact decide_eq_true (by omega)
  have en : (oN p).toNatClampNeg = p := oN_nat (by omega)
  have hs := hsn p hp
  unfold airC
  rw [i2, if_pos (by rw [am_in_oN (by omega)]; exact decide_eq_true (by omega)), hv, if_pos hn0, oN_nat (by omega), l9, hA, le_s, f36, hV, l20, l21, le_s, kept_is, bi_s, f35, le_s, if_pos hin, if_pos hin, f33, en, hs.1, hs.2, kept_is, bi_s, if_pos hin, if_pos hin]
  have hdg : ((lw (9 + n)).toInt64 * q * A.toInt64) / Ld = drg lw A Ld a q := by unfold drg frc; rw [a3]
  rw [hdg]
  have htr : kpt (sp.toInt64 + (e.toInt64 * q - V.toInt64 * lf) * (lw 20).toInt64 / 1000 - (sp.toInt64 + (e.toInt64 * q - V.toInt64 * lf) * (lw 20).toInt64 / 1000) * (lw 21).toInt64 / 10) 200 = trn sp (((e.toInt64 * q - V.toInt64 * lf) * (lw 20).toInt64) / 1000) (lw 21) := rfl
  rw [htr]
  have hb := in_bd (v := sp.toInt64 + (e.toInt64 * q - V.toInt64 * lf) * (lw 20).toInt64 / 1000 - (sp.toInt64 + (e.toInt64 * q - V.toInt64 * lf) * (lw 20).toInt64 / 1000) * (lw 21).toInt64 / 10) (z := 200) (b := 200) (by omega) (by omega) rfl
  rw [htr] at hb
  generalize trn sp (((e.toInt64 * q - V.toInt64 * lf) * (lw 20).toInt64) / 1000) (lw 21) = w at hb ⊢
  rw [← (nose_eq o3 hb).1]
  generalize kpt (vx.toInt64 + (((-drg lw A Ld a q) * (Int32.ofInt (cs p)).toInt64) - (lf * (Int32.ofInt (sn p)).toInt64)) / 1000) 2000 = u
  have k34 : am_I (am_sI (am_sI s 55 36 w) 55 35 ((ns + w) &&& 1023)) 55 34 = vy := by rw [I_sI, if_neg (by omega), I_sI, if_neg (by omega)]; exact f34
  have k65 : am_I (am_sI (am_sI s 55 36 w) 55 35 ((ns + w) &&& 1023)) 65 = am_I s 65 := by rw [I_ne (by decide), I_ne (by decide)]
  have k66 : am_I (am_sI (am_sI s 55 36 w) 55 35 ((ns + w) &&& 1023)) 66 = am_I s 66 := by rw [I_ne (by decide), I_ne (by decide)]
  have k56 : am_I (am_sI (am_sI s 55 36 w) 55 35 ((ns + w) &&& 1023)) 56 = am_I s 56 := by rw [I_ne (by decide), I_ne (by decide)]
  have hpl := mpull_is (s := am_sI (am_sI s 55 36 w) 55 35 ((ns + w) &&& 1023)) (dr := dr) odr (tk := tk) (by rw [I_sI, if_neg (by omega), I_sI, if_neg (by omega)]; exact f37) (by rw [k56]; exact hdr.1) (by rw [k56]; exact hdr.2)
  rw [k56, l18] at hpl
  rw [hpl, bi_s, k34, k65, k66, hs.1, hs.2, kept_is, bi_s]
  refine ⟨_, rfl, (((fr.refl.sI (by simp)).sI (by simp)).sI (by simp)).sI (by simp), ?_, ?_, ?_, ?_, ?_⟩
  · intro k h1 h2 h3 h4
    rw [I_sI, if_neg (by omega), I_sI, if_neg (by omega), I_sI, if_neg (by omega), I_sI, if_neg (by omega)]
  · rw [I_sI, if_neg (by omega), I_sI, if_neg (by omega), I_sI, if_neg (by omega), I_sI, if_pos ⟨rfl, rfl⟩]
  · rw [I_sI, if_neg (by omega), I_sI, if_neg (by omega), I_sI, if_pos ⟨rfl, rfl⟩]
  · rw [I_sI, if_pos ⟨rfl, rfl⟩]
  · rw [I_sI, if_neg (by omega), I_sI, if_pos ⟨rfl, rfl⟩]
end MT

