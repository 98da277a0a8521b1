noncomputable def f_L_image (x2 : Int32) (s : am_S) : am_F :=
  am_xu (f_X7_image x2 s) (fun s1 =>
    some (.inl (some (.int (0 : Int32))), s1)
  ) (fun e s1 =>
    if e = 3 then
      some (.inl (some (.int (1 : Int32))), s1)
    else
      none
  )
theorem s_L_image {N : Nat} {d : Nat} {x2 : Int32} {s : am_S} (h : am_shE N s)  : am_S1 (am_shE N) (d + 3) mL_image [.ref 0, .int x2] s (f_L_image x2 s) := by
  intro P Q k hP
  show am_WP (d + 3) mL_image 0 [(0, .ref 0), (1, .int x2)] [] s Q
  unfold f_L_image at k
  refine wp_ld (v := .ref 0) dL_image_0 rfl rfl rfl rfl ?_
  refine wp_ld (v := .int x2) dL_image_1 rfl rfl rfl rfl ?_
  refine x_u dL_image_2 rfl rfl rfl (am_inv_v rfl (kE_0 h) rfl rfl rfl) (sEE h (fun _ h => s_X7_image h)) k rfl (List.cons_ne_nil _ _) (fun s1 h k => ?_) (fun e s1 h k => ?_)
  · refine wp_goto dL_image_5 rfl ?_
    refine wp_cst (v := .int (0 : Int32)) dL_image_11 rfl rfl ?_
    exact wp_end dL_image_12 rfl (am_end_i rfl) (hP _ _ (ok_s k) h)
  · by_cases c3 : e = 3
    · have k := ok_pos c3 k
      subst c3
      refine ⟨_, _, rfl, ?_⟩
      refine wp_cst (v := .int (1 : Int32)) dL_image_9 rfl rfl ?_
      exact wp_end dL_image_10 rfl (am_end_i rfl) (hP _ _ (ok_s k) h)
    replace k := ok_neg c3 k
    exact (ok_no k).elim
noncomputable def A_L_law__208 (x4 : Int32) (s : am_S) : am_FE (Unit) :=
  if am_in (x4 + (1 : Int32)) (am_K s 2000000).2 = true then
    if am_in (x4 + (2 : Int32)) (am_K s 2000000).2 = true then
      am_bi (f_L_sheet (am_I s 2000000 ((x4 + (1 : Int32)).toNatClampNeg)) (am_I s 2000000 ((x4 + (2 : Int32)).toNatClampNeg)) s) (fun v7 s6 =>
        if am_in (x4 + (1 : Int32)) (am_K s6 2000000).2 = true then
          if am_in (x4 + (2 : Int32)) (am_K s6 2000000).2 = true then
            am_bu (f_X8_sheet (am_I s6 2000000 ((x4 + (1 : Int32)).toNatClampNeg)) (am_I s6 2000000 ((x4 + (2 : Int32)).toNatClampNeg)) s6) (fun s10 =>
              am_bi (f_X8_thrown s10) (fun v13 s12 =>
                if v13 = v7 then
                  some (.inr ((), s12))
                else
                  some (.inl (.inl (some (.int (0 : Int32))), s12))
              )
            )
          else none
        else none
      )
    else none
  else none
theorem q_L_law__208 {N : Nat} {d : Nat} {x4 : Int32} {s : am_S} {P : (am_O × am_S) ⊕ (Unit × am_S) → Prop} {Q : am_O → am_S → Prop} (h : am_shE N s)  (k : am_ok (A_L_law__208 x4 s) P) (hP : ∀ o s, P (.inl (o, s)) → am_shE N s → Q o s) (hX : ∀ (e : Unit) s, P (.inr (e, s)) → am_shE N s → am_WP (d + 11) mL_law_ 3100 [(0, .ref 2000000), (1, .ref 0), (2, .ref 55), (3, .ref 71), (4, .int x4)] [] s Q) : am_WP (d + 11) mL_law_ 208 [(0, .ref 2000000), (1, .ref 0), (2, .ref 55), (3, .ref 71), (4, .int x4)] [] s Q := by
  unfold A_L_law__208 at k
  refine wp_ld (v := .ref 0) dL_law__208 rfl rfl rfl rfl ?_
  refine wp_ld (v := .ref 2000000) dL_law__209 rfl rfl rfl rfl ?_
  refine wp_ld (v := .int x4) dL_law__210 rfl rfl rfl rfl ?_
  refine wp_cst (v := .int (1 : Int32)) dL_law__212 rfl rfl ?_
  refine wp_pu dL_law__213 rfl rfl ?_
  obtain ⟨g4, k⟩ := ok_g k
  refine wq_sald dL_law__214 (kE_script h) g4 (v := (am_I s 2000000 ((x4 + (1 : Int32)).toNatClampNeg))) rfl ?_
  refine wp_ld (v := .ref 2000000) dL_law__215 rfl rfl rfl rfl ?_
  refine wp_ld (v := .int x4) dL_law__216 rfl rfl rfl rfl ?_
  refine wp_cst (v := .int (2 : Int32)) dL_law__218 rfl rfl ?_
  refine wp_pu dL_law__219 rfl rfl ?_
  obtain ⟨g5, k⟩ := ok_g k
  refine wq_sald dL_law__220 (kE_script h) g5 (v := (am_I s 2000000 ((x4 + (2 : Int32)).toNatClampNeg))) rfl ?_
  show am_WP (d + 11) mL_law_ 221 _ _ _ Q
  refine c_i dL_law__221 rfl rfl rfl (am_inv_s rfl rfl rfl rfl) (s_L_sheet h) k (fun v7 s6 h k => ?_)
  refine wp_st (ls' := [(0, .ref 2000000), (1, .ref 0), (2, .ref 55), (3, .ref 71), (4, .int x4), (5, .int v7)]) dL_law__224 rfl rfl rfl (Nat.le_of_ble_eq_true rfl) rfl ?_
  refine wp_ld (v := .ref 55) dL_law__226 rfl rfl rfl rfl ?_
  refine wp_ld (v := .ref 2000000) dL_law__227 rfl rfl rfl rfl ?_
  refine wp_ld (v := .int x4) dL_law__228 rfl rfl rfl rfl ?_
  refine wp_cst (v := .int (1 : Int32)) dL_law__230 rfl rfl ?_
  refine wp_pu dL_law__231 rfl rfl ?_
  obtain ⟨g8, k⟩ := ok_g k
  refine wq_sald dL_law__232 (kE_script h) g8 (v := (am_I s6 2000000 ((x4 + (1 : Int32)).toNatClampNeg))) rfl ?_
  refine wp_ld (v := .ref 2000000) dL_law__233 rfl rfl rfl rfl ?_
  refine wp_ld (v := .int x4) dL_law__234 rfl rfl rfl rfl ?_
  refine wp_cst (v := .int (2 : Int32)) dL_law__236 rfl rfl ?_
  refine wp_pu dL_law__237 rfl rfl ?_
  show am_WP (d + 11) mL_law_ 238 _ _ _ Q
  obtain ⟨g9, k⟩ := ok_g k
  refine wq_sald dL_law__238 (kE_script h) g9 (v := (am_I s6 2000000 ((x4 + (2 : Int32)).toNatClampNeg))) rfl ?_
  refine c_u dL_law__239 rfl rfl rfl (am_inv_v rfl (kE_55 h) rfl rfl rfl) (sE h (fun _ h => s_X8_sheet h)) k (fun s10 h k => ?_)
  refine wp_ld (v := .ref 55) dL_law__242 rfl rfl rfl rfl ?_
  refine c_i dL_law__243 rfl rfl rfl (am_inv_v rfl (kE_55 h) rfl rfl rfl) (sE h (fun _ h => s_X8_thrown h)) k (fun v13 s12 h k => ?_)
  refine wp_ld (v := .int v7) dL_law__246 rfl rfl rfl rfl ?_
  refine wp_ic_eq dL_law__248 rfl (fun c14 => have k := ok_pos c14 k; ?_) (fun c14 => have k := ok_neg c14 k; ?_)
  · refine wp_goto dL_law__253 rfl ?_
    exact wp_sub (hX _ _ (ok_s k) h) rfl ⟨rfl, rfl, rfl, rfl, rfl, trivial⟩
  · refine wp_cst (v := .int (0 : Int32)) dL_law__251 rfl rfl ?_
    exact wp_end dL_law__252 rfl rfl (hP _ _ (ok_s k) h)
noncomputable def A_L_law__256 (x4 : Int32) (s : am_S) : am_FE (Unit) :=
  if am_in (x4 + (1 : Int32)) (am_K s 2000000).2 = true then
    if am_in (x4 + (2 : Int32)) (am_K s 2000000).2 = true then
      if am_in (x4 + (3 : Int32)) (am_K s 2000000).2 = true then
        if am_in (x4 + (4 : Int32)) (am_K s 2000000).2 = true then
          if am_in (x4 + (5 : Int32)) (am_K s 2000000).2 = true then
            am_bi (f_X7_feed (am_I s 2000000 ((x4 + (1 : Int32)).toNatClampNeg)) (am_I s 2000000 ((x4 + (2 : Int32)).toNatClampNeg)) (am_I s 2000000 ((x4 + (3 : Int32)).toNatClampNeg)) (am_I s 2000000 ((x4 + (4 : Int32)).toNatClampNeg)) (am_I s 2000000 ((x4 + (5 : Int32)).toNatClampNeg)) s) (fun v24 s23 =>
              if am_in (x4 + (1 : Int32)) (am_K s23 2000000).2 = true then
                if am_in (x4 + (2 : Int32)) (am_K s23 2000000).2 = true then
                  if am_in (x4 + (3 : Int32)) (am_K s23 2000000).2 = true then
                    if am_in (x4 + (4 : Int32)) (am_K s23 2000000).2 = true then
                      if am_in (x4 + (5 : Int32)) (am_K s23 2000000).2 = true then
                        am_bi (f_X8_feed (am_I s23 2000000 ((x4 + (1 : Int32)).toNatClampNeg)) (am_I s23 2000000 ((x4 + (2 : Int32)).toNatClampNeg)) (am_I s23 2000000 ((x4 + (3 : Int32)).toNatClampNeg)) (am_I s23 2000000 ((x4 + (4 : Int32)).toNatClampNeg)) (am_I s23 2000000 ((x4 + (5 : Int32)).toNatClampNeg)) s23) (fun v31 s30 =>
                          if v24 = v31 then
                            some (.inr ((), s30))
                          else
                            some (.inl (.inl (some (.int (0 : Int32))), s30))
                        )
                      else none
                    else none
                  else none
                else none
              else none
            )
          else none
        else none
      else none
    else none
  else none
theorem q_L_law__256 {N : Nat} {d : Nat} {x4 : Int32} {s : am_S} {P : (am_O × am_S) ⊕ (Unit × am_S) → Prop} {Q : am_O → am_S → Prop} (h : am_shE N s)  (k : am_ok (A_L_law__256 x4 s) P) (hP : ∀ o s, P (.inl (o, s)) → am_shE N s → Q o s) (hX : ∀ (e : Unit) s, P (.inr (e, s)) → am_shE N s → am_WP (d + 11) mL_law_ 3100 [(0, .ref 2000000), (1, .ref 0), (2, .ref 55), (3, .ref 71), (4, .int x4)] [] s Q) : am_WP (d + 11) mL_law_ 256 [(0, .ref 2000000), (1, .ref 0), (2, .ref 55), (3, .ref 71), (4, .int x4)] [] s Q := by
  unfold A_L_law__256 at k
  refine wp_ld (v := .ref 0) dL_law__256 rfl rfl rfl rfl ?_
  refine wp_ld (v := .ref 2000000) dL_law__257 rfl rfl rfl rfl ?_
  refine wp_ld (v := .int x4) dL_law__258 rfl rfl rfl rfl ?_
  refine wp_cst (v := .int (1 : Int32)) dL_law__260 rfl rfl ?_
  refine wp_pu dL_law__261 rfl rfl ?_
  obtain ⟨g18, k⟩ := ok_g k
  refine wq_sald dL_law__262 (kE_script h) g18 (v := (am_I s 2000000 ((x4 + (1 : Int32)).toNatClampNeg))) rfl ?_
  refine wp_ld (v := .ref 2000000) dL_law__263 rfl rfl rfl rfl ?_
  refine wp_ld (v := .int x4) dL_law__264 rfl rfl rfl rfl ?_
  refine wp_cst (v := .int (2 : Int32)) dL_law__266 rfl rfl ?_
  refine wp_pu dL_law__267 rfl rfl ?_
  obtain ⟨g19, k⟩ := ok_g k
  refine wq_sald dL_law__268 (kE_script h) g19 (v := (am_I s 2000000 ((x4 + (2 : Int32)).toNatClampNeg))) rfl ?_
  show am_WP (d + 11) mL_law_ 269 _ _ _ Q
  refine wp_ld (v := .ref 2000000) dL_law__269 rfl rfl rfl rfl ?_
  refine wp_ld (v := .int x4) dL_law__270 rfl rfl rfl rfl ?_
  refine wp_cst (v := .int (3 : Int32)) dL_law__272 rfl rfl ?_
  refine wp_pu dL_law__273 rfl rfl ?_
  obtain ⟨g20, k⟩ := ok_g k
  refine wq_sald dL_law__274 (kE_script h) g20 (v := (am_I s 2000000 ((x4 + (3 : Int32)).toNatClampNeg))) rfl ?_
  refine wp_ld (v := .ref 2000000) dL_law__275 rfl rfl rfl rfl ?_
  refine wp_ld (v := .int x4) dL_law__276 rfl rfl rfl rfl ?_
  refine wp_cst (v := .int (4 : Int32)) dL_law__278 rfl rfl ?_
  refine wp_pu dL_law__279 rfl rfl ?_
  obtain ⟨g21, k⟩ := ok_g k
  refine wq_sald dL_law__280 (kE_script h) g21 (v := (am_I s 2000000 ((x4 + (4 : Int32)).toNatClampNeg))) rfl ?_
  refine wp_ld (v := .ref 2000000) dL_law__281 rfl rfl rfl rfl ?_
  refine wp_ld (v := .int x4) dL_law__282 rfl rfl rfl rfl ?_
  show am_WP (d + 11) mL_law_ 284 _ _ _ Q
  refine wp_cst (v := .int (5 : Int32)) dL_law__284 rfl rfl ?_
  refine wp_pu dL_law__285 rfl rfl ?_
  obtain ⟨g22, k⟩ := ok_g k
  refine wq_sald dL_law__286 (kE_script h) g22 (v := (am_I s 2000000 ((x4 + (5 : Int32)).toNatClampNeg))) rfl ?_
  refine c_i dL_law__287 rfl rfl rfl (am_inv_v rfl (kE_0 h) rfl rfl rfl) (sE h (fun _ h => s_X7_feed h)) k (fun v24 s23 h k => ?_)
  refine wp_ld (v := .ref 55) dL_law__290 rfl rfl rfl rfl ?_
  refine wp_ld (v := .ref 2000000) dL_law__291 rfl rfl rfl rfl ?_
  refine wp_ld (v := .int x4) dL_law__292 rfl rfl rfl rfl ?_
  refine wp_cst (v := .int (1 : Int32)) dL_law__294 rfl rfl ?_
  refine wp_pu dL_law__295 rfl rfl ?_
  obtain ⟨g25, k⟩ := ok_g k
  refine wq_sald dL_law__296 (kE_script h) g25 (v := (am_I s23 2000000 ((x4 + (1 : Int32)).toNatClampNeg))) rfl ?_
  refine wp_ld (v := .ref 2000000) dL_law__297 rfl rfl rfl rfl ?_
  refine wp_ld (v := .int x4) dL_law__298 rfl rfl rfl rfl ?_
  refine wp_cst (v := .int (2 : Int32)) dL_law__300 rfl rfl ?_
  refine wp_pu dL_law__301 rfl rfl ?_
  obtain ⟨g26, k⟩ := ok_g k
  refine wq_sald dL_law__302 (kE_script h) g26 (v := (am_I s23 2000000 ((x4 + (2 : Int32)).toNatClampNeg))) rfl ?_
  show am_WP (d + 11) mL_law_ 303 _ _ _ Q
  refine wp_ld (v := .ref 2000000) dL_law__303 rfl rfl rfl rfl ?_
  refine wp_ld (v := .int x4) dL_law__304 rfl rfl rfl rfl ?_
  refine wp_cst (v := .int (3 : Int32)) dL_law__306 rfl rfl ?_
  refine wp_pu dL_law__307 rfl rfl ?_
  obtain ⟨g27, k⟩ := ok_g k
  refine wq_sald dL_law__308 (kE_script h) g27 (v := (am_I s23 2000000 ((x4 + (3 : Int32)).toNatClampNeg))) rfl ?_
  refine wp_ld (v := .ref 2000000) dL_law__309 rfl rfl rfl rfl ?_
  refine wp_ld (v := .int x4) dL_law__310 rfl rfl rfl rfl ?_
  refine wp_cst (v := .int (4 : Int32)) dL_law__312 rfl rfl ?_
  refine wp_pu dL_law__313 rfl rfl ?_
  obtain ⟨g28, k⟩ := ok_g k
  refine wq_sald dL_law__314 (kE_script h) g28 (v := (am_I s23 2000000 ((x4 + (4 : Int32)).toNatClampNeg))) rfl ?_
  refine wp_ld (v := .ref 2000000) dL_law__315 rfl rfl rfl rfl ?_
  refine wp_ld (v := .int x4) dL_law__316 rfl rfl rfl rfl ?_
  show am_WP (d + 11) mL_law_ 318 _ _ _ Q
  refine wp_cst (v := .int (5 : Int32)) dL_law__318 rfl rfl ?_
  refine wp_pu dL_law__319 rfl rfl ?_
  obtain ⟨g29, k⟩ := ok_g k
  refine wq_sald dL_law__320 (kE_script h) g29 (v := (am_I s23 2000000 ((x4 + (5 : Int32)).toNatClampNeg))) rfl ?_
  refine c_i dL_law__321 rfl rfl rfl (am_inv_v rfl (kE_55 h) rfl rfl rfl) (sE h (fun _ h => s_X8_feed h)) k (fun v31 s30 h k => ?_)
  refine wp_ic_eq dL_law__324 rfl (fun c32 => have k := ok_pos c32 k; ?_) (fun c32 => have k := ok_neg c32 k; ?_)
  · exact wp_sub (hX _ _ (ok_s k) h) rfl ⟨rfl, rfl, rfl, rfl, rfl, trivial⟩
  · refine wp_cst (v := .int (0 : Int32)) dL_law__327 rfl rfl ?_
    exact wp_end dL_law__328 rfl rfl (hP _ _ (ok_s k) h)
noncomputable def A_L_law__329 (x4 : Int32) (s : am_S) : am_FE (Unit) :=
  if am_in (x4 + (1 : Int32)) (am_K s 2000000).2 = true then
    am_bi (f_L_way (am_I s 2000000 ((x4 + (1 : Int32)).toNatClampNeg)) s) (fun v38 s37 =>
      if am_in (x4 + (1 : Int32)) (am_K s37 2000000).2 = true then
        am_bi (f_X8_way (am_I s37 2000000 ((x4 + (1 : Int32)).toNatClampNeg)) s37) (fun v41 s40 =>
          am_bi (f_X8_thrown s40) (fun v43 s42 =>
            if v43 = v38 then
              if v38 = 0 then
                if (am_L s42 71 0) = v41.toInt64 then
                  some (.inr ((), s42))
                else
                  some (.inl (.inl (some (.int (0 : Int32))), s42))
              else
                some (.inr ((), s42))
            else
              some (.inl (.inl (some (.int (0 : Int32))), s42))
          )
        )
      else none
    )
  else none
theorem q_L_law__329 {N : Nat} {d : Nat} {x4 : Int32} {s : am_S} {P : (am_O × am_S) ⊕ (Unit × am_S) → Prop} {Q : am_O → am_S → Prop} (h : am_shE N s)  (k : am_ok (A_L_law__329 x4 s) P) (hP : ∀ o s, P (.inl (o, s)) → am_shE N s → Q o s) (hX : ∀ (e : Unit) s, P (.inr (e, s)) → am_shE N s → am_WP (d + 11) mL_law_ 3100 [(0, .ref 2000000), (1, .ref 0), (2, .ref 55), (3, .ref 71), (4, .int x4)] [] s Q) : am_WP (d + 11) mL_law_ 329 [(0, .ref 2000000), (1, .ref 0), (2, .ref 55), (3, .ref 71), (4, .int x4)] [] s Q := by
  unfold A_L_law__329 at k
  refine wp_ld (v := .ref 0) dL_law__329 rfl rfl rfl rfl ?_
  refine wp_ld (v := .ref 2000000) dL_law__330 rfl rfl rfl rfl ?_
  refine wp_ld (v := .int x4) dL_law__331 rfl rfl rfl rfl ?_
  refine wp_cst (v := .int (1 : Int32)) dL_law__333 rfl rfl ?_
  refine wp_pu dL_law__334 rfl rfl ?_
  obtain ⟨g36, k⟩ := ok_g k
  refine wq_sald dL_law__335 (kE_script h) g36 (v := (am_I s 2000000 ((x4 + (1 : Int32)).toNatClampNeg))) rfl ?_
  refine wp_ld (v := .ref 71) dL_law__336 rfl rfl rfl rfl ?_
  refine c_i dL_law__337 rfl rfl rfl (am_inv_s rfl rfl rfl rfl) (s_L_way h) k (fun v38 s37 h k => ?_)
  refine wp_st (ls' := [(0, .ref 2000000), (1, .ref 0), (2, .ref 55), (3, .ref 71), (4, .int x4), (5, .int v38)]) dL_law__340 rfl rfl rfl (Nat.le_of_ble_eq_true rfl) rfl ?_
  refine wp_ld (v := .ref 55) dL_law__342 rfl rfl rfl rfl ?_
  refine wp_ld (v := .ref 2000000) dL_law__343 rfl rfl rfl rfl ?_
  refine wp_ld (v := .int x4) dL_law__344 rfl rfl rfl rfl ?_
  refine wp_cst (v := .int (1 : Int32)) dL_law__346 rfl rfl ?_
  refine wp_pu dL_law__347 rfl rfl ?_
  obtain ⟨g39, k⟩ := ok_g k
  refine wq_sald dL_law__348 (kE_script h) g39 (v := (am_I s37 2000000 ((x4 + (1 : Int32)).toNatClampNeg))) rfl ?_
  refine c_i dL_law__349 rfl rfl rfl (am_inv_v rfl (kE_55 h) rfl rfl rfl) (sE h (fun _ h => s_X8_way h)) k (fun v41 s40 h k => ?_)
  refine wp_st (ls' := [(0, .ref 2000000), (1, .ref 0), (2, .ref 55), (3, .ref 71), (4, .int x4), (5, .int v38), (6, .int v41)]) dL_law__352 rfl rfl rfl (Nat.le_of_ble_eq_true rfl) rfl ?_
  refine wp_ld (v := .ref 55) dL_law__354 rfl rfl rfl rfl ?_
  refine c_i dL_law__355 rfl rfl rfl (am_inv_v rfl (kE_55 h) rfl rfl rfl) (sE h (fun _ h => s_X8_thrown h)) k (fun v43 s42 h k => ?_)
  refine wp_ld (v := .int v38) dL_law__358 rfl rfl rfl rfl ?_
  refine wp_ic_eq dL_law__360 rfl (fun c44 => have k := ok_pos c44 k; ?_) (fun c44 => have k := ok_neg c44 k; ?_)
  · refine wp_ld (v := .int v38) dL_law__365 rfl rfl rfl rfl ?_
    refine wp_if_ne dL_law__367 rfl (fun c45 => have k := ok_neg c45 k; ?_) (fun c45 => have k := ok_pos c45 k; ?_)
    · refine wp_goto dL_law__382 rfl ?_
      exact wp_sub (hX _ _ (ok_s k) h) rfl ⟨rfl, rfl, rfl, rfl, rfl, trivial⟩
    · refine wp_ld (v := .ref 71) dL_law__370 rfl rfl rfl rfl ?_
      refine wp_cst (v := .int (0 : Int32)) dL_law__371 rfl rfl ?_
      refine wq_lald dL_law__372 (kE_71 h) (by decide) (l := (am_L s42 71 0)) rfl ?_
      refine wp_ld (v := .int v41) dL_law__373 rfl rfl rfl rfl ?_
      refine wp_pu dL_law__375 rfl rfl ?_
      refine wl_eq dL_law__376 dL_law__377 rfl (fun c46 => have k := ok_pos c46 k; ?_) (fun c46 => have k := ok_neg c46 k; ?_)
      · refine wp_goto dL_law__382 rfl ?_
        exact wp_sub (hX _ _ (ok_s k) h) rfl ⟨rfl, rfl, rfl, rfl, rfl, trivial⟩
      · refine wp_cst (v := .int (0 : Int32)) dL_law__380 rfl rfl ?_
        exact wp_end dL_law__381 rfl rfl (hP _ _ (ok_s k) h)
  · refine wp_cst (v := .int (0 : Int32)) dL_law__363 rfl rfl ?_
    exact wp_end dL_law__364 rfl rfl (hP _ _ (ok_s k) h)
noncomputable def A_L_law__385 (x4 : Int32) (s : am_S) : am_FE (Unit) :=
  if am_in (x4 + (1 : Int32)) (am_K s 2000000).2 = true then
    am_bi (f_L_law (am_I s 2000000 ((x4 + (1 : Int32)).toNatClampNeg)) s) (fun v52 s51 =>
      if am_in (x4 + (1 : Int32)) (am_K s51 2000000).2 = true then
        am_bi (f_X8_law (am_I s51 2000000 ((x4 + (1 : Int32)).toNatClampNeg)) s51) (fun v55 s54 =>
          am_bi (f_X8_thrown s54) (fun v57 s56 =>
            if v57 = v52 then
              if v52 = 0 then
                if (am_L s56 71 0) = v55.toInt64 then
                  some (.inr ((), s56))
                else
                  some (.inl (.inl (some (.int (0 : Int32))), s56))
              else
                some (.inr ((), s56))
            else
              some (.inl (.inl (some (.int (0 : Int32))), s56))
          )
        )
      else none
    )
  else none
theorem q_L_law__385 {N : Nat} {d : Nat} {x4 : Int32} {s : am_S} {P : (am_O × am_S) ⊕ (Unit × am_S) → Prop} {Q : am_O → am_S → Prop} (h : am_shE N s)  (k : am_ok (A_L_law__385 x4 s) P) (hP : ∀ o s, P (.inl (o, s)) → am_shE N s → Q o s) (hX : ∀ (e : Unit) s, P (.inr (e, s)) → am_shE N s → am_WP (d + 11) mL_law_ 3100 [(0, .ref 2000000), (1, .ref 0), (2, .ref 55), (3, .ref 71), (4, .int x4)] [] s Q) : am_WP (d + 11) mL_law_ 385 [(0, .ref 2000000), (1, .ref 0), (2, .ref 55), (3, .ref 71), (4, .int x4)] [] s Q := by
  unfold A_L_law__385 at k
  refine wp_ld (v := .ref 0) dL_law__385 rfl rfl rfl rfl ?_
  refine wp_ld (v := .ref 2000000) dL_law__386 rfl rfl rfl rfl ?_
  refine wp_ld (v := .int x4) dL_law__387 rfl rfl rfl rfl ?_
  refine wp_cst (v := .int (1 : Int32)) dL_law__389 rfl rfl ?_
  refine wp_pu dL_law__390 rfl rfl ?_
  obtain ⟨g50, k⟩ := ok_g k
  refine wq_sald dL_law__391 (kE_script h) g50 (v := (am_I s 2000000 ((x4 + (1 : Int32)).toNatClampNeg))) rfl ?_
  refine wp_ld (v := .ref 71) dL_law__392 rfl rfl rfl rfl ?_
  refine c_i dL_law__393 rfl rfl rfl (am_inv_s rfl rfl rfl rfl) (s_L_law h) k (fun v52 s51 h k => ?_)
  refine wp_st (ls' := [(0, .ref 2000000), (1, .ref 0), (2, .ref 55), (3, .ref 71), (4, .int x4), (5, .int v52)]) dL_law__396 rfl rfl rfl (Nat.le_of_ble_eq_true rfl) rfl ?_
  refine wp_ld (v := .ref 55) dL_law__398 rfl rfl rfl rfl ?_
  refine wp_ld (v := .ref 2000000) dL_law__399 rfl rfl rfl rfl ?_
  refine wp_ld (v := .int x4) dL_law__400 rfl rfl rfl rfl ?_
  refine wp_cst (v := .int (1 : Int32)) dL_law__402 rfl rfl ?_
  refine wp_pu dL_law__403 rfl rfl ?_
  obtain ⟨g53, k⟩ := ok_g k
  refine wq_sald dL_law__404 (kE_script h) g53 (v := (am_I s51 2000000 ((x4 + (1 : Int32)).toNatClampNeg))) rfl ?_
  refine c_i dL_law__405 rfl rfl rfl (am_inv_v rfl (kE_55 h) rfl rfl rfl) (sE h (fun _ h => s_X8_law h)) k (fun v55 s54 h k => ?_)
  refine wp_st (ls' := [(0, .ref 2000000), (1, .ref 0), (2, .ref 55), (3, .ref 71), (4, .int x4), (5, .int v52), (6, .int v55)]) dL_law__408 rfl rfl rfl (Nat.le_of_ble_eq_true rfl) rfl ?_
  refine wp_ld (v := .ref 55) dL_law__410 rfl rfl rfl rfl ?_
  refine c_i dL_law__411 rfl rfl rfl (am_inv_v rfl (kE_55 h) rfl rfl rfl) (sE h (fun _ h => s_X8_thrown h)) k (fun v57 s56 h k => ?_)
  refine wp_ld (v := .int v52) dL_law__414 rfl rfl rfl rfl ?_
  refine wp_ic_eq dL_law__416 rfl (fun c58 => have k := ok_pos c58 k; ?_) (fun c58 => have k := ok_neg c58 k; ?_)
  · refine wp_ld (v := .int v52) dL_law__421 rfl rfl rfl rfl ?_
    refine wp_if_ne dL_law__423 rfl (fun c59 => have k := ok_neg c59 k; ?_) (fun c59 => have k := ok_pos c59 k; ?_)
    · refine wp_goto dL_law__438 rfl ?_
      exact wp_sub (hX _ _ (ok_s k) h) rfl ⟨rfl, rfl, rfl, rfl, rfl, trivial⟩
    · refine wp_ld (v := .ref 71) dL_law__426 rfl rfl rfl rfl ?_
      refine wp_cst (v := .int (0 : Int32)) dL_law__427 rfl rfl ?_
      refine wq_lald dL_law__428 (kE_71 h) (by decide) (l := (am_L s56 71 0)) rfl ?_
      refine wp_ld (v := .int v55) dL_law__429 rfl rfl rfl rfl ?_
      refine wp_pu dL_law__431 rfl rfl ?_
      refine wl_eq dL_law__432 dL_law__433 rfl (fun c60 => have k := ok_pos c60 k; ?_) (fun c60 => have k := ok_neg c60 k; ?_)
      · refine wp_goto dL_law__438 rfl ?_
        exact wp_sub (hX _ _ (ok_s k) h) rfl ⟨rfl, rfl, rfl, rfl, rfl, trivial⟩
      · refine wp_cst (v := .int (0 : Int32)) dL_law__436 rfl rfl ?_
        exact wp_end dL_law__437 rfl rfl (hP _ _ (ok_s k) h)
  · refine wp_cst (v := .int (0 : Int32)) dL_law__419 rfl rfl ?_
    exact wp_end dL_law__420 rfl rfl (hP _ _ (ok_s k) h)
noncomputable def A_L_law__441 (x4 : Int32) (s : am_S) : am_FE (Unit) :=
  if am_in (x4 + (1 : Int32)) (am_K s 2000000).2 = true then
    am_bi (f_X7_fault (am_I s 2000000 ((x4 + (1 : Int32)).toNatClampNeg)) s) (fun v66 s65 =>
      if am_in (x4 + (1 : Int32)) (am_K s65 2000000).2 = true then
        am_bi (f_X8_fault (am_I s65 2000000 ((x4 + (1 : Int32)).toNatClampNeg)) s65) (fun v69 s68 =>
          if v66 = v69 then
            some (.inr ((), s68))
          else
            some (.inl (.inl (some (.int (0 : Int32))), s68))
        )
      else none
    )
  else none
theorem q_L_law__441 {N : Nat} {d : Nat} {x4 : Int32} {s : am_S} {P : (am_O × am_S) ⊕ (Unit × am_S) → Prop} {Q : am_O → am_S → Prop} (h : am_shE N s)  (k : am_ok (A_L_law__441 x4 s) P) (hP : ∀ o s, P (.inl (o, s)) → am_shE N s → Q o s) (hX : ∀ (e : Unit) s, P (.inr (e, s)) → am_shE N s → am_WP (d + 11) mL_law_ 3100 [(0, .ref 2000000), (1, .ref 0), (2, .ref 55), (3, .ref 71), (4, .int x4)] [] s Q) : am_WP (d + 11) mL_law_ 441 [(0, .ref 2000000), (1, .ref 0), (2, .ref 55), (3, .ref 71), (4, .int x4)] [] s Q := by
  unfold A_L_law__441 at k
  refine wp_ld (v := .ref 0) dL_law__441 rfl rfl rfl rfl ?_
  refine wp_ld (v := .ref 2000000) dL_law__442 rfl rfl rfl rfl ?_
  refine wp_ld (v := .int x4) dL_law__443 rfl rfl rfl rfl ?_
  refine wp_cst (v := .int (1 : Int32)) dL_law__445 rfl rfl ?_
  refine wp_pu dL_law__446 rfl rfl ?_
  obtain ⟨g64, k⟩ := ok_g k
  refine wq_sald dL_law__447 (kE_script h) g64 (v := (am_I s 2000000 ((x4 + (1 : Int32)).toNatClampNeg))) rfl ?_
  refine c_i dL_law__448 rfl rfl rfl (am_inv_v rfl (kE_0 h) rfl rfl rfl) (sE h (fun _ h => s_X7_fault h)) k (fun v66 s65 h k => ?_)
  refine wp_ld (v := .ref 55) dL_law__451 rfl rfl rfl rfl ?_
  refine wp_ld (v := .ref 2000000) dL_law__452 rfl rfl rfl rfl ?_
  refine wp_ld (v := .int x4) dL_law__453 rfl rfl rfl rfl ?_
  refine wp_cst (v := .int (1 : Int32)) dL_law__455 rfl rfl ?_
  refine wp_pu dL_law__456 rfl rfl ?_
  obtain ⟨g67, k⟩ := ok_g k
  refine wq_sald dL_law__457 (kE_script h) g67 (v := (am_I s65 2000000 ((x4 + (1 : Int32)).toNatClampNeg))) rfl ?_
  refine c_i dL_law__458 rfl rfl rfl (am_inv_v rfl (kE_55 h) rfl rfl rfl) (sE h (fun _ h => s_X8_fault h)) k (fun v69 s68 h k => ?_)
  refine wp_ic_eq dL_law__461 rfl (fun c70 => have k := ok_pos c70 k; ?_) (fun c70 => have k := ok_neg c70 k; ?_)
  · exact wp_sub (hX _ _ (ok_s k) h) rfl ⟨rfl, rfl, rfl, rfl, rfl, trivial⟩
  · refine wp_cst (v := .int (0 : Int32)) dL_law__464 rfl rfl ?_
    exact wp_end dL_law__465 rfl rfl (hP _ _ (ok_s k) h)
noncomputable def A_L_law__466 (x4 : Int32) (s : am_S) : am_FE (Unit) :=
  if am_in (x4 + (1 : Int32)) (am_K s 2000000).2 = true then
    if am_in (x4 + (2 : Int32)) (am_K s 2000000).2 = true then
      am_bi (f_L_fold (am_I s 2000000 ((x4 + (1 : Int32)).toNatClampNeg)) (am_I s 2000000 ((x4 + (2 : Int32)).toNatClampNeg)) s) (fun v77 s76 =>
        if am_in (x4 + (1 : Int32)) (am_K s76 2000000).2 = true then
          if am_in (x4 + (2 : Int32)) (am_K s76 2000000).2 = true then
            am_bi (f_X8_fold (am_I s76 2000000 ((x4 + (1 : Int32)).toNatClampNeg)) (am_I s76 2000000 ((x4 + (2 : Int32)).toNatClampNeg)) s76) (fun v81 s80 =>
              am_bi (f_X8_thrown s80) (fun v83 s82 =>
                if v83 = v77 then
                  if v77 = 0 then
                    if (am_L s82 71 0) = v81.toInt64 then
                      some (.inr ((), s82))
                    else
                      some (.inl (.inl (some (.int (0 : Int32))), s82))
                  else
                    some (.inr ((), s82))
                else
                  some (.inl (.inl (some (.int (0 : Int32))), s82))
              )
            )
          else none
        else none
      )
    else none
  else none
theorem q_L_law__466 {N : Nat} {d : Nat} {x4 : Int32} {s : am_S} {P : (am_O × am_S) ⊕ (Unit × am_S) → Prop} {Q : am_O → am_S → Prop} (h : am_shE N s)  (k : am_ok (A_L_law__466 x4 s) P) (hP : ∀ o s, P (.inl (o, s)) → am_shE N s → Q o s) (hX : ∀ (e : Unit) s, P (.inr (e, s)) → am_shE N s → am_WP (d + 11) mL_law_ 3100 [(0, .ref 2000000), (1, .ref 0), (2, .ref 55), (3, .ref 71), (4, .int x4)] [] s Q) : am_WP (d + 11) mL_law_ 466 [(0, .ref 2000000), (1, .ref 0), (2, .ref 55), (3, .ref 71), (4, .int x4)] [] s Q := by
  unfold A_L_law__466 at k
  refine wp_ld (v := .ref 0) dL_law__466 rfl rfl rfl rfl ?_
  refine wp_ld (v := .ref 2000000) dL_law__467 rfl rfl rfl rfl ?_
  refine wp_ld (v := .int x4) dL_law__468 rfl rfl rfl rfl ?_
  refine wp_cst (v := .int (1 : Int32)) dL_law__470 rfl rfl ?_
  refine wp_pu dL_law__471 rfl rfl ?_
  obtain ⟨g74, k⟩ := ok_g k
  refine wq_sald dL_law__472 (kE_script h) g74 (v := (am_I s 2000000 ((x4 + (1 : Int32)).toNatClampNeg))) rfl ?_
  refine wp_ld (v := .ref 2000000) dL_law__473 rfl rfl rfl rfl ?_
  refine wp_ld (v := .int x4) dL_law__474 rfl rfl rfl rfl ?_
  refine wp_cst (v := .int (2 : Int32)) dL_law__476 rfl rfl ?_
  refine wp_pu dL_law__477 rfl rfl ?_
  obtain ⟨g75, k⟩ := ok_g k
  refine wq_sald dL_law__478 (kE_script h) g75 (v := (am_I s 2000000 ((x4 + (2 : Int32)).toNatClampNeg))) rfl ?_
  show am_WP (d + 11) mL_law_ 479 _ _ _ Q
  refine wp_ld (v := .ref 71) dL_law__479 rfl rfl rfl rfl ?_
  refine c_i dL_law__480 rfl rfl rfl (am_inv_s rfl rfl rfl rfl) (s_L_fold h) k (fun v77 s76 h k => ?_)
  refine wp_st (ls' := [(0, .ref 2000000), (1, .ref 0), (2, .ref 55), (3, .ref 71), (4, .int x4), (5, .int v77)]) dL_law__483 rfl rfl rfl (Nat.le_of_ble_eq_true rfl) rfl ?_
  refine wp_ld (v := .ref 55) dL_law__485 rfl rfl rfl rfl ?_
  refine wp_ld (v := .ref 2000000) dL_law__486 rfl rfl rfl rfl ?_
  refine wp_ld (v := .int x4) dL_law__487 rfl rfl rfl rfl ?_
  refine wp_cst (v := .int (1 : Int32)) dL_law__489 rfl rfl ?_
  refine wp_pu dL_law__490 rfl rfl ?_
  obtain ⟨g78, k⟩ := ok_g k
  refine wq_sald dL_law__491 (kE_script h) g78 (v := (am_I s76 2000000 ((x4 + (1 : Int32)).toNatClampNeg))) rfl ?_
  refine wp_ld (v := .ref 2000000) dL_law__492 rfl rfl rfl rfl ?_
  refine wp_ld (v := .int x4) dL_law__493 rfl rfl rfl rfl ?_
  refine wp_cst (v := .int (2 : Int32)) dL_law__495 rfl rfl ?_
  refine wp_pu dL_law__496 rfl rfl ?_
  show am_WP (d + 11) mL_law_ 497 _ _ _ Q
  obtain ⟨g79, k⟩ := ok_g k
  refine wq_sald dL_law__497 (kE_script h) g79 (v := (am_I s76 2000000 ((x4 + (2 : Int32)).toNatClampNeg))) rfl ?_
  refine c_i dL_law__498 rfl rfl rfl (am_inv_v rfl (kE_55 h) rfl rfl rfl) (sE h (fun _ h => s_X8_fold h)) k (fun v81 s80 h k => ?_)
  refine wp_st (ls' := [(0, .ref 2000000), (1, .ref 0), (2, .ref 55), (3, .ref 71), (4, .int x4), (5, .int v77), (6, .int v81)]) dL_law__501 rfl rfl rfl (Nat.le_of_ble_eq_true rfl) rfl ?_
  refine wp_ld (v := .ref 55) dL_law__503 rfl rfl rfl rfl ?_
  refine c_i dL_law__504 rfl rfl rfl (am_inv_v rfl (kE_55 h) rfl rfl rfl) (sE h (fun _ h => s_X8_thrown h)) k (fun v83 s82 h k => ?_)
  refine wp_ld (v := .int v77) dL_law__507 rfl rfl rfl rfl ?_
  refine wp_ic_eq dL_law__509 rfl (fun c84 => have k := ok_pos c84 k; ?_) (fun c84 => have k := ok_neg c84 k; ?_)
  · refine wp_ld (v := .int v77) dL_law__514 rfl rfl rfl rfl ?_
    refine wp_if_ne dL_law__516 rfl (fun c85 => have k := ok_neg c85 k; ?_) (fun c85 => have k := ok_pos c85 k; ?_)
    · refine wp_goto dL_law__531 rfl ?_
      exact wp_sub (hX _ _ (ok_s k) h) rfl ⟨rfl, rfl, rfl, rfl, rfl, trivial⟩
    · refine wp_ld (v := .ref 71) dL_law__519 rfl rfl rfl rfl ?_
      refine wp_cst (v := .int (0 : Int32)) dL_law__520 rfl rfl ?_
      refine wq_lald dL_law__521 (kE_71 h) (by decide) (l := (am_L s82 71 0)) rfl ?_
      refine wp_ld (v := .int v81) dL_law__522 rfl rfl rfl rfl ?_
      refine wp_pu dL_law__524 rfl rfl ?_
      refine wl_eq dL_law__525 dL_law__526 rfl (fun c86 => have k := ok_pos c86 k; ?_) (fun c86 => have k := ok_neg c86 k; ?_)
      · refine wp_goto dL_law__531 rfl ?_
        exact wp_sub (hX _ _ (ok_s k) h) rfl ⟨rfl, rfl, rfl, rfl, rfl, trivial⟩
      · refine wp_cst (v := .int (0 : Int32)) dL_law__529 rfl rfl ?_
        exact wp_end dL_law__530 rfl rfl (hP _ _ (ok_s k) h)
  · refine wp_cst (v := .int (0 : Int32)) dL_law__512 rfl rfl ?_
    exact wp_end dL_law__513 rfl rfl (hP _ _ (ok_s k) h)
noncomputable def A_L_law__534 (x4 : Int32) (s : am_S) : am_FE (Unit) :=
  if am_in (x4 + (1 : Int32)) (am_K s 2000000).2 = true then
    am_bi (f_L_breaks (am_I s 2000000 ((x4 + (1 : Int32)).toNatClampNeg)) s) (fun v92 s91 =>
      if am_in (x4 + (1 : Int32)) (am_K s91 2000000).2 = true then
        am_bi (f_X8_breaks (am_I s91 2000000 ((x4 + (1 : Int32)).toNatClampNeg)) s91) (fun v95 s94 =>
          am_bi (f_X8_thrown s94) (fun v97 s96 =>
            if v97 = v92 then
              if v92 = 0 then
                if (am_L s96 71 0) = v95.toInt64 then
                  some (.inr ((), s96))
                else
                  some (.inl (.inl (some (.int (0 : Int32))), s96))
              else
                some (.inr ((), s96))
            else
              some (.inl (.inl (some (.int (0 : Int32))), s96))
          )
        )
      else none
    )
  else none
theorem q_L_law__534 {N : Nat} {d : Nat} {x4 : Int32} {s : am_S} {P : (am_O × am_S) ⊕ (Unit × am_S) → Prop} {Q : am_O → am_S → Prop} (h : am_shE N s)  (k : am_ok (A_L_law__534 x4 s) P) (hP : ∀ o s, P (.inl (o, s)) → am_shE N s → Q o s) (hX : ∀ (e : Unit) s, P (.inr (e, s)) → am_shE N s → am_WP (d + 11) mL_law_ 3100 [(0, .ref 2000000), (1, .ref 0), (2, .ref 55), (3, .ref 71), (4, .int x4)] [] s Q) : am_WP (d + 11) mL_law_ 534 [(0, .ref 2000000), (1, .ref 0), (2, .ref 55), (3, .ref 71), (4, .int x4)] [] s Q := by
  unfold A_L_law__534 at k
  refine wp_ld (v := .ref 0) dL_law__534 rfl rfl rfl rfl ?_
  refine wp_ld (v := .ref 2000000) dL_law__535 rfl rfl rfl rfl ?_
  refine wp_ld (v := .int x4) dL_law__536 rfl rfl rfl rfl ?_
  refine wp_cst (v := .int (1 : Int32)) dL_law__538 rfl rfl ?_
  refine wp_pu dL_law__539 rfl rfl ?_
  obtain ⟨g90, k⟩ := ok_g k
  refine wq_sald dL_law__540 (kE_script h) g90 (v := (am_I s 2000000 ((x4 + (1 : Int32)).toNatClampNeg))) rfl ?_
  refine wp_ld (v := .ref 71) dL_law__541 rfl rfl rfl rfl ?_
  refine c_i dL_law__542 rfl rfl rfl (am_inv_s rfl rfl rfl rfl) (s_L_breaks h) k (fun v92 s91 h k => ?_)
  refine wp_st (ls' := [(0, .ref 2000000), (1, .ref 0), (2, .ref 55), (3, .ref 71), (4, .int x4), (5, .int v92)]) dL_law__545 rfl rfl rfl (Nat.le_of_ble_eq_true rfl) rfl ?_
  refine wp_ld (v := .ref 55) dL_law__547 rfl rfl rfl rfl ?_
  refine wp_ld (v := .ref 2000000) dL_law__548 rfl rfl rfl rfl ?_
  refine wp_ld (v := .int x4) dL_law__549 rfl rfl rfl rfl ?_
  refine wp_cst (v := .int (1 : Int32)) dL_law__551 rfl rfl ?_
  refine wp_pu dL_law__552 rfl rfl ?_
  obtain ⟨g93, k⟩ := ok_g k
  refine wq_sald dL_law__553 (kE_script h) g93 (v := (am_I s91 2000000 ((x4 + (1 : Int32)).toNatClampNeg))) rfl ?_
  refine c_i dL_law__554 rfl rfl rfl (am_inv_v rfl (kE_55 h) rfl rfl rfl) (sE h (fun _ h => s_X8_breaks h)) k (fun v95 s94 h k => ?_)
  refine wp_st (ls' := [(0, .ref 2000000), (1, .ref 0), (2, .ref 55), (3, .ref 71), (4, .int x4), (5, .int v92), (6, .int v95)]) dL_law__557 rfl rfl rfl (Nat.le_of_ble_eq_true rfl) rfl ?_
  refine wp_ld (v := .ref 55) dL_law__559 rfl rfl rfl rfl ?_
  refine c_i dL_law__560 rfl rfl rfl (am_inv_v rfl (kE_55 h) rfl rfl rfl) (sE h (fun _ h => s_X8_thrown h)) k (fun v97 s96 h k => ?_)
  refine wp_ld (v := .int v92) dL_law__563 rfl rfl rfl rfl ?_
  refine wp_ic_eq dL_law__565 rfl (fun c98 => have k := ok_pos c98 k; ?_) (fun c98 => have k := ok_neg c98 k; ?_)
  · refine wp_ld (v := .int v92) dL_law__570 rfl rfl rfl rfl ?_
    refine wp_if_ne dL_law__572 rfl (fun c99 => have k := ok_neg c99 k; ?_) (fun c99 => have k := ok_pos c99 k; ?_)
    · refine wp_goto dL_law__587 rfl ?_
      exact wp_sub (hX _ _ (ok_s k) h) rfl ⟨rfl, rfl, rfl, rfl, rfl, trivial⟩
    · refine wp_ld (v := .ref 71) dL_law__575 rfl rfl rfl rfl ?_
      refine wp_cst (v := .int (0 : Int32)) dL_law__576 rfl rfl ?_
      refine wq_lald dL_law__577 (kE_71 h) (by decide) (l := (am_L s96 71 0)) rfl ?_
      refine wp_ld (v := .int v95) dL_law__578 rfl rfl rfl rfl ?_
      refine wp_pu dL_law__580 rfl rfl ?_
      refine wl_eq dL_law__581 dL_law__582 rfl (fun c100 => have k := ok_pos c100 k; ?_) (fun c100 => have k := ok_neg c100 k; ?_)
      · refine wp_goto dL_law__587 rfl ?_
        exact wp_sub (hX _ _ (ok_s k) h) rfl ⟨rfl, rfl, rfl, rfl, rfl, trivial⟩
      · refine wp_cst (v := .int (0 : Int32)) dL_law__585 rfl rfl ?_
        exact wp_end dL_law__586 rfl rfl (hP _ _ (ok_s k) h)
  · refine wp_cst (v := .int (0 : Int32)) dL_law__568 rfl rfl ?_
    exact wp_end dL_law__569 rfl rfl (hP _ _ (ok_s k) h)
noncomputable def A_L_law__590 (x4 : Int32) (s : am_S) : am_FE (Unit) :=
  if am_in (x4 + (1 : Int32)) (am_K s 2000000).2 = true then
    if am_in (x4 + (2 : Int32)) (am_K s 2000000).2 = true then
      am_bi (f_L_make (am_I s 2000000 ((x4 + (1 : Int32)).toNatClampNeg)) (am_I s 2000000 ((x4 + (2 : Int32)).toNatClampNeg)) s) (fun v107 s106 =>
        if am_in (x4 + (1 : Int32)) (am_K s106 2000000).2 = true then
          if am_in (x4 + (2 : Int32)) (am_K s106 2000000).2 = true then
            am_bi (f_X8_make (am_I s106 2000000 ((x4 + (1 : Int32)).toNatClampNeg)) (am_I s106 2000000 ((x4 + (2 : Int32)).toNatClampNeg)) s106) (fun v111 s110 =>
              am_bi (f_X8_thrown s110) (fun v113 s112 =>
                if v113 = v107 then
                  if v107 = 0 then
                    if (am_L s112 71 0) = v111.toInt64 then
                      some (.inr ((), s112))
                    else
                      some (.inl (.inl (some (.int (0 : Int32))), s112))
                  else
                    some (.inr ((), s112))
                else
                  some (.inl (.inl (some (.int (0 : Int32))), s112))
              )
            )
          else none
        else none
      )
    else none
  else none
theorem q_L_law__590 {N : Nat} {d : Nat} {x4 : Int32} {s : am_S} {P : (am_O × am_S) ⊕ (Unit × am_S) → Prop} {Q : am_O → am_S → Prop} (h : am_shE N s)  (k : am_ok (A_L_law__590 x4 s) P) (hP : ∀ o s, P (.inl (o, s)) → am_shE N s → Q o s) (hX : ∀ (e : Unit) s, P (.inr (e, s)) → am_shE N s → am_WP (d + 11) mL_law_ 3100 [(0, .ref 2000000), (1, .ref 0), (2, .ref 55), (3, .ref 71), (4, .int x4)] [] s Q) : am_WP (d + 11) mL_law_ 590 [(0, .ref 2000000), (1, .ref 0), (2, .ref 55), (3, .ref 71), (4, .int x4)] [] s Q := by
  unfold A_L_law__590 at k
  refine wp_ld (v := .ref 0) dL_law__590 rfl rfl rfl rfl ?_
  refine wp_ld (v := .ref 2000000) dL_law__591 rfl rfl rfl rfl ?_
  refine wp_ld (v := .int x4) dL_law__592 rfl rfl rfl rfl ?_
  refine wp_cst (v := .int (1 : Int32)) dL_law__594 rfl rfl ?_
  refine wp_pu dL_law__595 rfl rfl ?_
  obtain ⟨g104, k⟩ := ok_g k
  refine wq_sald dL_law__596 (kE_script h) g104 (v := (am_I s 2000000 ((x4 + (1 : Int32)).toNatClampNeg))) rfl ?_
  refine wp_ld (v := .ref 2000000) dL_law__597 rfl rfl rfl rfl ?_
  refine wp_ld (v := .int x4) dL_law__598 rfl rfl rfl rfl ?_
  refine wp_cst (v := .int (2 : Int32)) dL_law__600 rfl rfl ?_
  refine wp_pu dL_law__601 rfl rfl ?_
  obtain ⟨g105, k⟩ := ok_g k
  refine wq_sald dL_law__602 (kE_script h) g105 (v := (am_I s 2000000 ((x4 + (2 : Int32)).toNatClampNeg))) rfl ?_
  show am_WP (d + 11) mL_law_ 603 _ _ _ Q
  refine wp_ld (v := .ref 71) dL_law__603 rfl rfl rfl rfl ?_
  refine c_i dL_law__604 rfl rfl rfl (am_inv_s rfl rfl rfl rfl) (s_L_make h) k (fun v107 s106 h k => ?_)
  refine wp_st (ls' := [(0, .ref 2000000), (1, .ref 0), (2, .ref 55), (3, .ref 71), (4, .int x4), (5, .int v107)]) dL_law__607 rfl rfl rfl (Nat.le_of_ble_eq_true rfl) rfl ?_
  refine wp_ld (v := .ref 55) dL_law__609 rfl rfl rfl rfl ?_
  refine wp_ld (v := .ref 2000000) dL_law__610 rfl rfl rfl rfl ?_
  refine wp_ld (v := .int x4) dL_law__611 rfl rfl rfl rfl ?_
  refine wp_cst (v := .int (1 : Int32)) dL_law__613 rfl rfl ?_
  refine wp_pu dL_law__614 rfl rfl ?_
  obtain ⟨g108, k⟩ := ok_g k
  refine wq_sald dL_law__615 (kE_script h) g108 (v := (am_I s106 2000000 ((x4 + (1 : Int32)).toNatClampNeg))) rfl ?_
  refine wp_ld (v := .ref 2000000) dL_law__616 rfl rfl rfl rfl ?_
  refine wp_ld (v := .int x4) dL_law__617 rfl rfl rfl rfl ?_
  refine wp_cst (v := .int (2 : Int32)) dL_law__619 rfl rfl ?_
  refine wp_pu dL_law__620 rfl rfl ?_
  show am_WP (d + 11) mL_law_ 621 _ _ _ Q
  obtain ⟨g109, k⟩ := ok_g k
  refine wq_sald dL_law__621 (kE_script h) g109 (v := (am_I s106 2000000 ((x4 + (2 : Int32)).toNatClampNeg))) rfl ?_
  refine c_i dL_law__622 rfl rfl rfl (am_inv_v rfl (kE_55 h) rfl rfl rfl) (sE h (fun _ h => s_X8_make h)) k (fun v111 s110 h k => ?_)
  refine wp_st (ls' := [(0, .ref 2000000), (1, .ref 0), (2, .ref 55), (3, .ref 71), (4, .int x4), (5, .int v107), (6, .int v111)]) dL_law__625 rfl rfl rfl (Nat.le_of_ble_eq_true rfl) rfl ?_
  refine wp_ld (v := .ref 55) dL_law__627 rfl rfl rfl rfl ?_
  refine c_i dL_law__628 rfl rfl rfl (am_inv_v rfl (kE_55 h) rfl rfl rfl) (sE h (fun _ h => s_X8_thrown h)) k (fun v113 s112 h k => ?_)
  refine wp_ld (v := .int v107) dL_law__631 rfl rfl rfl rfl ?_
  refine wp_ic_eq dL_law__633 rfl (fun c114 => have k := ok_pos c114 k; ?_) (fun c114 => have k := ok_neg c114 k; ?_)
  · refine wp_ld (v := .int v107) dL_law__638 rfl rfl rfl rfl ?_
    refine wp_if_ne dL_law__640 rfl (fun c115 => have k := ok_neg c115 k; ?_) (fun c115 => have k := ok_pos c115 k; ?_)
    · refine wp_goto dL_law__655 rfl ?_
      exact wp_sub (hX _ _ (ok_s k) h) rfl ⟨rfl, rfl, rfl, rfl, rfl, trivial⟩
    · refine wp_ld (v := .ref 71) dL_law__643 rfl rfl rfl rfl ?_
      refine wp_cst (v := .int (0 : Int32)) dL_law__644 rfl rfl ?_
      refine wq_lald dL_law__645 (kE_71 h) (by decide) (l := (am_L s112 71 0)) rfl ?_
      refine wp_ld (v := .int v111) dL_law__646 rfl rfl rfl rfl ?_
      refine wp_pu dL_law__648 rfl rfl ?_
      refine wl_eq dL_law__649 dL_law__650 rfl (fun c116 => have k := ok_pos c116 k; ?_) (fun c116 => have k := ok_neg c116 k; ?_)
      · refine wp_goto dL_law__655 rfl ?_
        exact wp_sub (hX _ _ (ok_s k) h) rfl ⟨rfl, rfl, rfl, rfl, rfl, trivial⟩
      · refine wp_cst (v := .int (0 : Int32)) dL_law__653 rfl rfl ?_
        exact wp_end dL_law__654 rfl rfl (hP _ _ (ok_s k) h)
  · refine wp_cst (v := .int (0 : Int32)) dL_law__636 rfl rfl ?_
    exact wp_end dL_law__637 rfl rfl (hP _ _ (ok_s k) h)
noncomputable def A_L_law__658 (x4 : Int32) (s : am_S) : am_FE (Unit) :=
  if am_in (x4 + (1 : Int32)) (am_K s 2000000).2 = true then
    if am_in (x4 + (2 : Int32)) (am_K s 2000000).2 = true then
      if am_in (x4 + (3 : Int32)) (am_K s 2000000).2 = true then
        am_bi (f_L_layers (am_I s 2000000 ((x4 + (1 : Int32)).toNatClampNeg)) (am_I s 2000000 ((x4 + (2 : Int32)).toNatClampNeg)) (am_I s 2000000 ((x4 + (3 : Int32)).toNatClampNeg)) s) (fun v124 s123 =>
          if am_in (x4 + (1 : Int32)) (am_K s123 2000000).2 = true then
            if am_in (x4 + (2 : Int32)) (am_K s123 2000000).2 = true then
              if am_in (x4 + (3 : Int32)) (am_K s123 2000000).2 = true then
                am_bi (f_X8_layers (am_I s123 2000000 ((x4 + (1 : Int32)).toNatClampNeg)) (am_I s123 2000000 ((x4 + (2 : Int32)).toNatClampNeg)) (am_I s123 2000000 ((x4 + (3 : Int32)).toNatClampNeg)) s123) (fun v129 s128 =>
                  am_bi (f_X8_thrown s128) (fun v131 s130 =>
                    if v131 = v124 then
                      if v124 = 0 then
                        if (am_L s130 71 0) = v129.toInt64 then
                          some (.inr ((), s130))
                        else
                          some (.inl (.inl (some (.int (0 : Int32))), s130))
                      else
                        some (.inr ((), s130))
                    else
                      some (.inl (.inl (some (.int (0 : Int32))), s130))
                  )
                )
              else none
            else none
          else none
        )
      else none
    else none
  else none
theorem q_L_law__658 {N : Nat} {d : Nat} {x4 : Int32} {s : am_S} {P : (am_O × am_S) ⊕ (Unit × am_S) → Prop} {Q : am_O → am_S → Prop} (h : am_shE N s)  (k : am_ok (A_L_law__658 x4 s) P) (hP : ∀ o s, P (.inl (o, s)) → am_shE N s → Q o s) (hX : ∀ (e : Unit) s, P (.inr (e, s)) → am_shE N s → am_WP (d + 11) mL_law_ 3100 [(0, .ref 2000000), (1, .ref 0), (2, .ref 55), (3, .ref 71), (4, .int x4)] [] s Q) : am_WP (d + 11) mL_law_ 658 [(0, .ref 2000000), (1, .ref 0), (2, .ref 55), (3, .ref 71), (4, .int x4)] [] s Q := by
  unfold A_L_law__658 at k
  refine wp_ld (v := .ref 0) dL_law__658 rfl rfl rfl rfl ?_
  refine wp_ld (v := .ref 2000000) dL_law__659 rfl rfl rfl rfl ?_
  refine wp_ld (v := .int x4) dL_law__660 rfl rfl rfl rfl ?_
  refine wp_cst (v := .int (1 : Int32)) dL_law__662 rfl rfl ?_
  refine wp_pu dL_law__663 rfl rfl ?_
  obtain ⟨g120, k⟩ := ok_g k
  refine wq_sald dL_law__664 (kE_script h) g120 (v := (am_I s 2000000 ((x4 + (1 : Int32)).toNatClampNeg))) rfl ?_
  refine wp_ld (v := .ref 2000000) dL_law__665 rfl rfl rfl rfl ?_
  refine wp_ld (v := .int x4) dL_law__666 rfl rfl rfl rfl ?_
  refine wp_cst (v := .int (2 : Int32)) dL_law__668 rfl rfl ?_
  refine wp_pu dL_law__669 rfl rfl ?_
  obtain ⟨g121, k⟩ := ok_g k
  refine wq_sald dL_law__670 (kE_script h) g121 (v := (am_I s 2000000 ((x4 + (2 : Int32)).toNatClampNeg))) rfl ?_
  show am_WP (d + 11) mL_law_ 671 _ _ _ Q
  refine wp_ld (v := .ref 2000000) dL_law__671 rfl rfl rfl rfl ?_
  refine wp_ld (v := .int x4) dL_law__672 rfl rfl rfl rfl ?_
  refine wp_cst (v := .int (3 : Int32)) dL_law__674 rfl rfl ?_
  refine wp_pu dL_law__675 rfl rfl ?_
  obtain ⟨g122, k⟩ := ok_g k
  refine wq_sald dL_law__676 (kE_script h) g122 (v := (am_I s 2000000 ((x4 + (3 : Int32)).toNatClampNeg))) rfl ?_
  refine wp_ld (v := .ref 71) dL_law__677 rfl rfl rfl rfl ?_
  refine c_i dL_law__678 rfl rfl rfl (am_inv_s rfl rfl rfl rfl) (s_L_layers h) k (fun v124 s123 h k => ?_)
  refine wp_st (ls' := [(0, .ref 2000000), (1, .ref 0), (2, .ref 55), (3, .ref 71), (4, .int x4), (5, .int v124)]) dL_law__681 rfl rfl rfl (Nat.le_of_ble_eq_true rfl) rfl ?_
  refine wp_ld (v := .ref 55) dL_law__683 rfl rfl rfl rfl ?_
  refine wp_ld (v := .ref 2000000) dL_law__684 rfl rfl rfl rfl ?_
  refine wp_ld (v := .int x4) dL_law__685 rfl rfl rfl rfl ?_
  refine wp_cst (v := .int (1 : Int32)) dL_law__687 rfl rfl ?_
  refine wp_pu dL_law__688 rfl rfl ?_
  obtain ⟨g125, k⟩ := ok_g k
  refine wq_sald dL_law__689 (kE_script h) g125 (v := (am_I s123 2000000 ((x4 + (1 : Int32)).toNatClampNeg))) rfl ?_
  refine wp_ld (v := .ref 2000000) dL_law__690 rfl rfl rfl rfl ?_
  refine wp_ld (v := .int x4) dL_law__691 rfl rfl rfl rfl ?_
  refine wp_cst (v := .int (2 : Int32)) dL_law__693 rfl rfl ?_
  refine wp_pu dL_law__694 rfl rfl ?_
  show am_WP (d + 11) mL_law_ 695 _ _ _ Q
  obtain ⟨g126, k⟩ := ok_g k
  refine wq_sald dL_law__695 (kE_script h) g126 (v := (am_I s123 2000000 ((x4 + (2 : Int32)).toNatClampNeg))) rfl ?_
  refine wp_ld (v := .ref 2000000) dL_law__696 rfl rfl rfl rfl ?_
  refine wp_ld (v := .int x4) dL_law__697 rfl rfl rfl rfl ?_
  refine wp_cst (v := .int (3 : Int32)) dL_law__699 rfl rfl ?_
  refine wp_pu dL_law__700 rfl rfl ?_
  obtain ⟨g127, k⟩ := ok_g k
  refine wq_sald dL_law__701 (kE_script h) g127 (v := (am_I s123 2000000 ((x4 + (3 : Int32)).toNatClampNeg))) rfl ?_
  refine c_i dL_law__702 rfl rfl rfl (am_inv_v rfl (kE_55 h) rfl rfl rfl) (sE h (fun _ h => s_X8_layers h)) k (fun v129 s128 h k => ?_)
  refine wp_st (ls' := [(0, .ref 2000000), (1, .ref 0), (2, .ref 55), (3, .ref 71), (4, .int x4), (5, .int v124), (6, .int v129)]) dL_law__705 rfl rfl rfl (Nat.le_of_ble_eq_true rfl) rfl ?_
  refine wp_ld (v := .ref 55) dL_law__707 rfl rfl rfl rfl ?_
  refine c_i dL_law__708 rfl rfl rfl (am_inv_v rfl (kE_55 h) rfl rfl rfl) (sE h (fun _ h => s_X8_thrown h)) k (fun v131 s130 h k => ?_)
  refine wp_ld (v := .int v124) dL_law__711 rfl rfl rfl rfl ?_
  refine wp_ic_eq dL_law__713 rfl (fun c132 => have k := ok_pos c132 k; ?_) (fun c132 => have k := ok_neg c132 k; ?_)
  · refine wp_ld (v := .int v124) dL_law__718 rfl rfl rfl rfl ?_
    refine wp_if_ne dL_law__720 rfl (fun c133 => have k := ok_neg c133 k; ?_) (fun c133 => have k := ok_pos c133 k; ?_)
    · refine wp_goto dL_law__735 rfl ?_
      exact wp_sub (hX _ _ (ok_s k) h) rfl ⟨rfl, rfl, rfl, rfl, rfl, trivial⟩
    · refine wp_ld (v := .ref 71) dL_law__723 rfl rfl rfl rfl ?_
      refine wp_cst (v := .int (0 : Int32)) dL_law__724 rfl rfl ?_
      refine wq_lald dL_law__725 (kE_71 h) (by decide) (l := (am_L s130 71 0)) rfl ?_
      refine wp_ld (v := .int v129) dL_law__726 rfl rfl rfl rfl ?_
      refine wp_pu dL_law__728 rfl rfl ?_
      refine wl_eq dL_law__729 dL_law__730 rfl (fun c134 => have k := ok_pos c134 k; ?_) (fun c134 => have k := ok_neg c134 k; ?_)
      · refine wp_goto dL_law__735 rfl ?_
        exact wp_sub (hX _ _ (ok_s k) h) rfl ⟨rfl, rfl, rfl, rfl, rfl, trivial⟩
      · refine wp_cst (v := .int (0 : Int32)) dL_law__733 rfl rfl ?_
        exact wp_end dL_law__734 rfl rfl (hP _ _ (ok_s k) h)
  · refine wp_cst (v := .int (0 : Int32)) dL_law__716 rfl rfl ?_
    exact wp_end dL_law__717 rfl rfl (hP _ _ (ok_s k) h)
noncomputable def A_L_law__738 (x4 : Int32) (s : am_S) : am_FE (Unit) :=
  if am_in (x4 + (1 : Int32)) (am_K s 2000000).2 = true then
    if am_in (x4 + (2 : Int32)) (am_K s 2000000).2 = true then
      if am_in (x4 + (3 : Int32)) (am_K s 2000000).2 = true then
        if am_in (x4 + (4 : Int32)) (am_K s 2000000).2 = true then
          if am_in (x4 + (5 : Int32)) (am_K s 2000000).2 = true then
            am_bi (f_L_fly (am_I s 2000000 ((x4 + (1 : Int32)).toNatClampNeg)) (am_I s 2000000 ((x4 + (2 : Int32)).toNatClampNeg)) (am_I s 2000000 ((x4 + (3 : Int32)).toNatClampNeg)) (am_I s 2000000 ((x4 + (4 : Int32)).toNatClampNeg)) (am_I s 2000000 ((x4 + (5 : Int32)).toNatClampNeg)) s) (fun v144 s143 =>
              if am_in (x4 + (1 : Int32)) (am_K s143 2000000).2 = true then
                if am_in (x4 + (2 : Int32)) (am_K s143 2000000).2 = true then
                  if am_in (x4 + (3 : Int32)) (am_K s143 2000000).2 = true then
                    if am_in (x4 + (4 : Int32)) (am_K s143 2000000).2 = true then
                      if am_in (x4 + (5 : Int32)) (am_K s143 2000000).2 = true then
                        am_bi (f_X8_fly (am_I s143 2000000 ((x4 + (1 : Int32)).toNatClampNeg)) (am_I s143 2000000 ((x4 + (2 : Int32)).toNatClampNeg)) (am_I s143 2000000 ((x4 + (3 : Int32)).toNatClampNeg)) (am_I s143 2000000 ((x4 + (4 : Int32)).toNatClampNeg)) (am_I s143 2000000 ((x4 + (5 : Int32)).toNatClampNeg)) s143) (fun v151 s150 =>
                          am_bi (f_X8_thrown s150) (fun v153 s152 =>
                            if v153 = v144 then
                              if v144 = 0 then
                                if (am_L s152 71 0) = v151.toInt64 then
                                  some (.inr ((), s152))
                                else
                                  some (.inl (.inl (some (.int (0 : Int32))), s152))
                              else
                                some (.inr ((), s152))
                            else
                              some (.inl (.inl (some (.int (0 : Int32))), s152))
                          )
                        )
                      else none
                    else none
                  else none
                else none
              else none
            )
          else none
        else none
      else none
    else none
  else none
theorem q_L_law__738 {N : Nat} {d : Nat} {x4 : Int32} {s : am_S} {P : (am_O × am_S) ⊕ (Unit × am_S) → Prop} {Q : am_O → am_S → Prop} (h : am_shE N s)  (k : am_ok (A_L_law__738 x4 s) P) (hP : ∀ o s, P (.inl (o, s)) → am_shE N s → Q o s) (hX : ∀ (e : Unit) s, P (.inr (e, s)) → am_shE N s → am_WP (d + 11) mL_law_ 3100 [(0, .ref 2000000), (1, .ref 0), (2, .ref 55), (3, .ref 71), (4, .int x4)] [] s Q) : am_WP (d + 11) mL_law_ 738 [(0, .ref 2000000), (1, .ref 0), (2, .ref 55), (3, .ref 71), (4, .int x4)] [] s Q := by
  unfold A_L_law__738 at k
  refine wp_ld (v := .ref 0) dL_law__738 rfl rfl rfl rfl ?_
  refine wp_ld (v := .ref 2000000) dL_law__739 rfl rfl rfl rfl ?_
  refine wp_ld (v := .int x4) dL_law__740 rfl rfl rfl rfl ?_
  refine wp_cst (v := .int (1 : Int32)) dL_law__742 rfl rfl ?_
  refine wp_pu dL_law__743 rfl rfl ?_
  obtain ⟨g138, k⟩ := ok_g k
  refine wq_sald dL_law__744 (kE_script h) g138 (v := (am_I s 2000000 ((x4 + (1 : Int32)).toNatClampNeg))) rfl ?_
  refine wp_ld (v := .ref 2000000) dL_law__745 rfl rfl rfl rfl ?_
  refine wp_ld (v := .int x4) dL_law__746 rfl rfl rfl rfl ?_
  refine wp_cst (v := .int (2 : Int32)) dL_law__748 rfl rfl ?_
  refine wp_pu dL_law__749 rfl rfl ?_
  obtain ⟨g139, k⟩ := ok_g k
  refine wq_sald dL_law__750 (kE_script h) g139 (v := (am_I s 2000000 ((x4 + (2 : Int32)).toNatClampNeg))) rfl ?_
  show am_WP (d + 11) mL_law_ 751 _ _ _ Q
  refine wp_ld (v := .ref 2000000) dL_law__751 rfl rfl rfl rfl ?_
  refine wp_ld (v := .int x4) dL_law__752 rfl rfl rfl rfl ?_
  refine wp_cst (v := .int (3 : Int32)) dL_law__754 rfl rfl ?_
  refine wp_pu dL_law__755 rfl rfl ?_
  obtain ⟨g140, k⟩ := ok_g k
  refine wq_sald dL_law__756 (kE_script h) g140 (v := (am_I s 2000000 ((x4 + (3 : Int32)).toNatClampNeg))) rfl ?_
  refine wp_ld (v := .ref 2000000) dL_law__757 rfl rfl rfl rfl ?_
  refine wp_ld (v := .int x4) dL_law__758 rfl rfl rfl rfl ?_
  refine wp_cst (v := .int (4 : Int32)) dL_law__760 rfl rfl ?_
  refine wp_pu dL_law__761 rfl rfl ?_
  obtain ⟨g141, k⟩ := ok_g k
  refine wq_sald dL_law__762 (kE_script h) g141 (v := (am_I s 2000000 ((x4 + (4 : Int32)).toNatClampNeg))) rfl ?_
  refine wp_ld (v := .ref 2000000) dL_law__763 rfl rfl rfl rfl ?_
  refine wp_ld (v := .int x4) dL_law__764 rfl rfl rfl rfl ?_
  show am_WP (d + 11) mL_law_ 766 _ _ _ Q
  refine wp_cst (v := .int (5 : Int32)) dL_law__766 rfl rfl ?_
  refine wp_pu dL_law__767 rfl rfl ?_
  obtain ⟨g142, k⟩ := ok_g k
  refine wq_sald dL_law__768 (kE_script h) g142 (v := (am_I s 2000000 ((x4 + (5 : Int32)).toNatClampNeg))) rfl ?_
  refine wp_ld (v := .ref 71) dL_law__769 rfl rfl rfl rfl ?_
  refine c_i dL_law__770 rfl rfl rfl (am_inv_s rfl rfl rfl rfl) (s_L_fly h) k (fun v144 s143 h k => ?_)
  refine wp_st (ls' := [(0, .ref 2000000), (1, .ref 0), (2, .ref 55), (3, .ref 71), (4, .int x4), (5, .int v144)]) dL_law__773 rfl rfl rfl (Nat.le_of_ble_eq_true rfl) rfl ?_
  refine wp_ld (v := .ref 55) dL_law__775 rfl rfl rfl rfl ?_
  refine wp_ld (v := .ref 2000000) dL_law__776 rfl rfl rfl rfl ?_
  refine wp_ld (v := .int x4) dL_law__777 rfl rfl rfl rfl ?_
  refine wp_cst (v := .int (1 : Int32)) dL_law__779 rfl rfl ?_
  refine wp_pu dL_law__780 rfl rfl ?_
  obtain ⟨g145, k⟩ := ok_g k
  refine wq_sald dL_law__781 (kE_script h) g145 (v := (am_I s143 2000000 ((x4 + (1 : Int32)).toNatClampNeg))) rfl ?_
  refine wp_ld (v := .ref 2000000) dL_law__782 rfl rfl rfl rfl ?_
  refine wp_ld (v := .int x4) dL_law__783 rfl rfl rfl rfl ?_
  refine wp_cst (v := .int (2 : Int32)) dL_law__785 rfl rfl ?_
  refine wp_pu dL_law__786 rfl rfl ?_
  show am_WP (d + 11) mL_law_ 787 _ _ _ Q
  obtain ⟨g146, k⟩ := ok_g k
  refine wq_sald dL_law__787 (kE_script h) g146 (v := (am_I s143 2000000 ((x4 + (2 : Int32)).toNatClampNeg))) rfl ?_
  refine wp_ld (v := .ref 2000000) dL_law__788 rfl rfl rfl rfl ?_
  refine wp_ld (v := .int x4) dL_law__789 rfl rfl rfl rfl ?_
  refine wp_cst (v := .int (3 : Int32)) dL_law__791 rfl rfl ?_
  refine wp_pu dL_law__792 rfl rfl ?_
  obtain ⟨g147, k⟩ := ok_g k
  refine wq_sald dL_law__793 (kE_script h) g147 (v := (am_I s143 2000000 ((x4 + (3 : Int32)).toNatClampNeg))) rfl ?_
  refine wp_ld (v := .ref 2000000) dL_law__794 rfl rfl rfl rfl ?_
  refine wp_ld (v := .int x4) dL_law__795 rfl rfl rfl rfl ?_
  refine wp_cst (v := .int (4 : Int32)) dL_law__797 rfl rfl ?_
  refine wp_pu dL_law__798 rfl rfl ?_
  obtain ⟨g148, k⟩ := ok_g k
  refine wq_sald dL_law__799 (kE_script h) g148 (v := (am_I s143 2000000 ((x4 + (4 : Int32)).toNatClampNeg))) rfl ?_
  refine wp_ld (v := .ref 2000000) dL_law__800 rfl rfl rfl rfl ?_
  show am_WP (d + 11) mL_law_ 801 _ _ _ Q
  refine wp_ld (v := .int x4) dL_law__801 rfl rfl rfl rfl ?_
  refine wp_cst (v := .int (5 : Int32)) dL_law__803 rfl rfl ?_
  refine wp_pu dL_law__804 rfl rfl ?_
  obtain ⟨g149, k⟩ := ok_g k
  refine wq_sald dL_law__805 (kE_script h) g149 (v := (am_I s143 2000000 ((x4 + (5 : Int32)).toNatClampNeg))) rfl ?_
  refine c_i dL_law__806 rfl rfl rfl (am_inv_v rfl (kE_55 h) rfl rfl rfl) (sE h (fun _ h => s_X8_fly h)) k (fun v151 s150 h k => ?_)
  refine wp_st (ls' := [(0, .ref 2000000), (1, .ref 0), (2, .ref 55), (3, .ref 71), (4, .int x4), (5, .int v144), (6, .int v151)]) dL_law__809 rfl rfl rfl (Nat.le_of_ble_eq_true rfl) rfl ?_
  refine wp_ld (v := .ref 55) dL_law__811 rfl rfl rfl rfl ?_
  refine c_i dL_law__812 rfl rfl rfl (am_inv_v rfl (kE_55 h) rfl rfl rfl) (sE h (fun _ h => s_X8_thrown h)) k (fun v153 s152 h k => ?_)
  refine wp_ld (v := .int v144) dL_law__815 rfl rfl rfl rfl ?_
  refine wp_ic_eq dL_law__817 rfl (fun c154 => have k := ok_pos c154 k; ?_) (fun c154 => have k := ok_neg c154 k; ?_)
  · refine wp_ld (v := .int v144) dL_law__822 rfl rfl rfl rfl ?_
    refine wp_if_ne dL_law__824 rfl (fun c155 => have k := ok_neg c155 k; ?_) (fun c155 => have k := ok_pos c155 k; ?_)
    · refine wp_goto dL_law__839 rfl ?_
      exact wp_sub (hX _ _ (ok_s k) h) rfl ⟨rfl, rfl, rfl, rfl, rfl, trivial⟩
    · refine wp_ld (v := .ref 71) dL_law__827 rfl rfl rfl rfl ?_
      refine wp_cst (v := .int (0 : Int32)) dL_law__828 rfl rfl ?_
      refine wq_lald dL_law__829 (kE_71 h) (by decide) (l := (am_L s152 71 0)) rfl ?_
      refine wp_ld (v := .int v151) dL_law__830 rfl rfl rfl rfl ?_
      refine wp_pu dL_law__832 rfl rfl ?_
      refine wl_eq dL_law__833 dL_law__834 rfl (fun c156 => have k := ok_pos c156 k; ?_) (fun c156 => have k := ok_neg c156 k; ?_)
      · refine wp_goto dL_law__839 rfl ?_
        exact wp_sub (hX _ _ (ok_s k) h) rfl ⟨rfl, rfl, rfl, rfl, rfl, trivial⟩
      · refine wp_cst (v := .int (0 : Int32)) dL_law__837 rfl rfl ?_
        exact wp_end dL_law__838 rfl rfl (hP _ _ (ok_s k) h)
  · refine wp_cst (v := .int (0 : Int32)) dL_law__820 rfl rfl ?_
    exact wp_end dL_law__821 rfl rfl (hP _ _ (ok_s k) h)
noncomputable def A_L_law__842 (x4 : Int32) (s : am_S) : am_FE (Unit) :=
  if am_in (x4 + (1 : Int32)) (am_K s 2000000).2 = true then
    if am_in (x4 + (2 : Int32)) (am_K s 2000000).2 = true then
      if am_in (x4 + (3 : Int32)) (am_K s 2000000).2 = true then
        if am_in (x4 + (4 : Int32)) (am_K s 2000000).2 = true then
          if am_in (x4 + (5 : Int32)) (am_K s 2000000).2 = true then
            if am_in (x4 + (6 : Int32)) (am_K s 2000000).2 = true then
              am_bi (f_L_at (am_I s 2000000 ((x4 + (1 : Int32)).toNatClampNeg)) (am_I s 2000000 ((x4 + (2 : Int32)).toNatClampNeg)) (am_I s 2000000 ((x4 + (3 : Int32)).toNatClampNeg)) (am_I s 2000000 ((x4 + (4 : Int32)).toNatClampNeg)) (am_I s 2000000 ((x4 + (5 : Int32)).toNatClampNeg)) (am_I s 2000000 ((x4 + (6 : Int32)).toNatClampNeg)) s) (fun v167 s166 =>
                if am_in (x4 + (1 : Int32)) (am_K s166 2000000).2 = true then
                  if am_in (x4 + (2 : Int32)) (am_K s166 2000000).2 = true then
                    if am_in (x4 + (3 : Int32)) (am_K s166 2000000).2 = true then
                      if am_in (x4 + (4 : Int32)) (am_K s166 2000000).2 = true then
                        if am_in (x4 + (5 : Int32)) (am_K s166 2000000).2 = true then
                          if am_in (x4 + (6 : Int32)) (am_K s166 2000000).2 = true then
                            am_bi (f_X8_at (am_I s166 2000000 ((x4 + (1 : Int32)).toNatClampNeg)) (am_I s166 2000000 ((x4 + (2 : Int32)).toNatClampNeg)) (am_I s166 2000000 ((x4 + (3 : Int32)).toNatClampNeg)) (am_I s166 2000000 ((x4 + (4 : Int32)).toNatClampNeg)) (am_I s166 2000000 ((x4 + (5 : Int32)).toNatClampNeg)) (am_I s166 2000000 ((x4 + (6 : Int32)).toNatClampNeg)) s166) (fun v175 s174 =>
                              am_bi (f_X8_thrown s174) (fun v177 s176 =>
                                if v177 = v167 then
                                  if v167 = 0 then
                                    if (am_L s176 71 0) = v175.toInt64 then
                                      some (.inr ((), s176))
                                    else
                                      some (.inl (.inl (some (.int (0 : Int32))), s176))
                                  else
                                    some (.inr ((), s176))
                                else
                                  some (.inl (.inl (some (.int (0 : Int32))), s176))
                              )
                            )
                          else none
                        else none
                      else none
                    else none
                  else none
                else none
              )
            else none
          else none
        else none
      else none
    else none
  else none
theorem q_L_law__842 {N : Nat} {d : Nat} {x4 : Int32} {s : am_S} {P : (am_O × am_S) ⊕ (Unit × am_S) → Prop} {Q : am_O → am_S → Prop} (h : am_shE N s)  (k : am_ok (A_L_law__842 x4 s) P) (hP : ∀ o s, P (.inl (o, s)) → am_shE N s → Q o s) (hX : ∀ (e : Unit) s, P (.inr (e, s)) → am_shE N s → am_WP (d + 11) mL_law_ 3100 [(0, .ref 2000000), (1, .ref 0), (2, .ref 55), (3, .ref 71), (4, .int x4)] [] s Q) : am_WP (d + 11) mL_law_ 842 [(0, .ref 2000000), (1, .ref 0), (2, .ref 55), (3, .ref 71), (4, .int x4)] [] s Q := by
  unfold A_L_law__842 at k
  refine wp_ld (v := .ref 0) dL_law__842 rfl rfl rfl rfl ?_
  refine wp_ld (v := .ref 2000000) dL_law__843 rfl rfl rfl rfl ?_
  refine wp_ld (v := .int x4) dL_law__844 rfl rfl rfl rfl ?_
  refine wp_cst (v := .int (1 : Int32)) dL_law__846 rfl rfl ?_
  refine wp_pu dL_law__847 rfl rfl ?_
  obtain ⟨g160, k⟩ := ok_g k
  refine wq_sald dL_law__848 (kE_script h) g160 (v := (am_I s 2000000 ((x4 + (1 : Int32)).toNatClampNeg))) rfl ?_
  refine wp_ld (v := .ref 2000000) dL_law__849 rfl rfl rfl rfl ?_
  refine wp_ld (v := .int x4) dL_law__850 rfl rfl rfl rfl ?_
  refine wp_cst (v := .int (2 : Int32)) dL_law__852 rfl rfl ?_
  refine wp_pu dL_law__853 rfl rfl ?_
  obtain ⟨g161, k⟩ := ok_g k
  refine wq_sald dL_law__854 (kE_script h) g161 (v := (am_I s 2000000 ((x4 + (2 : Int32)).toNatClampNeg))) rfl ?_
  show am_WP (d + 11) mL_law_ 855 _ _ _ Q
  refine wp_ld (v := .ref 2000000) dL_law__855 rfl rfl rfl rfl ?_
  refine wp_ld (v := .int x4) dL_law__856 rfl rfl rfl rfl ?_
  refine wp_cst (v := .int (3 : Int32)) dL_law__858 rfl rfl ?_
  refine wp_pu dL_law__859 rfl rfl ?_
  obtain ⟨g162, k⟩ := ok_g k
  refine wq_sald dL_law__860 (kE_script h) g162 (v := (am_I s 2000000 ((x4 + (3 : Int32)).toNatClampNeg))) rfl ?_
  refine wp_ld (v := .ref 2000000) dL_law__861 rfl rfl rfl rfl ?_
  refine wp_ld (v := .int x4) dL_law__862 rfl rfl rfl rfl ?_
  refine wp_cst (v := .int (4 : Int32)) dL_law__864 rfl rfl ?_
  refine wp_pu dL_law__865 rfl rfl ?_
  obtain ⟨g163, k⟩ := ok_g k
  refine wq_sald dL_law__866 (kE_script h) g163 (v := (am_I s 2000000 ((x4 + (4 : Int32)).toNatClampNeg))) rfl ?_
  refine wp_ld (v := .ref 2000000) dL_law__867 rfl rfl rfl rfl ?_
  refine wp_ld (v := .int x4) dL_law__868 rfl rfl rfl rfl ?_
  show am_WP (d + 11) mL_law_ 870 _ _ _ Q
  refine wp_cst (v := .int (5 : Int32)) dL_law__870 rfl rfl ?_
  refine wp_pu dL_law__871 rfl rfl ?_
  obtain ⟨g164, k⟩ := ok_g k
  refine wq_sald dL_law__872 (kE_script h) g164 (v := (am_I s 2000000 ((x4 + (5 : Int32)).toNatClampNeg))) rfl ?_
  refine wp_ld (v := .ref 2000000) dL_law__873 rfl rfl rfl rfl ?_
  refine wp_ld (v := .int x4) dL_law__874 rfl rfl rfl rfl ?_
  refine wp_cst (v := .int (6 : Int32)) dL_law__876 rfl rfl ?_
  refine wp_pu dL_law__878 rfl rfl ?_
  obtain ⟨g165, k⟩ := ok_g k
  refine wq_sald dL_law__879 (kE_script h) g165 (v := (am_I s 2000000 ((x4 + (6 : Int32)).toNatClampNeg))) rfl ?_
  refine wp_ld (v := .ref 71) dL_law__880 rfl rfl rfl rfl ?_
  refine c_i dL_law__881 rfl rfl rfl (am_inv_s rfl rfl rfl rfl) (s_L_at h) k (fun v167 s166 h k => ?_)
  refine wp_st (ls' := [(0, .ref 2000000), (1, .ref 0), (2, .ref 55), (3, .ref 71), (4, .int x4), (5, .int v167)]) dL_law__884 rfl rfl rfl (Nat.le_of_ble_eq_true rfl) rfl ?_
  refine wp_ld (v := .ref 55) dL_law__886 rfl rfl rfl rfl ?_
  refine wp_ld (v := .ref 2000000) dL_law__887 rfl rfl rfl rfl ?_
  refine wp_ld (v := .int x4) dL_law__888 rfl rfl rfl rfl ?_
  refine wp_cst (v := .int (1 : Int32)) dL_law__890 rfl rfl ?_
  refine wp_pu dL_law__891 rfl rfl ?_
  obtain ⟨g168, k⟩ := ok_g k
  refine wq_sald dL_law__892 (kE_script h) g168 (v := (am_I s166 2000000 ((x4 + (1 : Int32)).toNatClampNeg))) rfl ?_
  refine wp_ld (v := .ref 2000000) dL_law__893 rfl rfl rfl rfl ?_
  refine wp_ld (v := .int x4) dL_law__894 rfl rfl rfl rfl ?_
  refine wp_cst (v := .int (2 : Int32)) dL_law__896 rfl rfl ?_
  refine wp_pu dL_law__897 rfl rfl ?_
  show am_WP (d + 11) mL_law_ 898 _ _ _ Q
  obtain ⟨g169, k⟩ := ok_g k
  refine wq_sald dL_law__898 (kE_script h) g169 (v := (am_I s166 2000000 ((x4 + (2 : Int32)).toNatClampNeg))) rfl ?_
  refine wp_ld (v := .ref 2000000) dL_law__899 rfl rfl rfl rfl ?_
  refine wp_ld (v := .int x4) dL_law__900 rfl rfl rfl rfl ?_
  refine wp_cst (v := .int (3 : Int32)) dL_law__902 rfl rfl ?_
  refine wp_pu dL_law__903 rfl rfl ?_
  obtain ⟨g170, k⟩ := ok_g k
  refine wq_sald dL_law__904 (kE_script h) g170 (v := (am_I s166 2000000 ((x4 + (3 : Int32)).toNatClampNeg))) rfl ?_
  refine wp_ld (v := .ref 2000000) dL_law__905 rfl rfl rfl rfl ?_
  refine wp_ld (v := .int x4) dL_law__906 rfl rfl rfl rfl ?_
  refine wp_cst (v := .int (4 : Int32)) dL_law__908 rfl rfl ?_
  refine wp_pu dL_law__909 rfl rfl ?_
  obtain ⟨g171, k⟩ := ok_g k
  refine wq_sald dL_law__910 (kE_script h) g171 (v := (am_I s166 2000000 ((x4 + (4 : Int32)).toNatClampNeg))) rfl ?_
  refine wp_ld (v := .ref 2000000) dL_law__911 rfl rfl rfl rfl ?_
  show am_WP (d + 11) mL_law_ 912 _ _ _ Q
  refine wp_ld (v := .int x4) dL_law__912 rfl rfl rfl rfl ?_
  refine wp_cst (v := .int (5 : Int32)) dL_law__914 rfl rfl ?_
  refine wp_pu dL_law__915 rfl rfl ?_
  obtain ⟨g172, k⟩ := ok_g k
  refine wq_sald dL_law__916 (kE_script h) g172 (v := (am_I s166 2000000 ((x4 + (5 : Int32)).toNatClampNeg))) rfl ?_
  refine wp_ld (v := .ref 2000000) dL_law__917 rfl rfl rfl rfl ?_
  refine wp_ld (v := .int x4) dL_law__918 rfl rfl rfl rfl ?_
  refine wp_cst (v := .int (6 : Int32)) dL_law__920 rfl rfl ?_
  refine wp_pu dL_law__922 rfl rfl ?_
  obtain ⟨g173, k⟩ := ok_g k
  refine wq_sald dL_law__923 (kE_script h) g173 (v := (am_I s166 2000000 ((x4 + (6 : Int32)).toNatClampNeg))) rfl ?_
  refine c_i dL_law__924 rfl rfl rfl (am_inv_v rfl (kE_55 h) rfl rfl rfl) (sE h (fun _ h => s_X8_at h)) k (fun v175 s174 h k => ?_)
  refine wp_st (ls' := [(0, .ref 2000000), (1, .ref 0), (2, .ref 55), (3, .ref 71), (4, .int x4), (5, .int v167), (6, .int v175)]) dL_law__927 rfl rfl rfl (Nat.le_of_ble_eq_true rfl) rfl ?_
  refine wp_ld (v := .ref 55) dL_law__929 rfl rfl rfl rfl ?_
  refine c_i dL_law__930 rfl rfl rfl (am_inv_v rfl (kE_55 h) rfl rfl rfl) (sE h (fun _ h => s_X8_thrown h)) k (fun v177 s176 h k => ?_)
  refine wp_ld (v := .int v167) dL_law__933 rfl rfl rfl rfl ?_
  refine wp_ic_eq dL_law__935 rfl (fun c178 => have k := ok_pos c178 k; ?_) (fun c178 => have k := ok_neg c178 k; ?_)
  · refine wp_ld (v := .int v167) dL_law__940 rfl rfl rfl rfl ?_
    refine wp_if_ne dL_law__942 rfl (fun c179 => have k := ok_neg c179 k; ?_) (fun c179 => have k := ok_pos c179 k; ?_)
    · refine wp_goto dL_law__957 rfl ?_
      exact wp_sub (hX _ _ (ok_s k) h) rfl ⟨rfl, rfl, rfl, rfl, rfl, trivial⟩
    · refine wp_ld (v := .ref 71) dL_law__945 rfl rfl rfl rfl ?_
      refine wp_cst (v := .int (0 : Int32)) dL_law__946 rfl rfl ?_
      refine wq_lald dL_law__947 (kE_71 h) (by decide) (l := (am_L s176 71 0)) rfl ?_
      refine wp_ld (v := .int v175) dL_law__948 rfl rfl rfl rfl ?_
      refine wp_pu dL_law__950 rfl rfl ?_
      refine wl_eq dL_law__951 dL_law__952 rfl (fun c180 => have k := ok_pos c180 k; ?_) (fun c180 => have k := ok_neg c180 k; ?_)
      · refine wp_goto dL_law__957 rfl ?_
        exact wp_sub (hX _ _ (ok_s k) h) rfl ⟨rfl, rfl, rfl, rfl, rfl, trivial⟩
      · refine wp_cst (v := .int (0 : Int32)) dL_law__955 rfl rfl ?_
        exact wp_end dL_law__956 rfl rfl (hP _ _ (ok_s k) h)
  · refine wp_cst (v := .int (0 : Int32)) dL_law__938 rfl rfl ?_
    exact wp_end dL_law__939 rfl rfl (hP _ _ (ok_s k) h)
noncomputable def A_L_law__960 (x4 : Int32) (s : am_S) : am_FE (Unit) :=
  if am_in (x4 + (1 : Int32)) (am_K s 2000000).2 = true then
    if am_in (x4 + (2 : Int32)) (am_K s 2000000).2 = true then
      if am_in (x4 + (3 : Int32)) (am_K s 2000000).2 = true then
        am_bi (f_L_draught (am_I s 2000000 ((x4 + (1 : Int32)).toNatClampNeg)) (am_I s 2000000 ((x4 + (2 : Int32)).toNatClampNeg)) (am_I s 2000000 ((x4 + (3 : Int32)).toNatClampNeg)) s) (fun v188 s187 =>
          if am_in (x4 + (1 : Int32)) (am_K s187 2000000).2 = true then
            if am_in (x4 + (2 : Int32)) (am_K s187 2000000).2 = true then
              if am_in (x4 + (3 : Int32)) (am_K s187 2000000).2 = true then
                am_bi (f_X8_draught (am_I s187 2000000 ((x4 + (1 : Int32)).toNatClampNeg)) (am_I s187 2000000 ((x4 + (2 : Int32)).toNatClampNeg)) (am_I s187 2000000 ((x4 + (3 : Int32)).toNatClampNeg)) s187) (fun v193 s192 =>
                  am_bi (f_X8_thrown s192) (fun v195 s194 =>
                    if v195 = v188 then
                      if v188 = 0 then
                        if (am_L s194 71 0) = v193.toInt64 then
                          some (.inr ((), s194))
                        else
                          some (.inl (.inl (some (.int (0 : Int32))), s194))
                      else
                        some (.inr ((), s194))
                    else
                      some (.inl (.inl (some (.int (0 : Int32))), s194))
                  )
                )
              else none
            else none
          else none
        )
      else none
    else none
  else none
theorem q_L_law__960 {N : Nat} {d : Nat} {x4 : Int32} {s : am_S} {P : (am_O × am_S) ⊕ (Unit × am_S) → Prop} {Q : am_O → am_S → Prop} (h : am_shE N s)  (k : am_ok (A_L_law__960 x4 s) P) (hP : ∀ o s, P (.inl (o, s)) → am_shE N s → Q o s) (hX : ∀ (e : Unit) s, P (.inr (e, s)) → am_shE N s → am_WP (d + 11) mL_law_ 3100 [(0, .ref 2000000), (1, .ref 0), (2, .ref 55), (3, .ref 71), (4, .int x4)] [] s Q) : am_WP (d + 11) mL_law_ 960 [(0, .ref 2000000), (1, .ref 0), (2, .ref 55), (3, .ref 71), (4, .int x4)] [] s Q := by
  unfold A_L_law__960 at k
  refine wp_ld (v := .ref 0) dL_law__960 rfl rfl rfl rfl ?_
  refine wp_ld (v := .ref 2000000) dL_law__961 rfl rfl rfl rfl ?_
  refine wp_ld (v := .int x4) dL_law__962 rfl rfl rfl rfl ?_
  refine wp_cst (v := .int (1 : Int32)) dL_law__964 rfl rfl ?_
  refine wp_pu dL_law__965 rfl rfl ?_
  obtain ⟨g184, k⟩ := ok_g k
  refine wq_sald dL_law__966 (kE_script h) g184 (v := (am_I s 2000000 ((x4 + (1 : Int32)).toNatClampNeg))) rfl ?_
  refine wp_ld (v := .ref 2000000) dL_law__967 rfl rfl rfl rfl ?_
  refine wp_ld (v := .int x4) dL_law__968 rfl rfl rfl rfl ?_
  refine wp_cst (v := .int (2 : Int32)) dL_law__970 rfl rfl ?_
  refine wp_pu dL_law__971 rfl rfl ?_
  obtain ⟨g185, k⟩ := ok_g k
  refine wq_sald dL_law__972 (kE_script h) g185 (v := (am_I s 2000000 ((x4 + (2 : Int32)).toNatClampNeg))) rfl ?_
  show am_WP (d + 11) mL_law_ 973 _ _ _ Q
  refine wp_ld (v := .ref 2000000) dL_law__973 rfl rfl rfl rfl ?_
  refine wp_ld (v := .int x4) dL_law__974 rfl rfl rfl rfl ?_
  refine wp_cst (v := .int (3 : Int32)) dL_law__976 rfl rfl ?_
  refine wp_pu dL_law__977 rfl rfl ?_
  obtain ⟨g186, k⟩ := ok_g k
  refine wq_sald dL_law__978 (kE_script h) g186 (v := (am_I s 2000000 ((x4 + (3 : Int32)).toNatClampNeg))) rfl ?_
  refine wp_ld (v := .ref 71) dL_law__979 rfl rfl rfl rfl ?_
  refine c_i dL_law__980 rfl rfl rfl (am_inv_s rfl rfl rfl rfl) (s_L_draught h) k (fun v188 s187 h k => ?_)
  refine wp_st (ls' := [(0, .ref 2000000), (1, .ref 0), (2, .ref 55), (3, .ref 71), (4, .int x4), (5, .int v188)]) dL_law__983 rfl rfl rfl (Nat.le_of_ble_eq_true rfl) rfl ?_
  refine wp_ld (v := .ref 55) dL_law__985 rfl rfl rfl rfl ?_
  refine wp_ld (v := .ref 2000000) dL_law__986 rfl rfl rfl rfl ?_
  refine wp_ld (v := .int x4) dL_law__987 rfl rfl rfl rfl ?_
  refine wp_cst (v := .int (1 : Int32)) dL_law__989 rfl rfl ?_
  refine wp_pu dL_law__990 rfl rfl ?_
  obtain ⟨g189, k⟩ := ok_g k
  refine wq_sald dL_law__991 (kE_script h) g189 (v := (am_I s187 2000000 ((x4 + (1 : Int32)).toNatClampNeg))) rfl ?_
  refine wp_ld (v := .ref 2000000) dL_law__992 rfl rfl rfl rfl ?_
  refine wp_ld (v := .int x4) dL_law__993 rfl rfl rfl rfl ?_
  refine wp_cst (v := .int (2 : Int32)) dL_law__995 rfl rfl ?_
  refine wp_pu dL_law__996 rfl rfl ?_
  show am_WP (d + 11) mL_law_ 997 _ _ _ Q
  obtain ⟨g190, k⟩ := ok_g k
  refine wq_sald dL_law__997 (kE_script h) g190 (v := (am_I s187 2000000 ((x4 + (2 : Int32)).toNatClampNeg))) rfl ?_
  refine wp_ld (v := .ref 2000000) dL_law__998 rfl rfl rfl rfl ?_
  refine wp_ld (v := .int x4) dL_law__999 rfl rfl rfl rfl ?_
  refine wp_cst (v := .int (3 : Int32)) dL_law__1001 rfl rfl ?_
  refine wp_pu dL_law__1002 rfl rfl ?_
  obtain ⟨g191, k⟩ := ok_g k
  refine wq_sald dL_law__1003 (kE_script h) g191 (v := (am_I s187 2000000 ((x4 + (3 : Int32)).toNatClampNeg))) rfl ?_
  refine c_i dL_law__1004 rfl rfl rfl (am_inv_v rfl (kE_55 h) rfl rfl rfl) (sE h (fun _ h => s_X8_draught h)) k (fun v193 s192 h k => ?_)
  refine wp_st (ls' := [(0, .ref 2000000), (1, .ref 0), (2, .ref 55), (3, .ref 71), (4, .int x4), (5, .int v188), (6, .int v193)]) dL_law__1007 rfl rfl rfl (Nat.le_of_ble_eq_true rfl) rfl ?_
  refine wp_ld (v := .ref 55) dL_law__1009 rfl rfl rfl rfl ?_
  refine c_i dL_law__1010 rfl rfl rfl (am_inv_v rfl (kE_55 h) rfl rfl rfl) (sE h (fun _ h => s_X8_thrown h)) k (fun v195 s194 h k => ?_)
  refine wp_ld (v := .int v188) dL_law__1013 rfl rfl rfl rfl ?_
  refine wp_ic_eq dL_law__1015 rfl (fun c196 => have k := ok_pos c196 k; ?_) (fun c196 => have k := ok_neg c196 k; ?_)
  · refine wp_ld (v := .int v188) dL_law__1020 rfl rfl rfl rfl ?_
    refine wp_if_ne dL_law__1022 rfl (fun c197 => have k := ok_neg c197 k; ?_) (fun c197 => have k := ok_pos c197 k; ?_)
    · refine wp_goto dL_law__1037 rfl ?_
      exact wp_sub (hX _ _ (ok_s k) h) rfl ⟨rfl, rfl, rfl, rfl, rfl, trivial⟩
    · refine wp_ld (v := .ref 71) dL_law__1025 rfl rfl rfl rfl ?_
      refine wp_cst (v := .int (0 : Int32)) dL_law__1026 rfl rfl ?_
      refine wq_lald dL_law__1027 (kE_71 h) (by decide) (l := (am_L s194 71 0)) rfl ?_
      refine wp_ld (v := .int v193) dL_law__1028 rfl rfl rfl rfl ?_
      refine wp_pu dL_law__1030 rfl rfl ?_
      refine wl_eq dL_law__1031 dL_law__1032 rfl (fun c198 => have k := ok_pos c198 k; ?_) (fun c198 => have k := ok_neg c198 k; ?_)
      · refine wp_goto dL_law__1037 rfl ?_
        exact wp_sub (hX _ _ (ok_s k) h) rfl ⟨rfl, rfl, rfl, rfl, rfl, trivial⟩
      · refine wp_cst (v := .int (0 : Int32)) dL_law__1035 rfl rfl ?_
        exact wp_end dL_law__1036 rfl rfl (hP _ _ (ok_s k) h)
  · refine wp_cst (v := .int (0 : Int32)) dL_law__1018 rfl rfl ?_
    exact wp_end dL_law__1019 rfl rfl (hP _ _ (ok_s k) h)
noncomputable def A_L_law__1040 (x4 : Int32) (s : am_S) : am_FE (Unit) :=
  if am_in (x4 + (1 : Int32)) (am_K s 2000000).2 = true then
    if am_in (x4 + (2 : Int32)) (am_K s 2000000).2 = true then
      am_bi (f_L_crate (am_I s 2000000 ((x4 + (1 : Int32)).toNatClampNeg)) (am_I s 2000000 ((x4 + (2 : Int32)).toNatClampNeg)) s) (fun v205 s204 =>
        if am_in (x4 + (1 : Int32)) (am_K s204 2000000).2 = true then
          if am_in (x4 + (2 : Int32)) (am_K s204 2000000).2 = true then
            am_bi (f_X8_crate (am_I s204 2000000 ((x4 + (1 : Int32)).toNatClampNeg)) (am_I s204 2000000 ((x4 + (2 : Int32)).toNatClampNeg)) s204) (fun v209 s208 =>
              am_bi (f_X8_thrown s208) (fun v211 s210 =>
                if v211 = v205 then
                  if v205 = 0 then
                    if (am_L s210 71 0) = v209.toInt64 then
                      some (.inr ((), s210))
                    else
                      some (.inl (.inl (some (.int (0 : Int32))), s210))
                  else
                    some (.inr ((), s210))
                else
                  some (.inl (.inl (some (.int (0 : Int32))), s210))
              )
            )
          else none
        else none
      )
    else none
  else none
theorem q_L_law__1040 {N : Nat} {d : Nat} {x4 : Int32} {s : am_S} {P : (am_O × am_S) ⊕ (Unit × am_S) → Prop} {Q : am_O → am_S → Prop} (h : am_shE N s)  (k : am_ok (A_L_law__1040 x4 s) P) (hP : ∀ o s, P (.inl (o, s)) → am_shE N s → Q o s) (hX : ∀ (e : Unit) s, P (.inr (e, s)) → am_shE N s → am_WP (d + 11) mL_law_ 3100 [(0, .ref 2000000), (1, .ref 0), (2, .ref 55), (3, .ref 71), (4, .int x4)] [] s Q) : am_WP (d + 11) mL_law_ 1040 [(0, .ref 2000000), (1, .ref 0), (2, .ref 55), (3, .ref 71), (4, .int x4)] [] s Q := by
  unfold A_L_law__1040 at k
  refine wp_ld (v := .ref 0) dL_law__1040 rfl rfl rfl rfl ?_
  refine wp_ld (v := .ref 2000000) dL_law__1041 rfl rfl rfl rfl ?_
  refine wp_ld (v := .int x4) dL_law__1042 rfl rfl rfl rfl ?_
  refine wp_cst (v := .int (1 : Int32)) dL_law__1044 rfl rfl ?_
  refine wp_pu dL_law__1045 rfl rfl ?_
  obtain ⟨g202, k⟩ := ok_g k
  refine wq_sald dL_law__1046 (kE_script h) g202 (v := (am_I s 2000000 ((x4 + (1 : Int32)).toNatClampNeg))) rfl ?_
  refine wp_ld (v := .ref 2000000) dL_law__1047 rfl rfl rfl rfl ?_
  refine wp_ld (v := .int x4) dL_law__1048 rfl rfl rfl rfl ?_
  refine wp_cst (v := .int (2 : Int32)) dL_law__1050 rfl rfl ?_
  refine wp_pu dL_law__1051 rfl rfl ?_
  obtain ⟨g203, k⟩ := ok_g k
  refine wq_sald dL_law__1052 (kE_script h) g203 (v := (am_I s 2000000 ((x4 + (2 : Int32)).toNatClampNeg))) rfl ?_
  show am_WP (d + 11) mL_law_ 1053 _ _ _ Q
  refine wp_ld (v := .ref 71) dL_law__1053 rfl rfl rfl rfl ?_
  refine c_i dL_law__1054 rfl rfl rfl (am_inv_s rfl rfl rfl rfl) (s_L_crate h) k (fun v205 s204 h k => ?_)
  refine wp_st (ls' := [(0, .ref 2000000), (1, .ref 0), (2, .ref 55), (3, .ref 71), (4, .int x4), (5, .int v205)]) dL_law__1057 rfl rfl rfl (Nat.le_of_ble_eq_true rfl) rfl ?_
  refine wp_ld (v := .ref 55) dL_law__1059 rfl rfl rfl rfl ?_
  refine wp_ld (v := .ref 2000000) dL_law__1060 rfl rfl rfl rfl ?_
  refine wp_ld (v := .int x4) dL_law__1061 rfl rfl rfl rfl ?_
  refine wp_cst (v := .int (1 : Int32)) dL_law__1063 rfl rfl ?_
  refine wp_pu dL_law__1064 rfl rfl ?_
  obtain ⟨g206, k⟩ := ok_g k
  refine wq_sald dL_law__1065 (kE_script h) g206 (v := (am_I s204 2000000 ((x4 + (1 : Int32)).toNatClampNeg))) rfl ?_
  refine wp_ld (v := .ref 2000000) dL_law__1066 rfl rfl rfl rfl ?_
  refine wp_ld (v := .int x4) dL_law__1067 rfl rfl rfl rfl ?_
  refine wp_cst (v := .int (2 : Int32)) dL_law__1069 rfl rfl ?_
  refine wp_pu dL_law__1070 rfl rfl ?_
  show am_WP (d + 11) mL_law_ 1071 _ _ _ Q
  obtain ⟨g207, k⟩ := ok_g k
  refine wq_sald dL_law__1071 (kE_script h) g207 (v := (am_I s204 2000000 ((x4 + (2 : Int32)).toNatClampNeg))) rfl ?_
  refine c_i dL_law__1072 rfl rfl rfl (am_inv_v rfl (kE_55 h) rfl rfl rfl) (sE h (fun _ h => s_X8_crate h)) k (fun v209 s208 h k => ?_)
  refine wp_st (ls' := [(0, .ref 2000000), (1, .ref 0), (2, .ref 55), (3, .ref 71), (4, .int x4), (5, .int v205), (6, .int v209)]) dL_law__1075 rfl rfl rfl (Nat.le_of_ble_eq_true rfl) rfl ?_
  refine wp_ld (v := .ref 55) dL_law__1077 rfl rfl rfl rfl ?_
  refine c_i dL_law__1078 rfl rfl rfl (am_inv_v rfl (kE_55 h) rfl rfl rfl) (sE h (fun _ h => s_X8_thrown h)) k (fun v211 s210 h k => ?_)
  refine wp_ld (v := .int v205) dL_law__1081 rfl rfl rfl rfl ?_
  refine wp_ic_eq dL_law__1083 rfl (fun c212 => have k := ok_pos c212 k; ?_) (fun c212 => have k := ok_neg c212 k; ?_)
  · refine wp_ld (v := .int v205) dL_law__1088 rfl rfl rfl rfl ?_
    refine wp_if_ne dL_law__1090 rfl (fun c213 => have k := ok_neg c213 k; ?_) (fun c213 => have k := ok_pos c213 k; ?_)
    · refine wp_goto dL_law__1105 rfl ?_
      exact wp_sub (hX _ _ (ok_s k) h) rfl ⟨rfl, rfl, rfl, rfl, rfl, trivial⟩
    · refine wp_ld (v := .ref 71) dL_law__1093 rfl rfl rfl rfl ?_
      refine wp_cst (v := .int (0 : Int32)) dL_law__1094 rfl rfl ?_
      refine wq_lald dL_law__1095 (kE_71 h) (by decide) (l := (am_L s210 71 0)) rfl ?_
      refine wp_ld (v := .int v209) dL_law__1096 rfl rfl rfl rfl ?_
      refine wp_pu dL_law__1098 rfl rfl ?_
      refine wl_eq dL_law__1099 dL_law__1100 rfl (fun c214 => have k := ok_pos c214 k; ?_) (fun c214 => have k := ok_neg c214 k; ?_)
      · refine wp_goto dL_law__1105 rfl ?_
        exact wp_sub (hX _ _ (ok_s k) h) rfl ⟨rfl, rfl, rfl, rfl, rfl, trivial⟩
      · refine wp_cst (v := .int (0 : Int32)) dL_law__1103 rfl rfl ?_
        exact wp_end dL_law__1104 rfl rfl (hP _ _ (ok_s k) h)
  · refine wp_cst (v := .int (0 : Int32)) dL_law__1086 rfl rfl ?_
    exact wp_end dL_law__1087 rfl rfl (hP _ _ (ok_s k) h)
noncomputable def A_L_law__1108 (x4 : Int32) (s : am_S) : am_FE (Unit) :=
  am_bi (f_X7_still s) (fun v219 s218 =>
    am_bi (f_X8_still s218) (fun v221 s220 =>
      if v219 = v221 then
        some (.inr ((), s220))
      else
        some (.inl (.inl (some (.int (0 : Int32))), s220))
    )
  )
theorem q_L_law__1108 {N : Nat} {d : Nat} {x4 : Int32} {s : am_S} {P : (am_O × am_S) ⊕ (Unit × am_S) → Prop} {Q : am_O → am_S → Prop} (h : am_shE N s)  (k : am_ok (A_L_law__1108 x4 s) P) (hP : ∀ o s, P (.inl (o, s)) → am_shE N s → Q o s) (hX : ∀ (e : Unit) s, P (.inr (e, s)) → am_shE N s → am_WP (d + 11) mL_law_ 3100 [(0, .ref 2000000), (1, .ref 0), (2, .ref 55), (3, .ref 71), (4, .int x4)] [] s Q) : am_WP (d + 11) mL_law_ 1108 [(0, .ref 2000000), (1, .ref 0), (2, .ref 55), (3, .ref 71), (4, .int x4)] [] s Q := by
  unfold A_L_law__1108 at k
  refine wp_ld (v := .ref 0) dL_law__1108 rfl rfl rfl rfl ?_
  refine c_i dL_law__1109 rfl rfl rfl (am_inv_v rfl (kE_0 h) rfl rfl rfl) (sE h (fun _ h => s_X7_still h)) k (fun v219 s218 h k => ?_)
  refine wp_ld (v := .ref 55) dL_law__1112 rfl rfl rfl rfl ?_
  refine c_i dL_law__1113 rfl rfl rfl (am_inv_v rfl (kE_55 h) rfl rfl rfl) (sE h (fun _ h => s_X8_still h)) k (fun v221 s220 h k => ?_)
  refine wp_ic_eq dL_law__1116 rfl (fun c222 => have k := ok_pos c222 k; ?_) (fun c222 => have k := ok_neg c222 k; ?_)
  · exact wp_sub (hX _ _ (ok_s k) h) rfl ⟨rfl, rfl, rfl, rfl, rfl, trivial⟩
  · refine wp_cst (v := .int (0 : Int32)) dL_law__1119 rfl rfl ?_
    exact wp_end dL_law__1120 rfl rfl (hP _ _ (ok_s k) h)
noncomputable def A_L_law__1121 (x4 : Int32) (s : am_S) : am_FE (Unit) :=
  if am_in (x4 + (1 : Int32)) (am_K s 2000000).2 = true then
    am_bi (f_L_damp (am_I s 2000000 ((x4 + (1 : Int32)).toNatClampNeg)) s) (fun v228 s227 =>
      if am_in (x4 + (1 : Int32)) (am_K s227 2000000).2 = true then
        am_bi (f_X8_damp (am_I s227 2000000 ((x4 + (1 : Int32)).toNatClampNeg)) s227) (fun v231 s230 =>
          am_bi (f_X8_thrown s230) (fun v233 s232 =>
            if v233 = v228 then
              if v228 = 0 then
                if (am_L s232 71 0) = v231.toInt64 then
                  some (.inr ((), s232))
                else
                  some (.inl (.inl (some (.int (0 : Int32))), s232))
              else
                some (.inr ((), s232))
            else
              some (.inl (.inl (some (.int (0 : Int32))), s232))
          )
        )
      else none
    )
  else none
theorem q_L_law__1121 {N : Nat} {d : Nat} {x4 : Int32} {s : am_S} {P : (am_O × am_S) ⊕ (Unit × am_S) → Prop} {Q : am_O → am_S → Prop} (h : am_shE N s)  (k : am_ok (A_L_law__1121 x4 s) P) (hP : ∀ o s, P (.inl (o, s)) → am_shE N s → Q o s) (hX : ∀ (e : Unit) s, P (.inr (e, s)) → am_shE N s → am_WP (d + 11) mL_law_ 3100 [(0, .ref 2000000), (1, .ref 0), (2, .ref 55), (3, .ref 71), (4, .int x4)] [] s Q) : am_WP (d + 11) mL_law_ 1121 [(0, .ref 2000000), (1, .ref 0), (2, .ref 55), (3, .ref 71), (4, .int x4)] [] s Q := by
  unfold A_L_law__1121 at k
  refine wp_ld (v := .ref 0) dL_law__1121 rfl rfl rfl rfl ?_
  refine wp_ld (v := .ref 2000000) dL_law__1122 rfl rfl rfl rfl ?_
  refine wp_ld (v := .int x4) dL_law__1123 rfl rfl rfl rfl ?_
  refine wp_cst (v := .int (1 : Int32)) dL_law__1125 rfl rfl ?_
  refine wp_pu dL_law__1126 rfl rfl ?_
  obtain ⟨g226, k⟩ := ok_g k
  refine wq_sald dL_law__1127 (kE_script h) g226 (v := (am_I s 2000000 ((x4 + (1 : Int32)).toNatClampNeg))) rfl ?_
  refine wp_ld (v := .ref 71) dL_law__1128 rfl rfl rfl rfl ?_
  refine c_i dL_law__1129 rfl rfl rfl (am_inv_s rfl rfl rfl rfl) (s_L_damp h) k (fun v228 s227 h k => ?_)
  refine wp_st (ls' := [(0, .ref 2000000), (1, .ref 0), (2, .ref 55), (3, .ref 71), (4, .int x4), (5, .int v228)]) dL_law__1132 rfl rfl rfl (Nat.le_of_ble_eq_true rfl) rfl ?_
  refine wp_ld (v := .ref 55) dL_law__1134 rfl rfl rfl rfl ?_
  refine wp_ld (v := .ref 2000000) dL_law__1135 rfl rfl rfl rfl ?_
  refine wp_ld (v := .int x4) dL_law__1136 rfl rfl rfl rfl ?_
  refine wp_cst (v := .int (1 : Int32)) dL_law__1138 rfl rfl ?_
  refine wp_pu dL_law__1139 rfl rfl ?_
  obtain ⟨g229, k⟩ := ok_g k
  refine wq_sald dL_law__1140 (kE_script h) g229 (v := (am_I s227 2000000 ((x4 + (1 : Int32)).toNatClampNeg))) rfl ?_
  refine c_i dL_law__1141 rfl rfl rfl (am_inv_v rfl (kE_55 h) rfl rfl rfl) (sE h (fun _ h => s_X8_damp h)) k (fun v231 s230 h k => ?_)
  refine wp_st (ls' := [(0, .ref 2000000), (1, .ref 0), (2, .ref 55), (3, .ref 71), (4, .int x4), (5, .int v228), (6, .int v231)]) dL_law__1144 rfl rfl rfl (Nat.le_of_ble_eq_true rfl) rfl ?_
  refine wp_ld (v := .ref 55) dL_law__1146 rfl rfl rfl rfl ?_
  refine c_i dL_law__1147 rfl rfl rfl (am_inv_v rfl (kE_55 h) rfl rfl rfl) (sE h (fun _ h => s_X8_thrown h)) k (fun v233 s232 h k => ?_)
  refine wp_ld (v := .int v228) dL_law__1150 rfl rfl rfl rfl ?_
  refine wp_ic_eq dL_law__1152 rfl (fun c234 => have k := ok_pos c234 k; ?_) (fun c234 => have k := ok_neg c234 k; ?_)
  · refine wp_ld (v := .int v228) dL_law__1157 rfl rfl rfl rfl ?_
    refine wp_if_ne dL_law__1159 rfl (fun c235 => have k := ok_neg c235 k; ?_) (fun c235 => have k := ok_pos c235 k; ?_)
    · refine wp_goto dL_law__1174 rfl ?_
      exact wp_sub (hX _ _ (ok_s k) h) rfl ⟨rfl, rfl, rfl, rfl, rfl, trivial⟩
    · refine wp_ld (v := .ref 71) dL_law__1162 rfl rfl rfl rfl ?_
      refine wp_cst (v := .int (0 : Int32)) dL_law__1163 rfl rfl ?_
      refine wq_lald dL_law__1164 (kE_71 h) (by decide) (l := (am_L s232 71 0)) rfl ?_
      refine wp_ld (v := .int v231) dL_law__1165 rfl rfl rfl rfl ?_
      refine wp_pu dL_law__1167 rfl rfl ?_
      refine wl_eq dL_law__1168 dL_law__1169 rfl (fun c236 => have k := ok_pos c236 k; ?_) (fun c236 => have k := ok_neg c236 k; ?_)
      · refine wp_goto dL_law__1174 rfl ?_
        exact wp_sub (hX _ _ (ok_s k) h) rfl ⟨rfl, rfl, rfl, rfl, rfl, trivial⟩
      · refine wp_cst (v := .int (0 : Int32)) dL_law__1172 rfl rfl ?_
        exact wp_end dL_law__1173 rfl rfl (hP _ _ (ok_s k) h)
  · refine wp_cst (v := .int (0 : Int32)) dL_law__1155 rfl rfl ?_
    exact wp_end dL_law__1156 rfl rfl (hP _ _ (ok_s k) h)
noncomputable def A_L_law__1177 (x4 : Int32) (s : am_S) : am_FE (Unit) :=
  if am_in (x4 + (1 : Int32)) (am_K s 2000000).2 = true then
    if am_in (x4 + (2 : Int32)) (am_K s 2000000).2 = true then
      if am_in (x4 + (3 : Int32)) (am_K s 2000000).2 = true then
        if am_in (x4 + (4 : Int32)) (am_K s 2000000).2 = true then
          am_jn (fun (e245 : Int32) s246 =>
            am_bi (f_L_slant (am_I s 2000000 ((x4 + (1 : Int32)).toNatClampNeg)) (am_I s 2000000 ((x4 + (2 : Int32)).toNatClampNeg)) (am_I s 2000000 ((x4 + (3 : Int32)).toNatClampNeg)) e245 s246) (fun v248 s247 =>
              if am_in (x4 + (1 : Int32)) (am_K s247 2000000).2 = true then
                if am_in (x4 + (2 : Int32)) (am_K s247 2000000).2 = true then
                  if am_in (x4 + (3 : Int32)) (am_K s247 2000000).2 = true then
                    if am_in (x4 + (4 : Int32)) (am_K s247 2000000).2 = true then
                      am_jn (fun (e254 : Int32) s255 =>
                        am_bi (f_X8_slant (am_I s247 2000000 ((x4 + (1 : Int32)).toNatClampNeg)) (am_I s247 2000000 ((x4 + (2 : Int32)).toNatClampNeg)) (am_I s247 2000000 ((x4 + (3 : Int32)).toNatClampNeg)) e254 s255) (fun v257 s256 =>
                          am_bi (f_X8_thrown s256) (fun v259 s258 =>
                            if v259 = v248 then
                              if v248 = 0 then
                                if (am_L s258 71 0) = v257.toInt64 then
                                  some (.inr ((), s258))
                                else
                                  some (.inl (.inl (some (.int (0 : Int32))), s258))
                              else
                                some (.inr ((), s258))
                            else
                              some (.inl (.inl (some (.int (0 : Int32))), s258))
                          )
                        )
                      ) (fun J253 =>
                        if (am_I s247 2000000 ((x4 + (4 : Int32)).toNatClampNeg)) = 0 then
                          J253 (0 : Int32) s247
                        else
                          J253 (1 : Int32) s247
                      )
                    else none
                  else none
                else none
              else none
            )
          ) (fun J244 =>
            if (am_I s 2000000 ((x4 + (4 : Int32)).toNatClampNeg)) = 0 then
              J244 (0 : Int32) s
            else
              J244 (1 : Int32) s
          )
        else none
      else none
    else none
  else none
theorem q_L_law__1177 {N : Nat} {d : Nat} {x4 : Int32} {s : am_S} {P : (am_O × am_S) ⊕ (Unit × am_S) → Prop} {Q : am_O → am_S → Prop} (h : am_shE N s)  (k : am_ok (A_L_law__1177 x4 s) P) (hP : ∀ o s, P (.inl (o, s)) → am_shE N s → Q o s) (hX : ∀ (e : Unit) s, P (.inr (e, s)) → am_shE N s → am_WP (d + 11) mL_law_ 3100 [(0, .ref 2000000), (1, .ref 0), (2, .ref 55), (3, .ref 71), (4, .int x4)] [] s Q) : am_WP (d + 11) mL_law_ 1177 [(0, .ref 2000000), (1, .ref 0), (2, .ref 55), (3, .ref 71), (4, .int x4)] [] s Q := by
  unfold A_L_law__1177 at k
  refine wp_ld (v := .ref 0) dL_law__1177 rfl rfl rfl rfl ?_
  refine wp_ld (v := .ref 2000000) dL_law__1178 rfl rfl rfl rfl ?_
  refine wp_ld (v := .int x4) dL_law__1179 rfl rfl rfl rfl ?_
  refine wp_cst (v := .int (1 : Int32)) dL_law__1181 rfl rfl ?_
  refine wp_pu dL_law__1182 rfl rfl ?_
  obtain ⟨g240, k⟩ := ok_g k
  refine wq_sald dL_law__1183 (kE_script h) g240 (v := (am_I s 2000000 ((x4 + (1 : Int32)).toNatClampNeg))) rfl ?_
  refine wp_ld (v := .ref 2000000) dL_law__1184 rfl rfl rfl rfl ?_
  refine wp_ld (v := .int x4) dL_law__1185 rfl rfl rfl rfl ?_
  refine wp_cst (v := .int (2 : Int32)) dL_law__1187 rfl rfl ?_
  refine wp_pu dL_law__1188 rfl rfl ?_
  obtain ⟨g241, k⟩ := ok_g k
  refine wq_sald dL_law__1189 (kE_script h) g241 (v := (am_I s 2000000 ((x4 + (2 : Int32)).toNatClampNeg))) rfl ?_
  show am_WP (d + 11) mL_law_ 1190 _ _ _ Q
  refine wp_ld (v := .ref 2000000) dL_law__1190 rfl rfl rfl rfl ?_
  refine wp_ld (v := .int x4) dL_law__1191 rfl rfl rfl rfl ?_
  refine wp_cst (v := .int (3 : Int32)) dL_law__1193 rfl rfl ?_
  refine wp_pu dL_law__1194 rfl rfl ?_
  obtain ⟨g242, k⟩ := ok_g k
  refine wq_sald dL_law__1195 (kE_script h) g242 (v := (am_I s 2000000 ((x4 + (3 : Int32)).toNatClampNeg))) rfl ?_
  refine wp_ld (v := .ref 2000000) dL_law__1196 rfl rfl rfl rfl ?_
  refine wp_ld (v := .int x4) dL_law__1197 rfl rfl rfl rfl ?_
  refine wp_cst (v := .int (4 : Int32)) dL_law__1199 rfl rfl ?_
  refine wp_pu dL_law__1200 rfl rfl ?_
  obtain ⟨g243, k⟩ := ok_g k
  refine wq_sald dL_law__1201 (kE_script h) g243 (v := (am_I s 2000000 ((x4 + (4 : Int32)).toNatClampNeg))) rfl ?_
  refine jn_rule k (fun J244 hJ244 k => ?_)
  have HJ244 : ∀ (e245 : Int32) (s246 : am_S), am_shE N s246 → am_ok (J244 e245 s246) P → am_WP (d + 11) mL_law_ 1210 [(0, .ref 2000000), (1, .ref 0), (2, .ref 55), (3, .ref 71), (4, .int x4)] [.int e245, .int (am_I s 2000000 ((x4 + (3 : Int32)).toNatClampNeg)), .int (am_I s 2000000 ((x4 + (2 : Int32)).toNatClampNeg)), .int (am_I s 2000000 ((x4 + (1 : Int32)).toNatClampNeg)), .ref 0] s246 Q := by
    intro e245 s246 h k
    replace k := hJ244 _ _ k
    refine wp_ld (v := .ref 71) dL_law__1210 rfl rfl rfl rfl ?_
    refine c_i dL_law__1211 rfl rfl rfl (am_inv_s rfl rfl rfl rfl) (s_L_slant h) k (fun v248 s247 h k => ?_)
    refine wp_st (ls' := [(0, .ref 2000000), (1, .ref 0), (2, .ref 55), (3, .ref 71), (4, .int x4), (5, .int v248)]) dL_law__1214 rfl rfl rfl (Nat.le_of_ble_eq_true rfl) rfl ?_
    refine wp_ld (v := .ref 55) dL_law__1216 rfl rfl rfl rfl ?_
    refine wp_ld (v := .ref 2000000) dL_law__1217 rfl rfl rfl rfl ?_
    refine wp_ld (v := .int x4) dL_law__1218 rfl rfl rfl rfl ?_
    refine wp_cst (v := .int (1 : Int32)) dL_law__1220 rfl rfl ?_
    refine wp_pu dL_law__1221 rfl rfl ?_
    obtain ⟨g249, k⟩ := ok_g k
    refine wq_sald dL_law__1222 (kE_script h) g249 (v := (am_I s247 2000000 ((x4 + (1 : Int32)).toNatClampNeg))) rfl ?_
    refine wp_ld (v := .ref 2000000) dL_law__1223 rfl rfl rfl rfl ?_
    refine wp_ld (v := .int x4) dL_law__1224 rfl rfl rfl rfl ?_
    refine wp_cst (v := .int (2 : Int32)) dL_law__1226 rfl rfl ?_
    refine wp_pu dL_law__1227 rfl rfl ?_
    show am_WP (d + 11) mL_law_ 1228 _ _ _ Q
    obtain ⟨g250, k⟩ := ok_g k
    refine wq_sald dL_law__1228 (kE_script h) g250 (v := (am_I s247 2000000 ((x4 + (2 : Int32)).toNatClampNeg))) rfl ?_
    refine wp_ld (v := .ref 2000000) dL_law__1229 rfl rfl rfl rfl ?_
    refine wp_ld (v := .int x4) dL_law__1230 rfl rfl rfl rfl ?_
    refine wp_cst (v := .int (3 : Int32)) dL_law__1232 rfl rfl ?_
    refine wp_pu dL_law__1233 rfl rfl ?_
    obtain ⟨g251, k⟩ := ok_g k
    refine wq_sald dL_law__1234 (kE_script h) g251 (v := (am_I s247 2000000 ((x4 + (3 : Int32)).toNatClampNeg))) rfl ?_
    refine wp_ld (v := .ref 2000000) dL_law__1235 rfl rfl rfl rfl ?_
    refine wp_ld (v := .int x4) dL_law__1236 rfl rfl rfl rfl ?_
    refine wp_cst (v := .int (4 : Int32)) dL_law__1238 rfl rfl ?_
    refine wp_pu dL_law__1239 rfl rfl ?_
    obtain ⟨g252, k⟩ := ok_g k
    refine wq_sald dL_law__1240 (kE_script h) g252 (v := (am_I s247 2000000 ((x4 + (4 : Int32)).toNatClampNeg))) rfl ?_
    refine jn_rule k (fun J253 hJ253 k => ?_)
    have HJ253 : ∀ (e254 : Int32) (s255 : am_S), am_shE N s255 → am_ok (J253 e254 s255) P → am_WP (d + 11) mL_law_ 1249 [(0, .ref 2000000), (1, .ref 0), (2, .ref 55), (3, .ref 71), (4, .int x4), (5, .int v248)] [.int e254, .int (am_I s247 2000000 ((x4 + (3 : Int32)).toNatClampNeg)), .int (am_I s247 2000000 ((x4 + (2 : Int32)).toNatClampNeg)), .int (am_I s247 2000000 ((x4 + (1 : Int32)).toNatClampNeg)), .ref 55] s255 Q := by
      intro e254 s255 h k
      replace k := hJ253 _ _ k
      refine c_i dL_law__1249 rfl rfl rfl (am_inv_v rfl (kE_55 h) rfl rfl rfl) (sE h (fun _ h => s_X8_slant h)) k (fun v257 s256 h k => ?_)
      refine wp_st (ls' := [(0, .ref 2000000), (1, .ref 0), (2, .ref 55), (3, .ref 71), (4, .int x4), (5, .int v248), (6, .int v257)]) dL_law__1252 rfl rfl rfl (Nat.le_of_ble_eq_true rfl) rfl ?_
      refine wp_ld (v := .ref 55) dL_law__1254 rfl rfl rfl rfl ?_
      refine c_i dL_law__1255 rfl rfl rfl (am_inv_v rfl (kE_55 h) rfl rfl rfl) (sE h (fun _ h => s_X8_thrown h)) k (fun v259 s258 h k => ?_)
      refine wp_ld (v := .int v248) dL_law__1258 rfl rfl rfl rfl ?_
      refine wp_ic_eq dL_law__1260 rfl (fun c260 => have k := ok_pos c260 k; ?_) (fun c260 => have k := ok_neg c260 k; ?_)
      · refine wp_ld (v := .int v248) dL_law__1265 rfl rfl rfl rfl ?_
        refine wp_if_ne dL_law__1267 rfl (fun c261 => have k := ok_neg c261 k; ?_) (fun c261 => have k := ok_pos c261 k; ?_)
        · refine wp_goto dL_law__1282 rfl ?_
          exact wp_sub (hX _ _ (ok_s k) h) rfl ⟨rfl, rfl, rfl, rfl, rfl, trivial⟩
        · refine wp_ld (v := .ref 71) dL_law__1270 rfl rfl rfl rfl ?_
          refine wp_cst (v := .int (0 : Int32)) dL_law__1271 rfl rfl ?_
          refine wq_lald dL_law__1272 (kE_71 h) (by decide) (l := (am_L s258 71 0)) rfl ?_
          refine wp_ld (v := .int v257) dL_law__1273 rfl rfl rfl rfl ?_
          refine wp_pu dL_law__1275 rfl rfl ?_
          refine wl_eq dL_law__1276 dL_law__1277 rfl (fun c262 => have k := ok_pos c262 k; ?_) (fun c262 => have k := ok_neg c262 k; ?_)
          · refine wp_goto dL_law__1282 rfl ?_
            exact wp_sub (hX _ _ (ok_s k) h) rfl ⟨rfl, rfl, rfl, rfl, rfl, trivial⟩
          · refine wp_cst (v := .int (0 : Int32)) dL_law__1280 rfl rfl ?_
            exact wp_end dL_law__1281 rfl rfl (hP _ _ (ok_s k) h)
      · refine wp_cst (v := .int (0 : Int32)) dL_law__1263 rfl rfl ?_
        exact wp_end dL_law__1264 rfl rfl (hP _ _ (ok_s k) h)
    refine wp_if_eq dL_law__1241 rfl (fun c263 => have k := ok_pos c263 k; ?_) (fun c263 => have k := ok_neg c263 k; ?_)
    · refine wp_cst (v := .int (0 : Int32)) dL_law__1248 rfl rfl ?_
      exact wp_sub (HJ253 _ _ h k) rfl ⟨rfl, rfl, rfl, rfl, rfl, rfl, trivial⟩
    · refine wp_cst (v := .int (1 : Int32)) dL_law__1244 rfl rfl ?_
      refine wp_goto dL_law__1245 rfl ?_
      exact wp_sub (HJ253 _ _ h k) rfl ⟨rfl, rfl, rfl, rfl, rfl, rfl, trivial⟩
  refine wp_if_eq dL_law__1202 rfl (fun c264 => have k := ok_pos c264 k; ?_) (fun c264 => have k := ok_neg c264 k; ?_)
  · refine wp_cst (v := .int (0 : Int32)) dL_law__1209 rfl rfl ?_
    exact wp_sub (HJ244 _ _ h k) rfl ⟨rfl, rfl, rfl, rfl, rfl, trivial⟩
  · refine wp_cst (v := .int (1 : Int32)) dL_law__1205 rfl rfl ?_
    refine wp_goto dL_law__1206 rfl ?_
    exact wp_sub (HJ244 _ _ h k) rfl ⟨rfl, rfl, rfl, rfl, rfl, trivial⟩
noncomputable def A_L_law__1285 (x4 : Int32) (s : am_S) : am_FE (Unit) :=
  if am_in (x4 + (1 : Int32)) (am_K s 2000000).2 = true then
    if am_in (x4 + (2 : Int32)) (am_K s 2000000).2 = true then
      if am_in (x4 + (3 : Int32)) (am_K s 2000000).2 = true then
        am_bi (f_L_rest (am_I s 2000000 ((x4 + (1 : Int32)).toNatClampNeg)) (am_I s 2000000 ((x4 + (2 : Int32)).toNatClampNeg)) (am_I s 2000000 ((x4 + (3 : Int32)).toNatClampNeg)) s) (fun v272 s271 =>
          if am_in (x4 + (1 : Int32)) (am_K s271 2000000).2 = true then
            if am_in (x4 + (2 : Int32)) (am_K s271 2000000).2 = true then
              if am_in (x4 + (3 : Int32)) (am_K s271 2000000).2 = true then
                am_bi (f_X8_rest (am_I s271 2000000 ((x4 + (1 : Int32)).toNatClampNeg)) (am_I s271 2000000 ((x4 + (2 : Int32)).toNatClampNeg)) (am_I s271 2000000 ((x4 + (3 : Int32)).toNatClampNeg)) s271) (fun v277 s276 =>
                  am_bi (f_X8_thrown s276) (fun v279 s278 =>
                    if v279 = v272 then
                      if v272 = 0 then
                        if (am_L s278 71 0) = v277.toInt64 then
                          some (.inr ((), s278))
                        else
                          some (.inl (.inl (some (.int (0 : Int32))), s278))
                      else
                        some (.inr ((), s278))
                    else
                      some (.inl (.inl (some (.int (0 : Int32))), s278))
                  )
                )
              else none
            else none
          else none
        )
      else none
    else none
  else none
theorem q_L_law__1285 {N : Nat} {d : Nat} {x4 : Int32} {s : am_S} {P : (am_O × am_S) ⊕ (Unit × am_S) → Prop} {Q : am_O → am_S → Prop} (h : am_shE N s)  (k : am_ok (A_L_law__1285 x4 s) P) (hP : ∀ o s, P (.inl (o, s)) → am_shE N s → Q o s) (hX : ∀ (e : Unit) s, P (.inr (e, s)) → am_shE N s → am_WP (d + 11) mL_law_ 3100 [(0, .ref 2000000), (1, .ref 0), (2, .ref 55), (3, .ref 71), (4, .int x4)] [] s Q) : am_WP (d + 11) mL_law_ 1285 [(0, .ref 2000000), (1, .ref 0), (2, .ref 55), (3, .ref 71), (4, .int x4)] [] s Q := by
  unfold A_L_law__1285 at k
  refine wp_ld (v := .ref 0) dL_law__1285 rfl rfl rfl rfl ?_
  refine wp_ld (v := .ref 2000000) dL_law__1286 rfl rfl rfl rfl ?_
  refine wp_ld (v := .int x4) dL_law__1287 rfl rfl rfl rfl ?_
  refine wp_cst (v := .int (1 : Int32)) dL_law__1289 rfl rfl ?_
  refine wp_pu dL_law__1290 rfl rfl ?_
  obtain ⟨g268, k⟩ := ok_g k
  refine wq_sald dL_law__1291 (kE_script h) g268 (v := (am_I s 2000000 ((x4 + (1 : Int32)).toNatClampNeg))) rfl ?_
  refine wp_ld (v := .ref 2000000) dL_law__1292 rfl rfl rfl rfl ?_
  refine wp_ld (v := .int x4) dL_law__1293 rfl rfl rfl rfl ?_
  refine wp_cst (v := .int (2 : Int32)) dL_law__1295 rfl rfl ?_
  refine wp_pu dL_law__1296 rfl rfl ?_
  obtain ⟨g269, k⟩ := ok_g k
  refine wq_sald dL_law__1297 (kE_script h) g269 (v := (am_I s 2000000 ((x4 + (2 : Int32)).toNatClampNeg))) rfl ?_
  show am_WP (d + 11) mL_law_ 1298 _ _ _ Q
  refine wp_ld (v := .ref 2000000) dL_law__1298 rfl rfl rfl rfl ?_
  refine wp_ld (v := .int x4) dL_law__1299 rfl rfl rfl rfl ?_
  refine wp_cst (v := .int (3 : Int32)) dL_law__1301 rfl rfl ?_
  refine wp_pu dL_law__1302 rfl rfl ?_
  obtain ⟨g270, k⟩ := ok_g k
  refine wq_sald dL_law__1303 (kE_script h) g270 (v := (am_I s 2000000 ((x4 + (3 : Int32)).toNatClampNeg))) rfl ?_
  refine wp_ld (v := .ref 71) dL_law__1304 rfl rfl rfl rfl ?_
  refine c_i dL_law__1305 rfl rfl rfl (am_inv_s rfl rfl rfl rfl) (s_L_rest h) k (fun v272 s271 h k => ?_)
  refine wp_st (ls' := [(0, .ref 2000000), (1, .ref 0), (2, .ref 55), (3, .ref 71), (4, .int x4), (5, .int v272)]) dL_law__1308 rfl rfl rfl (Nat.le_of_ble_eq_true rfl) rfl ?_
  refine wp_ld (v := .ref 55) dL_law__1310 rfl rfl rfl rfl ?_
  refine wp_ld (v := .ref 2000000) dL_law__1311 rfl rfl rfl rfl ?_
  refine wp_ld (v := .int x4) dL_law__1312 rfl rfl rfl rfl ?_
  refine wp_cst (v := .int (1 : Int32)) dL_law__1314 rfl rfl ?_
  refine wp_pu dL_law__1315 rfl rfl ?_
  obtain ⟨g273, k⟩ := ok_g k
  refine wq_sald dL_law__1316 (kE_script h) g273 (v := (am_I s271 2000000 ((x4 + (1 : Int32)).toNatClampNeg))) rfl ?_
  refine wp_ld (v := .ref 2000000) dL_law__1317 rfl rfl rfl rfl ?_
  refine wp_ld (v := .int x4) dL_law__1318 rfl rfl rfl rfl ?_
  refine wp_cst (v := .int (2 : Int32)) dL_law__1320 rfl rfl ?_
  refine wp_pu dL_law__1321 rfl rfl ?_
  show am_WP (d + 11) mL_law_ 1322 _ _ _ Q
  obtain ⟨g274, k⟩ := ok_g k
  refine wq_sald dL_law__1322 (kE_script h) g274 (v := (am_I s271 2000000 ((x4 + (2 : Int32)).toNatClampNeg))) rfl ?_
  refine wp_ld (v := .ref 2000000) dL_law__1323 rfl rfl rfl rfl ?_
  refine wp_ld (v := .int x4) dL_law__1324 rfl rfl rfl rfl ?_
  refine wp_cst (v := .int (3 : Int32)) dL_law__1326 rfl rfl ?_
  refine wp_pu dL_law__1327 rfl rfl ?_
  obtain ⟨g275, k⟩ := ok_g k
  refine wq_sald dL_law__1328 (kE_script h) g275 (v := (am_I s271 2000000 ((x4 + (3 : Int32)).toNatClampNeg))) rfl ?_
  refine c_i dL_law__1329 rfl rfl rfl (am_inv_v rfl (kE_55 h) rfl rfl rfl) (sE h (fun _ h => s_X8_rest h)) k (fun v277 s276 h k => ?_)
  refine wp_st (ls' := [(0, .ref 2000000), (1, .ref 0), (2, .ref 55), (3, .ref 71), (4, .int x4), (5, .int v272), (6, .int v277)]) dL_law__1332 rfl rfl rfl (Nat.le_of_ble_eq_true rfl) rfl ?_
  refine wp_ld (v := .ref 55) dL_law__1334 rfl rfl rfl rfl ?_
  refine c_i dL_law__1335 rfl rfl rfl (am_inv_v rfl (kE_55 h) rfl rfl rfl) (sE h (fun _ h => s_X8_thrown h)) k (fun v279 s278 h k => ?_)
  refine wp_ld (v := .int v272) dL_law__1338 rfl rfl rfl rfl ?_
  refine wp_ic_eq dL_law__1340 rfl (fun c280 => have k := ok_pos c280 k; ?_) (fun c280 => have k := ok_neg c280 k; ?_)
  · refine wp_ld (v := .int v272) dL_law__1345 rfl rfl rfl rfl ?_
    refine wp_if_ne dL_law__1347 rfl (fun c281 => have k := ok_neg c281 k; ?_) (fun c281 => have k := ok_pos c281 k; ?_)
    · refine wp_goto dL_law__1362 rfl ?_
      exact wp_sub (hX _ _ (ok_s k) h) rfl ⟨rfl, rfl, rfl, rfl, rfl, trivial⟩
    · refine wp_ld (v := .ref 71) dL_law__1350 rfl rfl rfl rfl ?_
      refine wp_cst (v := .int (0 : Int32)) dL_law__1351 rfl rfl ?_
      refine wq_lald dL_law__1352 (kE_71 h) (by decide) (l := (am_L s278 71 0)) rfl ?_
      refine wp_ld (v := .int v277) dL_law__1353 rfl rfl rfl rfl ?_
      refine wp_pu dL_law__1355 rfl rfl ?_
      refine wl_eq dL_law__1356 dL_law__1357 rfl (fun c282 => have k := ok_pos c282 k; ?_) (fun c282 => have k := ok_neg c282 k; ?_)
      · refine wp_goto dL_law__1362 rfl ?_
        exact wp_sub (hX _ _ (ok_s k) h) rfl ⟨rfl, rfl, rfl, rfl, rfl, trivial⟩
      · refine wp_cst (v := .int (0 : Int32)) dL_law__1360 rfl rfl ?_
        exact wp_end dL_law__1361 rfl rfl (hP _ _ (ok_s k) h)
  · refine wp_cst (v := .int (0 : Int32)) dL_law__1343 rfl rfl ?_
    exact wp_end dL_law__1344 rfl rfl (hP _ _ (ok_s k) h)
noncomputable def A_L_law__1365 (x4 : Int32) (s : am_S) : am_FE (Unit) :=
  if am_in (x4 + (1 : Int32)) (am_K s 2000000).2 = true then
    if am_in (x4 + (2 : Int32)) (am_K s 2000000).2 = true then
      am_bi (f_L_why (am_I s 2000000 ((x4 + (1 : Int32)).toNatClampNeg)) (am_I s 2000000 ((x4 + (2 : Int32)).toNatClampNeg)) s) (fun v289 s288 =>
        if am_in (x4 + (1 : Int32)) (am_K s288 2000000).2 = true then
          if am_in (x4 + (2 : Int32)) (am_K s288 2000000).2 = true then
            am_bi (f_X8_why (am_I s288 2000000 ((x4 + (1 : Int32)).toNatClampNeg)) (am_I s288 2000000 ((x4 + (2 : Int32)).toNatClampNeg)) s288) (fun v293 s292 =>
              am_bi (f_X8_thrown s292) (fun v295 s294 =>
                if v295 = v289 then
                  if v289 = 0 then
                    if (am_L s294 71 0) = v293.toInt64 then
                      some (.inr ((), s294))
                    else
                      some (.inl (.inl (some (.int (0 : Int32))), s294))
                  else
                    some (.inr ((), s294))
                else
                  some (.inl (.inl (some (.int (0 : Int32))), s294))
              )
            )
          else none
        else none
      )
    else none
  else none
theorem q_L_law__1365 {N : Nat} {d : Nat} {x4 : Int32} {s : am_S} {P : (am_O × am_S) ⊕ (Unit × am_S) → Prop} {Q : am_O → am_S → Prop} (h : am_shE N s)  (k : am_ok (A_L_law__1365 x4 s) P) (hP : ∀ o s, P (.inl (o, s)) → am_shE N s → Q o s) (hX : ∀ (e : Unit) s, P (.inr (e, s)) → am_shE N s → am_WP (d + 11) mL_law_ 3100 [(0, .ref 2000000), (1, .ref 0), (2, .ref 55), (3, .ref 71), (4, .int x4)] [] s Q) : am_WP (d + 11) mL_law_ 1365 [(0, .ref 2000000), (1, .ref 0), (2, .ref 55), (3, .ref 71), (4, .int x4)] [] s Q := by
  unfold A_L_law__1365 at k
  refine wp_ld (v := .ref 0) dL_law__1365 rfl rfl rfl rfl ?_
  refine wp_ld (v := .ref 2000000) dL_law__1366 rfl rfl rfl rfl ?_
  refine wp_ld (v := .int x4) dL_law__1367 rfl rfl rfl rfl ?_
  refine wp_cst (v := .int (1 : Int32)) dL_law__1369 rfl rfl ?_
  refine wp_pu dL_law__1370 rfl rfl ?_
  obtain ⟨g286, k⟩ := ok_g k
  refine wq_sald dL_law__1371 (kE_script h) g286 (v := (am_I s 2000000 ((x4 + (1 : Int32)).toNatClampNeg))) rfl ?_
  refine wp_ld (v := .ref 2000000) dL_law__1372 rfl rfl rfl rfl ?_
  refine wp_ld (v := .int x4) dL_law__1373 rfl rfl rfl rfl ?_
  refine wp_cst (v := .int (2 : Int32)) dL_law__1375 rfl rfl ?_
  refine wp_pu dL_law__1376 rfl rfl ?_
  obtain ⟨g287, k⟩ := ok_g k
  refine wq_sald dL_law__1377 (kE_script h) g287 (v := (am_I s 2000000 ((x4 + (2 : Int32)).toNatClampNeg))) rfl ?_
  show am_WP (d + 11) mL_law_ 1378 _ _ _ Q
  refine wp_ld (v := .ref 71) dL_law__1378 rfl rfl rfl rfl ?_
  refine c_i dL_law__1379 rfl rfl rfl (am_inv_s rfl rfl rfl rfl) (s_L_why h) k (fun v289 s288 h k => ?_)
  refine wp_st (ls' := [(0, .ref 2000000), (1, .ref 0), (2, .ref 55), (3, .ref 71), (4, .int x4), (5, .int v289)]) dL_law__1382 rfl rfl rfl (Nat.le_of_ble_eq_true rfl) rfl ?_
  refine wp_ld (v := .ref 55) dL_law__1384 rfl rfl rfl rfl ?_
  refine wp_ld (v := .ref 2000000) dL_law__1385 rfl rfl rfl rfl ?_
  refine wp_ld (v := .int x4) dL_law__1386 rfl rfl rfl rfl ?_
  refine wp_cst (v := .int (1 : Int32)) dL_law__1388 rfl rfl ?_
  refine wp_pu dL_law__1389 rfl rfl ?_
  obtain ⟨g290, k⟩ := ok_g k
  refine wq_sald dL_law__1390 (kE_script h) g290 (v := (am_I s288 2000000 ((x4 + (1 : Int32)).toNatClampNeg))) rfl ?_
  refine wp_ld (v := .ref 2000000) dL_law__1391 rfl rfl rfl rfl ?_
  refine wp_ld (v := .int x4) dL_law__1392 rfl rfl rfl rfl ?_
  refine wp_cst (v := .int (2 : Int32)) dL_law__1394 rfl rfl ?_
  refine wp_pu dL_law__1395 rfl rfl ?_
  show am_WP (d + 11) mL_law_ 1396 _ _ _ Q
  obtain ⟨g291, k⟩ := ok_g k
  refine wq_sald dL_law__1396 (kE_script h) g291 (v := (am_I s288 2000000 ((x4 + (2 : Int32)).toNatClampNeg))) rfl ?_
  refine c_i dL_law__1397 rfl rfl rfl (am_inv_v rfl (kE_55 h) rfl rfl rfl) (sE h (fun _ h => s_X8_why h)) k (fun v293 s292 h k => ?_)
  refine wp_st (ls' := [(0, .ref 2000000), (1, .ref 0), (2, .ref 55), (3, .ref 71), (4, .int x4), (5, .int v289), (6, .int v293)]) dL_law__1400 rfl rfl rfl (Nat.le_of_ble_eq_true rfl) rfl ?_
  refine wp_ld (v := .ref 55) dL_law__1402 rfl rfl rfl rfl ?_
  refine c_i dL_law__1403 rfl rfl rfl (am_inv_v rfl (kE_55 h) rfl rfl rfl) (sE h (fun _ h => s_X8_thrown h)) k (fun v295 s294 h k => ?_)
  refine wp_ld (v := .int v289) dL_law__1406 rfl rfl rfl rfl ?_
  refine wp_ic_eq dL_law__1408 rfl (fun c296 => have k := ok_pos c296 k; ?_) (fun c296 => have k := ok_neg c296 k; ?_)
  · refine wp_ld (v := .int v289) dL_law__1413 rfl rfl rfl rfl ?_
    refine wp_if_ne dL_law__1415 rfl (fun c297 => have k := ok_neg c297 k; ?_) (fun c297 => have k := ok_pos c297 k; ?_)
    · refine wp_goto dL_law__1430 rfl ?_
      exact wp_sub (hX _ _ (ok_s k) h) rfl ⟨rfl, rfl, rfl, rfl, rfl, trivial⟩
    · refine wp_ld (v := .ref 71) dL_law__1418 rfl rfl rfl rfl ?_
      refine wp_cst (v := .int (0 : Int32)) dL_law__1419 rfl rfl ?_
      refine wq_lald dL_law__1420 (kE_71 h) (by decide) (l := (am_L s294 71 0)) rfl ?_
      refine wp_ld (v := .int v293) dL_law__1421 rfl rfl rfl rfl ?_
      refine wp_pu dL_law__1423 rfl rfl ?_
      refine wl_eq dL_law__1424 dL_law__1425 rfl (fun c298 => have k := ok_pos c298 k; ?_) (fun c298 => have k := ok_neg c298 k; ?_)
      · refine wp_goto dL_law__1430 rfl ?_
        exact wp_sub (hX _ _ (ok_s k) h) rfl ⟨rfl, rfl, rfl, rfl, rfl, trivial⟩
      · refine wp_cst (v := .int (0 : Int32)) dL_law__1428 rfl rfl ?_
        exact wp_end dL_law__1429 rfl rfl (hP _ _ (ok_s k) h)
  · refine wp_cst (v := .int (0 : Int32)) dL_law__1411 rfl rfl ?_
    exact wp_end dL_law__1412 rfl rfl (hP _ _ (ok_s k) h)
noncomputable def A_L_law__1433 (x4 : Int32) (s : am_S) : am_FE (Unit) :=
  am_bi (f_X7_hand s) (fun v303 s302 =>
    am_bi (f_X8_hand s302) (fun v305 s304 =>
      if v303 = v305 then
        some (.inr ((), s304))
      else
        some (.inl (.inl (some (.int (0 : Int32))), s304))
    )
  )
theorem q_L_law__1433 {N : Nat} {d : Nat} {x4 : Int32} {s : am_S} {P : (am_O × am_S) ⊕ (Unit × am_S) → Prop} {Q : am_O → am_S → Prop} (h : am_shE N s)  (k : am_ok (A_L_law__1433 x4 s) P) (hP : ∀ o s, P (.inl (o, s)) → am_shE N s → Q o s) (hX : ∀ (e : Unit) s, P (.inr (e, s)) → am_shE N s → am_WP (d + 11) mL_law_ 3100 [(0, .ref 2000000), (1, .ref 0), (2, .ref 55), (3, .ref 71), (4, .int x4)] [] s Q) : am_WP (d + 11) mL_law_ 1433 [(0, .ref 2000000), (1, .ref 0), (2, .ref 55), (3, .ref 71), (4, .int x4)] [] s Q := by
  unfold A_L_law__1433 at k
  refine wp_ld (v := .ref 0) dL_law__1433 rfl rfl rfl rfl ?_
  refine c_i dL_law__1434 rfl rfl rfl (am_inv_v rfl (kE_0 h) rfl rfl rfl) (sE h (fun _ h => s_X7_hand h)) k (fun v303 s302 h k => ?_)
  refine wp_ld (v := .ref 55) dL_law__1437 rfl rfl rfl rfl ?_
  refine c_i dL_law__1438 rfl rfl rfl (am_inv_v rfl (kE_55 h) rfl rfl rfl) (sE h (fun _ h => s_X8_hand h)) k (fun v305 s304 h k => ?_)
  refine wp_ic_eq dL_law__1441 rfl (fun c306 => have k := ok_pos c306 k; ?_) (fun c306 => have k := ok_neg c306 k; ?_)
  · exact wp_sub (hX _ _ (ok_s k) h) rfl ⟨rfl, rfl, rfl, rfl, rfl, trivial⟩
  · refine wp_cst (v := .int (0 : Int32)) dL_law__1444 rfl rfl ?_
    exact wp_end dL_law__1445 rfl rfl (hP _ _ (ok_s k) h)
noncomputable def A_L_law__1446 (x4 : Int32) (s : am_S) : am_FE (Unit) :=
  if am_in (x4 + (1 : Int32)) (am_K s 2000000).2 = true then
    if am_in (x4 + (2 : Int32)) (am_K s 2000000).2 = true then
      if am_in (x4 + (3 : Int32)) (am_K s 2000000).2 = true then
        if am_in (x4 + (4 : Int32)) (am_K s 2000000).2 = true then
          am_bi (f_L_toss (am_I s 2000000 ((x4 + (1 : Int32)).toNatClampNeg)) (am_I s 2000000 ((x4 + (2 : Int32)).toNatClampNeg)) (am_I s 2000000 ((x4 + (3 : Int32)).toNatClampNeg)) (am_I s 2000000 ((x4 + (4 : Int32)).toNatClampNeg)) s) (fun v315 s314 =>
            if am_in (x4 + (1 : Int32)) (am_K s314 2000000).2 = true then
              if am_in (x4 + (2 : Int32)) (am_K s314 2000000).2 = true then
                if am_in (x4 + (3 : Int32)) (am_K s314 2000000).2 = true then
                  if am_in (x4 + (4 : Int32)) (am_K s314 2000000).2 = true then
                    am_bi (f_X8_toss (am_I s314 2000000 ((x4 + (1 : Int32)).toNatClampNeg)) (am_I s314 2000000 ((x4 + (2 : Int32)).toNatClampNeg)) (am_I s314 2000000 ((x4 + (3 : Int32)).toNatClampNeg)) (am_I s314 2000000 ((x4 + (4 : Int32)).toNatClampNeg)) s314) (fun v321 s320 =>
                      am_bi (f_X8_thrown s320) (fun v323 s322 =>
                        if v323 = v315 then
                          if v315 = 0 then
                            if (am_L s322 71 0) = v321.toInt64 then
                              some (.inr ((), s322))
                            else
                              some (.inl (.inl (some (.int (0 : Int32))), s322))
                          else
                            some (.inr ((), s322))
                        else
                          some (.inl (.inl (some (.int (0 : Int32))), s322))
                      )
                    )
                  else none
                else none
              else none
            else none
          )
        else none
      else none
    else none
  else none
theorem q_L_law__1446 {N : Nat} {d : Nat} {x4 : Int32} {s : am_S} {P : (am_O × am_S) ⊕ (Unit × am_S) → Prop} {Q : am_O → am_S → Prop} (h : am_shE N s)  (k : am_ok (A_L_law__1446 x4 s) P) (hP : ∀ o s, P (.inl (o, s)) → am_shE N s → Q o s) (hX : ∀ (e : Unit) s, P (.inr (e, s)) → am_shE N s → am_WP (d + 11) mL_law_ 3100 [(0, .ref 2000000), (1, .ref 0), (2, .ref 55), (3, .ref 71), (4, .int x4)] [] s Q) : am_WP (d + 11) mL_law_ 1446 [(0, .ref 2000000), (1, .ref 0), (2, .ref 55), (3, .ref 71), (4, .int x4)] [] s Q := by
  unfold A_L_law__1446 at k
  refine wp_ld (v := .ref 0) dL_law__1446 rfl rfl rfl rfl ?_
  refine wp_ld (v := .ref 2000000) dL_law__1447 rfl rfl rfl rfl ?_
  refine wp_ld (v := .int x4) dL_law__1448 rfl rfl rfl rfl ?_
  refine wp_cst (v := .int (1 : Int32)) dL_law__1450 rfl rfl ?_
  refine wp_pu dL_law__1451 rfl rfl ?_
  obtain ⟨g310, k⟩ := ok_g k
  refine wq_sald dL_law__1452 (kE_script h) g310 (v := (am_I s 2000000 ((x4 + (1 : Int32)).toNatClampNeg))) rfl ?_
  refine wp_ld (v := .ref 2000000) dL_law__1453 rfl rfl rfl rfl ?_
  refine wp_ld (v := .int x4) dL_law__1454 rfl rfl rfl rfl ?_
  refine wp_cst (v := .int (2 : Int32)) dL_law__1456 rfl rfl ?_
  refine wp_pu dL_law__1457 rfl rfl ?_
  obtain ⟨g311, k⟩ := ok_g k
  refine wq_sald dL_law__1458 (kE_script h) g311 (v := (am_I s 2000000 ((x4 + (2 : Int32)).toNatClampNeg))) rfl ?_
  show am_WP (d + 11) mL_law_ 1459 _ _ _ Q
  refine wp_ld (v := .ref 2000000) dL_law__1459 rfl rfl rfl rfl ?_
  refine wp_ld (v := .int x4) dL_law__1460 rfl rfl rfl rfl ?_
  refine wp_cst (v := .int (3 : Int32)) dL_law__1462 rfl rfl ?_
  refine wp_pu dL_law__1463 rfl rfl ?_
  obtain ⟨g312, k⟩ := ok_g k
  refine wq_sald dL_law__1464 (kE_script h) g312 (v := (am_I s 2000000 ((x4 + (3 : Int32)).toNatClampNeg))) rfl ?_
  refine wp_ld (v := .ref 2000000) dL_law__1465 rfl rfl rfl rfl ?_
  refine wp_ld (v := .int x4) dL_law__1466 rfl rfl rfl rfl ?_
  refine wp_cst (v := .int (4 : Int32)) dL_law__1468 rfl rfl ?_
  refine wp_pu dL_law__1469 rfl rfl ?_
  obtain ⟨g313, k⟩ := ok_g k
  refine wq_sald dL_law__1470 (kE_script h) g313 (v := (am_I s 2000000 ((x4 + (4 : Int32)).toNatClampNeg))) rfl ?_
  refine wp_ld (v := .ref 71) dL_law__1471 rfl rfl rfl rfl ?_
  refine c_i dL_law__1472 rfl rfl rfl (am_inv_s rfl rfl rfl rfl) (s_L_toss h) k (fun v315 s314 h k => ?_)
  refine wp_st (ls' := [(0, .ref 2000000), (1, .ref 0), (2, .ref 55), (3, .ref 71), (4, .int x4), (5, .int v315)]) dL_law__1475 rfl rfl rfl (Nat.le_of_ble_eq_true rfl) rfl ?_
  refine wp_ld (v := .ref 55) dL_law__1477 rfl rfl rfl rfl ?_
  refine wp_ld (v := .ref 2000000) dL_law__1478 rfl rfl rfl rfl ?_
  refine wp_ld (v := .int x4) dL_law__1479 rfl rfl rfl rfl ?_
  refine wp_cst (v := .int (1 : Int32)) dL_law__1481 rfl rfl ?_
  refine wp_pu dL_law__1482 rfl rfl ?_
  obtain ⟨g316, k⟩ := ok_g k
  refine wq_sald dL_law__1483 (kE_script h) g316 (v := (am_I s314 2000000 ((x4 + (1 : Int32)).toNatClampNeg))) rfl ?_
  refine wp_ld (v := .ref 2000000) dL_law__1484 rfl rfl rfl rfl ?_
  refine wp_ld (v := .int x4) dL_law__1485 rfl rfl rfl rfl ?_
  refine wp_cst (v := .int (2 : Int32)) dL_law__1487 rfl rfl ?_
  refine wp_pu dL_law__1488 rfl rfl ?_
  show am_WP (d + 11) mL_law_ 1489 _ _ _ Q
  obtain ⟨g317, k⟩ := ok_g k
  refine wq_sald dL_law__1489 (kE_script h) g317 (v := (am_I s314 2000000 ((x4 + (2 : Int32)).toNatClampNeg))) rfl ?_
  refine wp_ld (v := .ref 2000000) dL_law__1490 rfl rfl rfl rfl ?_
  refine wp_ld (v := .int x4) dL_law__1491 rfl rfl rfl rfl ?_
  refine wp_cst (v := .int (3 : Int32)) dL_law__1493 rfl rfl ?_
  refine wp_pu dL_law__1494 rfl rfl ?_
  obtain ⟨g318, k⟩ := ok_g k
  refine wq_sald dL_law__1495 (kE_script h) g318 (v := (am_I s314 2000000 ((x4 + (3 : Int32)).toNatClampNeg))) rfl ?_
  refine wp_ld (v := .ref 2000000) dL_law__1496 rfl rfl rfl rfl ?_
  refine wp_ld (v := .int x4) dL_law__1497 rfl rfl rfl rfl ?_
  refine wp_cst (v := .int (4 : Int32)) dL_law__1499 rfl rfl ?_
  refine wp_pu dL_law__1500 rfl rfl ?_
  obtain ⟨g319, k⟩ := ok_g k
  refine wq_sald dL_law__1501 (kE_script h) g319 (v := (am_I s314 2000000 ((x4 + (4 : Int32)).toNatClampNeg))) rfl ?_
  refine c_i dL_law__1502 rfl rfl rfl (am_inv_v rfl (kE_55 h) rfl rfl rfl) (sE h (fun _ h => s_X8_toss h)) k (fun v321 s320 h k => ?_)
  refine wp_st (ls' := [(0, .ref 2000000), (1, .ref 0), (2, .ref 55), (3, .ref 71), (4, .int x4), (5, .int v315), (6, .int v321)]) dL_law__1505 rfl rfl rfl (Nat.le_of_ble_eq_true rfl) rfl ?_
  refine wp_ld (v := .ref 55) dL_law__1507 rfl rfl rfl rfl ?_
  refine c_i dL_law__1508 rfl rfl rfl (am_inv_v rfl (kE_55 h) rfl rfl rfl) (sE h (fun _ h => s_X8_thrown h)) k (fun v323 s322 h k => ?_)
  refine wp_ld (v := .int v315) dL_law__1511 rfl rfl rfl rfl ?_
  refine wp_ic_eq dL_law__1513 rfl (fun c324 => have k := ok_pos c324 k; ?_) (fun c324 => have k := ok_neg c324 k; ?_)
  · refine wp_ld (v := .int v315) dL_law__1518 rfl rfl rfl rfl ?_
    refine wp_if_ne dL_law__1520 rfl (fun c325 => have k := ok_neg c325 k; ?_) (fun c325 => have k := ok_pos c325 k; ?_)
    · refine wp_goto dL_law__1535 rfl ?_
      exact wp_sub (hX _ _ (ok_s k) h) rfl ⟨rfl, rfl, rfl, rfl, rfl, trivial⟩
    · refine wp_ld (v := .ref 71) dL_law__1523 rfl rfl rfl rfl ?_
      refine wp_cst (v := .int (0 : Int32)) dL_law__1524 rfl rfl ?_
      refine wq_lald dL_law__1525 (kE_71 h) (by decide) (l := (am_L s322 71 0)) rfl ?_
      refine wp_ld (v := .int v321) dL_law__1526 rfl rfl rfl rfl ?_
      refine wp_pu dL_law__1528 rfl rfl ?_
      refine wl_eq dL_law__1529 dL_law__1530 rfl (fun c326 => have k := ok_pos c326 k; ?_) (fun c326 => have k := ok_neg c326 k; ?_)
      · refine wp_goto dL_law__1535 rfl ?_
        exact wp_sub (hX _ _ (ok_s k) h) rfl ⟨rfl, rfl, rfl, rfl, rfl, trivial⟩
      · refine wp_cst (v := .int (0 : Int32)) dL_law__1533 rfl rfl ?_
        exact wp_end dL_law__1534 rfl rfl (hP _ _ (ok_s k) h)
  · refine wp_cst (v := .int (0 : Int32)) dL_law__1516 rfl rfl ?_
    exact wp_end dL_law__1517 rfl rfl (hP _ _ (ok_s k) h)
noncomputable def A_L_law__1538 (x4 : Int32) (s : am_S) : am_FE (Unit) :=
  if am_in (x4 + (1 : Int32)) (am_K s 2000000).2 = true then
    if am_in (x4 + (2 : Int32)) (am_K s 2000000).2 = true then
      if am_in (x4 + (3 : Int32)) (am_K s 2000000).2 = true then
        if am_in (x4 + (4 : Int32)) (am_K s 2000000).2 = true then
          am_jn (fun (e335 : Int32) s336 =>
            am_bi (f_L_reach (am_I s 2000000 ((x4 + (1 : Int32)).toNatClampNeg)) (am_I s 2000000 ((x4 + (2 : Int32)).toNatClampNeg)) (am_I s 2000000 ((x4 + (3 : Int32)).toNatClampNeg)) e335 s336) (fun v338 s337 =>
              if am_in (x4 + (1 : Int32)) (am_K s337 2000000).2 = true then
                if am_in (x4 + (2 : Int32)) (am_K s337 2000000).2 = true then
                  if am_in (x4 + (3 : Int32)) (am_K s337 2000000).2 = true then
                    if am_in (x4 + (4 : Int32)) (am_K s337 2000000).2 = true then
                      am_jn (fun (e344 : Int32) s345 =>
                        am_bl (f_X8_reach (am_I s337 2000000 ((x4 + (1 : Int32)).toNatClampNeg)) (am_I s337 2000000 ((x4 + (2 : Int32)).toNatClampNeg)) (am_I s337 2000000 ((x4 + (3 : Int32)).toNatClampNeg)) e344 s345) (fun v347 s346 =>
                          am_bi (f_X8_thrown s346) (fun v349 s348 =>
                            if v349 = v338 then
                              if v338 = 0 then
                                if (am_L s348 71 0) = v347 then
                                  some (.inr ((), s348))
                                else
                                  some (.inl (.inl (some (.int (0 : Int32))), s348))
                              else
                                some (.inr ((), s348))
                            else
                              some (.inl (.inl (some (.int (0 : Int32))), s348))
                          )
                        )
                      ) (fun J343 =>
                        if (am_I s337 2000000 ((x4 + (4 : Int32)).toNatClampNeg)) = 0 then
                          J343 (0 : Int32) s337
                        else
                          J343 (1 : Int32) s337
                      )
                    else none
                  else none
                else none
              else none
            )
          ) (fun J334 =>
            if (am_I s 2000000 ((x4 + (4 : Int32)).toNatClampNeg)) = 0 then
              J334 (0 : Int32) s
            else
              J334 (1 : Int32) s
          )
        else none
      else none
    else none
  else none
theorem q_L_law__1538 {N : Nat} {d : Nat} {x4 : Int32} {s : am_S} {P : (am_O × am_S) ⊕ (Unit × am_S) → Prop} {Q : am_O → am_S → Prop} (h : am_shE N s)  (k : am_ok (A_L_law__1538 x4 s) P) (hP : ∀ o s, P (.inl (o, s)) → am_shE N s → Q o s) (hX : ∀ (e : Unit) s, P (.inr (e, s)) → am_shE N s → am_WP (d + 11) mL_law_ 3100 [(0, .ref 2000000), (1, .ref 0), (2, .ref 55), (3, .ref 71), (4, .int x4)] [] s Q) : am_WP (d + 11) mL_law_ 1538 [(0, .ref 2000000), (1, .ref 0), (2, .ref 55), (3, .ref 71), (4, .int x4)] [] s Q := by
  unfold A_L_law__1538 at k
  refine wp_ld (v := .ref 0) dL_law__1538 rfl rfl rfl rfl ?_
  refine wp_ld (v := .ref 2000000) dL_law__1539 rfl rfl rfl rfl ?_
  refine wp_ld (v := .int x4) dL_law__1540 rfl rfl rfl rfl ?_
  refine wp_cst (v := .int (1 : Int32)) dL_law__1542 rfl rfl ?_
  refine wp_pu dL_law__1543 rfl rfl ?_
  obtain ⟨g330, k⟩ := ok_g k
  refine wq_sald dL_law__1544 (kE_script h) g330 (v := (am_I s 2000000 ((x4 + (1 : Int32)).toNatClampNeg))) rfl ?_
  refine wp_ld (v := .ref 2000000) dL_law__1545 rfl rfl rfl rfl ?_
  refine wp_ld (v := .int x4) dL_law__1546 rfl rfl rfl rfl ?_
  refine wp_cst (v := .int (2 : Int32)) dL_law__1548 rfl rfl ?_
  refine wp_pu dL_law__1549 rfl rfl ?_
  obtain ⟨g331, k⟩ := ok_g k
  refine wq_sald dL_law__1550 (kE_script h) g331 (v := (am_I s 2000000 ((x4 + (2 : Int32)).toNatClampNeg))) rfl ?_
  show am_WP (d + 11) mL_law_ 1551 _ _ _ Q
  refine wp_ld (v := .ref 2000000) dL_law__1551 rfl rfl rfl rfl ?_
  refine wp_ld (v := .int x4) dL_law__1552 rfl rfl rfl rfl ?_
  refine wp_cst (v := .int (3 : Int32)) dL_law__1554 rfl rfl ?_
  refine wp_pu dL_law__1555 rfl rfl ?_
  obtain ⟨g332, k⟩ := ok_g k
  refine wq_sald dL_law__1556 (kE_script h) g332 (v := (am_I s 2000000 ((x4 + (3 : Int32)).toNatClampNeg))) rfl ?_
  refine wp_ld (v := .ref 2000000) dL_law__1557 rfl rfl rfl rfl ?_
  refine wp_ld (v := .int x4) dL_law__1558 rfl rfl rfl rfl ?_
  refine wp_cst (v := .int (4 : Int32)) dL_law__1560 rfl rfl ?_
  refine wp_pu dL_law__1561 rfl rfl ?_
  obtain ⟨g333, k⟩ := ok_g k
  refine wq_sald dL_law__1562 (kE_script h) g333 (v := (am_I s 2000000 ((x4 + (4 : Int32)).toNatClampNeg))) rfl ?_
  refine jn_rule k (fun J334 hJ334 k => ?_)
  have HJ334 : ∀ (e335 : Int32) (s336 : am_S), am_shE N s336 → am_ok (J334 e335 s336) P → am_WP (d + 11) mL_law_ 1571 [(0, .ref 2000000), (1, .ref 0), (2, .ref 55), (3, .ref 71), (4, .int x4)] [.int e335, .int (am_I s 2000000 ((x4 + (3 : Int32)).toNatClampNeg)), .int (am_I s 2000000 ((x4 + (2 : Int32)).toNatClampNeg)), .int (am_I s 2000000 ((x4 + (1 : Int32)).toNatClampNeg)), .ref 0] s336 Q := by
    intro e335 s336 h k
    replace k := hJ334 _ _ k
    refine wp_ld (v := .ref 71) dL_law__1571 rfl rfl rfl rfl ?_
    refine c_i dL_law__1572 rfl rfl rfl (am_inv_s rfl rfl rfl rfl) (s_L_reach h) k (fun v338 s337 h k => ?_)
    refine wp_st (ls' := [(0, .ref 2000000), (1, .ref 0), (2, .ref 55), (3, .ref 71), (4, .int x4), (5, .int v338)]) dL_law__1575 rfl rfl rfl (Nat.le_of_ble_eq_true rfl) rfl ?_
    refine wp_ld (v := .ref 55) dL_law__1577 rfl rfl rfl rfl ?_
    refine wp_ld (v := .ref 2000000) dL_law__1578 rfl rfl rfl rfl ?_
    refine wp_ld (v := .int x4) dL_law__1579 rfl rfl rfl rfl ?_
    refine wp_cst (v := .int (1 : Int32)) dL_law__1581 rfl rfl ?_
    refine wp_pu dL_law__1582 rfl rfl ?_
    obtain ⟨g339, k⟩ := ok_g k
    refine wq_sald dL_law__1583 (kE_script h) g339 (v := (am_I s337 2000000 ((x4 + (1 : Int32)).toNatClampNeg))) rfl ?_
    refine wp_ld (v := .ref 2000000) dL_law__1584 rfl rfl rfl rfl ?_
    refine wp_ld (v := .int x4) dL_law__1585 rfl rfl rfl rfl ?_
    refine wp_cst (v := .int (2 : Int32)) dL_law__1587 rfl rfl ?_
    refine wp_pu dL_law__1588 rfl rfl ?_
    show am_WP (d + 11) mL_law_ 1589 _ _ _ Q
    obtain ⟨g340, k⟩ := ok_g k
    refine wq_sald dL_law__1589 (kE_script h) g340 (v := (am_I s337 2000000 ((x4 + (2 : Int32)).toNatClampNeg))) rfl ?_
    refine wp_ld (v := .ref 2000000) dL_law__1590 rfl rfl rfl rfl ?_
    refine wp_ld (v := .int x4) dL_law__1591 rfl rfl rfl rfl ?_
    refine wp_cst (v := .int (3 : Int32)) dL_law__1593 rfl rfl ?_
    refine wp_pu dL_law__1594 rfl rfl ?_
    obtain ⟨g341, k⟩ := ok_g k
    refine wq_sald dL_law__1595 (kE_script h) g341 (v := (am_I s337 2000000 ((x4 + (3 : Int32)).toNatClampNeg))) rfl ?_
    refine wp_ld (v := .ref 2000000) dL_law__1596 rfl rfl rfl rfl ?_
    refine wp_ld (v := .int x4) dL_law__1597 rfl rfl rfl rfl ?_
    refine wp_cst (v := .int (4 : Int32)) dL_law__1599 rfl rfl ?_
    refine wp_pu dL_law__1600 rfl rfl ?_
    obtain ⟨g342, k⟩ := ok_g k
    refine wq_sald dL_law__1601 (kE_script h) g342 (v := (am_I s337 2000000 ((x4 + (4 : Int32)).toNatClampNeg))) rfl ?_
    refine jn_rule k (fun J343 hJ343 k => ?_)
    have HJ343 : ∀ (e344 : Int32) (s345 : am_S), am_shE N s345 → am_ok (J343 e344 s345) P → am_WP (d + 11) mL_law_ 1610 [(0, .ref 2000000), (1, .ref 0), (2, .ref 55), (3, .ref 71), (4, .int x4), (5, .int v338)] [.int e344, .int (am_I s337 2000000 ((x4 + (3 : Int32)).toNatClampNeg)), .int (am_I s337 2000000 ((x4 + (2 : Int32)).toNatClampNeg)), .int (am_I s337 2000000 ((x4 + (1 : Int32)).toNatClampNeg)), .ref 55] s345 Q := by
      intro e344 s345 h k
      replace k := hJ343 _ _ k
      refine c_l dL_law__1610 rfl rfl rfl (am_inv_v rfl (kE_55 h) rfl rfl rfl) (sE h (fun _ h => s_X8_reach h)) k (fun v347 s346 h k => ?_)
      refine wp_st (ls' := [(0, .ref 2000000), (1, .ref 0), (2, .ref 55), (3, .ref 71), (4, .int x4), (5, .int v338), (6, .long v347)]) dL_law__1613 rfl rfl rfl (Nat.le_of_ble_eq_true rfl) rfl ?_
      refine wp_ld (v := .ref 55) dL_law__1615 rfl rfl rfl rfl ?_
      refine c_i dL_law__1616 rfl rfl rfl (am_inv_v rfl (kE_55 h) rfl rfl rfl) (sE h (fun _ h => s_X8_thrown h)) k (fun v349 s348 h k => ?_)
      refine wp_ld (v := .int v338) dL_law__1619 rfl rfl rfl rfl ?_
      refine wp_ic_eq dL_law__1621 rfl (fun c350 => have k := ok_pos c350 k; ?_) (fun c350 => have k := ok_neg c350 k; ?_)
      · refine wp_ld (v := .int v338) dL_law__1626 rfl rfl rfl rfl ?_
        refine wp_if_ne dL_law__1628 rfl (fun c351 => have k := ok_neg c351 k; ?_) (fun c351 => have k := ok_pos c351 k; ?_)
        · refine wp_goto dL_law__1642 rfl ?_
          exact wp_sub (hX _ _ (ok_s k) h) rfl ⟨rfl, rfl, rfl, rfl, rfl, trivial⟩
        · refine wp_ld (v := .ref 71) dL_law__1631 rfl rfl rfl rfl ?_
          refine wp_cst (v := .int (0 : Int32)) dL_law__1632 rfl rfl ?_
          refine wq_lald dL_law__1633 (kE_71 h) (by decide) (l := (am_L s348 71 0)) rfl ?_
          refine wp_ld (v := .long v347) dL_law__1634 rfl rfl rfl rfl ?_
          refine wl_eq dL_law__1636 dL_law__1637 rfl (fun c352 => have k := ok_pos c352 k; ?_) (fun c352 => have k := ok_neg c352 k; ?_)
          · refine wp_goto dL_law__1642 rfl ?_
            exact wp_sub (hX _ _ (ok_s k) h) rfl ⟨rfl, rfl, rfl, rfl, rfl, trivial⟩
          · refine wp_cst (v := .int (0 : Int32)) dL_law__1640 rfl rfl ?_
            exact wp_end dL_law__1641 rfl rfl (hP _ _ (ok_s k) h)
      · refine wp_cst (v := .int (0 : Int32)) dL_law__1624 rfl rfl ?_
        exact wp_end dL_law__1625 rfl rfl (hP _ _ (ok_s k) h)
    refine wp_if_eq dL_law__1602 rfl (fun c353 => have k := ok_pos c353 k; ?_) (fun c353 => have k := ok_neg c353 k; ?_)
    · refine wp_cst (v := .int (0 : Int32)) dL_law__1609 rfl rfl ?_
      exact wp_sub (HJ343 _ _ h k) rfl ⟨rfl, rfl, rfl, rfl, rfl, rfl, trivial⟩
    · refine wp_cst (v := .int (1 : Int32)) dL_law__1605 rfl rfl ?_
      refine wp_goto dL_law__1606 rfl ?_
      exact wp_sub (HJ343 _ _ h k) rfl ⟨rfl, rfl, rfl, rfl, rfl, rfl, trivial⟩
  refine wp_if_eq dL_law__1563 rfl (fun c354 => have k := ok_pos c354 k; ?_) (fun c354 => have k := ok_neg c354 k; ?_)
  · refine wp_cst (v := .int (0 : Int32)) dL_law__1570 rfl rfl ?_
    exact wp_sub (HJ334 _ _ h k) rfl ⟨rfl, rfl, rfl, rfl, rfl, trivial⟩
  · refine wp_cst (v := .int (1 : Int32)) dL_law__1566 rfl rfl ?_
    refine wp_goto dL_law__1567 rfl ?_
    exact wp_sub (HJ334 _ _ h k) rfl ⟨rfl, rfl, rfl, rfl, rfl, trivial⟩
noncomputable def A_L_law__1645 (x4 : Int32) (s : am_S) : am_FE (Unit) :=
  if am_in (x4 + (1 : Int32)) (am_K s 2000000).2 = true then
    if am_in (x4 + (2 : Int32)) (am_K s 2000000).2 = true then
      if am_in (x4 + (3 : Int32)) (am_K s 2000000).2 = true then
        am_jn (fun (e362 : Int32) s363 =>
          am_bi (f_L_ears (am_I s 2000000 ((x4 + (1 : Int32)).toNatClampNeg)) (am_I s 2000000 ((x4 + (2 : Int32)).toNatClampNeg)) e362 s363) (fun v365 s364 =>
            if am_in (x4 + (1 : Int32)) (am_K s364 2000000).2 = true then
              if am_in (x4 + (2 : Int32)) (am_K s364 2000000).2 = true then
                if am_in (x4 + (3 : Int32)) (am_K s364 2000000).2 = true then
                  am_jn (fun (e370 : Int32) s371 =>
                    am_bi (f_X8_ears (am_I s364 2000000 ((x4 + (1 : Int32)).toNatClampNeg)) (am_I s364 2000000 ((x4 + (2 : Int32)).toNatClampNeg)) e370 s371) (fun v373 s372 =>
                      am_bi (f_X8_thrown s372) (fun v375 s374 =>
                        if v375 = v365 then
                          if v365 = 0 then
                            if (am_L s374 71 0) = v373.toInt64 then
                              some (.inr ((), s374))
                            else
                              some (.inl (.inl (some (.int (0 : Int32))), s374))
                          else
                            some (.inr ((), s374))
                        else
                          some (.inl (.inl (some (.int (0 : Int32))), s374))
                      )
                    )
                  ) (fun J369 =>
                    if (am_I s364 2000000 ((x4 + (3 : Int32)).toNatClampNeg)) = 0 then
                      J369 (0 : Int32) s364
                    else
                      J369 (1 : Int32) s364
                  )
                else none
              else none
            else none
          )
        ) (fun J361 =>
          if (am_I s 2000000 ((x4 + (3 : Int32)).toNatClampNeg)) = 0 then
            J361 (0 : Int32) s
          else
            J361 (1 : Int32) s
        )
      else none
    else none
  else none
theorem q_L_law__1645 {N : Nat} {d : Nat} {x4 : Int32} {s : am_S} {P : (am_O × am_S) ⊕ (Unit × am_S) → Prop} {Q : am_O → am_S → Prop} (h : am_shE N s)  (k : am_ok (A_L_law__1645 x4 s) P) (hP : ∀ o s, P (.inl (o, s)) → am_shE N s → Q o s) (hX : ∀ (e : Unit) s, P (.inr (e, s)) → am_shE N s → am_WP (d + 11) mL_law_ 3100 [(0, .ref 2000000), (1, .ref 0), (2, .ref 55), (3, .ref 71), (4, .int x4)] [] s Q) : am_WP (d + 11) mL_law_ 1645 [(0, .ref 2000000), (1, .ref 0), (2, .ref 55), (3, .ref 71), (4, .int x4)] [] s Q := by
  unfold A_L_law__1645 at k
  refine wp_ld (v := .ref 0) dL_law__1645 rfl rfl rfl rfl ?_
  refine wp_ld (v := .ref 2000000) dL_law__1646 rfl rfl rfl rfl ?_
  refine wp_ld (v := .int x4) dL_law__1647 rfl rfl rfl rfl ?_
  refine wp_cst (v := .int (1 : Int32)) dL_law__1649 rfl rfl ?_
  refine wp_pu dL_law__1650 rfl rfl ?_
  obtain ⟨g358, k⟩ := ok_g k
  refine wq_sald dL_law__1651 (kE_script h) g358 (v := (am_I s 2000000 ((x4 + (1 : Int32)).toNatClampNeg))) rfl ?_
  refine wp_ld (v := .ref 2000000) dL_law__1652 rfl rfl rfl rfl ?_
  refine wp_ld (v := .int x4) dL_law__1653 rfl rfl rfl rfl ?_
  refine wp_cst (v := .int (2 : Int32)) dL_law__1655 rfl rfl ?_
  refine wp_pu dL_law__1656 rfl rfl ?_
  obtain ⟨g359, k⟩ := ok_g k
  refine wq_sald dL_law__1657 (kE_script h) g359 (v := (am_I s 2000000 ((x4 + (2 : Int32)).toNatClampNeg))) rfl ?_
  show am_WP (d + 11) mL_law_ 1658 _ _ _ Q
  refine wp_ld (v := .ref 2000000) dL_law__1658 rfl rfl rfl rfl ?_
  refine wp_ld (v := .int x4) dL_law__1659 rfl rfl rfl rfl ?_
  refine wp_cst (v := .int (3 : Int32)) dL_law__1661 rfl rfl ?_
  refine wp_pu dL_law__1662 rfl rfl ?_
  obtain ⟨g360, k⟩ := ok_g k
  refine wq_sald dL_law__1663 (kE_script h) g360 (v := (am_I s 2000000 ((x4 + (3 : Int32)).toNatClampNeg))) rfl ?_
  refine jn_rule k (fun J361 hJ361 k => ?_)
  have HJ361 : ∀ (e362 : Int32) (s363 : am_S), am_shE N s363 → am_ok (J361 e362 s363) P → am_WP (d + 11) mL_law_ 1672 [(0, .ref 2000000), (1, .ref 0), (2, .ref 55), (3, .ref 71), (4, .int x4)] [.int e362, .int (am_I s 2000000 ((x4 + (2 : Int32)).toNatClampNeg)), .int (am_I s 2000000 ((x4 + (1 : Int32)).toNatClampNeg)), .ref 0] s363 Q := by
    intro e362 s363 h k
    replace k := hJ361 _ _ k
    refine wp_ld (v := .ref 71) dL_law__1672 rfl rfl rfl rfl ?_
    refine c_i dL_law__1673 rfl rfl rfl (am_inv_s rfl rfl rfl rfl) (s_L_ears h) k (fun v365 s364 h k => ?_)
    refine wp_st (ls' := [(0, .ref 2000000), (1, .ref 0), (2, .ref 55), (3, .ref 71), (4, .int x4), (5, .int v365)]) dL_law__1676 rfl rfl rfl (Nat.le_of_ble_eq_true rfl) rfl ?_
    refine wp_ld (v := .ref 55) dL_law__1678 rfl rfl rfl rfl ?_
    refine wp_ld (v := .ref 2000000) dL_law__1679 rfl rfl rfl rfl ?_
    refine wp_ld (v := .int x4) dL_law__1680 rfl rfl rfl rfl ?_
    refine wp_cst (v := .int (1 : Int32)) dL_law__1682 rfl rfl ?_
    refine wp_pu dL_law__1683 rfl rfl ?_
    obtain ⟨g366, k⟩ := ok_g k
    refine wq_sald dL_law__1684 (kE_script h) g366 (v := (am_I s364 2000000 ((x4 + (1 : Int32)).toNatClampNeg))) rfl ?_
    refine wp_ld (v := .ref 2000000) dL_law__1685 rfl rfl rfl rfl ?_
    refine wp_ld (v := .int x4) dL_law__1686 rfl rfl rfl rfl ?_
    refine wp_cst (v := .int (2 : Int32)) dL_law__1688 rfl rfl ?_
    refine wp_pu dL_law__1689 rfl rfl ?_
    show am_WP (d + 11) mL_law_ 1690 _ _ _ Q
    obtain ⟨g367, k⟩ := ok_g k
    refine wq_sald dL_law__1690 (kE_script h) g367 (v := (am_I s364 2000000 ((x4 + (2 : Int32)).toNatClampNeg))) rfl ?_
    refine wp_ld (v := .ref 2000000) dL_law__1691 rfl rfl rfl rfl ?_
    refine wp_ld (v := .int x4) dL_law__1692 rfl rfl rfl rfl ?_
    refine wp_cst (v := .int (3 : Int32)) dL_law__1694 rfl rfl ?_
    refine wp_pu dL_law__1695 rfl rfl ?_
    obtain ⟨g368, k⟩ := ok_g k
    refine wq_sald dL_law__1696 (kE_script h) g368 (v := (am_I s364 2000000 ((x4 + (3 : Int32)).toNatClampNeg))) rfl ?_
    refine jn_rule k (fun J369 hJ369 k => ?_)
    have HJ369 : ∀ (e370 : Int32) (s371 : am_S), am_shE N s371 → am_ok (J369 e370 s371) P → am_WP (d + 11) mL_law_ 1705 [(0, .ref 2000000), (1, .ref 0), (2, .ref 55), (3, .ref 71), (4, .int x4), (5, .int v365)] [.int e370, .int (am_I s364 2000000 ((x4 + (2 : Int32)).toNatClampNeg)), .int (am_I s364 2000000 ((x4 + (1 : Int32)).toNatClampNeg)), .ref 55] s371 Q := by
      intro e370 s371 h k
      replace k := hJ369 _ _ k
      refine c_i dL_law__1705 rfl rfl rfl (am_inv_v rfl (kE_55 h) rfl rfl rfl) (sE h (fun _ h => s_X8_ears h)) k (fun v373 s372 h k => ?_)
      refine wp_st (ls' := [(0, .ref 2000000), (1, .ref 0), (2, .ref 55), (3, .ref 71), (4, .int x4), (5, .int v365), (6, .int v373)]) dL_law__1708 rfl rfl rfl (Nat.le_of_ble_eq_true rfl) rfl ?_
      refine wp_ld (v := .ref 55) dL_law__1710 rfl rfl rfl rfl ?_
      refine c_i dL_law__1711 rfl rfl rfl (am_inv_v rfl (kE_55 h) rfl rfl rfl) (sE h (fun _ h => s_X8_thrown h)) k (fun v375 s374 h k => ?_)
      refine wp_ld (v := .int v365) dL_law__1714 rfl rfl rfl rfl ?_
      refine wp_ic_eq dL_law__1716 rfl (fun c376 => have k := ok_pos c376 k; ?_) (fun c376 => have k := ok_neg c376 k; ?_)
      · refine wp_ld (v := .int v365) dL_law__1721 rfl rfl rfl rfl ?_
        refine wp_if_ne dL_law__1723 rfl (fun c377 => have k := ok_neg c377 k; ?_) (fun c377 => have k := ok_pos c377 k; ?_)
        · refine wp_goto dL_law__1738 rfl ?_
          exact wp_sub (hX _ _ (ok_s k) h) rfl ⟨rfl, rfl, rfl, rfl, rfl, trivial⟩
        · refine wp_ld (v := .ref 71) dL_law__1726 rfl rfl rfl rfl ?_
          refine wp_cst (v := .int (0 : Int32)) dL_law__1727 rfl rfl ?_
          refine wq_lald dL_law__1728 (kE_71 h) (by decide) (l := (am_L s374 71 0)) rfl ?_
          refine wp_ld (v := .int v373) dL_law__1729 rfl rfl rfl rfl ?_
          refine wp_pu dL_law__1731 rfl rfl ?_
          refine wl_eq dL_law__1732 dL_law__1733 rfl (fun c378 => have k := ok_pos c378 k; ?_) (fun c378 => have k := ok_neg c378 k; ?_)
          · refine wp_goto dL_law__1738 rfl ?_
            exact wp_sub (hX _ _ (ok_s k) h) rfl ⟨rfl, rfl, rfl, rfl, rfl, trivial⟩
          · refine wp_cst (v := .int (0 : Int32)) dL_law__1736 rfl rfl ?_
            exact wp_end dL_law__1737 rfl rfl (hP _ _ (ok_s k) h)
      · refine wp_cst (v := .int (0 : Int32)) dL_law__1719 rfl rfl ?_
        exact wp_end dL_law__1720 rfl rfl (hP _ _ (ok_s k) h)
    refine wp_if_eq dL_law__1697 rfl (fun c379 => have k := ok_pos c379 k; ?_) (fun c379 => have k := ok_neg c379 k; ?_)
    · refine wp_cst (v := .int (0 : Int32)) dL_law__1704 rfl rfl ?_
      exact wp_sub (HJ369 _ _ h k) rfl ⟨rfl, rfl, rfl, rfl, rfl, rfl, trivial⟩
    · refine wp_cst (v := .int (1 : Int32)) dL_law__1700 rfl rfl ?_
      refine wp_goto dL_law__1701 rfl ?_
      exact wp_sub (HJ369 _ _ h k) rfl ⟨rfl, rfl, rfl, rfl, rfl, rfl, trivial⟩
  refine wp_if_eq dL_law__1664 rfl (fun c380 => have k := ok_pos c380 k; ?_) (fun c380 => have k := ok_neg c380 k; ?_)
  · refine wp_cst (v := .int (0 : Int32)) dL_law__1671 rfl rfl ?_
    exact wp_sub (HJ361 _ _ h k) rfl ⟨rfl, rfl, rfl, rfl, rfl, trivial⟩
  · refine wp_cst (v := .int (1 : Int32)) dL_law__1667 rfl rfl ?_
    refine wp_goto dL_law__1668 rfl ?_
    exact wp_sub (HJ361 _ _ h k) rfl ⟨rfl, rfl, rfl, rfl, rfl, trivial⟩
noncomputable def A_L_law__1741 (x4 : Int32) (s : am_S) : am_FE (Unit) :=
  if am_in (x4 + (1 : Int32)) (am_K s 2000000).2 = true then
    if am_in (x4 + (2 : Int32)) (am_K s 2000000).2 = true then
      am_jn (fun (e387 : Int32) s388 =>
        am_bi (f_L_best (am_I s 2000000 ((x4 + (1 : Int32)).toNatClampNeg)) e387 s388) (fun v390 s389 =>
          if am_in (x4 + (1 : Int32)) (am_K s389 2000000).2 = true then
            if am_in (x4 + (2 : Int32)) (am_K s389 2000000).2 = true then
              am_jn (fun (e394 : Int32) s395 =>
                am_bi (f_X8_best (am_I s389 2000000 ((x4 + (1 : Int32)).toNatClampNeg)) e394 s395) (fun v397 s396 =>
                  am_bi (f_X8_thrown s396) (fun v399 s398 =>
                    if v399 = v390 then
                      if v390 = 0 then
                        if (am_L s398 71 0) = v397.toInt64 then
                          some (.inr ((), s398))
                        else
                          some (.inl (.inl (some (.int (0 : Int32))), s398))
                      else
                        some (.inr ((), s398))
                    else
                      some (.inl (.inl (some (.int (0 : Int32))), s398))
                  )
                )
              ) (fun J393 =>
                if (am_I s389 2000000 ((x4 + (2 : Int32)).toNatClampNeg)) = 0 then
                  J393 (0 : Int32) s389
                else
                  J393 (1 : Int32) s389
              )
            else none
          else none
        )
      ) (fun J386 =>
        if (am_I s 2000000 ((x4 + (2 : Int32)).toNatClampNeg)) = 0 then
          J386 (0 : Int32) s
        else
          J386 (1 : Int32) s
      )
    else none
  else none
theorem q_L_law__1741 {N : Nat} {d : Nat} {x4 : Int32} {s : am_S} {P : (am_O × am_S) ⊕ (Unit × am_S) → Prop} {Q : am_O → am_S → Prop} (h : am_shE N s)  (k : am_ok (A_L_law__1741 x4 s) P) (hP : ∀ o s, P (.inl (o, s)) → am_shE N s → Q o s) (hX : ∀ (e : Unit) s, P (.inr (e, s)) → am_shE N s → am_WP (d + 11) mL_law_ 3100 [(0, .ref 2000000), (1, .ref 0), (2, .ref 55), (3, .ref 71), (4, .int x4)] [] s Q) : am_WP (d + 11) mL_law_ 1741 [(0, .ref 2000000), (1, .ref 0), (2, .ref 55), (3, .ref 71), (4, .int x4)] [] s Q := by
  unfold A_L_law__1741 at k
  refine wp_ld (v := .ref 0) dL_law__1741 rfl rfl rfl rfl ?_
  refine wp_ld (v := .ref 2000000) dL_law__1742 rfl rfl rfl rfl ?_
  refine wp_ld (v := .int x4) dL_law__1743 rfl rfl rfl rfl ?_
  refine wp_cst (v := .int (1 : Int32)) dL_law__1745 rfl rfl ?_
  refine wp_pu dL_law__1746 rfl rfl ?_
  obtain ⟨g384, k⟩ := ok_g k
  refine wq_sald dL_law__1747 (kE_script h) g384 (v := (am_I s 2000000 ((x4 + (1 : Int32)).toNatClampNeg))) rfl ?_
  refine wp_ld (v := .ref 2000000) dL_law__1748 rfl rfl rfl rfl ?_
  refine wp_ld (v := .int x4) dL_law__1749 rfl rfl rfl rfl ?_
  refine wp_cst (v := .int (2 : Int32)) dL_law__1751 rfl rfl ?_
  refine wp_pu dL_law__1752 rfl rfl ?_
  obtain ⟨g385, k⟩ := ok_g k
  refine wq_sald dL_law__1753 (kE_script h) g385 (v := (am_I s 2000000 ((x4 + (2 : Int32)).toNatClampNeg))) rfl ?_
  show am_WP (d + 11) mL_law_ 1754 _ _ _ Q
  refine jn_rule k (fun J386 hJ386 k => ?_)
  have HJ386 : ∀ (e387 : Int32) (s388 : am_S), am_shE N s388 → am_ok (J386 e387 s388) P → am_WP (d + 11) mL_law_ 1762 [(0, .ref 2000000), (1, .ref 0), (2, .ref 55), (3, .ref 71), (4, .int x4)] [.int e387, .int (am_I s 2000000 ((x4 + (1 : Int32)).toNatClampNeg)), .ref 0] s388 Q := by
    intro e387 s388 h k
    replace k := hJ386 _ _ k
    refine wp_ld (v := .ref 71) dL_law__1762 rfl rfl rfl rfl ?_
    refine c_i dL_law__1763 rfl rfl rfl (am_inv_s rfl rfl rfl rfl) (s_L_best h) k (fun v390 s389 h k => ?_)
    refine wp_st (ls' := [(0, .ref 2000000), (1, .ref 0), (2, .ref 55), (3, .ref 71), (4, .int x4), (5, .int v390)]) dL_law__1766 rfl rfl rfl (Nat.le_of_ble_eq_true rfl) rfl ?_
    refine wp_ld (v := .ref 55) dL_law__1768 rfl rfl rfl rfl ?_
    refine wp_ld (v := .ref 2000000) dL_law__1769 rfl rfl rfl rfl ?_
    refine wp_ld (v := .int x4) dL_law__1770 rfl rfl rfl rfl ?_
    refine wp_cst (v := .int (1 : Int32)) dL_law__1772 rfl rfl ?_
    refine wp_pu dL_law__1773 rfl rfl ?_
    obtain ⟨g391, k⟩ := ok_g k
    refine wq_sald dL_law__1774 (kE_script h) g391 (v := (am_I s389 2000000 ((x4 + (1 : Int32)).toNatClampNeg))) rfl ?_
    refine wp_ld (v := .ref 2000000) dL_law__1775 rfl rfl rfl rfl ?_
    refine wp_ld (v := .int x4) dL_law__1776 rfl rfl rfl rfl ?_
    refine wp_cst (v := .int (2 : Int32)) dL_law__1778 rfl rfl ?_
    refine wp_pu dL_law__1779 rfl rfl ?_
    show am_WP (d + 11) mL_law_ 1780 _ _ _ Q
    obtain ⟨g392, k⟩ := ok_g k
    refine wq_sald dL_law__1780 (kE_script h) g392 (v := (am_I s389 2000000 ((x4 + (2 : Int32)).toNatClampNeg))) rfl ?_
    refine jn_rule k (fun J393 hJ393 k => ?_)
    have HJ393 : ∀ (e394 : Int32) (s395 : am_S), am_shE N s395 → am_ok (J393 e394 s395) P → am_WP (d + 11) mL_law_ 1789 [(0, .ref 2000000), (1, .ref 0), (2, .ref 55), (3, .ref 71), (4, .int x4), (5, .int v390)] [.int e394, .int (am_I s389 2000000 ((x4 + (1 : Int32)).toNatClampNeg)), .ref 55] s395 Q := by
      intro e394 s395 h k
      replace k := hJ393 _ _ k
      refine c_i dL_law__1789 rfl rfl rfl (am_inv_v rfl (kE_55 h) rfl rfl rfl) (sE h (fun _ h => s_X8_best h)) k (fun v397 s396 h k => ?_)
      refine wp_st (ls' := [(0, .ref 2000000), (1, .ref 0), (2, .ref 55), (3, .ref 71), (4, .int x4), (5, .int v390), (6, .int v397)]) dL_law__1792 rfl rfl rfl (Nat.le_of_ble_eq_true rfl) rfl ?_
      refine wp_ld (v := .ref 55) dL_law__1794 rfl rfl rfl rfl ?_
      refine c_i dL_law__1795 rfl rfl rfl (am_inv_v rfl (kE_55 h) rfl rfl rfl) (sE h (fun _ h => s_X8_thrown h)) k (fun v399 s398 h k => ?_)
      refine wp_ld (v := .int v390) dL_law__1798 rfl rfl rfl rfl ?_
      refine wp_ic_eq dL_law__1800 rfl (fun c400 => have k := ok_pos c400 k; ?_) (fun c400 => have k := ok_neg c400 k; ?_)
      · refine wp_ld (v := .int v390) dL_law__1805 rfl rfl rfl rfl ?_
        refine wp_if_ne dL_law__1807 rfl (fun c401 => have k := ok_neg c401 k; ?_) (fun c401 => have k := ok_pos c401 k; ?_)
        · refine wp_goto dL_law__1822 rfl ?_
          exact wp_sub (hX _ _ (ok_s k) h) rfl ⟨rfl, rfl, rfl, rfl, rfl, trivial⟩
        · refine wp_ld (v := .ref 71) dL_law__1810 rfl rfl rfl rfl ?_
          refine wp_cst (v := .int (0 : Int32)) dL_law__1811 rfl rfl ?_
          refine wq_lald dL_law__1812 (kE_71 h) (by decide) (l := (am_L s398 71 0)) rfl ?_
          refine wp_ld (v := .int v397) dL_law__1813 rfl rfl rfl rfl ?_
          refine wp_pu dL_law__1815 rfl rfl ?_
          refine wl_eq dL_law__1816 dL_law__1817 rfl (fun c402 => have k := ok_pos c402 k; ?_) (fun c402 => have k := ok_neg c402 k; ?_)
          · refine wp_goto dL_law__1822 rfl ?_
            exact wp_sub (hX _ _ (ok_s k) h) rfl ⟨rfl, rfl, rfl, rfl, rfl, trivial⟩
          · refine wp_cst (v := .int (0 : Int32)) dL_law__1820 rfl rfl ?_
            exact wp_end dL_law__1821 rfl rfl (hP _ _ (ok_s k) h)
      · refine wp_cst (v := .int (0 : Int32)) dL_law__1803 rfl rfl ?_
        exact wp_end dL_law__1804 rfl rfl (hP _ _ (ok_s k) h)
    refine wp_if_eq dL_law__1781 rfl (fun c403 => have k := ok_pos c403 k; ?_) (fun c403 => have k := ok_neg c403 k; ?_)
    · refine wp_cst (v := .int (0 : Int32)) dL_law__1788 rfl rfl ?_
      exact wp_sub (HJ393 _ _ h k) rfl ⟨rfl, rfl, rfl, rfl, rfl, rfl, trivial⟩
    · refine wp_cst (v := .int (1 : Int32)) dL_law__1784 rfl rfl ?_
      refine wp_goto dL_law__1785 rfl ?_
      exact wp_sub (HJ393 _ _ h k) rfl ⟨rfl, rfl, rfl, rfl, rfl, rfl, trivial⟩
  refine wp_if_eq dL_law__1754 rfl (fun c404 => have k := ok_pos c404 k; ?_) (fun c404 => have k := ok_neg c404 k; ?_)
  · refine wp_cst (v := .int (0 : Int32)) dL_law__1761 rfl rfl ?_
    exact wp_sub (HJ386 _ _ h k) rfl ⟨rfl, rfl, rfl, rfl, rfl, trivial⟩
  · refine wp_cst (v := .int (1 : Int32)) dL_law__1757 rfl rfl ?_
    refine wp_goto dL_law__1758 rfl ?_
    exact wp_sub (HJ386 _ _ h k) rfl ⟨rfl, rfl, rfl, rfl, rfl, trivial⟩
noncomputable def A_L_law__1825 (x4 : Int32) (s : am_S) : am_FE (Unit) :=
  if am_in (x4 + (1 : Int32)) (am_K s 2000000).2 = true then
    if am_in (x4 + (2 : Int32)) (am_K s 2000000).2 = true then
      if am_in (x4 + (3 : Int32)) (am_K s 2000000).2 = true then
        if am_in (x4 + (4 : Int32)) (am_K s 2000000).2 = true then
          am_jn (fun (e413 : Int32) s414 =>
            if am_in (x4 + (5 : Int32)) (am_K s414 2000000).2 = true then
              am_bi (f_L_change (am_I s 2000000 ((x4 + (1 : Int32)).toNatClampNeg)) (am_I s 2000000 ((x4 + (2 : Int32)).toNatClampNeg)) (am_I s 2000000 ((x4 + (3 : Int32)).toNatClampNeg)) e413 (am_I s414 2000000 ((x4 + (5 : Int32)).toNatClampNeg)) s414) (fun v417 s416 =>
                if am_in (x4 + (1 : Int32)) (am_K s416 2000000).2 = true then
                  if am_in (x4 + (2 : Int32)) (am_K s416 2000000).2 = true then
                    if am_in (x4 + (3 : Int32)) (am_K s416 2000000).2 = true then
                      if am_in (x4 + (4 : Int32)) (am_K s416 2000000).2 = true then
                        am_jn (fun (e423 : Int32) s424 =>
                          if am_in (x4 + (5 : Int32)) (am_K s424 2000000).2 = true then
                            am_bl (f_X8_change (am_I s416 2000000 ((x4 + (1 : Int32)).toNatClampNeg)) (am_I s416 2000000 ((x4 + (2 : Int32)).toNatClampNeg)) (am_I s416 2000000 ((x4 + (3 : Int32)).toNatClampNeg)) e423 (am_I s424 2000000 ((x4 + (5 : Int32)).toNatClampNeg)) s424) (fun v427 s426 =>
                              am_bi (f_X8_thrown s426) (fun v429 s428 =>
                                if v429 = v417 then
                                  if v417 = 0 then
                                    if (am_L s428 71 0) = v427 then
                                      some (.inr ((), s428))
                                    else
                                      some (.inl (.inl (some (.int (0 : Int32))), s428))
                                  else
                                    some (.inr ((), s428))
                                else
                                  some (.inl (.inl (some (.int (0 : Int32))), s428))
                              )
                            )
                          else none
                        ) (fun J422 =>
                          if (am_I s416 2000000 ((x4 + (4 : Int32)).toNatClampNeg)) = 0 then
                            J422 (0 : Int32) s416
                          else
                            J422 (1 : Int32) s416
                        )
                      else none
                    else none
                  else none
                else none
              )
            else none
          ) (fun J412 =>
            if (am_I s 2000000 ((x4 + (4 : Int32)).toNatClampNeg)) = 0 then
              J412 (0 : Int32) s
            else
              J412 (1 : Int32) s
          )
        else none
      else none
    else none
  else none
theorem q_L_law__1825 {N : Nat} {d : Nat} {x4 : Int32} {s : am_S} {P : (am_O × am_S) ⊕ (Unit × am_S) → Prop} {Q : am_O → am_S → Prop} (h : am_shE N s)  (k : am_ok (A_L_law__1825 x4 s) P) (hP : ∀ o s, P (.inl (o, s)) → am_shE N s → Q o s) (hX : ∀ (e : Unit) s, P (.inr (e, s)) → am_shE N s → am_WP (d + 11) mL_law_ 3100 [(0, .ref 2000000), (1, .ref 0), (2, .ref 55), (3, .ref 71), (4, .int x4)] [] s Q) : am_WP (d + 11) mL_law_ 1825 [(0, .ref 2000000), (1, .ref 0), (2, .ref 55), (3, .ref 71), (4, .int x4)] [] s Q := by
  unfold A_L_law__1825 at k
  refine wp_ld (v := .ref 0) dL_law__1825 rfl rfl rfl rfl ?_
  refine wp_ld (v := .ref 2000000) dL_law__1826 rfl rfl rfl rfl ?_
  refine wp_ld (v := .int x4) dL_law__1827 rfl rfl rfl rfl ?_
  refine wp_cst (v := .int (1 : Int32)) dL_law__1829 rfl rfl ?_
  refine wp_pu dL_law__1830 rfl rfl ?_
  obtain ⟨g408, k⟩ := ok_g k
  refine wq_sald dL_law__1831 (kE_script h) g408 (v := (am_I s 2000000 ((x4 + (1 : Int32)).toNatClampNeg))) rfl ?_
  refine wp_ld (v := .ref 2000000) dL_law__1832 rfl rfl rfl rfl ?_
  refine wp_ld (v := .int x4) dL_law__1833 rfl rfl rfl rfl ?_
  refine wp_cst (v := .int (2 : Int32)) dL_law__1835 rfl rfl ?_
  refine wp_pu dL_law__1836 rfl rfl ?_
  obtain ⟨g409, k⟩ := ok_g k
  refine wq_sald dL_law__1837 (kE_script h) g409 (v := (am_I s 2000000 ((x4 + (2 : Int32)).toNatClampNeg))) rfl ?_
  show am_WP (d + 11) mL_law_ 1838 _ _ _ Q
  refine wp_ld (v := .ref 2000000) dL_law__1838 rfl rfl rfl rfl ?_
  refine wp_ld (v := .int x4) dL_law__1839 rfl rfl rfl rfl ?_
  refine wp_cst (v := .int (3 : Int32)) dL_law__1841 rfl rfl ?_
  refine wp_pu dL_law__1842 rfl rfl ?_
  obtain ⟨g410, k⟩ := ok_g k
  refine wq_sald dL_law__1843 (kE_script h) g410 (v := (am_I s 2000000 ((x4 + (3 : Int32)).toNatClampNeg))) rfl ?_
  refine wp_ld (v := .ref 2000000) dL_law__1844 rfl rfl rfl rfl ?_
  refine wp_ld (v := .int x4) dL_law__1845 rfl rfl rfl rfl ?_
  refine wp_cst (v := .int (4 : Int32)) dL_law__1847 rfl rfl ?_
  refine wp_pu dL_law__1848 rfl rfl ?_
  obtain ⟨g411, k⟩ := ok_g k
  refine wq_sald dL_law__1849 (kE_script h) g411 (v := (am_I s 2000000 ((x4 + (4 : Int32)).toNatClampNeg))) rfl ?_
  refine jn_rule k (fun J412 hJ412 k => ?_)
  have HJ412 : ∀ (e413 : Int32) (s414 : am_S), am_shE N s414 → am_ok (J412 e413 s414) P → am_WP (d + 11) mL_law_ 1858 [(0, .ref 2000000), (1, .ref 0), (2, .ref 55), (3, .ref 71), (4, .int x4)] [.int e413, .int (am_I s 2000000 ((x4 + (3 : Int32)).toNatClampNeg)), .int (am_I s 2000000 ((x4 + (2 : Int32)).toNatClampNeg)), .int (am_I s 2000000 ((x4 + (1 : Int32)).toNatClampNeg)), .ref 0] s414 Q := by
    intro e413 s414 h k
    replace k := hJ412 _ _ k
    refine wp_ld (v := .ref 2000000) dL_law__1858 rfl rfl rfl rfl ?_
    refine wp_ld (v := .int x4) dL_law__1859 rfl rfl rfl rfl ?_
    refine wp_cst (v := .int (5 : Int32)) dL_law__1861 rfl rfl ?_
    refine wp_pu dL_law__1862 rfl rfl ?_
    obtain ⟨g415, k⟩ := ok_g k
    refine wq_sald dL_law__1863 (kE_script h) g415 (v := (am_I s414 2000000 ((x4 + (5 : Int32)).toNatClampNeg))) rfl ?_
    refine wp_ld (v := .ref 71) dL_law__1864 rfl rfl rfl rfl ?_
    refine c_i dL_law__1865 rfl rfl rfl (am_inv_s rfl rfl rfl rfl) (s_L_change h) k (fun v417 s416 h k => ?_)
    refine wp_st (ls' := [(0, .ref 2000000), (1, .ref 0), (2, .ref 55), (3, .ref 71), (4, .int x4), (5, .int v417)]) dL_law__1868 rfl rfl rfl (Nat.le_of_ble_eq_true rfl) rfl ?_
    refine wp_ld (v := .ref 55) dL_law__1870 rfl rfl rfl rfl ?_
    refine wp_ld (v := .ref 2000000) dL_law__1871 rfl rfl rfl rfl ?_
    refine wp_ld (v := .int x4) dL_law__1872 rfl rfl rfl rfl ?_
    refine wp_cst (v := .int (1 : Int32)) dL_law__1874 rfl rfl ?_
    refine wp_pu dL_law__1875 rfl rfl ?_
    obtain ⟨g418, k⟩ := ok_g k
    refine wq_sald dL_law__1876 (kE_script h) g418 (v := (am_I s416 2000000 ((x4 + (1 : Int32)).toNatClampNeg))) rfl ?_
    refine wp_ld (v := .ref 2000000) dL_law__1877 rfl rfl rfl rfl ?_
    refine wp_ld (v := .int x4) dL_law__1878 rfl rfl rfl rfl ?_
    refine wp_cst (v := .int (2 : Int32)) dL_law__1880 rfl rfl ?_
    refine wp_pu dL_law__1881 rfl rfl ?_
    show am_WP (d + 11) mL_law_ 1882 _ _ _ Q
    obtain ⟨g419, k⟩ := ok_g k
    refine wq_sald dL_law__1882 (kE_script h) g419 (v := (am_I s416 2000000 ((x4 + (2 : Int32)).toNatClampNeg))) rfl ?_
    refine wp_ld (v := .ref 2000000) dL_law__1883 rfl rfl rfl rfl ?_
    refine wp_ld (v := .int x4) dL_law__1884 rfl rfl rfl rfl ?_
    refine wp_cst (v := .int (3 : Int32)) dL_law__1886 rfl rfl ?_
    refine wp_pu dL_law__1887 rfl rfl ?_
    obtain ⟨g420, k⟩ := ok_g k
    refine wq_sald dL_law__1888 (kE_script h) g420 (v := (am_I s416 2000000 ((x4 + (3 : Int32)).toNatClampNeg))) rfl ?_
    refine wp_ld (v := .ref 2000000) dL_law__1889 rfl rfl rfl rfl ?_
    refine wp_ld (v := .int x4) dL_law__1890 rfl rfl rfl rfl ?_
    refine wp_cst (v := .int (4 : Int32)) dL_law__1892 rfl rfl ?_
    refine wp_pu dL_law__1893 rfl rfl ?_
    obtain ⟨g421, k⟩ := ok_g k
    refine wq_sald dL_law__1894 (kE_script h) g421 (v := (am_I s416 2000000 ((x4 + (4 : Int32)).toNatClampNeg))) rfl ?_
    refine jn_rule k (fun J422 hJ422 k => ?_)
    have HJ422 : ∀ (e423 : Int32) (s424 : am_S), am_shE N s424 → am_ok (J422 e423 s424) P → am_WP (d + 11) mL_law_ 1903 [(0, .ref 2000000), (1, .ref 0), (2, .ref 55), (3, .ref 71), (4, .int x4), (5, .int v417)] [.int e423, .int (am_I s416 2000000 ((x4 + (3 : Int32)).toNatClampNeg)), .int (am_I s416 2000000 ((x4 + (2 : Int32)).toNatClampNeg)), .int (am_I s416 2000000 ((x4 + (1 : Int32)).toNatClampNeg)), .ref 55] s424 Q := by
      intro e423 s424 h k
      replace k := hJ422 _ _ k
      refine wp_ld (v := .ref 2000000) dL_law__1903 rfl rfl rfl rfl ?_
      refine wp_ld (v := .int x4) dL_law__1904 rfl rfl rfl rfl ?_
      refine wp_cst (v := .int (5 : Int32)) dL_law__1906 rfl rfl ?_
      refine wp_pu dL_law__1907 rfl rfl ?_
      obtain ⟨g425, k⟩ := ok_g k
      refine wq_sald dL_law__1908 (kE_script h) g425 (v := (am_I s424 2000000 ((x4 + (5 : Int32)).toNatClampNeg))) rfl ?_
      refine c_l dL_law__1909 rfl rfl rfl (am_inv_v rfl (kE_55 h) rfl rfl rfl) (sE h (fun _ h => s_X8_change h)) k (fun v427 s426 h k => ?_)
      refine wp_st (ls' := [(0, .ref 2000000), (1, .ref 0), (2, .ref 55), (3, .ref 71), (4, .int x4), (5, .int v417), (6, .long v427)]) dL_law__1912 rfl rfl rfl (Nat.le_of_ble_eq_true rfl) rfl ?_
      refine wp_ld (v := .ref 55) dL_law__1914 rfl rfl rfl rfl ?_
      refine c_i dL_law__1915 rfl rfl rfl (am_inv_v rfl (kE_55 h) rfl rfl rfl) (sE h (fun _ h => s_X8_thrown h)) k (fun v429 s428 h k => ?_)
      refine wp_ld (v := .int v417) dL_law__1918 rfl rfl rfl rfl ?_
      refine wp_ic_eq dL_law__1920 rfl (fun c430 => have k := ok_pos c430 k; ?_) (fun c430 => have k := ok_neg c430 k; ?_)
      · refine wp_ld (v := .int v417) dL_law__1925 rfl rfl rfl rfl ?_
        refine wp_if_ne dL_law__1927 rfl (fun c431 => have k := ok_neg c431 k; ?_) (fun c431 => have k := ok_pos c431 k; ?_)
        · refine wp_goto dL_law__1941 rfl ?_
          exact wp_sub (hX _ _ (ok_s k) h) rfl ⟨rfl, rfl, rfl, rfl, rfl, trivial⟩
        · refine wp_ld (v := .ref 71) dL_law__1930 rfl rfl rfl rfl ?_
          refine wp_cst (v := .int (0 : Int32)) dL_law__1931 rfl rfl ?_
          refine wq_lald dL_law__1932 (kE_71 h) (by decide) (l := (am_L s428 71 0)) rfl ?_
          refine wp_ld (v := .long v427) dL_law__1933 rfl rfl rfl rfl ?_
          refine wl_eq dL_law__1935 dL_law__1936 rfl (fun c432 => have k := ok_pos c432 k; ?_) (fun c432 => have k := ok_neg c432 k; ?_)
          · refine wp_goto dL_law__1941 rfl ?_
            exact wp_sub (hX _ _ (ok_s k) h) rfl ⟨rfl, rfl, rfl, rfl, rfl, trivial⟩
          · refine wp_cst (v := .int (0 : Int32)) dL_law__1939 rfl rfl ?_
            exact wp_end dL_law__1940 rfl rfl (hP _ _ (ok_s k) h)
      · refine wp_cst (v := .int (0 : Int32)) dL_law__1923 rfl rfl ?_
        exact wp_end dL_law__1924 rfl rfl (hP _ _ (ok_s k) h)
    refine wp_if_eq dL_law__1895 rfl (fun c433 => have k := ok_pos c433 k; ?_) (fun c433 => have k := ok_neg c433 k; ?_)
    · refine wp_cst (v := .int (0 : Int32)) dL_law__1902 rfl rfl ?_
      exact wp_sub (HJ422 _ _ h k) rfl ⟨rfl, rfl, rfl, rfl, rfl, rfl, trivial⟩
    · refine wp_cst (v := .int (1 : Int32)) dL_law__1898 rfl rfl ?_
      refine wp_goto dL_law__1899 rfl ?_
      exact wp_sub (HJ422 _ _ h k) rfl ⟨rfl, rfl, rfl, rfl, rfl, rfl, trivial⟩
  refine wp_if_eq dL_law__1850 rfl (fun c434 => have k := ok_pos c434 k; ?_) (fun c434 => have k := ok_neg c434 k; ?_)
  · refine wp_cst (v := .int (0 : Int32)) dL_law__1857 rfl rfl ?_
    exact wp_sub (HJ412 _ _ h k) rfl ⟨rfl, rfl, rfl, rfl, rfl, trivial⟩
  · refine wp_cst (v := .int (1 : Int32)) dL_law__1853 rfl rfl ?_
    refine wp_goto dL_law__1854 rfl ?_
    exact wp_sub (HJ412 _ _ h k) rfl ⟨rfl, rfl, rfl, rfl, rfl, trivial⟩
noncomputable def A_L_law__1944 (x4 : Int32) (s : am_S) : am_FE (Unit) :=
  if am_in (x4 + (1 : Int32)) (am_K s 2000000).2 = true then
    if am_in (x4 + (2 : Int32)) (am_K s 2000000).2 = true then
      if am_in (x4 + (3 : Int32)) (am_K s 2000000).2 = true then
        if am_in (x4 + (4 : Int32)) (am_K s 2000000).2 = true then
          am_jn (fun (e443 : Int32) s444 =>
            am_bi (f_L_mend (am_I s 2000000 ((x4 + (1 : Int32)).toNatClampNeg)) (am_I s 2000000 ((x4 + (2 : Int32)).toNatClampNeg)) (am_I s 2000000 ((x4 + (3 : Int32)).toNatClampNeg)) e443 s444) (fun v446 s445 =>
              if am_in (x4 + (1 : Int32)) (am_K s445 2000000).2 = true then
                if am_in (x4 + (2 : Int32)) (am_K s445 2000000).2 = true then
                  if am_in (x4 + (3 : Int32)) (am_K s445 2000000).2 = true then
                    if am_in (x4 + (4 : Int32)) (am_K s445 2000000).2 = true then
                      am_jn (fun (e452 : Int32) s453 =>
                        am_bi (f_X8_mend (am_I s445 2000000 ((x4 + (1 : Int32)).toNatClampNeg)) (am_I s445 2000000 ((x4 + (2 : Int32)).toNatClampNeg)) (am_I s445 2000000 ((x4 + (3 : Int32)).toNatClampNeg)) e452 s453) (fun v455 s454 =>
                          am_bi (f_X8_thrown s454) (fun v457 s456 =>
                            if v457 = v446 then
                              if v446 = 0 then
                                if (am_L s456 71 0) = v455.toInt64 then
                                  some (.inr ((), s456))
                                else
                                  some (.inl (.inl (some (.int (0 : Int32))), s456))
                              else
                                some (.inr ((), s456))
                            else
                              some (.inl (.inl (some (.int (0 : Int32))), s456))
                          )
                        )
                      ) (fun J451 =>
                        if (am_I s445 2000000 ((x4 + (4 : Int32)).toNatClampNeg)) = 0 then
                          J451 (0 : Int32) s445
                        else
                          J451 (1 : Int32) s445
                      )
                    else none
                  else none
                else none
              else none
            )
          ) (fun J442 =>
            if (am_I s 2000000 ((x4 + (4 : Int32)).toNatClampNeg)) = 0 then
              J442 (0 : Int32) s
            else
              J442 (1 : Int32) s
          )
        else none
      else none
    else none
  else none
theorem q_L_law__1944 {N : Nat} {d : Nat} {x4 : Int32} {s : am_S} {P : (am_O × am_S) ⊕ (Unit × am_S) → Prop} {Q : am_O → am_S → Prop} (h : am_shE N s)  (k : am_ok (A_L_law__1944 x4 s) P) (hP : ∀ o s, P (.inl (o, s)) → am_shE N s → Q o s) (hX : ∀ (e : Unit) s, P (.inr (e, s)) → am_shE N s → am_WP (d + 11) mL_law_ 3100 [(0, .ref 2000000), (1, .ref 0), (2, .ref 55), (3, .ref 71), (4, .int x4)] [] s Q) : am_WP (d + 11) mL_law_ 1944 [(0, .ref 2000000), (1, .ref 0), (2, .ref 55), (3, .ref 71), (4, .int x4)] [] s Q := by
  unfold A_L_law__1944 at k
  refine wp_ld (v := .ref 0) dL_law__1944 rfl rfl rfl rfl ?_
  refine wp_ld (v := .ref 2000000) dL_law__1945 rfl rfl rfl rfl ?_
  refine wp_ld (v := .int x4) dL_law__1946 rfl rfl rfl rfl ?_
  refine wp_cst (v := .int (1 : Int32)) dL_law__1948 rfl rfl ?_
  refine wp_pu dL_law__1949 rfl rfl ?_
  obtain ⟨g438, k⟩ := ok_g k
  refine wq_sald dL_law__1950 (kE_script h) g438 (v := (am_I s 2000000 ((x4 + (1 : Int32)).toNatClampNeg))) rfl ?_
  refine wp_ld (v := .ref 2000000) dL_law__1951 rfl rfl rfl rfl ?_
  refine wp_ld (v := .int x4) dL_law__1952 rfl rfl rfl rfl ?_
  refine wp_cst (v := .int (2 : Int32)) dL_law__1954 rfl rfl ?_
  refine wp_pu dL_law__1955 rfl rfl ?_
  obtain ⟨g439, k⟩ := ok_g k
  refine wq_sald dL_law__1956 (kE_script h) g439 (v := (am_I s 2000000 ((x4 + (2 : Int32)).toNatClampNeg))) rfl ?_
  show am_WP (d + 11) mL_law_ 1957 _ _ _ Q
  refine wp_ld (v := .ref 2000000) dL_law__1957 rfl rfl rfl rfl ?_
  refine wp_ld (v := .int x4) dL_law__1958 rfl rfl rfl rfl ?_
  refine wp_cst (v := .int (3 : Int32)) dL_law__1960 rfl rfl ?_
  refine wp_pu dL_law__1961 rfl rfl ?_
  obtain ⟨g440, k⟩ := ok_g k
  refine wq_sald dL_law__1962 (kE_script h) g440 (v := (am_I s 2000000 ((x4 + (3 : Int32)).toNatClampNeg))) rfl ?_
  refine wp_ld (v := .ref 2000000) dL_law__1963 rfl rfl rfl rfl ?_
  refine wp_ld (v := .int x4) dL_law__1964 rfl rfl rfl rfl ?_
  refine wp_cst (v := .int (4 : Int32)) dL_law__1966 rfl rfl ?_
  refine wp_pu dL_law__1967 rfl rfl ?_
  obtain ⟨g441, k⟩ := ok_g k
  refine wq_sald dL_law__1968 (kE_script h) g441 (v := (am_I s 2000000 ((x4 + (4 : Int32)).toNatClampNeg))) rfl ?_
  refine jn_rule k (fun J442 hJ442 k => ?_)
  have HJ442 : ∀ (e443 : Int32) (s444 : am_S), am_shE N s444 → am_ok (J442 e443 s444) P → am_WP (d + 11) mL_law_ 1977 [(0, .ref 2000000), (1, .ref 0), (2, .ref 55), (3, .ref 71), (4, .int x4)] [.int e443, .int (am_I s 2000000 ((x4 + (3 : Int32)).toNatClampNeg)), .int (am_I s 2000000 ((x4 + (2 : Int32)).toNatClampNeg)), .int (am_I s 2000000 ((x4 + (1 : Int32)).toNatClampNeg)), .ref 0] s444 Q := by
    intro e443 s444 h k
    replace k := hJ442 _ _ k
    refine wp_ld (v := .ref 71) dL_law__1977 rfl rfl rfl rfl ?_
    refine c_i dL_law__1978 rfl rfl rfl (am_inv_s rfl rfl rfl rfl) (s_L_mend h) k (fun v446 s445 h k => ?_)
    refine wp_st (ls' := [(0, .ref 2000000), (1, .ref 0), (2, .ref 55), (3, .ref 71), (4, .int x4), (5, .int v446)]) dL_law__1981 rfl rfl rfl (Nat.le_of_ble_eq_true rfl) rfl ?_
    refine wp_ld (v := .ref 55) dL_law__1983 rfl rfl rfl rfl ?_
    refine wp_ld (v := .ref 2000000) dL_law__1984 rfl rfl rfl rfl ?_
    refine wp_ld (v := .int x4) dL_law__1985 rfl rfl rfl rfl ?_
    refine wp_cst (v := .int (1 : Int32)) dL_law__1987 rfl rfl ?_
    refine wp_pu dL_law__1988 rfl rfl ?_
    obtain ⟨g447, k⟩ := ok_g k
    refine wq_sald dL_law__1989 (kE_script h) g447 (v := (am_I s445 2000000 ((x4 + (1 : Int32)).toNatClampNeg))) rfl ?_
    refine wp_ld (v := .ref 2000000) dL_law__1990 rfl rfl rfl rfl ?_
    refine wp_ld (v := .int x4) dL_law__1991 rfl rfl rfl rfl ?_
    refine wp_cst (v := .int (2 : Int32)) dL_law__1993 rfl rfl ?_
    refine wp_pu dL_law__1994 rfl rfl ?_
    show am_WP (d + 11) mL_law_ 1995 _ _ _ Q
    obtain ⟨g448, k⟩ := ok_g k
    refine wq_sald dL_law__1995 (kE_script h) g448 (v := (am_I s445 2000000 ((x4 + (2 : Int32)).toNatClampNeg))) rfl ?_
    refine wp_ld (v := .ref 2000000) dL_law__1996 rfl rfl rfl rfl ?_
    refine wp_ld (v := .int x4) dL_law__1997 rfl rfl rfl rfl ?_
    refine wp_cst (v := .int (3 : Int32)) dL_law__1999 rfl rfl ?_
    refine wp_pu dL_law__2000 rfl rfl ?_
    obtain ⟨g449, k⟩ := ok_g k
    refine wq_sald dL_law__2001 (kE_script h) g449 (v := (am_I s445 2000000 ((x4 + (3 : Int32)).toNatClampNeg))) rfl ?_
    refine wp_ld (v := .ref 2000000) dL_law__2002 rfl rfl rfl rfl ?_
    refine wp_ld (v := .int x4) dL_law__2003 rfl rfl rfl rfl ?_
    refine wp_cst (v := .int (4 : Int32)) dL_law__2005 rfl rfl ?_
    refine wp_pu dL_law__2006 rfl rfl ?_
    obtain ⟨g450, k⟩ := ok_g k
    refine wq_sald dL_law__2007 (kE_script h) g450 (v := (am_I s445 2000000 ((x4 + (4 : Int32)).toNatClampNeg))) rfl ?_
    refine jn_rule k (fun J451 hJ451 k => ?_)
    have HJ451 : ∀ (e452 : Int32) (s453 : am_S), am_shE N s453 → am_ok (J451 e452 s453) P → am_WP (d + 11) mL_law_ 2016 [(0, .ref 2000000), (1, .ref 0), (2, .ref 55), (3, .ref 71), (4, .int x4), (5, .int v446)] [.int e452, .int (am_I s445 2000000 ((x4 + (3 : Int32)).toNatClampNeg)), .int (am_I s445 2000000 ((x4 + (2 : Int32)).toNatClampNeg)), .int (am_I s445 2000000 ((x4 + (1 : Int32)).toNatClampNeg)), .ref 55] s453 Q := by
      intro e452 s453 h k
      replace k := hJ451 _ _ k
      refine c_i dL_law__2016 rfl rfl rfl (am_inv_v rfl (kE_55 h) rfl rfl rfl) (sE h (fun _ h => s_X8_mend h)) k (fun v455 s454 h k => ?_)
      refine wp_st (ls' := [(0, .ref 2000000), (1, .ref 0), (2, .ref 55), (3, .ref 71), (4, .int x4), (5, .int v446), (6, .int v455)]) dL_law__2019 rfl rfl rfl (Nat.le_of_ble_eq_true rfl) rfl ?_
      refine wp_ld (v := .ref 55) dL_law__2021 rfl rfl rfl rfl ?_
      refine c_i dL_law__2022 rfl rfl rfl (am_inv_v rfl (kE_55 h) rfl rfl rfl) (sE h (fun _ h => s_X8_thrown h)) k (fun v457 s456 h k => ?_)
      refine wp_ld (v := .int v446) dL_law__2025 rfl rfl rfl rfl ?_
      refine wp_ic_eq dL_law__2027 rfl (fun c458 => have k := ok_pos c458 k; ?_) (fun c458 => have k := ok_neg c458 k; ?_)
      · refine wp_ld (v := .int v446) dL_law__2032 rfl rfl rfl rfl ?_
        refine wp_if_ne dL_law__2034 rfl (fun c459 => have k := ok_neg c459 k; ?_) (fun c459 => have k := ok_pos c459 k; ?_)
        · refine wp_goto dL_law__2049 rfl ?_
          exact wp_sub (hX _ _ (ok_s k) h) rfl ⟨rfl, rfl, rfl, rfl, rfl, trivial⟩
        · refine wp_ld (v := .ref 71) dL_law__2037 rfl rfl rfl rfl ?_
          refine wp_cst (v := .int (0 : Int32)) dL_law__2038 rfl rfl ?_
          refine wq_lald dL_law__2039 (kE_71 h) (by decide) (l := (am_L s456 71 0)) rfl ?_
          refine wp_ld (v := .int v455) dL_law__2040 rfl rfl rfl rfl ?_
          refine wp_pu dL_law__2042 rfl rfl ?_
          refine wl_eq dL_law__2043 dL_law__2044 rfl (fun c460 => have k := ok_pos c460 k; ?_) (fun c460 => have k := ok_neg c460 k; ?_)
          · refine wp_goto dL_law__2049 rfl ?_
            exact wp_sub (hX _ _ (ok_s k) h) rfl ⟨rfl, rfl, rfl, rfl, rfl, trivial⟩
          · refine wp_cst (v := .int (0 : Int32)) dL_law__2047 rfl rfl ?_
            exact wp_end dL_law__2048 rfl rfl (hP _ _ (ok_s k) h)
      · refine wp_cst (v := .int (0 : Int32)) dL_law__2030 rfl rfl ?_
        exact wp_end dL_law__2031 rfl rfl (hP _ _ (ok_s k) h)
    refine wp_if_eq dL_law__2008 rfl (fun c461 => have k := ok_pos c461 k; ?_) (fun c461 => have k := ok_neg c461 k; ?_)
    · refine wp_cst (v := .int (0 : Int32)) dL_law__2015 rfl rfl ?_
      exact wp_sub (HJ451 _ _ h k) rfl ⟨rfl, rfl, rfl, rfl, rfl, rfl, trivial⟩
    · refine wp_cst (v := .int (1 : Int32)) dL_law__2011 rfl rfl ?_
      refine wp_goto dL_law__2012 rfl ?_
      exact wp_sub (HJ451 _ _ h k) rfl ⟨rfl, rfl, rfl, rfl, rfl, rfl, trivial⟩
  refine wp_if_eq dL_law__1969 rfl (fun c462 => have k := ok_pos c462 k; ?_) (fun c462 => have k := ok_neg c462 k; ?_)
  · refine wp_cst (v := .int (0 : Int32)) dL_law__1976 rfl rfl ?_
    exact wp_sub (HJ442 _ _ h k) rfl ⟨rfl, rfl, rfl, rfl, rfl, trivial⟩
  · refine wp_cst (v := .int (1 : Int32)) dL_law__1972 rfl rfl ?_
    refine wp_goto dL_law__1973 rfl ?_
    exact wp_sub (HJ442 _ _ h k) rfl ⟨rfl, rfl, rfl, rfl, rfl, trivial⟩
noncomputable def A_L_law__2052 (x4 : Int32) (s : am_S) : am_FE (Unit) :=
  if am_in (x4 + (1 : Int32)) (am_K s 2000000).2 = true then
    if am_in (x4 + (2 : Int32)) (am_K s 2000000).2 = true then
      if am_in (x4 + (3 : Int32)) (am_K s 2000000).2 = true then
        if am_in (x4 + (4 : Int32)) (am_K s 2000000).2 = true then
          if am_in (x4 + (5 : Int32)) (am_K s 2000000).2 = true then
            if am_in (x4 + (6 : Int32)) (am_K s 2000000).2 = true then
              if am_in (x4 + (7 : Int32)) (am_K s 2000000).2 = true then
                am_bi (f_L_hoop (am_I s 2000000 ((x4 + (1 : Int32)).toNatClampNeg)) (am_I s 2000000 ((x4 + (2 : Int32)).toNatClampNeg)) (am_I s 2000000 ((x4 + (3 : Int32)).toNatClampNeg)) (am_I s 2000000 ((x4 + (4 : Int32)).toNatClampNeg)) (am_I s 2000000 ((x4 + (5 : Int32)).toNatClampNeg)) (am_I s 2000000 ((x4 + (6 : Int32)).toNatClampNeg)) (am_I s 2000000 ((x4 + (7 : Int32)).toNatClampNeg)) s) (fun v474 s473 =>
                  if am_in (x4 + (1 : Int32)) (am_K s473 2000000).2 = true then
                    if am_in (x4 + (2 : Int32)) (am_K s473 2000000).2 = true then
                      if am_in (x4 + (3 : Int32)) (am_K s473 2000000).2 = true then
                        if am_in (x4 + (4 : Int32)) (am_K s473 2000000).2 = true then
                          if am_in (x4 + (5 : Int32)) (am_K s473 2000000).2 = true then
                            if am_in (x4 + (6 : Int32)) (am_K s473 2000000).2 = true then
                              if am_in (x4 + (7 : Int32)) (am_K s473 2000000).2 = true then
                                am_bi (f_X8_hoop (am_I s473 2000000 ((x4 + (1 : Int32)).toNatClampNeg)) (am_I s473 2000000 ((x4 + (2 : Int32)).toNatClampNeg)) (am_I s473 2000000 ((x4 + (3 : Int32)).toNatClampNeg)) (am_I s473 2000000 ((x4 + (4 : Int32)).toNatClampNeg)) (am_I s473 2000000 ((x4 + (5 : Int32)).toNatClampNeg)) (am_I s473 2000000 ((x4 + (6 : Int32)).toNatClampNeg)) (am_I s473 2000000 ((x4 + (7 : Int32)).toNatClampNeg)) s473) (fun v483 s482 =>
                                  am_bi (f_X8_thrown s482) (fun v485 s484 =>
                                    if v485 = v474 then
                                      if v474 = 0 then
                                        am_jn (fun (e489 : Int64) s490 =>
                                          if (am_L s484 71 0) = e489 then
                                            some (.inr ((), s490))
                                          else
                                            some (.inl (.inl (some (.int (0 : Int32))), s490))
                                        ) (fun J488 =>
                                          if v483 = 0 then
                                            J488 (0 : Int64) s484
                                          else
                                            J488 (1 : Int64) s484
                                        )
                                      else
                                        some (.inr ((), s484))
                                    else
                                      some (.inl (.inl (some (.int (0 : Int32))), s484))
                                  )
                                )
                              else none
                            else none
                          else none
                        else none
                      else none
                    else none
                  else none
                )
              else none
            else none
          else none
        else none
      else none
    else none
  else none
theorem q_L_law__2052 {N : Nat} {d : Nat} {x4 : Int32} {s : am_S} {P : (am_O × am_S) ⊕ (Unit × am_S) → Prop} {Q : am_O → am_S → Prop} (h : am_shE N s)  (k : am_ok (A_L_law__2052 x4 s) P) (hP : ∀ o s, P (.inl (o, s)) → am_shE N s → Q o s) (hX : ∀ (e : Unit) s, P (.inr (e, s)) → am_shE N s → am_WP (d + 11) mL_law_ 3100 [(0, .ref 2000000), (1, .ref 0), (2, .ref 55), (3, .ref 71), (4, .int x4)] [] s Q) : am_WP (d + 11) mL_law_ 2052 [(0, .ref 2000000), (1, .ref 0), (2, .ref 55), (3, .ref 71), (4, .int x4)] [] s Q := by
  unfold A_L_law__2052 at k
  refine wp_ld (v := .ref 0) dL_law__2052 rfl rfl rfl rfl ?_
  refine wp_ld (v := .ref 2000000) dL_law__2053 rfl rfl rfl rfl ?_
  refine wp_ld (v := .int x4) dL_law__2054 rfl rfl rfl rfl ?_
  refine wp_cst (v := .int (1 : Int32)) dL_law__2056 rfl rfl ?_
  refine wp_pu dL_law__2057 rfl rfl ?_
  obtain ⟨g466, k⟩ := ok_g k
  refine wq_sald dL_law__2058 (kE_script h) g466 (v := (am_I s 2000000 ((x4 + (1 : Int32)).toNatClampNeg))) rfl ?_
  refine wp_ld (v := .ref 2000000) dL_law__2059 rfl rfl rfl rfl ?_
  refine wp_ld (v := .int x4) dL_law__2060 rfl rfl rfl rfl ?_
  refine wp_cst (v := .int (2 : Int32)) dL_law__2062 rfl rfl ?_
  refine wp_pu dL_law__2063 rfl rfl ?_
  obtain ⟨g467, k⟩ := ok_g k
  refine wq_sald dL_law__2064 (kE_script h) g467 (v := (am_I s 2000000 ((x4 + (2 : Int32)).toNatClampNeg))) rfl ?_
  show am_WP (d + 11) mL_law_ 2065 _ _ _ Q
  refine wp_ld (v := .ref 2000000) dL_law__2065 rfl rfl rfl rfl ?_
  refine wp_ld (v := .int x4) dL_law__2066 rfl rfl rfl rfl ?_
  refine wp_cst (v := .int (3 : Int32)) dL_law__2068 rfl rfl ?_
  refine wp_pu dL_law__2069 rfl rfl ?_
  obtain ⟨g468, k⟩ := ok_g k
  refine wq_sald dL_law__2070 (kE_script h) g468 (v := (am_I s 2000000 ((x4 + (3 : Int32)).toNatClampNeg))) rfl ?_
  refine wp_ld (v := .ref 2000000) dL_law__2071 rfl rfl rfl rfl ?_
  refine wp_ld (v := .int x4) dL_law__2072 rfl rfl rfl rfl ?_
  refine wp_cst (v := .int (4 : Int32)) dL_law__2074 rfl rfl ?_
  refine wp_pu dL_law__2075 rfl rfl ?_
  obtain ⟨g469, k⟩ := ok_g k
  refine wq_sald dL_law__2076 (kE_script h) g469 (v := (am_I s 2000000 ((x4 + (4 : Int32)).toNatClampNeg))) rfl ?_
  refine wp_ld (v := .ref 2000000) dL_law__2077 rfl rfl rfl rfl ?_
  refine wp_ld (v := .int x4) dL_law__2078 rfl rfl rfl rfl ?_
  show am_WP (d + 11) mL_law_ 2080 _ _ _ Q
  refine wp_cst (v := .int (5 : Int32)) dL_law__2080 rfl rfl ?_
  refine wp_pu dL_law__2081 rfl rfl ?_
  obtain ⟨g470, k⟩ := ok_g k
  refine wq_sald dL_law__2082 (kE_script h) g470 (v := (am_I s 2000000 ((x4 + (5 : Int32)).toNatClampNeg))) rfl ?_
  refine wp_ld (v := .ref 2000000) dL_law__2083 rfl rfl rfl rfl ?_
  refine wp_ld (v := .int x4) dL_law__2084 rfl rfl rfl rfl ?_
  refine wp_cst (v := .int (6 : Int32)) dL_law__2086 rfl rfl ?_
  refine wp_pu dL_law__2088 rfl rfl ?_
  obtain ⟨g471, k⟩ := ok_g k
  refine wq_sald dL_law__2089 (kE_script h) g471 (v := (am_I s 2000000 ((x4 + (6 : Int32)).toNatClampNeg))) rfl ?_
  refine wp_ld (v := .ref 2000000) dL_law__2090 rfl rfl rfl rfl ?_
  refine wp_ld (v := .int x4) dL_law__2091 rfl rfl rfl rfl ?_
  refine wp_cst (v := .int (7 : Int32)) dL_law__2093 rfl rfl ?_
  refine wp_pu dL_law__2095 rfl rfl ?_
  show am_WP (d + 11) mL_law_ 2096 _ _ _ Q
  obtain ⟨g472, k⟩ := ok_g k
  refine wq_sald dL_law__2096 (kE_script h) g472 (v := (am_I s 2000000 ((x4 + (7 : Int32)).toNatClampNeg))) rfl ?_
  refine wp_ld (v := .ref 71) dL_law__2097 rfl rfl rfl rfl ?_
  refine c_i dL_law__2098 rfl rfl rfl (am_inv_s rfl rfl rfl rfl) (s_L_hoop h) k (fun v474 s473 h k => ?_)
  refine wp_st (ls' := [(0, .ref 2000000), (1, .ref 0), (2, .ref 55), (3, .ref 71), (4, .int x4), (5, .int v474)]) dL_law__2101 rfl rfl rfl (Nat.le_of_ble_eq_true rfl) rfl ?_
  refine wp_ld (v := .ref 55) dL_law__2103 rfl rfl rfl rfl ?_
  refine wp_ld (v := .ref 2000000) dL_law__2104 rfl rfl rfl rfl ?_
  refine wp_ld (v := .int x4) dL_law__2105 rfl rfl rfl rfl ?_
  refine wp_cst (v := .int (1 : Int32)) dL_law__2107 rfl rfl ?_
  refine wp_pu dL_law__2108 rfl rfl ?_
  obtain ⟨g475, k⟩ := ok_g k
  refine wq_sald dL_law__2109 (kE_script h) g475 (v := (am_I s473 2000000 ((x4 + (1 : Int32)).toNatClampNeg))) rfl ?_
  refine wp_ld (v := .ref 2000000) dL_law__2110 rfl rfl rfl rfl ?_
  refine wp_ld (v := .int x4) dL_law__2111 rfl rfl rfl rfl ?_
  refine wp_cst (v := .int (2 : Int32)) dL_law__2113 rfl rfl ?_
  refine wp_pu dL_law__2114 rfl rfl ?_
  show am_WP (d + 11) mL_law_ 2115 _ _ _ Q
  obtain ⟨g476, k⟩ := ok_g k
  refine wq_sald dL_law__2115 (kE_script h) g476 (v := (am_I s473 2000000 ((x4 + (2 : Int32)).toNatClampNeg))) rfl ?_
  refine wp_ld (v := .ref 2000000) dL_law__2116 rfl rfl rfl rfl ?_
  refine wp_ld (v := .int x4) dL_law__2117 rfl rfl rfl rfl ?_
  refine wp_cst (v := .int (3 : Int32)) dL_law__2119 rfl rfl ?_
  refine wp_pu dL_law__2120 rfl rfl ?_
  obtain ⟨g477, k⟩ := ok_g k
  refine wq_sald dL_law__2121 (kE_script h) g477 (v := (am_I s473 2000000 ((x4 + (3 : Int32)).toNatClampNeg))) rfl ?_
  refine wp_ld (v := .ref 2000000) dL_law__2122 rfl rfl rfl rfl ?_
  refine wp_ld (v := .int x4) dL_law__2123 rfl rfl rfl rfl ?_
  refine wp_cst (v := .int (4 : Int32)) dL_law__2125 rfl rfl ?_
  refine wp_pu dL_law__2126 rfl rfl ?_
  obtain ⟨g478, k⟩ := ok_g k
  refine wq_sald dL_law__2127 (kE_script h) g478 (v := (am_I s473 2000000 ((x4 + (4 : Int32)).toNatClampNeg))) rfl ?_
  refine wp_ld (v := .ref 2000000) dL_law__2128 rfl rfl rfl rfl ?_
  show am_WP (d + 11) mL_law_ 2129 _ _ _ Q
  refine wp_ld (v := .int x4) dL_law__2129 rfl rfl rfl rfl ?_
  refine wp_cst (v := .int (5 : Int32)) dL_law__2131 rfl rfl ?_
  refine wp_pu dL_law__2132 rfl rfl ?_
  obtain ⟨g479, k⟩ := ok_g k
  refine wq_sald dL_law__2133 (kE_script h) g479 (v := (am_I s473 2000000 ((x4 + (5 : Int32)).toNatClampNeg))) rfl ?_
  refine wp_ld (v := .ref 2000000) dL_law__2134 rfl rfl rfl rfl ?_
  refine wp_ld (v := .int x4) dL_law__2135 rfl rfl rfl rfl ?_
  refine wp_cst (v := .int (6 : Int32)) dL_law__2137 rfl rfl ?_
  refine wp_pu dL_law__2139 rfl rfl ?_
  obtain ⟨g480, k⟩ := ok_g k
  refine wq_sald dL_law__2140 (kE_script h) g480 (v := (am_I s473 2000000 ((x4 + (6 : Int32)).toNatClampNeg))) rfl ?_
  refine wp_ld (v := .ref 2000000) dL_law__2141 rfl rfl rfl rfl ?_
  refine wp_ld (v := .int x4) dL_law__2142 rfl rfl rfl rfl ?_
  refine wp_cst (v := .int (7 : Int32)) dL_law__2144 rfl rfl ?_
  show am_WP (d + 11) mL_law_ 2146 _ _ _ Q
  refine wp_pu dL_law__2146 rfl rfl ?_
  obtain ⟨g481, k⟩ := ok_g k
  refine wq_sald dL_law__2147 (kE_script h) g481 (v := (am_I s473 2000000 ((x4 + (7 : Int32)).toNatClampNeg))) rfl ?_
  refine c_i dL_law__2148 rfl rfl rfl (am_inv_v rfl (kE_55 h) rfl rfl rfl) (sE h (fun _ h => s_X8_hoop h)) k (fun v483 s482 h k => ?_)
  refine wp_st (ls' := [(0, .ref 2000000), (1, .ref 0), (2, .ref 55), (3, .ref 71), (4, .int x4), (5, .int v474), (6, .int v483)]) dL_law__2151 rfl rfl rfl (Nat.le_of_ble_eq_true rfl) rfl ?_
  refine wp_ld (v := .ref 55) dL_law__2153 rfl rfl rfl rfl ?_
  refine c_i dL_law__2154 rfl rfl rfl (am_inv_v rfl (kE_55 h) rfl rfl rfl) (sE h (fun _ h => s_X8_thrown h)) k (fun v485 s484 h k => ?_)
  refine wp_ld (v := .int v474) dL_law__2157 rfl rfl rfl rfl ?_
  refine wp_ic_eq dL_law__2159 rfl (fun c486 => have k := ok_pos c486 k; ?_) (fun c486 => have k := ok_neg c486 k; ?_)
  · refine wp_ld (v := .int v474) dL_law__2164 rfl rfl rfl rfl ?_
    refine wp_if_ne dL_law__2166 rfl (fun c487 => have k := ok_neg c487 k; ?_) (fun c487 => have k := ok_pos c487 k; ?_)
    · refine wp_goto dL_law__2188 rfl ?_
      exact wp_sub (hX _ _ (ok_s k) h) rfl ⟨rfl, rfl, rfl, rfl, rfl, trivial⟩
    · refine wp_ld (v := .ref 71) dL_law__2169 rfl rfl rfl rfl ?_
      refine wp_cst (v := .int (0 : Int32)) dL_law__2170 rfl rfl ?_
      refine wq_lald dL_law__2171 (kE_71 h) (by decide) (l := (am_L s484 71 0)) rfl ?_
      refine wp_ld (v := .int v483) dL_law__2172 rfl rfl rfl rfl ?_
      refine jn_rule k (fun J488 hJ488 k => ?_)
      have HJ488 : ∀ (e489 : Int64) (s490 : am_S), am_shE N s490 → am_ok (J488 e489 s490) P → am_WP (d + 11) mL_law_ 2182 [(0, .ref 2000000), (1, .ref 0), (2, .ref 55), (3, .ref 71), (4, .int x4)] [.long e489, .long (am_L s484 71 0)] s490 Q := by
        intro e489 s490 h k
        replace k := hJ488 _ _ k
        refine wl_eq dL_law__2182 dL_law__2183 rfl (fun c491 => have k := ok_pos c491 k; ?_) (fun c491 => have k := ok_neg c491 k; ?_)
        · refine wp_goto dL_law__2188 rfl ?_
          exact wp_sub (hX _ _ (ok_s k) h) rfl ⟨rfl, rfl, rfl, rfl, rfl, trivial⟩
        · refine wp_cst (v := .int (0 : Int32)) dL_law__2186 rfl rfl ?_
          exact wp_end dL_law__2187 rfl rfl (hP _ _ (ok_s k) h)
      refine wp_if_eq dL_law__2174 rfl (fun c492 => have k := ok_pos c492 k; ?_) (fun c492 => have k := ok_neg c492 k; ?_)
      · refine wp_cst (v := .long (0 : Int64)) dL_law__2181 rfl rfl ?_
        exact wp_sub (HJ488 _ _ h k) rfl ⟨rfl, rfl, rfl, rfl, rfl, trivial⟩
      · refine wp_cst (v := .long (1 : Int64)) dL_law__2177 rfl rfl ?_
        refine wp_goto dL_law__2178 rfl ?_
        exact wp_sub (HJ488 _ _ h k) rfl ⟨rfl, rfl, rfl, rfl, rfl, trivial⟩
  · refine wp_cst (v := .int (0 : Int32)) dL_law__2162 rfl rfl ?_
    exact wp_end dL_law__2163 rfl rfl (hP _ _ (ok_s k) h)
noncomputable def A_L_law__2191 (x4 : Int32) (s : am_S) : am_FE (Unit) :=
  if am_in (x4 + (1 : Int32)) (am_K s 2000000).2 = true then
    if am_in (x4 + (2 : Int32)) (am_K s 2000000).2 = true then
      if am_in (x4 + (3 : Int32)) (am_K s 2000000).2 = true then
        if am_in (x4 + (4 : Int32)) (am_K s 2000000).2 = true then
          if am_in (x4 + (5 : Int32)) (am_K s 2000000).2 = true then
            if am_in (x4 + (6 : Int32)) (am_K s 2000000).2 = true then
              if am_in (x4 + (7 : Int32)) (am_K s 2000000).2 = true then
                am_bi (f_L_odds (am_I s 2000000 ((x4 + (1 : Int32)).toNatClampNeg)) (am_I s 2000000 ((x4 + (2 : Int32)).toNatClampNeg)) (am_I s 2000000 ((x4 + (3 : Int32)).toNatClampNeg)) (am_I s 2000000 ((x4 + (4 : Int32)).toNatClampNeg)) (am_I s 2000000 ((x4 + (5 : Int32)).toNatClampNeg)) (am_I s 2000000 ((x4 + (6 : Int32)).toNatClampNeg)) (am_I s 2000000 ((x4 + (7 : Int32)).toNatClampNeg)) s) (fun v504 s503 =>
                  if am_in (x4 + (1 : Int32)) (am_K s503 2000000).2 = true then
                    if am_in (x4 + (2 : Int32)) (am_K s503 2000000).2 = true then
                      if am_in (x4 + (3 : Int32)) (am_K s503 2000000).2 = true then
                        if am_in (x4 + (4 : Int32)) (am_K s503 2000000).2 = true then
                          if am_in (x4 + (5 : Int32)) (am_K s503 2000000).2 = true then
                            if am_in (x4 + (6 : Int32)) (am_K s503 2000000).2 = true then
                              if am_in (x4 + (7 : Int32)) (am_K s503 2000000).2 = true then
                                am_bl (f_X8_odds (am_I s503 2000000 ((x4 + (1 : Int32)).toNatClampNeg)) (am_I s503 2000000 ((x4 + (2 : Int32)).toNatClampNeg)) (am_I s503 2000000 ((x4 + (3 : Int32)).toNatClampNeg)) (am_I s503 2000000 ((x4 + (4 : Int32)).toNatClampNeg)) (am_I s503 2000000 ((x4 + (5 : Int32)).toNatClampNeg)) (am_I s503 2000000 ((x4 + (6 : Int32)).toNatClampNeg)) (am_I s503 2000000 ((x4 + (7 : Int32)).toNatClampNeg)) s503) (fun v513 s512 =>
                                  am_bi (f_X8_thrown s512) (fun v515 s514 =>
                                    if v515 = v504 then
                                      if v504 = 0 then
                                        if (am_L s514 71 0) = v513 then
                                          some (.inr ((), s514))
                                        else
                                          some (.inl (.inl (some (.int (0 : Int32))), s514))
                                      else
                                        some (.inr ((), s514))
                                    else
                                      some (.inl (.inl (some (.int (0 : Int32))), s514))
                                  )
                                )
                              else none
                            else none
                          else none
                        else none
                      else none
                    else none
                  else none
                )
              else none
            else none
          else none
        else none
      else none
    else none
  else none
theorem q_L_law__2191 {N : Nat} {d : Nat} {x4 : Int32} {s : am_S} {P : (am_O × am_S) ⊕ (Unit × am_S) → Prop} {Q : am_O → am_S → Prop} (h : am_shE N s)  (k : am_ok (A_L_law__2191 x4 s) P) (hP : ∀ o s, P (.inl (o, s)) → am_shE N s → Q o s) (hX : ∀ (e : Unit) s, P (.inr (e, s)) → am_shE N s → am_WP (d + 11) mL_law_ 3100 [(0, .ref 2000000), (1, .ref 0), (2, .ref 55), (3, .ref 71), (4, .int x4)] [] s Q) : am_WP (d + 11) mL_law_ 2191 [(0, .ref 2000000), (1, .ref 0), (2, .ref 55), (3, .ref 71), (4, .int x4)] [] s Q := by
  unfold A_L_law__2191 at k
  refine wp_ld (v := .ref 0) dL_law__2191 rfl rfl rfl rfl ?_
  refine wp_ld (v := .ref 2000000) dL_law__2192 rfl rfl rfl rfl ?_
  refine wp_ld (v := .int x4) dL_law__2193 rfl rfl rfl rfl ?_
  refine wp_cst (v := .int (1 : Int32)) dL_law__2195 rfl rfl ?_
  refine wp_pu dL_law__2196 rfl rfl ?_
  obtain ⟨g496, k⟩ := ok_g k
  refine wq_sald dL_law__2197 (kE_script h) g496 (v := (am_I s 2000000 ((x4 + (1 : Int32)).toNatClampNeg))) rfl ?_
  refine wp_ld (v := .ref 2000000) dL_law__2198 rfl rfl rfl rfl ?_
  refine wp_ld (v := .int x4) dL_law__2199 rfl rfl rfl rfl ?_
  refine wp_cst (v := .int (2 : Int32)) dL_law__2201 rfl rfl ?_
  refine wp_pu dL_law__2202 rfl rfl ?_
  obtain ⟨g497, k⟩ := ok_g k
  refine wq_sald dL_law__2203 (kE_script h) g497 (v := (am_I s 2000000 ((x4 + (2 : Int32)).toNatClampNeg))) rfl ?_
  show am_WP (d + 11) mL_law_ 2204 _ _ _ Q
  refine wp_ld (v := .ref 2000000) dL_law__2204 rfl rfl rfl rfl ?_
  refine wp_ld (v := .int x4) dL_law__2205 rfl rfl rfl rfl ?_
  refine wp_cst (v := .int (3 : Int32)) dL_law__2207 rfl rfl ?_
  refine wp_pu dL_law__2208 rfl rfl ?_
  obtain ⟨g498, k⟩ := ok_g k
  refine wq_sald dL_law__2209 (kE_script h) g498 (v := (am_I s 2000000 ((x4 + (3 : Int32)).toNatClampNeg))) rfl ?_
  refine wp_ld (v := .ref 2000000) dL_law__2210 rfl rfl rfl rfl ?_
  refine wp_ld (v := .int x4) dL_law__2211 rfl rfl rfl rfl ?_
  refine wp_cst (v := .int (4 : Int32)) dL_law__2213 rfl rfl ?_
  refine wp_pu dL_law__2214 rfl rfl ?_
  obtain ⟨g499, k⟩ := ok_g k
  refine wq_sald dL_law__2215 (kE_script h) g499 (v := (am_I s 2000000 ((x4 + (4 : Int32)).toNatClampNeg))) rfl ?_
  refine wp_ld (v := .ref 2000000) dL_law__2216 rfl rfl rfl rfl ?_
  refine wp_ld (v := .int x4) dL_law__2217 rfl rfl rfl rfl ?_
  show am_WP (d + 11) mL_law_ 2219 _ _ _ Q
  refine wp_cst (v := .int (5 : Int32)) dL_law__2219 rfl rfl ?_
  refine wp_pu dL_law__2220 rfl rfl ?_
  obtain ⟨g500, k⟩ := ok_g k
  refine wq_sald dL_law__2221 (kE_script h) g500 (v := (am_I s 2000000 ((x4 + (5 : Int32)).toNatClampNeg))) rfl ?_
  refine wp_ld (v := .ref 2000000) dL_law__2222 rfl rfl rfl rfl ?_
  refine wp_ld (v := .int x4) dL_law__2223 rfl rfl rfl rfl ?_
  refine wp_cst (v := .int (6 : Int32)) dL_law__2225 rfl rfl ?_
  refine wp_pu dL_law__2227 rfl rfl ?_
  obtain ⟨g501, k⟩ := ok_g k
  refine wq_sald dL_law__2228 (kE_script h) g501 (v := (am_I s 2000000 ((x4 + (6 : Int32)).toNatClampNeg))) rfl ?_
  refine wp_ld (v := .ref 2000000) dL_law__2229 rfl rfl rfl rfl ?_
  refine wp_ld (v := .int x4) dL_law__2230 rfl rfl rfl rfl ?_
  refine wp_cst (v := .int (7 : Int32)) dL_law__2232 rfl rfl ?_
  refine wp_pu dL_law__2234 rfl rfl ?_
  show am_WP (d + 11) mL_law_ 2235 _ _ _ Q
  obtain ⟨g502, k⟩ := ok_g k
  refine wq_sald dL_law__2235 (kE_script h) g502 (v := (am_I s 2000000 ((x4 + (7 : Int32)).toNatClampNeg))) rfl ?_
  refine wp_ld (v := .ref 71) dL_law__2236 rfl rfl rfl rfl ?_
  refine c_i dL_law__2237 rfl rfl rfl (am_inv_s rfl rfl rfl rfl) (s_L_odds h) k (fun v504 s503 h k => ?_)
  refine wp_st (ls' := [(0, .ref 2000000), (1, .ref 0), (2, .ref 55), (3, .ref 71), (4, .int x4), (5, .int v504)]) dL_law__2240 rfl rfl rfl (Nat.le_of_ble_eq_true rfl) rfl ?_
  refine wp_ld (v := .ref 55) dL_law__2242 rfl rfl rfl rfl ?_
  refine wp_ld (v := .ref 2000000) dL_law__2243 rfl rfl rfl rfl ?_
  refine wp_ld (v := .int x4) dL_law__2244 rfl rfl rfl rfl ?_
  refine wp_cst (v := .int (1 : Int32)) dL_law__2246 rfl rfl ?_
  refine wp_pu dL_law__2247 rfl rfl ?_
  obtain ⟨g505, k⟩ := ok_g k
  refine wq_sald dL_law__2248 (kE_script h) g505 (v := (am_I s503 2000000 ((x4 + (1 : Int32)).toNatClampNeg))) rfl ?_
  refine wp_ld (v := .ref 2000000) dL_law__2249 rfl rfl rfl rfl ?_
  refine wp_ld (v := .int x4) dL_law__2250 rfl rfl rfl rfl ?_
  refine wp_cst (v := .int (2 : Int32)) dL_law__2252 rfl rfl ?_
  refine wp_pu dL_law__2253 rfl rfl ?_
  show am_WP (d + 11) mL_law_ 2254 _ _ _ Q
  obtain ⟨g506, k⟩ := ok_g k
  refine wq_sald dL_law__2254 (kE_script h) g506 (v := (am_I s503 2000000 ((x4 + (2 : Int32)).toNatClampNeg))) rfl ?_
  refine wp_ld (v := .ref 2000000) dL_law__2255 rfl rfl rfl rfl ?_
  refine wp_ld (v := .int x4) dL_law__2256 rfl rfl rfl rfl ?_
  refine wp_cst (v := .int (3 : Int32)) dL_law__2258 rfl rfl ?_
  refine wp_pu dL_law__2259 rfl rfl ?_
  obtain ⟨g507, k⟩ := ok_g k
  refine wq_sald dL_law__2260 (kE_script h) g507 (v := (am_I s503 2000000 ((x4 + (3 : Int32)).toNatClampNeg))) rfl ?_
  refine wp_ld (v := .ref 2000000) dL_law__2261 rfl rfl rfl rfl ?_
  refine wp_ld (v := .int x4) dL_law__2262 rfl rfl rfl rfl ?_
  refine wp_cst (v := .int (4 : Int32)) dL_law__2264 rfl rfl ?_
  refine wp_pu dL_law__2265 rfl rfl ?_
  obtain ⟨g508, k⟩ := ok_g k
  refine wq_sald dL_law__2266 (kE_script h) g508 (v := (am_I s503 2000000 ((x4 + (4 : Int32)).toNatClampNeg))) rfl ?_
  refine wp_ld (v := .ref 2000000) dL_law__2267 rfl rfl rfl rfl ?_
  show am_WP (d + 11) mL_law_ 2268 _ _ _ Q
  refine wp_ld (v := .int x4) dL_law__2268 rfl rfl rfl rfl ?_
  refine wp_cst (v := .int (5 : Int32)) dL_law__2270 rfl rfl ?_
  refine wp_pu dL_law__2271 rfl rfl ?_
  obtain ⟨g509, k⟩ := ok_g k
  refine wq_sald dL_law__2272 (kE_script h) g509 (v := (am_I s503 2000000 ((x4 + (5 : Int32)).toNatClampNeg))) rfl ?_
  refine wp_ld (v := .ref 2000000) dL_law__2273 rfl rfl rfl rfl ?_
  refine wp_ld (v := .int x4) dL_law__2274 rfl rfl rfl rfl ?_
  refine wp_cst (v := .int (6 : Int32)) dL_law__2276 rfl rfl ?_
  refine wp_pu dL_law__2278 rfl rfl ?_
  obtain ⟨g510, k⟩ := ok_g k
  refine wq_sald dL_law__2279 (kE_script h) g510 (v := (am_I s503 2000000 ((x4 + (6 : Int32)).toNatClampNeg))) rfl ?_
  refine wp_ld (v := .ref 2000000) dL_law__2280 rfl rfl rfl rfl ?_
  refine wp_ld (v := .int x4) dL_law__2281 rfl rfl rfl rfl ?_
  refine wp_cst (v := .int (7 : Int32)) dL_law__2283 rfl rfl ?_
  show am_WP (d + 11) mL_law_ 2285 _ _ _ Q
  refine wp_pu dL_law__2285 rfl rfl ?_
  obtain ⟨g511, k⟩ := ok_g k
  refine wq_sald dL_law__2286 (kE_script h) g511 (v := (am_I s503 2000000 ((x4 + (7 : Int32)).toNatClampNeg))) rfl ?_
  refine c_l dL_law__2287 rfl rfl rfl (am_inv_v rfl (kE_55 h) rfl rfl rfl) (sE h (fun _ h => s_X8_odds h)) k (fun v513 s512 h k => ?_)
  refine wp_st (ls' := [(0, .ref 2000000), (1, .ref 0), (2, .ref 55), (3, .ref 71), (4, .int x4), (5, .int v504), (6, .long v513)]) dL_law__2290 rfl rfl rfl (Nat.le_of_ble_eq_true rfl) rfl ?_
  refine wp_ld (v := .ref 55) dL_law__2292 rfl rfl rfl rfl ?_
  refine c_i dL_law__2293 rfl rfl rfl (am_inv_v rfl (kE_55 h) rfl rfl rfl) (sE h (fun _ h => s_X8_thrown h)) k (fun v515 s514 h k => ?_)
  refine wp_ld (v := .int v504) dL_law__2296 rfl rfl rfl rfl ?_
  refine wp_ic_eq dL_law__2298 rfl (fun c516 => have k := ok_pos c516 k; ?_) (fun c516 => have k := ok_neg c516 k; ?_)
  · refine wp_ld (v := .int v504) dL_law__2303 rfl rfl rfl rfl ?_
    refine wp_if_ne dL_law__2305 rfl (fun c517 => have k := ok_neg c517 k; ?_) (fun c517 => have k := ok_pos c517 k; ?_)
    · refine wp_goto dL_law__2319 rfl ?_
      exact wp_sub (hX _ _ (ok_s k) h) rfl ⟨rfl, rfl, rfl, rfl, rfl, trivial⟩
    · refine wp_ld (v := .ref 71) dL_law__2308 rfl rfl rfl rfl ?_
      refine wp_cst (v := .int (0 : Int32)) dL_law__2309 rfl rfl ?_
      refine wq_lald dL_law__2310 (kE_71 h) (by decide) (l := (am_L s514 71 0)) rfl ?_
      refine wp_ld (v := .long v513) dL_law__2311 rfl rfl rfl rfl ?_
      refine wl_eq dL_law__2313 dL_law__2314 rfl (fun c518 => have k := ok_pos c518 k; ?_) (fun c518 => have k := ok_neg c518 k; ?_)
      · refine wp_goto dL_law__2319 rfl ?_
        exact wp_sub (hX _ _ (ok_s k) h) rfl ⟨rfl, rfl, rfl, rfl, rfl, trivial⟩
      · refine wp_cst (v := .int (0 : Int32)) dL_law__2317 rfl rfl ?_
        exact wp_end dL_law__2318 rfl rfl (hP _ _ (ok_s k) h)
  · refine wp_cst (v := .int (0 : Int32)) dL_law__2301 rfl rfl ?_
    exact wp_end dL_law__2302 rfl rfl (hP _ _ (ok_s k) h)
noncomputable def A_L_law__2322 (x4 : Int32) (s : am_S) : am_FE (Unit) :=
  if am_in (x4 + (1 : Int32)) (am_K s 2000000).2 = true then
    if am_in (x4 + (2 : Int32)) (am_K s 2000000).2 = true then
      if am_in (x4 + (3 : Int32)) (am_K s 2000000).2 = true then
        am_bi (f_L_enter (am_I s 2000000 ((x4 + (1 : Int32)).toNatClampNeg)) (am_I s 2000000 ((x4 + (2 : Int32)).toNatClampNeg)) (am_I s 2000000 ((x4 + (3 : Int32)).toNatClampNeg)) s) (fun v526 s525 =>
          if am_in (x4 + (1 : Int32)) (am_K s525 2000000).2 = true then
            if am_in (x4 + (2 : Int32)) (am_K s525 2000000).2 = true then
              if am_in (x4 + (3 : Int32)) (am_K s525 2000000).2 = true then
                am_bi (f_X8_enter (am_I s525 2000000 ((x4 + (1 : Int32)).toNatClampNeg)) (am_I s525 2000000 ((x4 + (2 : Int32)).toNatClampNeg)) (am_I s525 2000000 ((x4 + (3 : Int32)).toNatClampNeg)) s525) (fun v531 s530 =>
                  am_bi (f_X8_thrown s530) (fun v533 s532 =>
                    if v533 = v526 then
                      if v526 = 0 then
                        if (am_L s532 71 0) = v531.toInt64 then
                          some (.inr ((), s532))
                        else
                          some (.inl (.inl (some (.int (0 : Int32))), s532))
                      else
                        some (.inr ((), s532))
                    else
                      some (.inl (.inl (some (.int (0 : Int32))), s532))
                  )
                )
              else none
            else none
          else none
        )
      else none
    else none
  else none
theorem q_L_law__2322 {N : Nat} {d : Nat} {x4 : Int32} {s : am_S} {P : (am_O × am_S) ⊕ (Unit × am_S) → Prop} {Q : am_O → am_S → Prop} (h : am_shE N s)  (k : am_ok (A_L_law__2322 x4 s) P) (hP : ∀ o s, P (.inl (o, s)) → am_shE N s → Q o s) (hX : ∀ (e : Unit) s, P (.inr (e, s)) → am_shE N s → am_WP (d + 11) mL_law_ 3100 [(0, .ref 2000000), (1, .ref 0), (2, .ref 55), (3, .ref 71), (4, .int x4)] [] s Q) : am_WP (d + 11) mL_law_ 2322 [(0, .ref 2000000), (1, .ref 0), (2, .ref 55), (3, .ref 71), (4, .int x4)] [] s Q := by
  unfold A_L_law__2322 at k
  refine wp_ld (v := .ref 0) dL_law__2322 rfl rfl rfl rfl ?_
  refine wp_ld (v := .ref 2000000) dL_law__2323 rfl rfl rfl rfl ?_
  refine wp_ld (v := .int x4) dL_law__2324 rfl rfl rfl rfl ?_
  refine wp_cst (v := .int (1 : Int32)) dL_law__2326 rfl rfl ?_
  refine wp_pu dL_law__2327 rfl rfl ?_
  obtain ⟨g522, k⟩ := ok_g k
  refine wq_sald dL_law__2328 (kE_script h) g522 (v := (am_I s 2000000 ((x4 + (1 : Int32)).toNatClampNeg))) rfl ?_
  refine wp_ld (v := .ref 2000000) dL_law__2329 rfl rfl rfl rfl ?_
  refine wp_ld (v := .int x4) dL_law__2330 rfl rfl rfl rfl ?_
  refine wp_cst (v := .int (2 : Int32)) dL_law__2332 rfl rfl ?_
  refine wp_pu dL_law__2333 rfl rfl ?_
  obtain ⟨g523, k⟩ := ok_g k
  refine wq_sald dL_law__2334 (kE_script h) g523 (v := (am_I s 2000000 ((x4 + (2 : Int32)).toNatClampNeg))) rfl ?_
  show am_WP (d + 11) mL_law_ 2335 _ _ _ Q
  refine wp_ld (v := .ref 2000000) dL_law__2335 rfl rfl rfl rfl ?_
  refine wp_ld (v := .int x4) dL_law__2336 rfl rfl rfl rfl ?_
  refine wp_cst (v := .int (3 : Int32)) dL_law__2338 rfl rfl ?_
  refine wp_pu dL_law__2339 rfl rfl ?_
  obtain ⟨g524, k⟩ := ok_g k
  refine wq_sald dL_law__2340 (kE_script h) g524 (v := (am_I s 2000000 ((x4 + (3 : Int32)).toNatClampNeg))) rfl ?_
  refine wp_ld (v := .ref 71) dL_law__2341 rfl rfl rfl rfl ?_
  refine c_i dL_law__2342 rfl rfl rfl (am_inv_s rfl rfl rfl rfl) (s_L_enter h) k (fun v526 s525 h k => ?_)
  refine wp_st (ls' := [(0, .ref 2000000), (1, .ref 0), (2, .ref 55), (3, .ref 71), (4, .int x4), (5, .int v526)]) dL_law__2345 rfl rfl rfl (Nat.le_of_ble_eq_true rfl) rfl ?_
  refine wp_ld (v := .ref 55) dL_law__2347 rfl rfl rfl rfl ?_
  refine wp_ld (v := .ref 2000000) dL_law__2348 rfl rfl rfl rfl ?_
  refine wp_ld (v := .int x4) dL_law__2349 rfl rfl rfl rfl ?_
  refine wp_cst (v := .int (1 : Int32)) dL_law__2351 rfl rfl ?_
  refine wp_pu dL_law__2352 rfl rfl ?_
  obtain ⟨g527, k⟩ := ok_g k
  refine wq_sald dL_law__2353 (kE_script h) g527 (v := (am_I s525 2000000 ((x4 + (1 : Int32)).toNatClampNeg))) rfl ?_
  refine wp_ld (v := .ref 2000000) dL_law__2354 rfl rfl rfl rfl ?_
  refine wp_ld (v := .int x4) dL_law__2355 rfl rfl rfl rfl ?_
  refine wp_cst (v := .int (2 : Int32)) dL_law__2357 rfl rfl ?_
  refine wp_pu dL_law__2358 rfl rfl ?_
  show am_WP (d + 11) mL_law_ 2359 _ _ _ Q
  obtain ⟨g528, k⟩ := ok_g k
  refine wq_sald dL_law__2359 (kE_script h) g528 (v := (am_I s525 2000000 ((x4 + (2 : Int32)).toNatClampNeg))) rfl ?_
  refine wp_ld (v := .ref 2000000) dL_law__2360 rfl rfl rfl rfl ?_
  refine wp_ld (v := .int x4) dL_law__2361 rfl rfl rfl rfl ?_
  refine wp_cst (v := .int (3 : Int32)) dL_law__2363 rfl rfl ?_
  refine wp_pu dL_law__2364 rfl rfl ?_
  obtain ⟨g529, k⟩ := ok_g k
  refine wq_sald dL_law__2365 (kE_script h) g529 (v := (am_I s525 2000000 ((x4 + (3 : Int32)).toNatClampNeg))) rfl ?_
  refine c_i dL_law__2366 rfl rfl rfl (am_inv_v rfl (kE_55 h) rfl rfl rfl) (sE h (fun _ h => s_X8_enter h)) k (fun v531 s530 h k => ?_)
  refine wp_st (ls' := [(0, .ref 2000000), (1, .ref 0), (2, .ref 55), (3, .ref 71), (4, .int x4), (5, .int v526), (6, .int v531)]) dL_law__2369 rfl rfl rfl (Nat.le_of_ble_eq_true rfl) rfl ?_
  refine wp_ld (v := .ref 55) dL_law__2371 rfl rfl rfl rfl ?_
  refine c_i dL_law__2372 rfl rfl rfl (am_inv_v rfl (kE_55 h) rfl rfl rfl) (sE h (fun _ h => s_X8_thrown h)) k (fun v533 s532 h k => ?_)
  refine wp_ld (v := .int v526) dL_law__2375 rfl rfl rfl rfl ?_
  refine wp_ic_eq dL_law__2377 rfl (fun c534 => have k := ok_pos c534 k; ?_) (fun c534 => have k := ok_neg c534 k; ?_)
  · refine wp_ld (v := .int v526) dL_law__2382 rfl rfl rfl rfl ?_
    refine wp_if_ne dL_law__2384 rfl (fun c535 => have k := ok_neg c535 k; ?_) (fun c535 => have k := ok_pos c535 k; ?_)
    · refine wp_goto dL_law__2399 rfl ?_
      exact wp_sub (hX _ _ (ok_s k) h) rfl ⟨rfl, rfl, rfl, rfl, rfl, trivial⟩
    · refine wp_ld (v := .ref 71) dL_law__2387 rfl rfl rfl rfl ?_
      refine wp_cst (v := .int (0 : Int32)) dL_law__2388 rfl rfl ?_
      refine wq_lald dL_law__2389 (kE_71 h) (by decide) (l := (am_L s532 71 0)) rfl ?_
      refine wp_ld (v := .int v531) dL_law__2390 rfl rfl rfl rfl ?_
      refine wp_pu dL_law__2392 rfl rfl ?_
      refine wl_eq dL_law__2393 dL_law__2394 rfl (fun c536 => have k := ok_pos c536 k; ?_) (fun c536 => have k := ok_neg c536 k; ?_)
      · refine wp_goto dL_law__2399 rfl ?_
        exact wp_sub (hX _ _ (ok_s k) h) rfl ⟨rfl, rfl, rfl, rfl, rfl, trivial⟩
      · refine wp_cst (v := .int (0 : Int32)) dL_law__2397 rfl rfl ?_
        exact wp_end dL_law__2398 rfl rfl (hP _ _ (ok_s k) h)
  · refine wp_cst (v := .int (0 : Int32)) dL_law__2380 rfl rfl ?_
    exact wp_end dL_law__2381 rfl rfl (hP _ _ (ok_s k) h)
noncomputable def A_L_law__2402 (x4 : Int32) (s : am_S) : am_FE (Unit) :=
  if am_in (x4 + (1 : Int32)) (am_K s 2000000).2 = true then
    am_bi (f_L_wins (am_I s 2000000 ((x4 + (1 : Int32)).toNatClampNeg)) s) (fun v542 s541 =>
      if am_in (x4 + (1 : Int32)) (am_K s541 2000000).2 = true then
        am_bl (f_X8_wins (am_I s541 2000000 ((x4 + (1 : Int32)).toNatClampNeg)) s541) (fun v545 s544 =>
          am_bi (f_X8_thrown s544) (fun v547 s546 =>
            if v547 = v542 then
              if v542 = 0 then
                if (am_L s546 71 0) = v545 then
                  some (.inr ((), s546))
                else
                  some (.inl (.inl (some (.int (0 : Int32))), s546))
              else
                some (.inr ((), s546))
            else
              some (.inl (.inl (some (.int (0 : Int32))), s546))
          )
        )
      else none
    )
  else none
theorem q_L_law__2402 {N : Nat} {d : Nat} {x4 : Int32} {s : am_S} {P : (am_O × am_S) ⊕ (Unit × am_S) → Prop} {Q : am_O → am_S → Prop} (h : am_shE N s)  (k : am_ok (A_L_law__2402 x4 s) P) (hP : ∀ o s, P (.inl (o, s)) → am_shE N s → Q o s) (hX : ∀ (e : Unit) s, P (.inr (e, s)) → am_shE N s → am_WP (d + 11) mL_law_ 3100 [(0, .ref 2000000), (1, .ref 0), (2, .ref 55), (3, .ref 71), (4, .int x4)] [] s Q) : am_WP (d + 11) mL_law_ 2402 [(0, .ref 2000000), (1, .ref 0), (2, .ref 55), (3, .ref 71), (4, .int x4)] [] s Q := by
  unfold A_L_law__2402 at k
  refine wp_ld (v := .ref 0) dL_law__2402 rfl rfl rfl rfl ?_
  refine wp_ld (v := .ref 2000000) dL_law__2403 rfl rfl rfl rfl ?_
  refine wp_ld (v := .int x4) dL_law__2404 rfl rfl rfl rfl ?_
  refine wp_cst (v := .int (1 : Int32)) dL_law__2406 rfl rfl ?_
  refine wp_pu dL_law__2407 rfl rfl ?_
  obtain ⟨g540, k⟩ := ok_g k
  refine wq_sald dL_law__2408 (kE_script h) g540 (v := (am_I s 2000000 ((x4 + (1 : Int32)).toNatClampNeg))) rfl ?_
  refine wp_ld (v := .ref 71) dL_law__2409 rfl rfl rfl rfl ?_
  refine c_i dL_law__2410 rfl rfl rfl (am_inv_s rfl rfl rfl rfl) (s_L_wins h) k (fun v542 s541 h k => ?_)
  refine wp_st (ls' := [(0, .ref 2000000), (1, .ref 0), (2, .ref 55), (3, .ref 71), (4, .int x4), (5, .int v542)]) dL_law__2413 rfl rfl rfl (Nat.le_of_ble_eq_true rfl) rfl ?_
  refine wp_ld (v := .ref 55) dL_law__2415 rfl rfl rfl rfl ?_
  refine wp_ld (v := .ref 2000000) dL_law__2416 rfl rfl rfl rfl ?_
  refine wp_ld (v := .int x4) dL_law__2417 rfl rfl rfl rfl ?_
  refine wp_cst (v := .int (1 : Int32)) dL_law__2419 rfl rfl ?_
  refine wp_pu dL_law__2420 rfl rfl ?_
  obtain ⟨g543, k⟩ := ok_g k
  refine wq_sald dL_law__2421 (kE_script h) g543 (v := (am_I s541 2000000 ((x4 + (1 : Int32)).toNatClampNeg))) rfl ?_
  refine c_l dL_law__2422 rfl rfl rfl (am_inv_v rfl (kE_55 h) rfl rfl rfl) (sE h (fun _ h => s_X8_wins h)) k (fun v545 s544 h k => ?_)
  refine wp_st (ls' := [(0, .ref 2000000), (1, .ref 0), (2, .ref 55), (3, .ref 71), (4, .int x4), (5, .int v542), (6, .long v545)]) dL_law__2425 rfl rfl rfl (Nat.le_of_ble_eq_true rfl) rfl ?_
  refine wp_ld (v := .ref 55) dL_law__2427 rfl rfl rfl rfl ?_
  refine c_i dL_law__2428 rfl rfl rfl (am_inv_v rfl (kE_55 h) rfl rfl rfl) (sE h (fun _ h => s_X8_thrown h)) k (fun v547 s546 h k => ?_)
  refine wp_ld (v := .int v542) dL_law__2431 rfl rfl rfl rfl ?_
  refine wp_ic_eq dL_law__2433 rfl (fun c548 => have k := ok_pos c548 k; ?_) (fun c548 => have k := ok_neg c548 k; ?_)
  · refine wp_ld (v := .int v542) dL_law__2438 rfl rfl rfl rfl ?_
    refine wp_if_ne dL_law__2440 rfl (fun c549 => have k := ok_neg c549 k; ?_) (fun c549 => have k := ok_pos c549 k; ?_)
    · refine wp_goto dL_law__2454 rfl ?_
      exact wp_sub (hX _ _ (ok_s k) h) rfl ⟨rfl, rfl, rfl, rfl, rfl, trivial⟩
    · refine wp_ld (v := .ref 71) dL_law__2443 rfl rfl rfl rfl ?_
      refine wp_cst (v := .int (0 : Int32)) dL_law__2444 rfl rfl ?_
      refine wq_lald dL_law__2445 (kE_71 h) (by decide) (l := (am_L s546 71 0)) rfl ?_
      refine wp_ld (v := .long v545) dL_law__2446 rfl rfl rfl rfl ?_
      refine wl_eq dL_law__2448 dL_law__2449 rfl (fun c550 => have k := ok_pos c550 k; ?_) (fun c550 => have k := ok_neg c550 k; ?_)
      · refine wp_goto dL_law__2454 rfl ?_
        exact wp_sub (hX _ _ (ok_s k) h) rfl ⟨rfl, rfl, rfl, rfl, rfl, trivial⟩
      · refine wp_cst (v := .int (0 : Int32)) dL_law__2452 rfl rfl ?_
        exact wp_end dL_law__2453 rfl rfl (hP _ _ (ok_s k) h)
  · refine wp_cst (v := .int (0 : Int32)) dL_law__2436 rfl rfl ?_
    exact wp_end dL_law__2437 rfl rfl (hP _ _ (ok_s k) h)
noncomputable def A_L_law__2457 (x4 : Int32) (s : am_S) : am_FE (Unit) :=
  if am_in (x4 + (1 : Int32)) (am_K s 2000000).2 = true then
    if am_in (x4 + (2 : Int32)) (am_K s 2000000).2 = true then
      if am_in (x4 + (3 : Int32)) (am_K s 2000000).2 = true then
        if am_in (x4 + (4 : Int32)) (am_K s 2000000).2 = true then
          am_jn (fun (e559 : Int32) s560 =>
            if am_in (x4 + (5 : Int32)) (am_K s560 2000000).2 = true then
              if am_in (x4 + (6 : Int32)) (am_K s560 2000000).2 = true then
                am_bi (f_L_hours (am_I s 2000000 ((x4 + (1 : Int32)).toNatClampNeg)) (am_I s 2000000 ((x4 + (2 : Int32)).toNatClampNeg)) (am_I s 2000000 ((x4 + (3 : Int32)).toNatClampNeg)) e559 (((am_I s560 2000000 ((x4 + (5 : Int32)).toNatClampNeg)).toInt64 <<< ((32 : Int32).toInt64 &&& 63)) ||| ((am_I s560 2000000 ((x4 + (6 : Int32)).toNatClampNeg)).toInt64 &&& (4294967295 : Int64))) s560) (fun v564 s563 =>
                  if am_in (x4 + (1 : Int32)) (am_K s563 2000000).2 = true then
                    if am_in (x4 + (2 : Int32)) (am_K s563 2000000).2 = true then
                      if am_in (x4 + (3 : Int32)) (am_K s563 2000000).2 = true then
                        if am_in (x4 + (4 : Int32)) (am_K s563 2000000).2 = true then
                          am_jn (fun (e570 : Int32) s571 =>
                            if am_in (x4 + (5 : Int32)) (am_K s571 2000000).2 = true then
                              if am_in (x4 + (6 : Int32)) (am_K s571 2000000).2 = true then
                                am_bi (f_X8_hours (am_I s563 2000000 ((x4 + (1 : Int32)).toNatClampNeg)) (am_I s563 2000000 ((x4 + (2 : Int32)).toNatClampNeg)) (am_I s563 2000000 ((x4 + (3 : Int32)).toNatClampNeg)) e570 (((am_I s571 2000000 ((x4 + (5 : Int32)).toNatClampNeg)).toInt64 <<< ((32 : Int32).toInt64 &&& 63)) ||| ((am_I s571 2000000 ((x4 + (6 : Int32)).toNatClampNeg)).toInt64 &&& (4294967295 : Int64))) s571) (fun v575 s574 =>
                                  am_bi (f_X8_thrown s574) (fun v577 s576 =>
                                    if v577 = v564 then
                                      if v564 = 0 then
                                        if (am_L s576 71 0) = v575.toInt64 then
                                          some (.inr ((), s576))
                                        else
                                          some (.inl (.inl (some (.int (0 : Int32))), s576))
                                      else
                                        some (.inr ((), s576))
                                    else
                                      some (.inl (.inl (some (.int (0 : Int32))), s576))
                                  )
                                )
                              else none
                            else none
                          ) (fun J569 =>
                            if (am_I s563 2000000 ((x4 + (4 : Int32)).toNatClampNeg)) = 0 then
                              J569 (0 : Int32) s563
                            else
                              J569 (1 : Int32) s563
                          )
                        else none
                      else none
                    else none
                  else none
                )
              else none
            else none
          ) (fun J558 =>
            if (am_I s 2000000 ((x4 + (4 : Int32)).toNatClampNeg)) = 0 then
              J558 (0 : Int32) s
            else
              J558 (1 : Int32) s
          )
        else none
      else none
    else none
  else none
theorem q_L_law__2457 {N : Nat} {d : Nat} {x4 : Int32} {s : am_S} {P : (am_O × am_S) ⊕ (Unit × am_S) → Prop} {Q : am_O → am_S → Prop} (h : am_shE N s)  (k : am_ok (A_L_law__2457 x4 s) P) (hP : ∀ o s, P (.inl (o, s)) → am_shE N s → Q o s) (hX : ∀ (e : Unit) s, P (.inr (e, s)) → am_shE N s → am_WP (d + 11) mL_law_ 3100 [(0, .ref 2000000), (1, .ref 0), (2, .ref 55), (3, .ref 71), (4, .int x4)] [] s Q) : am_WP (d + 11) mL_law_ 2457 [(0, .ref 2000000), (1, .ref 0), (2, .ref 55), (3, .ref 71), (4, .int x4)] [] s Q := by
  unfold A_L_law__2457 at k
  refine wp_ld (v := .ref 0) dL_law__2457 rfl rfl rfl rfl ?_
  refine wp_ld (v := .ref 2000000) dL_law__2458 rfl rfl rfl rfl ?_
  refine wp_ld (v := .int x4) dL_law__2459 rfl rfl rfl rfl ?_
  refine wp_cst (v := .int (1 : Int32)) dL_law__2461 rfl rfl ?_
  refine wp_pu dL_law__2462 rfl rfl ?_
  obtain ⟨g554, k⟩ := ok_g k
  refine wq_sald dL_law__2463 (kE_script h) g554 (v := (am_I s 2000000 ((x4 + (1 : Int32)).toNatClampNeg))) rfl ?_
  refine wp_ld (v := .ref 2000000) dL_law__2464 rfl rfl rfl rfl ?_
  refine wp_ld (v := .int x4) dL_law__2465 rfl rfl rfl rfl ?_
  refine wp_cst (v := .int (2 : Int32)) dL_law__2467 rfl rfl ?_
  refine wp_pu dL_law__2468 rfl rfl ?_
  obtain ⟨g555, k⟩ := ok_g k
  refine wq_sald dL_law__2469 (kE_script h) g555 (v := (am_I s 2000000 ((x4 + (2 : Int32)).toNatClampNeg))) rfl ?_
  show am_WP (d + 11) mL_law_ 2470 _ _ _ Q
  refine wp_ld (v := .ref 2000000) dL_law__2470 rfl rfl rfl rfl ?_
  refine wp_ld (v := .int x4) dL_law__2471 rfl rfl rfl rfl ?_
  refine wp_cst (v := .int (3 : Int32)) dL_law__2473 rfl rfl ?_
  refine wp_pu dL_law__2474 rfl rfl ?_
  obtain ⟨g556, k⟩ := ok_g k
  refine wq_sald dL_law__2475 (kE_script h) g556 (v := (am_I s 2000000 ((x4 + (3 : Int32)).toNatClampNeg))) rfl ?_
  refine wp_ld (v := .ref 2000000) dL_law__2476 rfl rfl rfl rfl ?_
  refine wp_ld (v := .int x4) dL_law__2477 rfl rfl rfl rfl ?_
  refine wp_cst (v := .int (4 : Int32)) dL_law__2479 rfl rfl ?_
  refine wp_pu dL_law__2480 rfl rfl ?_
  obtain ⟨g557, k⟩ := ok_g k
  refine wq_sald dL_law__2481 (kE_script h) g557 (v := (am_I s 2000000 ((x4 + (4 : Int32)).toNatClampNeg))) rfl ?_
  refine jn_rule k (fun J558 hJ558 k => ?_)
  have HJ558 : ∀ (e559 : Int32) (s560 : am_S), am_shE N s560 → am_ok (J558 e559 s560) P → am_WP (d + 11) mL_law_ 2490 [(0, .ref 2000000), (1, .ref 0), (2, .ref 55), (3, .ref 71), (4, .int x4)] [.int e559, .int (am_I s 2000000 ((x4 + (3 : Int32)).toNatClampNeg)), .int (am_I s 2000000 ((x4 + (2 : Int32)).toNatClampNeg)), .int (am_I s 2000000 ((x4 + (1 : Int32)).toNatClampNeg)), .ref 0] s560 Q := by
    intro e559 s560 h k
    replace k := hJ558 _ _ k
    refine wp_ld (v := .ref 2000000) dL_law__2490 rfl rfl rfl rfl ?_
    refine wp_ld (v := .int x4) dL_law__2491 rfl rfl rfl rfl ?_
    refine wp_cst (v := .int (5 : Int32)) dL_law__2493 rfl rfl ?_
    refine wp_pu dL_law__2494 rfl rfl ?_
    obtain ⟨g561, k⟩ := ok_g k
    refine wq_sald dL_law__2495 (kE_script h) g561 (v := (am_I s560 2000000 ((x4 + (5 : Int32)).toNatClampNeg))) rfl ?_
    refine wp_pu dL_law__2496 rfl rfl ?_
    refine wp_cst (v := .int (32 : Int32)) dL_law__2497 rfl rfl ?_
    refine wp_pu dL_law__2499 rfl rfl ?_
    refine wp_ld (v := .ref 2000000) dL_law__2500 rfl rfl rfl rfl ?_
    refine wp_ld (v := .int x4) dL_law__2501 rfl rfl rfl rfl ?_
    refine wp_cst (v := .int (6 : Int32)) dL_law__2503 rfl rfl ?_
    show am_WP (d + 11) mL_law_ 2505 _ _ _ Q
    refine wp_pu dL_law__2505 rfl rfl ?_
    obtain ⟨g562, k⟩ := ok_g k
    refine wq_sald dL_law__2506 (kE_script h) g562 (v := (am_I s560 2000000 ((x4 + (6 : Int32)).toNatClampNeg))) rfl ?_
    refine wp_pu dL_law__2507 rfl rfl ?_
    refine wp_cst (v := .long (4294967295 : Int64)) dL_law__2508 rfl rfl ?_
    refine wp_pu dL_law__2511 rfl rfl ?_
    refine wp_pu dL_law__2512 rfl rfl ?_
    refine wp_ld (v := .ref 71) dL_law__2513 rfl rfl rfl rfl ?_
    refine c_i dL_law__2514 rfl rfl rfl (am_inv_s rfl rfl rfl rfl) (s_L_hours h) k (fun v564 s563 h k => ?_)
    refine wp_st (ls' := [(0, .ref 2000000), (1, .ref 0), (2, .ref 55), (3, .ref 71), (4, .int x4), (5, .int v564)]) dL_law__2517 rfl rfl rfl (Nat.le_of_ble_eq_true rfl) rfl ?_
    refine wp_ld (v := .ref 55) dL_law__2519 rfl rfl rfl rfl ?_
    refine wp_ld (v := .ref 2000000) dL_law__2520 rfl rfl rfl rfl ?_
    refine wp_ld (v := .int x4) dL_law__2521 rfl rfl rfl rfl ?_
    refine wp_cst (v := .int (1 : Int32)) dL_law__2523 rfl rfl ?_
    refine wp_pu dL_law__2524 rfl rfl ?_
    obtain ⟨g565, k⟩ := ok_g k
    refine wq_sald dL_law__2525 (kE_script h) g565 (v := (am_I s563 2000000 ((x4 + (1 : Int32)).toNatClampNeg))) rfl ?_
    refine wp_ld (v := .ref 2000000) dL_law__2526 rfl rfl rfl rfl ?_
    refine wp_ld (v := .int x4) dL_law__2527 rfl rfl rfl rfl ?_
    refine wp_cst (v := .int (2 : Int32)) dL_law__2529 rfl rfl ?_
    refine wp_pu dL_law__2530 rfl rfl ?_
    show am_WP (d + 11) mL_law_ 2531 _ _ _ Q
    obtain ⟨g566, k⟩ := ok_g k
    refine wq_sald dL_law__2531 (kE_script h) g566 (v := (am_I s563 2000000 ((x4 + (2 : Int32)).toNatClampNeg))) rfl ?_
    refine wp_ld (v := .ref 2000000) dL_law__2532 rfl rfl rfl rfl ?_
    refine wp_ld (v := .int x4) dL_law__2533 rfl rfl rfl rfl ?_
    refine wp_cst (v := .int (3 : Int32)) dL_law__2535 rfl rfl ?_
    refine wp_pu dL_law__2536 rfl rfl ?_
    obtain ⟨g567, k⟩ := ok_g k
    refine wq_sald dL_law__2537 (kE_script h) g567 (v := (am_I s563 2000000 ((x4 + (3 : Int32)).toNatClampNeg))) rfl ?_
    refine wp_ld (v := .ref 2000000) dL_law__2538 rfl rfl rfl rfl ?_
    refine wp_ld (v := .int x4) dL_law__2539 rfl rfl rfl rfl ?_
    refine wp_cst (v := .int (4 : Int32)) dL_law__2541 rfl rfl ?_
    refine wp_pu dL_law__2542 rfl rfl ?_
    obtain ⟨g568, k⟩ := ok_g k
    refine wq_sald dL_law__2543 (kE_script h) g568 (v := (am_I s563 2000000 ((x4 + (4 : Int32)).toNatClampNeg))) rfl ?_
    refine jn_rule k (fun J569 hJ569 k => ?_)
    have HJ569 : ∀ (e570 : Int32) (s571 : am_S), am_shE N s571 → am_ok (J569 e570 s571) P → am_WP (d + 11) mL_law_ 2552 [(0, .ref 2000000), (1, .ref 0), (2, .ref 55), (3, .ref 71), (4, .int x4), (5, .int v564)] [.int e570, .int (am_I s563 2000000 ((x4 + (3 : Int32)).toNatClampNeg)), .int (am_I s563 2000000 ((x4 + (2 : Int32)).toNatClampNeg)), .int (am_I s563 2000000 ((x4 + (1 : Int32)).toNatClampNeg)), .ref 55] s571 Q := by
      intro e570 s571 h k
      replace k := hJ569 _ _ k
      refine wp_ld (v := .ref 2000000) dL_law__2552 rfl rfl rfl rfl ?_
      refine wp_ld (v := .int x4) dL_law__2553 rfl rfl rfl rfl ?_
      refine wp_cst (v := .int (5 : Int32)) dL_law__2555 rfl rfl ?_
      refine wp_pu dL_law__2556 rfl rfl ?_
      obtain ⟨g572, k⟩ := ok_g k
      refine wq_sald dL_law__2557 (kE_script h) g572 (v := (am_I s571 2000000 ((x4 + (5 : Int32)).toNatClampNeg))) rfl ?_
      refine wp_pu dL_law__2558 rfl rfl ?_
      refine wp_cst (v := .int (32 : Int32)) dL_law__2559 rfl rfl ?_
      refine wp_pu dL_law__2561 rfl rfl ?_
      refine wp_ld (v := .ref 2000000) dL_law__2562 rfl rfl rfl rfl ?_
      refine wp_ld (v := .int x4) dL_law__2563 rfl rfl rfl rfl ?_
      refine wp_cst (v := .int (6 : Int32)) dL_law__2565 rfl rfl ?_
      show am_WP (d + 11) mL_law_ 2567 _ _ _ Q
      refine wp_pu dL_law__2567 rfl rfl ?_
      obtain ⟨g573, k⟩ := ok_g k
      refine wq_sald dL_law__2568 (kE_script h) g573 (v := (am_I s571 2000000 ((x4 + (6 : Int32)).toNatClampNeg))) rfl ?_
      refine wp_pu dL_law__2569 rfl rfl ?_
      refine wp_cst (v := .long (4294967295 : Int64)) dL_law__2570 rfl rfl ?_
      refine wp_pu dL_law__2573 rfl rfl ?_
      refine wp_pu dL_law__2574 rfl rfl ?_
      refine c_i dL_law__2575 rfl rfl rfl (am_inv_v rfl (kE_55 h) rfl rfl rfl) (sE h (fun _ h => s_X8_hours h)) k (fun v575 s574 h k => ?_)
      refine wp_st (ls' := [(0, .ref 2000000), (1, .ref 0), (2, .ref 55), (3, .ref 71), (4, .int x4), (5, .int v564), (6, .int v575)]) dL_law__2578 rfl rfl rfl (Nat.le_of_ble_eq_true rfl) rfl ?_
      refine wp_ld (v := .ref 55) dL_law__2580 rfl rfl rfl rfl ?_
      refine c_i dL_law__2581 rfl rfl rfl (am_inv_v rfl (kE_55 h) rfl rfl rfl) (sE h (fun _ h => s_X8_thrown h)) k (fun v577 s576 h k => ?_)
      refine wp_ld (v := .int v564) dL_law__2584 rfl rfl rfl rfl ?_
      refine wp_ic_eq dL_law__2586 rfl (fun c578 => have k := ok_pos c578 k; ?_) (fun c578 => have k := ok_neg c578 k; ?_)
      · refine wp_ld (v := .int v564) dL_law__2591 rfl rfl rfl rfl ?_
        refine wp_if_ne dL_law__2593 rfl (fun c579 => have k := ok_neg c579 k; ?_) (fun c579 => have k := ok_pos c579 k; ?_)
        · refine wp_goto dL_law__2608 rfl ?_
          exact wp_sub (hX _ _ (ok_s k) h) rfl ⟨rfl, rfl, rfl, rfl, rfl, trivial⟩
        · refine wp_ld (v := .ref 71) dL_law__2596 rfl rfl rfl rfl ?_
          refine wp_cst (v := .int (0 : Int32)) dL_law__2597 rfl rfl ?_
          refine wq_lald dL_law__2598 (kE_71 h) (by decide) (l := (am_L s576 71 0)) rfl ?_
          refine wp_ld (v := .int v575) dL_law__2599 rfl rfl rfl rfl ?_
          refine wp_pu dL_law__2601 rfl rfl ?_
          refine wl_eq dL_law__2602 dL_law__2603 rfl (fun c580 => have k := ok_pos c580 k; ?_) (fun c580 => have k := ok_neg c580 k; ?_)
          · refine wp_goto dL_law__2608 rfl ?_
            exact wp_sub (hX _ _ (ok_s k) h) rfl ⟨rfl, rfl, rfl, rfl, rfl, trivial⟩
          · refine wp_cst (v := .int (0 : Int32)) dL_law__2606 rfl rfl ?_
            exact wp_end dL_law__2607 rfl rfl (hP _ _ (ok_s k) h)
      · refine wp_cst (v := .int (0 : Int32)) dL_law__2589 rfl rfl ?_
        exact wp_end dL_law__2590 rfl rfl (hP _ _ (ok_s k) h)
    refine wp_if_eq dL_law__2544 rfl (fun c581 => have k := ok_pos c581 k; ?_) (fun c581 => have k := ok_neg c581 k; ?_)
    · refine wp_cst (v := .int (0 : Int32)) dL_law__2551 rfl rfl ?_
      exact wp_sub (HJ569 _ _ h k) rfl ⟨rfl, rfl, rfl, rfl, rfl, rfl, trivial⟩
    · refine wp_cst (v := .int (1 : Int32)) dL_law__2547 rfl rfl ?_
      refine wp_goto dL_law__2548 rfl ?_
      exact wp_sub (HJ569 _ _ h k) rfl ⟨rfl, rfl, rfl, rfl, rfl, rfl, trivial⟩
  refine wp_if_eq dL_law__2482 rfl (fun c582 => have k := ok_pos c582 k; ?_) (fun c582 => have k := ok_neg c582 k; ?_)
  · refine wp_cst (v := .int (0 : Int32)) dL_law__2489 rfl rfl ?_
    exact wp_sub (HJ558 _ _ h k) rfl ⟨rfl, rfl, rfl, rfl, rfl, trivial⟩
  · refine wp_cst (v := .int (1 : Int32)) dL_law__2485 rfl rfl ?_
    refine wp_goto dL_law__2486 rfl ?_
    exact wp_sub (HJ558 _ _ h k) rfl ⟨rfl, rfl, rfl, rfl, rfl, trivial⟩
noncomputable def A_L_law__2611 (x4 : Int32) (s : am_S) : am_FE (Unit) :=
  if am_in (x4 + (1 : Int32)) (am_K s 2000000).2 = true then
    if am_in (x4 + (2 : Int32)) (am_K s 2000000).2 = true then
      if am_in (x4 + (3 : Int32)) (am_K s 2000000).2 = true then
        if am_in (x4 + (4 : Int32)) (am_K s 2000000).2 = true then
          if am_in (x4 + (5 : Int32)) (am_K s 2000000).2 = true then
            am_bi (f_L_seen (am_I s 2000000 ((x4 + (1 : Int32)).toNatClampNeg)) (am_I s 2000000 ((x4 + (2 : Int32)).toNatClampNeg)) (am_I s 2000000 ((x4 + (3 : Int32)).toNatClampNeg)) (am_I s 2000000 ((x4 + (4 : Int32)).toNatClampNeg)) (am_I s 2000000 ((x4 + (5 : Int32)).toNatClampNeg)) s) (fun v592 s591 =>
              if am_in (x4 + (1 : Int32)) (am_K s591 2000000).2 = true then
                if am_in (x4 + (2 : Int32)) (am_K s591 2000000).2 = true then
                  if am_in (x4 + (3 : Int32)) (am_K s591 2000000).2 = true then
                    if am_in (x4 + (4 : Int32)) (am_K s591 2000000).2 = true then
                      if am_in (x4 + (5 : Int32)) (am_K s591 2000000).2 = true then
                        am_bi (f_X8_seen (am_I s591 2000000 ((x4 + (1 : Int32)).toNatClampNeg)) (am_I s591 2000000 ((x4 + (2 : Int32)).toNatClampNeg)) (am_I s591 2000000 ((x4 + (3 : Int32)).toNatClampNeg)) (am_I s591 2000000 ((x4 + (4 : Int32)).toNatClampNeg)) (am_I s591 2000000 ((x4 + (5 : Int32)).toNatClampNeg)) s591) (fun v599 s598 =>
                          am_bi (f_X8_thrown s598) (fun v601 s600 =>
                            if v601 = v592 then
                              if v592 = 0 then
                                if (am_L s600 71 0) = v599.toInt64 then
                                  some (.inr ((), s600))
                                else
                                  some (.inl (.inl (some (.int (0 : Int32))), s600))
                              else
                                some (.inr ((), s600))
                            else
                              some (.inl (.inl (some (.int (0 : Int32))), s600))
                          )
                        )
                      else none
                    else none
                  else none
                else none
              else none
            )
          else none
        else none
      else none
    else none
  else none
theorem q_L_law__2611 {N : Nat} {d : Nat} {x4 : Int32} {s : am_S} {P : (am_O × am_S) ⊕ (Unit × am_S) → Prop} {Q : am_O → am_S → Prop} (h : am_shE N s)  (k : am_ok (A_L_law__2611 x4 s) P) (hP : ∀ o s, P (.inl (o, s)) → am_shE N s → Q o s) (hX : ∀ (e : Unit) s, P (.inr (e, s)) → am_shE N s → am_WP (d + 11) mL_law_ 3100 [(0, .ref 2000000), (1, .ref 0), (2, .ref 55), (3, .ref 71), (4, .int x4)] [] s Q) : am_WP (d + 11) mL_law_ 2611 [(0, .ref 2000000), (1, .ref 0), (2, .ref 55), (3, .ref 71), (4, .int x4)] [] s Q := by
  unfold A_L_law__2611 at k
  refine wp_ld (v := .ref 0) dL_law__2611 rfl rfl rfl rfl ?_
  refine wp_ld (v := .ref 2000000) dL_law__2612 rfl rfl rfl rfl ?_
  refine wp_ld (v := .int x4) dL_law__2613 rfl rfl rfl rfl ?_
  refine wp_cst (v := .int (1 : Int32)) dL_law__2615 rfl rfl ?_
  refine wp_pu dL_law__2616 rfl rfl ?_
  obtain ⟨g586, k⟩ := ok_g k
  refine wq_sald dL_law__2617 (kE_script h) g586 (v := (am_I s 2000000 ((x4 + (1 : Int32)).toNatClampNeg))) rfl ?_
  refine wp_ld (v := .ref 2000000) dL_law__2618 rfl rfl rfl rfl ?_
  refine wp_ld (v := .int x4) dL_law__2619 rfl rfl rfl rfl ?_
  refine wp_cst (v := .int (2 : Int32)) dL_law__2621 rfl rfl ?_
  refine wp_pu dL_law__2622 rfl rfl ?_
  obtain ⟨g587, k⟩ := ok_g k
  refine wq_sald dL_law__2623 (kE_script h) g587 (v := (am_I s 2000000 ((x4 + (2 : Int32)).toNatClampNeg))) rfl ?_
  show am_WP (d + 11) mL_law_ 2624 _ _ _ Q
  refine wp_ld (v := .ref 2000000) dL_law__2624 rfl rfl rfl rfl ?_
  refine wp_ld (v := .int x4) dL_law__2625 rfl rfl rfl rfl ?_
  refine wp_cst (v := .int (3 : Int32)) dL_law__2627 rfl rfl ?_
  refine wp_pu dL_law__2628 rfl rfl ?_
  obtain ⟨g588, k⟩ := ok_g k
  refine wq_sald dL_law__2629 (kE_script h) g588 (v := (am_I s 2000000 ((x4 + (3 : Int32)).toNatClampNeg))) rfl ?_
  refine wp_ld (v := .ref 2000000) dL_law__2630 rfl rfl rfl rfl ?_
  refine wp_ld (v := .int x4) dL_law__2631 rfl rfl rfl rfl ?_
  refine wp_cst (v := .int (4 : Int32)) dL_law__2633 rfl rfl ?_
  refine wp_pu dL_law__2634 rfl rfl ?_
  obtain ⟨g589, k⟩ := ok_g k
  refine wq_sald dL_law__2635 (kE_script h) g589 (v := (am_I s 2000000 ((x4 + (4 : Int32)).toNatClampNeg))) rfl ?_
  refine wp_ld (v := .ref 2000000) dL_law__2636 rfl rfl rfl rfl ?_
  refine wp_ld (v := .int x4) dL_law__2637 rfl rfl rfl rfl ?_
  show am_WP (d + 11) mL_law_ 2639 _ _ _ Q
  refine wp_cst (v := .int (5 : Int32)) dL_law__2639 rfl rfl ?_
  refine wp_pu dL_law__2640 rfl rfl ?_
  obtain ⟨g590, k⟩ := ok_g k
  refine wq_sald dL_law__2641 (kE_script h) g590 (v := (am_I s 2000000 ((x4 + (5 : Int32)).toNatClampNeg))) rfl ?_
  refine wp_ld (v := .ref 71) dL_law__2642 rfl rfl rfl rfl ?_
  refine c_i dL_law__2643 rfl rfl rfl (am_inv_s rfl rfl rfl rfl) (s_L_seen h) k (fun v592 s591 h k => ?_)
  refine wp_st (ls' := [(0, .ref 2000000), (1, .ref 0), (2, .ref 55), (3, .ref 71), (4, .int x4), (5, .int v592)]) dL_law__2646 rfl rfl rfl (Nat.le_of_ble_eq_true rfl) rfl ?_
  refine wp_ld (v := .ref 55) dL_law__2648 rfl rfl rfl rfl ?_
  refine wp_ld (v := .ref 2000000) dL_law__2649 rfl rfl rfl rfl ?_
  refine wp_ld (v := .int x4) dL_law__2650 rfl rfl rfl rfl ?_
  refine wp_cst (v := .int (1 : Int32)) dL_law__2652 rfl rfl ?_
  refine wp_pu dL_law__2653 rfl rfl ?_
  obtain ⟨g593, k⟩ := ok_g k
  refine wq_sald dL_law__2654 (kE_script h) g593 (v := (am_I s591 2000000 ((x4 + (1 : Int32)).toNatClampNeg))) rfl ?_
  refine wp_ld (v := .ref 2000000) dL_law__2655 rfl rfl rfl rfl ?_
  refine wp_ld (v := .int x4) dL_law__2656 rfl rfl rfl rfl ?_
  refine wp_cst (v := .int (2 : Int32)) dL_law__2658 rfl rfl ?_
  refine wp_pu dL_law__2659 rfl rfl ?_
  show am_WP (d + 11) mL_law_ 2660 _ _ _ Q
  obtain ⟨g594, k⟩ := ok_g k
  refine wq_sald dL_law__2660 (kE_script h) g594 (v := (am_I s591 2000000 ((x4 + (2 : Int32)).toNatClampNeg))) rfl ?_
  refine wp_ld (v := .ref 2000000) dL_law__2661 rfl rfl rfl rfl ?_
  refine wp_ld (v := .int x4) dL_law__2662 rfl rfl rfl rfl ?_
  refine wp_cst (v := .int (3 : Int32)) dL_law__2664 rfl rfl ?_
  refine wp_pu dL_law__2665 rfl rfl ?_
  obtain ⟨g595, k⟩ := ok_g k
  refine wq_sald dL_law__2666 (kE_script h) g595 (v := (am_I s591 2000000 ((x4 + (3 : Int32)).toNatClampNeg))) rfl ?_
  refine wp_ld (v := .ref 2000000) dL_law__2667 rfl rfl rfl rfl ?_
  refine wp_ld (v := .int x4) dL_law__2668 rfl rfl rfl rfl ?_
  refine wp_cst (v := .int (4 : Int32)) dL_law__2670 rfl rfl ?_
  refine wp_pu dL_law__2671 rfl rfl ?_
  obtain ⟨g596, k⟩ := ok_g k
  refine wq_sald dL_law__2672 (kE_script h) g596 (v := (am_I s591 2000000 ((x4 + (4 : Int32)).toNatClampNeg))) rfl ?_
  refine wp_ld (v := .ref 2000000) dL_law__2673 rfl rfl rfl rfl ?_
  show am_WP (d + 11) mL_law_ 2674 _ _ _ Q
  refine wp_ld (v := .int x4) dL_law__2674 rfl rfl rfl rfl ?_
  refine wp_cst (v := .int (5 : Int32)) dL_law__2676 rfl rfl ?_
  refine wp_pu dL_law__2677 rfl rfl ?_
  obtain ⟨g597, k⟩ := ok_g k
  refine wq_sald dL_law__2678 (kE_script h) g597 (v := (am_I s591 2000000 ((x4 + (5 : Int32)).toNatClampNeg))) rfl ?_
  refine c_i dL_law__2679 rfl rfl rfl (am_inv_v rfl (kE_55 h) rfl rfl rfl) (sE h (fun _ h => s_X8_seen h)) k (fun v599 s598 h k => ?_)
  refine wp_st (ls' := [(0, .ref 2000000), (1, .ref 0), (2, .ref 55), (3, .ref 71), (4, .int x4), (5, .int v592), (6, .int v599)]) dL_law__2682 rfl rfl rfl (Nat.le_of_ble_eq_true rfl) rfl ?_
  refine wp_ld (v := .ref 55) dL_law__2684 rfl rfl rfl rfl ?_
  refine c_i dL_law__2685 rfl rfl rfl (am_inv_v rfl (kE_55 h) rfl rfl rfl) (sE h (fun _ h => s_X8_thrown h)) k (fun v601 s600 h k => ?_)
  refine wp_ld (v := .int v592) dL_law__2688 rfl rfl rfl rfl ?_
  refine wp_ic_eq dL_law__2690 rfl (fun c602 => have k := ok_pos c602 k; ?_) (fun c602 => have k := ok_neg c602 k; ?_)
  · refine wp_ld (v := .int v592) dL_law__2695 rfl rfl rfl rfl ?_
    refine wp_if_ne dL_law__2697 rfl (fun c603 => have k := ok_neg c603 k; ?_) (fun c603 => have k := ok_pos c603 k; ?_)
    · refine wp_goto dL_law__2712 rfl ?_
      exact wp_sub (hX _ _ (ok_s k) h) rfl ⟨rfl, rfl, rfl, rfl, rfl, trivial⟩
    · refine wp_ld (v := .ref 71) dL_law__2700 rfl rfl rfl rfl ?_
      refine wp_cst (v := .int (0 : Int32)) dL_law__2701 rfl rfl ?_
      refine wq_lald dL_law__2702 (kE_71 h) (by decide) (l := (am_L s600 71 0)) rfl ?_
      refine wp_ld (v := .int v599) dL_law__2703 rfl rfl rfl rfl ?_
      refine wp_pu dL_law__2705 rfl rfl ?_
      refine wl_eq dL_law__2706 dL_law__2707 rfl (fun c604 => have k := ok_pos c604 k; ?_) (fun c604 => have k := ok_neg c604 k; ?_)
      · refine wp_goto dL_law__2712 rfl ?_
        exact wp_sub (hX _ _ (ok_s k) h) rfl ⟨rfl, rfl, rfl, rfl, rfl, trivial⟩
      · refine wp_cst (v := .int (0 : Int32)) dL_law__2710 rfl rfl ?_
        exact wp_end dL_law__2711 rfl rfl (hP _ _ (ok_s k) h)
  · refine wp_cst (v := .int (0 : Int32)) dL_law__2693 rfl rfl ?_
    exact wp_end dL_law__2694 rfl rfl (hP _ _ (ok_s k) h)
noncomputable def A_L_law__2715 (x4 : Int32) (s : am_S) : am_FE (Unit) :=
  if am_in (x4 + (1 : Int32)) (am_K s 2000000).2 = true then
    if am_in (x4 + (2 : Int32)) (am_K s 2000000).2 = true then
      if am_in (x4 + (3 : Int32)) (am_K s 2000000).2 = true then
        am_bi (f_X7_found (am_I s 2000000 ((x4 + (1 : Int32)).toNatClampNeg)) (am_I s 2000000 ((x4 + (2 : Int32)).toNatClampNeg)) (am_I s 2000000 ((x4 + (3 : Int32)).toNatClampNeg)) s) (fun v612 s611 =>
          if am_in (x4 + (1 : Int32)) (am_K s611 2000000).2 = true then
            if am_in (x4 + (2 : Int32)) (am_K s611 2000000).2 = true then
              if am_in (x4 + (3 : Int32)) (am_K s611 2000000).2 = true then
                am_bi (f_X8_found (am_I s611 2000000 ((x4 + (1 : Int32)).toNatClampNeg)) (am_I s611 2000000 ((x4 + (2 : Int32)).toNatClampNeg)) (am_I s611 2000000 ((x4 + (3 : Int32)).toNatClampNeg)) s611) (fun v617 s616 =>
                  if v612 = v617 then
                    some (.inr ((), s616))
                  else
                    some (.inl (.inl (some (.int (0 : Int32))), s616))
                )
              else none
            else none
          else none
        )
      else none
    else none
  else none
theorem q_L_law__2715 {N : Nat} {d : Nat} {x4 : Int32} {s : am_S} {P : (am_O × am_S) ⊕ (Unit × am_S) → Prop} {Q : am_O → am_S → Prop} (h : am_shE N s)  (k : am_ok (A_L_law__2715 x4 s) P) (hP : ∀ o s, P (.inl (o, s)) → am_shE N s → Q o s) (hX : ∀ (e : Unit) s, P (.inr (e, s)) → am_shE N s → am_WP (d + 11) mL_law_ 3100 [(0, .ref 2000000), (1, .ref 0), (2, .ref 55), (3, .ref 71), (4, .int x4)] [] s Q) : am_WP (d + 11) mL_law_ 2715 [(0, .ref 2000000), (1, .ref 0), (2, .ref 55), (3, .ref 71), (4, .int x4)] [] s Q := by
  unfold A_L_law__2715 at k
  refine wp_ld (v := .ref 0) dL_law__2715 rfl rfl rfl rfl ?_
  refine wp_ld (v := .ref 2000000) dL_law__2716 rfl rfl rfl rfl ?_
  refine wp_ld (v := .int x4) dL_law__2717 rfl rfl rfl rfl ?_
  refine wp_cst (v := .int (1 : Int32)) dL_law__2719 rfl rfl ?_
  refine wp_pu dL_law__2720 rfl rfl ?_
  obtain ⟨g608, k⟩ := ok_g k
  refine wq_sald dL_law__2721 (kE_script h) g608 (v := (am_I s 2000000 ((x4 + (1 : Int32)).toNatClampNeg))) rfl ?_
  refine wp_ld (v := .ref 2000000) dL_law__2722 rfl rfl rfl rfl ?_
  refine wp_ld (v := .int x4) dL_law__2723 rfl rfl rfl rfl ?_
  refine wp_cst (v := .int (2 : Int32)) dL_law__2725 rfl rfl ?_
  refine wp_pu dL_law__2726 rfl rfl ?_
  obtain ⟨g609, k⟩ := ok_g k
  refine wq_sald dL_law__2727 (kE_script h) g609 (v := (am_I s 2000000 ((x4 + (2 : Int32)).toNatClampNeg))) rfl ?_
  show am_WP (d + 11) mL_law_ 2728 _ _ _ Q
  refine wp_ld (v := .ref 2000000) dL_law__2728 rfl rfl rfl rfl ?_
  refine wp_ld (v := .int x4) dL_law__2729 rfl rfl rfl rfl ?_
  refine wp_cst (v := .int (3 : Int32)) dL_law__2731 rfl rfl ?_
  refine wp_pu dL_law__2732 rfl rfl ?_
  obtain ⟨g610, k⟩ := ok_g k
  refine wq_sald dL_law__2733 (kE_script h) g610 (v := (am_I s 2000000 ((x4 + (3 : Int32)).toNatClampNeg))) rfl ?_
  refine c_i dL_law__2734 rfl rfl rfl (am_inv_v rfl (kE_0 h) rfl rfl rfl) (sE h (fun _ h => s_X7_found h)) k (fun v612 s611 h k => ?_)
  refine wp_ld (v := .ref 55) dL_law__2737 rfl rfl rfl rfl ?_
  refine wp_ld (v := .ref 2000000) dL_law__2738 rfl rfl rfl rfl ?_
  refine wp_ld (v := .int x4) dL_law__2739 rfl rfl rfl rfl ?_
  refine wp_cst (v := .int (1 : Int32)) dL_law__2741 rfl rfl ?_
  refine wp_pu dL_law__2742 rfl rfl ?_
  obtain ⟨g613, k⟩ := ok_g k
  refine wq_sald dL_law__2743 (kE_script h) g613 (v := (am_I s611 2000000 ((x4 + (1 : Int32)).toNatClampNeg))) rfl ?_
  refine wp_ld (v := .ref 2000000) dL_law__2744 rfl rfl rfl rfl ?_
  refine wp_ld (v := .int x4) dL_law__2745 rfl rfl rfl rfl ?_
  refine wp_cst (v := .int (2 : Int32)) dL_law__2747 rfl rfl ?_
  refine wp_pu dL_law__2748 rfl rfl ?_
  obtain ⟨g614, k⟩ := ok_g k
  refine wq_sald dL_law__2749 (kE_script h) g614 (v := (am_I s611 2000000 ((x4 + (2 : Int32)).toNatClampNeg))) rfl ?_
  show am_WP (d + 11) mL_law_ 2750 _ _ _ Q
  refine wp_ld (v := .ref 2000000) dL_law__2750 rfl rfl rfl rfl ?_
  refine wp_ld (v := .int x4) dL_law__2751 rfl rfl rfl rfl ?_
  refine wp_cst (v := .int (3 : Int32)) dL_law__2753 rfl rfl ?_
  refine wp_pu dL_law__2754 rfl rfl ?_
  obtain ⟨g615, k⟩ := ok_g k
  refine wq_sald dL_law__2755 (kE_script h) g615 (v := (am_I s611 2000000 ((x4 + (3 : Int32)).toNatClampNeg))) rfl ?_
  refine c_i dL_law__2756 rfl rfl rfl (am_inv_v rfl (kE_55 h) rfl rfl rfl) (sE h (fun _ h => s_X8_found h)) k (fun v617 s616 h k => ?_)
  refine wp_ic_eq dL_law__2759 rfl (fun c618 => have k := ok_pos c618 k; ?_) (fun c618 => have k := ok_neg c618 k; ?_)
  · exact wp_sub (hX _ _ (ok_s k) h) rfl ⟨rfl, rfl, rfl, rfl, rfl, trivial⟩
  · refine wp_cst (v := .int (0 : Int32)) dL_law__2762 rfl rfl ?_
    exact wp_end dL_law__2763 rfl rfl (hP _ _ (ok_s k) h)
noncomputable def A_L_law__2764 (x4 : Int32) (s : am_S) : am_FE (Unit) :=
  if am_in (x4 + (1 : Int32)) (am_K s 2000000).2 = true then
    if am_in (x4 + (2 : Int32)) (am_K s 2000000).2 = true then
      if am_in (x4 + (3 : Int32)) (am_K s 2000000).2 = true then
        am_bi (f_L_tray (am_I s 2000000 ((x4 + (1 : Int32)).toNatClampNeg)) (am_I s 2000000 ((x4 + (2 : Int32)).toNatClampNeg)) (am_I s 2000000 ((x4 + (3 : Int32)).toNatClampNeg)) s) (fun v626 s625 =>
          if am_in (x4 + (1 : Int32)) (am_K s625 2000000).2 = true then
            if am_in (x4 + (2 : Int32)) (am_K s625 2000000).2 = true then
              if am_in (x4 + (3 : Int32)) (am_K s625 2000000).2 = true then
                am_bu (f_X8_tray (am_I s625 2000000 ((x4 + (1 : Int32)).toNatClampNeg)) (am_I s625 2000000 ((x4 + (2 : Int32)).toNatClampNeg)) (am_I s625 2000000 ((x4 + (3 : Int32)).toNatClampNeg)) s625) (fun s630 =>
                  am_bi (f_X8_thrown s630) (fun v633 s632 =>
                    if v633 = v626 then
                      some (.inr ((), s632))
                    else
                      some (.inl (.inl (some (.int (0 : Int32))), s632))
                  )
                )
              else none
            else none
          else none
        )
      else none
    else none
  else none
theorem q_L_law__2764 {N : Nat} {d : Nat} {x4 : Int32} {s : am_S} {P : (am_O × am_S) ⊕ (Unit × am_S) → Prop} {Q : am_O → am_S → Prop} (h : am_shE N s)  (k : am_ok (A_L_law__2764 x4 s) P) (hP : ∀ o s, P (.inl (o, s)) → am_shE N s → Q o s) (hX : ∀ (e : Unit) s, P (.inr (e, s)) → am_shE N s → am_WP (d + 11) mL_law_ 3100 [(0, .ref 2000000), (1, .ref 0), (2, .ref 55), (3, .ref 71), (4, .int x4)] [] s Q) : am_WP (d + 11) mL_law_ 2764 [(0, .ref 2000000), (1, .ref 0), (2, .ref 55), (3, .ref 71), (4, .int x4)] [] s Q := by
  unfold A_L_law__2764 at k
  refine wp_ld (v := .ref 0) dL_law__2764 rfl rfl rfl rfl ?_
  refine wp_ld (v := .ref 2000000) dL_law__2765 rfl rfl rfl rfl ?_
  refine wp_ld (v := .int x4) dL_law__2766 rfl rfl rfl rfl ?_
  refine wp_cst (v := .int (1 : Int32)) dL_law__2768 rfl rfl ?_
  refine wp_pu dL_law__2769 rfl rfl ?_
  obtain ⟨g622, k⟩ := ok_g k
  refine wq_sald dL_law__2770 (kE_script h) g622 (v := (am_I s 2000000 ((x4 + (1 : Int32)).toNatClampNeg))) rfl ?_
  refine wp_ld (v := .ref 2000000) dL_law__2771 rfl rfl rfl rfl ?_
  refine wp_ld (v := .int x4) dL_law__2772 rfl rfl rfl rfl ?_
  refine wp_cst (v := .int (2 : Int32)) dL_law__2774 rfl rfl ?_
  refine wp_pu dL_law__2775 rfl rfl ?_
  obtain ⟨g623, k⟩ := ok_g k
  refine wq_sald dL_law__2776 (kE_script h) g623 (v := (am_I s 2000000 ((x4 + (2 : Int32)).toNatClampNeg))) rfl ?_
  show am_WP (d + 11) mL_law_ 2777 _ _ _ Q
  refine wp_ld (v := .ref 2000000) dL_law__2777 rfl rfl rfl rfl ?_
  refine wp_ld (v := .int x4) dL_law__2778 rfl rfl rfl rfl ?_
  refine wp_cst (v := .int (3 : Int32)) dL_law__2780 rfl rfl ?_
  refine wp_pu dL_law__2781 rfl rfl ?_
  obtain ⟨g624, k⟩ := ok_g k
  refine wq_sald dL_law__2782 (kE_script h) g624 (v := (am_I s 2000000 ((x4 + (3 : Int32)).toNatClampNeg))) rfl ?_
  refine c_i dL_law__2783 rfl rfl rfl (am_inv_s rfl rfl rfl rfl) (s_L_tray h) k (fun v626 s625 h k => ?_)
  refine wp_st (ls' := [(0, .ref 2000000), (1, .ref 0), (2, .ref 55), (3, .ref 71), (4, .int x4), (5, .int v626)]) dL_law__2786 rfl rfl rfl (Nat.le_of_ble_eq_true rfl) rfl ?_
  refine wp_ld (v := .ref 55) dL_law__2788 rfl rfl rfl rfl ?_
  refine wp_ld (v := .ref 2000000) dL_law__2789 rfl rfl rfl rfl ?_
  refine wp_ld (v := .int x4) dL_law__2790 rfl rfl rfl rfl ?_
  refine wp_cst (v := .int (1 : Int32)) dL_law__2792 rfl rfl ?_
  refine wp_pu dL_law__2793 rfl rfl ?_
  obtain ⟨g627, k⟩ := ok_g k
  refine wq_sald dL_law__2794 (kE_script h) g627 (v := (am_I s625 2000000 ((x4 + (1 : Int32)).toNatClampNeg))) rfl ?_
  refine wp_ld (v := .ref 2000000) dL_law__2795 rfl rfl rfl rfl ?_
  refine wp_ld (v := .int x4) dL_law__2796 rfl rfl rfl rfl ?_
  refine wp_cst (v := .int (2 : Int32)) dL_law__2798 rfl rfl ?_
  refine wp_pu dL_law__2799 rfl rfl ?_
  show am_WP (d + 11) mL_law_ 2800 _ _ _ Q
  obtain ⟨g628, k⟩ := ok_g k
  refine wq_sald dL_law__2800 (kE_script h) g628 (v := (am_I s625 2000000 ((x4 + (2 : Int32)).toNatClampNeg))) rfl ?_
  refine wp_ld (v := .ref 2000000) dL_law__2801 rfl rfl rfl rfl ?_
  refine wp_ld (v := .int x4) dL_law__2802 rfl rfl rfl rfl ?_
  refine wp_cst (v := .int (3 : Int32)) dL_law__2804 rfl rfl ?_
  refine wp_pu dL_law__2805 rfl rfl ?_
  obtain ⟨g629, k⟩ := ok_g k
  refine wq_sald dL_law__2806 (kE_script h) g629 (v := (am_I s625 2000000 ((x4 + (3 : Int32)).toNatClampNeg))) rfl ?_
  refine c_u dL_law__2807 rfl rfl rfl (am_inv_v rfl (kE_55 h) rfl rfl rfl) (sE h (fun _ h => s_X8_tray h)) k (fun s630 h k => ?_)
  refine wp_ld (v := .ref 55) dL_law__2810 rfl rfl rfl rfl ?_
  refine c_i dL_law__2811 rfl rfl rfl (am_inv_v rfl (kE_55 h) rfl rfl rfl) (sE h (fun _ h => s_X8_thrown h)) k (fun v633 s632 h k => ?_)
  refine wp_ld (v := .int v626) dL_law__2814 rfl rfl rfl rfl ?_
  refine wp_ic_eq dL_law__2816 rfl (fun c634 => have k := ok_pos c634 k; ?_) (fun c634 => have k := ok_neg c634 k; ?_)
  · refine wp_goto dL_law__2821 rfl ?_
    exact wp_sub (hX _ _ (ok_s k) h) rfl ⟨rfl, rfl, rfl, rfl, rfl, trivial⟩
  · refine wp_cst (v := .int (0 : Int32)) dL_law__2819 rfl rfl ?_
    exact wp_end dL_law__2820 rfl rfl (hP _ _ (ok_s k) h)
noncomputable def A_L_law__2824 (x4 : Int32) (s : am_S) : am_FE (Unit) :=
  if am_in (x4 + (1 : Int32)) (am_K s 2000000).2 = true then
    if am_in (x4 + (2 : Int32)) (am_K s 2000000).2 = true then
      if am_in (x4 + (3 : Int32)) (am_K s 2000000).2 = true then
        if am_in (x4 + (4 : Int32)) (am_K s 2000000).2 = true then
          am_bi (f_L_write (am_I s 2000000 ((x4 + (1 : Int32)).toNatClampNeg)) (am_I s 2000000 ((x4 + (2 : Int32)).toNatClampNeg)) (((am_I s 2000000 ((x4 + (3 : Int32)).toNatClampNeg)).toInt64 <<< ((32 : Int32).toInt64 &&& 63)) ||| ((am_I s 2000000 ((x4 + (4 : Int32)).toNatClampNeg)).toInt64 &&& (4294967295 : Int64))) s) (fun v643 s642 =>
            if am_in (x4 + (1 : Int32)) (am_K s642 2000000).2 = true then
              if am_in (x4 + (2 : Int32)) (am_K s642 2000000).2 = true then
                if am_in (x4 + (3 : Int32)) (am_K s642 2000000).2 = true then
                  if am_in (x4 + (4 : Int32)) (am_K s642 2000000).2 = true then
                    am_bl (f_X8_write (am_I s642 2000000 ((x4 + (1 : Int32)).toNatClampNeg)) (am_I s642 2000000 ((x4 + (2 : Int32)).toNatClampNeg)) (((am_I s642 2000000 ((x4 + (3 : Int32)).toNatClampNeg)).toInt64 <<< ((32 : Int32).toInt64 &&& 63)) ||| ((am_I s642 2000000 ((x4 + (4 : Int32)).toNatClampNeg)).toInt64 &&& (4294967295 : Int64))) s642) (fun v649 s648 =>
                      am_bi (f_X8_thrown s648) (fun v651 s650 =>
                        if v651 = v643 then
                          if v643 = 0 then
                            if (am_L s650 71 0) = v649 then
                              some (.inr ((), s650))
                            else
                              some (.inl (.inl (some (.int (0 : Int32))), s650))
                          else
                            some (.inr ((), s650))
                        else
                          some (.inl (.inl (some (.int (0 : Int32))), s650))
                      )
                    )
                  else none
                else none
              else none
            else none
          )
        else none
      else none
    else none
  else none
theorem q_L_law__2824 {N : Nat} {d : Nat} {x4 : Int32} {s : am_S} {P : (am_O × am_S) ⊕ (Unit × am_S) → Prop} {Q : am_O → am_S → Prop} (h : am_shE N s)  (k : am_ok (A_L_law__2824 x4 s) P) (hP : ∀ o s, P (.inl (o, s)) → am_shE N s → Q o s) (hX : ∀ (e : Unit) s, P (.inr (e, s)) → am_shE N s → am_WP (d + 11) mL_law_ 3100 [(0, .ref 2000000), (1, .ref 0), (2, .ref 55), (3, .ref 71), (4, .int x4)] [] s Q) : am_WP (d + 11) mL_law_ 2824 [(0, .ref 2000000), (1, .ref 0), (2, .ref 55), (3, .ref 71), (4, .int x4)] [] s Q := by
  unfold A_L_law__2824 at k
  refine wp_ld (v := .ref 0) dL_law__2824 rfl rfl rfl rfl ?_
  refine wp_ld (v := .ref 2000000) dL_law__2825 rfl rfl rfl rfl ?_
  refine wp_ld (v := .int x4) dL_law__2826 rfl rfl rfl rfl ?_
  refine wp_cst (v := .int (1 : Int32)) dL_law__2828 rfl rfl ?_
  refine wp_pu dL_law__2829 rfl rfl ?_
  obtain ⟨g638, k⟩ := ok_g k
  refine wq_sald dL_law__2830 (kE_script h) g638 (v := (am_I s 2000000 ((x4 + (1 : Int32)).toNatClampNeg))) rfl ?_
  refine wp_ld (v := .ref 2000000) dL_law__2831 rfl rfl rfl rfl ?_
  refine wp_ld (v := .int x4) dL_law__2832 rfl rfl rfl rfl ?_
  refine wp_cst (v := .int (2 : Int32)) dL_law__2834 rfl rfl ?_
  refine wp_pu dL_law__2835 rfl rfl ?_
  obtain ⟨g639, k⟩ := ok_g k
  refine wq_sald dL_law__2836 (kE_script h) g639 (v := (am_I s 2000000 ((x4 + (2 : Int32)).toNatClampNeg))) rfl ?_
  show am_WP (d + 11) mL_law_ 2837 _ _ _ Q
  refine wp_ld (v := .ref 2000000) dL_law__2837 rfl rfl rfl rfl ?_
  refine wp_ld (v := .int x4) dL_law__2838 rfl rfl rfl rfl ?_
  refine wp_cst (v := .int (3 : Int32)) dL_law__2840 rfl rfl ?_
  refine wp_pu dL_law__2841 rfl rfl ?_
  obtain ⟨g640, k⟩ := ok_g k
  refine wq_sald dL_law__2842 (kE_script h) g640 (v := (am_I s 2000000 ((x4 + (3 : Int32)).toNatClampNeg))) rfl ?_
  refine wp_pu dL_law__2843 rfl rfl ?_
  refine wp_cst (v := .int (32 : Int32)) dL_law__2844 rfl rfl ?_
  refine wp_pu dL_law__2846 rfl rfl ?_
  refine wp_ld (v := .ref 2000000) dL_law__2847 rfl rfl rfl rfl ?_
  refine wp_ld (v := .int x4) dL_law__2848 rfl rfl rfl rfl ?_
  refine wp_cst (v := .int (4 : Int32)) dL_law__2850 rfl rfl ?_
  refine wp_pu dL_law__2851 rfl rfl ?_
  show am_WP (d + 11) mL_law_ 2852 _ _ _ Q
  obtain ⟨g641, k⟩ := ok_g k
  refine wq_sald dL_law__2852 (kE_script h) g641 (v := (am_I s 2000000 ((x4 + (4 : Int32)).toNatClampNeg))) rfl ?_
  refine wp_pu dL_law__2853 rfl rfl ?_
  refine wp_cst (v := .long (4294967295 : Int64)) dL_law__2854 rfl rfl ?_
  refine wp_pu dL_law__2857 rfl rfl ?_
  refine wp_pu dL_law__2858 rfl rfl ?_
  refine wp_ld (v := .ref 71) dL_law__2859 rfl rfl rfl rfl ?_
  refine c_i dL_law__2860 rfl rfl rfl (am_inv_s rfl rfl rfl rfl) (s_L_write h) k (fun v643 s642 h k => ?_)
  refine wp_st (ls' := [(0, .ref 2000000), (1, .ref 0), (2, .ref 55), (3, .ref 71), (4, .int x4), (5, .int v643)]) dL_law__2863 rfl rfl rfl (Nat.le_of_ble_eq_true rfl) rfl ?_
  refine wp_ld (v := .ref 55) dL_law__2865 rfl rfl rfl rfl ?_
  refine wp_ld (v := .ref 2000000) dL_law__2866 rfl rfl rfl rfl ?_
  refine wp_ld (v := .int x4) dL_law__2867 rfl rfl rfl rfl ?_
  refine wp_cst (v := .int (1 : Int32)) dL_law__2869 rfl rfl ?_
  refine wp_pu dL_law__2870 rfl rfl ?_
  obtain ⟨g644, k⟩ := ok_g k
  refine wq_sald dL_law__2871 (kE_script h) g644 (v := (am_I s642 2000000 ((x4 + (1 : Int32)).toNatClampNeg))) rfl ?_
  refine wp_ld (v := .ref 2000000) dL_law__2872 rfl rfl rfl rfl ?_
  refine wp_ld (v := .int x4) dL_law__2873 rfl rfl rfl rfl ?_
  refine wp_cst (v := .int (2 : Int32)) dL_law__2875 rfl rfl ?_
  refine wp_pu dL_law__2876 rfl rfl ?_
  show am_WP (d + 11) mL_law_ 2877 _ _ _ Q
  obtain ⟨g645, k⟩ := ok_g k
  refine wq_sald dL_law__2877 (kE_script h) g645 (v := (am_I s642 2000000 ((x4 + (2 : Int32)).toNatClampNeg))) rfl ?_
  refine wp_ld (v := .ref 2000000) dL_law__2878 rfl rfl rfl rfl ?_
  refine wp_ld (v := .int x4) dL_law__2879 rfl rfl rfl rfl ?_
  refine wp_cst (v := .int (3 : Int32)) dL_law__2881 rfl rfl ?_
  refine wp_pu dL_law__2882 rfl rfl ?_
  obtain ⟨g646, k⟩ := ok_g k
  refine wq_sald dL_law__2883 (kE_script h) g646 (v := (am_I s642 2000000 ((x4 + (3 : Int32)).toNatClampNeg))) rfl ?_
  refine wp_pu dL_law__2884 rfl rfl ?_
  refine wp_cst (v := .int (32 : Int32)) dL_law__2885 rfl rfl ?_
  refine wp_pu dL_law__2887 rfl rfl ?_
  refine wp_ld (v := .ref 2000000) dL_law__2888 rfl rfl rfl rfl ?_
  refine wp_ld (v := .int x4) dL_law__2889 rfl rfl rfl rfl ?_
  refine wp_cst (v := .int (4 : Int32)) dL_law__2891 rfl rfl ?_
  show am_WP (d + 11) mL_law_ 2892 _ _ _ Q
  refine wp_pu dL_law__2892 rfl rfl ?_
  obtain ⟨g647, k⟩ := ok_g k
  refine wq_sald dL_law__2893 (kE_script h) g647 (v := (am_I s642 2000000 ((x4 + (4 : Int32)).toNatClampNeg))) rfl ?_
  refine wp_pu dL_law__2894 rfl rfl ?_
  refine wp_cst (v := .long (4294967295 : Int64)) dL_law__2895 rfl rfl ?_
  refine wp_pu dL_law__2898 rfl rfl ?_
  refine wp_pu dL_law__2899 rfl rfl ?_
  refine c_l dL_law__2900 rfl rfl rfl (am_inv_v rfl (kE_55 h) rfl rfl rfl) (sE h (fun _ h => s_X8_write h)) k (fun v649 s648 h k => ?_)
  refine wp_st (ls' := [(0, .ref 2000000), (1, .ref 0), (2, .ref 55), (3, .ref 71), (4, .int x4), (5, .int v643), (6, .long v649)]) dL_law__2903 rfl rfl rfl (Nat.le_of_ble_eq_true rfl) rfl ?_
  refine wp_ld (v := .ref 55) dL_law__2905 rfl rfl rfl rfl ?_
  refine c_i dL_law__2906 rfl rfl rfl (am_inv_v rfl (kE_55 h) rfl rfl rfl) (sE h (fun _ h => s_X8_thrown h)) k (fun v651 s650 h k => ?_)
  refine wp_ld (v := .int v643) dL_law__2909 rfl rfl rfl rfl ?_
  refine wp_ic_eq dL_law__2911 rfl (fun c652 => have k := ok_pos c652 k; ?_) (fun c652 => have k := ok_neg c652 k; ?_)
  · refine wp_ld (v := .int v643) dL_law__2916 rfl rfl rfl rfl ?_
    refine wp_if_ne dL_law__2918 rfl (fun c653 => have k := ok_neg c653 k; ?_) (fun c653 => have k := ok_pos c653 k; ?_)
    · refine wp_goto dL_law__2932 rfl ?_
      exact wp_sub (hX _ _ (ok_s k) h) rfl ⟨rfl, rfl, rfl, rfl, rfl, trivial⟩
    · refine wp_ld (v := .ref 71) dL_law__2921 rfl rfl rfl rfl ?_
      refine wp_cst (v := .int (0 : Int32)) dL_law__2922 rfl rfl ?_
      refine wq_lald dL_law__2923 (kE_71 h) (by decide) (l := (am_L s650 71 0)) rfl ?_
      refine wp_ld (v := .long v649) dL_law__2924 rfl rfl rfl rfl ?_
      refine wl_eq dL_law__2926 dL_law__2927 rfl (fun c654 => have k := ok_pos c654 k; ?_) (fun c654 => have k := ok_neg c654 k; ?_)
      · refine wp_goto dL_law__2932 rfl ?_
        exact wp_sub (hX _ _ (ok_s k) h) rfl ⟨rfl, rfl, rfl, rfl, rfl, trivial⟩
      · refine wp_cst (v := .int (0 : Int32)) dL_law__2930 rfl rfl ?_
        exact wp_end dL_law__2931 rfl rfl (hP _ _ (ok_s k) h)
  · refine wp_cst (v := .int (0 : Int32)) dL_law__2914 rfl rfl ?_
    exact wp_end dL_law__2915 rfl rfl (hP _ _ (ok_s k) h)
noncomputable def A_L_law__2935 (x4 : Int32) (s : am_S) : am_FE (Unit) :=
  if am_in (x4 + (1 : Int32)) (am_K s 2000000).2 = true then
    if am_in (x4 + (2 : Int32)) (am_K s 2000000).2 = true then
      am_bi (f_L_take (am_I s 2000000 ((x4 + (1 : Int32)).toNatClampNeg)) (am_I s 2000000 ((x4 + (2 : Int32)).toNatClampNeg)) s) (fun v661 s660 =>
        if am_in (x4 + (1 : Int32)) (am_K s660 2000000).2 = true then
          if am_in (x4 + (2 : Int32)) (am_K s660 2000000).2 = true then
            am_bi (f_X8_take (am_I s660 2000000 ((x4 + (1 : Int32)).toNatClampNeg)) (am_I s660 2000000 ((x4 + (2 : Int32)).toNatClampNeg)) s660) (fun v665 s664 =>
              am_bi (f_X8_thrown s664) (fun v667 s666 =>
                if v667 = v661 then
                  if v661 = 0 then
                    if (am_L s666 71 0) = v665.toInt64 then
                      some (.inr ((), s666))
                    else
                      some (.inl (.inl (some (.int (0 : Int32))), s666))
                  else
                    some (.inr ((), s666))
                else
                  some (.inl (.inl (some (.int (0 : Int32))), s666))
              )
            )
          else none
        else none
      )
    else none
  else none
theorem q_L_law__2935 {N : Nat} {d : Nat} {x4 : Int32} {s : am_S} {P : (am_O × am_S) ⊕ (Unit × am_S) → Prop} {Q : am_O → am_S → Prop} (h : am_shE N s)  (k : am_ok (A_L_law__2935 x4 s) P) (hP : ∀ o s, P (.inl (o, s)) → am_shE N s → Q o s) (hX : ∀ (e : Unit) s, P (.inr (e, s)) → am_shE N s → am_WP (d + 11) mL_law_ 3100 [(0, .ref 2000000), (1, .ref 0), (2, .ref 55), (3, .ref 71), (4, .int x4)] [] s Q) : am_WP (d + 11) mL_law_ 2935 [(0, .ref 2000000), (1, .ref 0), (2, .ref 55), (3, .ref 71), (4, .int x4)] [] s Q := by
  unfold A_L_law__2935 at k
  refine wp_ld (v := .ref 0) dL_law__2935 rfl rfl rfl rfl ?_
  refine wp_ld (v := .ref 2000000) dL_law__2936 rfl rfl rfl rfl ?_
  refine wp_ld (v := .int x4) dL_law__2937 rfl rfl rfl rfl ?_
  refine wp_cst (v := .int (1 : Int32)) dL_law__2939 rfl rfl ?_
  refine wp_pu dL_law__2940 rfl rfl ?_
  obtain ⟨g658, k⟩ := ok_g k
  refine wq_sald dL_law__2941 (kE_script h) g658 (v := (am_I s 2000000 ((x4 + (1 : Int32)).toNatClampNeg))) rfl ?_
  refine wp_ld (v := .ref 2000000) dL_law__2942 rfl rfl rfl rfl ?_
  refine wp_ld (v := .int x4) dL_law__2943 rfl rfl rfl rfl ?_
  refine wp_cst (v := .int (2 : Int32)) dL_law__2945 rfl rfl ?_
  refine wp_pu dL_law__2946 rfl rfl ?_
  obtain ⟨g659, k⟩ := ok_g k
  refine wq_sald dL_law__2947 (kE_script h) g659 (v := (am_I s 2000000 ((x4 + (2 : Int32)).toNatClampNeg))) rfl ?_
  show am_WP (d + 11) mL_law_ 2948 _ _ _ Q
  refine wp_ld (v := .ref 71) dL_law__2948 rfl rfl rfl rfl ?_
  refine c_i dL_law__2949 rfl rfl rfl (am_inv_s rfl rfl rfl rfl) (s_L_take h) k (fun v661 s660 h k => ?_)
  refine wp_st (ls' := [(0, .ref 2000000), (1, .ref 0), (2, .ref 55), (3, .ref 71), (4, .int x4), (5, .int v661)]) dL_law__2952 rfl rfl rfl (Nat.le_of_ble_eq_true rfl) rfl ?_
  refine wp_ld (v := .ref 55) dL_law__2954 rfl rfl rfl rfl ?_
  refine wp_ld (v := .ref 2000000) dL_law__2955 rfl rfl rfl rfl ?_
  refine wp_ld (v := .int x4) dL_law__2956 rfl rfl rfl rfl ?_
  refine wp_cst (v := .int (1 : Int32)) dL_law__2958 rfl rfl ?_
  refine wp_pu dL_law__2959 rfl rfl ?_
  obtain ⟨g662, k⟩ := ok_g k
  refine wq_sald dL_law__2960 (kE_script h) g662 (v := (am_I s660 2000000 ((x4 + (1 : Int32)).toNatClampNeg))) rfl ?_
  refine wp_ld (v := .ref 2000000) dL_law__2961 rfl rfl rfl rfl ?_
  refine wp_ld (v := .int x4) dL_law__2962 rfl rfl rfl rfl ?_
  refine wp_cst (v := .int (2 : Int32)) dL_law__2964 rfl rfl ?_
  refine wp_pu dL_law__2965 rfl rfl ?_
  show am_WP (d + 11) mL_law_ 2966 _ _ _ Q
  obtain ⟨g663, k⟩ := ok_g k
  refine wq_sald dL_law__2966 (kE_script h) g663 (v := (am_I s660 2000000 ((x4 + (2 : Int32)).toNatClampNeg))) rfl ?_
  refine c_i dL_law__2967 rfl rfl rfl (am_inv_v rfl (kE_55 h) rfl rfl rfl) (sE h (fun _ h => s_X8_take h)) k (fun v665 s664 h k => ?_)
  refine wp_st (ls' := [(0, .ref 2000000), (1, .ref 0), (2, .ref 55), (3, .ref 71), (4, .int x4), (5, .int v661), (6, .int v665)]) dL_law__2970 rfl rfl rfl (Nat.le_of_ble_eq_true rfl) rfl ?_
  refine wp_ld (v := .ref 55) dL_law__2972 rfl rfl rfl rfl ?_
  refine c_i dL_law__2973 rfl rfl rfl (am_inv_v rfl (kE_55 h) rfl rfl rfl) (sE h (fun _ h => s_X8_thrown h)) k (fun v667 s666 h k => ?_)
  refine wp_ld (v := .int v661) dL_law__2976 rfl rfl rfl rfl ?_
  refine wp_ic_eq dL_law__2978 rfl (fun c668 => have k := ok_pos c668 k; ?_) (fun c668 => have k := ok_neg c668 k; ?_)
  · refine wp_ld (v := .int v661) dL_law__2983 rfl rfl rfl rfl ?_
    refine wp_if_ne dL_law__2985 rfl (fun c669 => have k := ok_neg c669 k; ?_) (fun c669 => have k := ok_pos c669 k; ?_)
    · refine wp_goto dL_law__3000 rfl ?_
      exact wp_sub (hX _ _ (ok_s k) h) rfl ⟨rfl, rfl, rfl, rfl, rfl, trivial⟩
    · refine wp_ld (v := .ref 71) dL_law__2988 rfl rfl rfl rfl ?_
      refine wp_cst (v := .int (0 : Int32)) dL_law__2989 rfl rfl ?_
      refine wq_lald dL_law__2990 (kE_71 h) (by decide) (l := (am_L s666 71 0)) rfl ?_
      refine wp_ld (v := .int v665) dL_law__2991 rfl rfl rfl rfl ?_
      refine wp_pu dL_law__2993 rfl rfl ?_
      refine wl_eq dL_law__2994 dL_law__2995 rfl (fun c670 => have k := ok_pos c670 k; ?_) (fun c670 => have k := ok_neg c670 k; ?_)
      · refine wp_goto dL_law__3000 rfl ?_
        exact wp_sub (hX _ _ (ok_s k) h) rfl ⟨rfl, rfl, rfl, rfl, rfl, trivial⟩
      · refine wp_cst (v := .int (0 : Int32)) dL_law__2998 rfl rfl ?_
        exact wp_end dL_law__2999 rfl rfl (hP _ _ (ok_s k) h)
  · refine wp_cst (v := .int (0 : Int32)) dL_law__2981 rfl rfl ?_
    exact wp_end dL_law__2982 rfl rfl (hP _ _ (ok_s k) h)
noncomputable def A_L_law__3003 (x4 : Int32) (s : am_S) : am_FE (Unit) :=
  if am_in (x4 + (1 : Int32)) (am_K s 2000000).2 = true then
    am_bi (f_L_image (am_I s 2000000 ((x4 + (1 : Int32)).toNatClampNeg)) s) (fun v676 s675 =>
      if am_in (x4 + (1 : Int32)) (am_K s675 2000000).2 = true then
        am_bu (f_X8_image (am_I s675 2000000 ((x4 + (1 : Int32)).toNatClampNeg)) s675) (fun s678 =>
          am_bi (f_X8_thrown s678) (fun v681 s680 =>
            if v681 = v676 then
              some (.inr ((), s680))
            else
              some (.inl (.inl (some (.int (0 : Int32))), s680))
          )
        )
      else none
    )
  else none
theorem q_L_law__3003 {N : Nat} {d : Nat} {x4 : Int32} {s : am_S} {P : (am_O × am_S) ⊕ (Unit × am_S) → Prop} {Q : am_O → am_S → Prop} (h : am_shE N s)  (k : am_ok (A_L_law__3003 x4 s) P) (hP : ∀ o s, P (.inl (o, s)) → am_shE N s → Q o s) (hX : ∀ (e : Unit) s, P (.inr (e, s)) → am_shE N s → am_WP (d + 11) mL_law_ 3100 [(0, .ref 2000000), (1, .ref 0), (2, .ref 55), (3, .ref 71), (4, .int x4)] [] s Q) : am_WP (d + 11) mL_law_ 3003 [(0, .ref 2000000), (1, .ref 0), (2, .ref 55), (3, .ref 71), (4, .int x4)] [] s Q := by
  unfold A_L_law__3003 at k
  refine wp_ld (v := .ref 0) dL_law__3003 rfl rfl rfl rfl ?_
  refine wp_ld (v := .ref 2000000) dL_law__3004 rfl rfl rfl rfl ?_
  refine wp_ld (v := .int x4) dL_law__3005 rfl rfl rfl rfl ?_
  refine wp_cst (v := .int (1 : Int32)) dL_law__3007 rfl rfl ?_
  refine wp_pu dL_law__3008 rfl rfl ?_
  obtain ⟨g674, k⟩ := ok_g k
  refine wq_sald dL_law__3009 (kE_script h) g674 (v := (am_I s 2000000 ((x4 + (1 : Int32)).toNatClampNeg))) rfl ?_
  refine c_i dL_law__3010 rfl rfl rfl (am_inv_s rfl rfl rfl rfl) (s_L_image h) k (fun v676 s675 h k => ?_)
  refine wp_st (ls' := [(0, .ref 2000000), (1, .ref 0), (2, .ref 55), (3, .ref 71), (4, .int x4), (5, .int v676)]) dL_law__3013 rfl rfl rfl (Nat.le_of_ble_eq_true rfl) rfl ?_
  refine wp_ld (v := .ref 55) dL_law__3015 rfl rfl rfl rfl ?_
  refine wp_ld (v := .ref 2000000) dL_law__3016 rfl rfl rfl rfl ?_
  refine wp_ld (v := .int x4) dL_law__3017 rfl rfl rfl rfl ?_
  refine wp_cst (v := .int (1 : Int32)) dL_law__3019 rfl rfl ?_
  refine wp_pu dL_law__3020 rfl rfl ?_
  obtain ⟨g677, k⟩ := ok_g k
  refine wq_sald dL_law__3021 (kE_script h) g677 (v := (am_I s675 2000000 ((x4 + (1 : Int32)).toNatClampNeg))) rfl ?_
  refine c_u dL_law__3022 rfl rfl rfl (am_inv_v rfl (kE_55 h) rfl rfl rfl) (sE h (fun _ h => s_X8_image h)) k (fun s678 h k => ?_)
  refine wp_ld (v := .ref 55) dL_law__3025 rfl rfl rfl rfl ?_
  refine c_i dL_law__3026 rfl rfl rfl (am_inv_v rfl (kE_55 h) rfl rfl rfl) (sE h (fun _ h => s_X8_thrown h)) k (fun v681 s680 h k => ?_)
  refine wp_ld (v := .int v676) dL_law__3029 rfl rfl rfl rfl ?_
  refine wp_ic_eq dL_law__3031 rfl (fun c682 => have k := ok_pos c682 k; ?_) (fun c682 => have k := ok_neg c682 k; ?_)
  · refine wp_goto dL_law__3036 rfl ?_
    exact wp_sub (hX _ _ (ok_s k) h) rfl ⟨rfl, rfl, rfl, rfl, rfl, trivial⟩
  · refine wp_cst (v := .int (0 : Int32)) dL_law__3034 rfl rfl ?_
    exact wp_end dL_law__3035 rfl rfl (hP _ _ (ok_s k) h)
noncomputable def A_L_law__3039 (x4 : Int32) (s : am_S) : am_FE (Unit) :=
  if am_in (x4 + (1 : Int32)) (am_K s 2000000).2 = true then
    am_bi (f_L_restore (am_I s 2000000 ((x4 + (1 : Int32)).toNatClampNeg)) s) (fun v688 s687 =>
      if am_in (x4 + (1 : Int32)) (am_K s687 2000000).2 = true then
        am_bu (f_X8_restore (am_I s687 2000000 ((x4 + (1 : Int32)).toNatClampNeg)) s687) (fun s690 =>
          am_bi (f_X8_thrown s690) (fun v693 s692 =>
            if v693 = v688 then
              some (.inr ((), s692))
            else
              some (.inl (.inl (some (.int (0 : Int32))), s692))
          )
        )
      else none
    )
  else none
theorem q_L_law__3039 {N : Nat} {d : Nat} {x4 : Int32} {s : am_S} {P : (am_O × am_S) ⊕ (Unit × am_S) → Prop} {Q : am_O → am_S → Prop} (h : am_shE N s)  (k : am_ok (A_L_law__3039 x4 s) P) (hP : ∀ o s, P (.inl (o, s)) → am_shE N s → Q o s) (hX : ∀ (e : Unit) s, P (.inr (e, s)) → am_shE N s → am_WP (d + 11) mL_law_ 3100 [(0, .ref 2000000), (1, .ref 0), (2, .ref 55), (3, .ref 71), (4, .int x4)] [] s Q) : am_WP (d + 11) mL_law_ 3039 [(0, .ref 2000000), (1, .ref 0), (2, .ref 55), (3, .ref 71), (4, .int x4)] [] s Q := by
  unfold A_L_law__3039 at k
  refine wp_ld (v := .ref 0) dL_law__3039 rfl rfl rfl rfl ?_
  refine wp_ld (v := .ref 2000000) dL_law__3040 rfl rfl rfl rfl ?_
  refine wp_ld (v := .int x4) dL_law__3041 rfl rfl rfl rfl ?_
  refine wp_cst (v := .int (1 : Int32)) dL_law__3043 rfl rfl ?_
  refine wp_pu dL_law__3044 rfl rfl ?_
  obtain ⟨g686, k⟩ := ok_g k
  refine wq_sald dL_law__3045 (kE_script h) g686 (v := (am_I s 2000000 ((x4 + (1 : Int32)).toNatClampNeg))) rfl ?_
  refine c_i dL_law__3046 rfl rfl rfl (am_inv_s rfl rfl rfl rfl) (s_L_restore h) k (fun v688 s687 h k => ?_)
  refine wp_st (ls' := [(0, .ref 2000000), (1, .ref 0), (2, .ref 55), (3, .ref 71), (4, .int x4), (5, .int v688)]) dL_law__3049 rfl rfl rfl (Nat.le_of_ble_eq_true rfl) rfl ?_
  refine wp_ld (v := .ref 55) dL_law__3051 rfl rfl rfl rfl ?_
  refine wp_ld (v := .ref 2000000) dL_law__3052 rfl rfl rfl rfl ?_
  refine wp_ld (v := .int x4) dL_law__3053 rfl rfl rfl rfl ?_
  refine wp_cst (v := .int (1 : Int32)) dL_law__3055 rfl rfl ?_
  refine wp_pu dL_law__3056 rfl rfl ?_
  obtain ⟨g689, k⟩ := ok_g k
  refine wq_sald dL_law__3057 (kE_script h) g689 (v := (am_I s687 2000000 ((x4 + (1 : Int32)).toNatClampNeg))) rfl ?_
  refine c_u dL_law__3058 rfl rfl rfl (am_inv_v rfl (kE_55 h) rfl rfl rfl) (sE h (fun _ h => s_X8_restore h)) k (fun s690 h k => ?_)
  refine wp_ld (v := .ref 55) dL_law__3061 rfl rfl rfl rfl ?_
  refine c_i dL_law__3062 rfl rfl rfl (am_inv_v rfl (kE_55 h) rfl rfl rfl) (sE h (fun _ h => s_X8_thrown h)) k (fun v693 s692 h k => ?_)
  refine wp_ld (v := .int v688) dL_law__3065 rfl rfl rfl rfl ?_
  refine wp_ic_eq dL_law__3067 rfl (fun c694 => have k := ok_pos c694 k; ?_) (fun c694 => have k := ok_neg c694 k; ?_)
  · refine wp_goto dL_law__3072 rfl ?_
    exact wp_sub (hX _ _ (ok_s k) h) rfl ⟨rfl, rfl, rfl, rfl, rfl, trivial⟩
  · refine wp_cst (v := .int (0 : Int32)) dL_law__3070 rfl rfl ?_
    exact wp_end dL_law__3071 rfl rfl (hP _ _ (ok_s k) h)
noncomputable def A_L_law__3075 (x4 : Int32) (s : am_S) : am_FE (Unit) :=
  if am_in (x4 + (1 : Int32)) (am_K s 2000000).2 = true then
    am_bi (f_X7_count (am_I s 2000000 ((x4 + (1 : Int32)).toNatClampNeg)) s) (fun v700 s699 =>
      if am_in (x4 + (1 : Int32)) (am_K s699 2000000).2 = true then
        am_bi (f_X8_count_ (am_I s699 2000000 ((x4 + (1 : Int32)).toNatClampNeg)) s699) (fun v703 s702 =>
          if v700 = v703 then
            some (.inr ((), s702))
          else
            some (.inl (.inl (some (.int (0 : Int32))), s702))
        )
      else none
    )
  else none
theorem q_L_law__3075 {N : Nat} {d : Nat} {x4 : Int32} {s : am_S} {P : (am_O × am_S) ⊕ (Unit × am_S) → Prop} {Q : am_O → am_S → Prop} (h : am_shE N s)  (k : am_ok (A_L_law__3075 x4 s) P) (hP : ∀ o s, P (.inl (o, s)) → am_shE N s → Q o s) (hX : ∀ (e : Unit) s, P (.inr (e, s)) → am_shE N s → am_WP (d + 11) mL_law_ 3100 [(0, .ref 2000000), (1, .ref 0), (2, .ref 55), (3, .ref 71), (4, .int x4)] [] s Q) : am_WP (d + 11) mL_law_ 3075 [(0, .ref 2000000), (1, .ref 0), (2, .ref 55), (3, .ref 71), (4, .int x4)] [] s Q := by
  unfold A_L_law__3075 at k
  refine wp_ld (v := .ref 0) dL_law__3075 rfl rfl rfl rfl ?_
  refine wp_ld (v := .ref 2000000) dL_law__3076 rfl rfl rfl rfl ?_
  refine wp_ld (v := .int x4) dL_law__3077 rfl rfl rfl rfl ?_
  refine wp_cst (v := .int (1 : Int32)) dL_law__3079 rfl rfl ?_
  refine wp_pu dL_law__3080 rfl rfl ?_
  obtain ⟨g698, k⟩ := ok_g k
  refine wq_sald dL_law__3081 (kE_script h) g698 (v := (am_I s 2000000 ((x4 + (1 : Int32)).toNatClampNeg))) rfl ?_
  refine c_i dL_law__3082 rfl rfl rfl (am_inv_v rfl (kE_0 h) rfl rfl rfl) (sE h (fun _ h => s_X7_count h)) k (fun v700 s699 h k => ?_)
  refine wp_ld (v := .ref 55) dL_law__3085 rfl rfl rfl rfl ?_
  refine wp_ld (v := .ref 2000000) dL_law__3086 rfl rfl rfl rfl ?_
  refine wp_ld (v := .int x4) dL_law__3087 rfl rfl rfl rfl ?_
  refine wp_cst (v := .int (1 : Int32)) dL_law__3089 rfl rfl ?_
  refine wp_pu dL_law__3090 rfl rfl ?_
  obtain ⟨g701, k⟩ := ok_g k
  refine wq_sald dL_law__3091 (kE_script h) g701 (v := (am_I s699 2000000 ((x4 + (1 : Int32)).toNatClampNeg))) rfl ?_
  refine c_i dL_law__3092 rfl rfl rfl (am_inv_v rfl (kE_55 h) rfl rfl rfl) (sE h (fun _ h => s_X8_count_ h)) k (fun v703 s702 h k => ?_)
  refine wp_ic_eq dL_law__3095 rfl (fun c704 => have k := ok_pos c704 k; ?_) (fun c704 => have k := ok_neg c704 k; ?_)
  · exact wp_sub (hX _ _ (ok_s k) h) rfl ⟨rfl, rfl, rfl, rfl, rfl, trivial⟩
  · refine wp_cst (v := .int (0 : Int32)) dL_law__3098 rfl rfl ?_
    exact wp_end dL_law__3099 rfl rfl (hP _ _ (ok_s k) h)
noncomputable def L_L_law__23 : Nat → Int32 → am_S → am_FE (Unit)
  | 0, _, _ => none
  | m + 1, x4, s =>
    if ((Int32.ofNat (am_K s 2000000).2) - (8 : Int32)) < x4 then
      some (.inr ((), s))
    else
      if am_in x4 (am_K s 2000000).2 = true then
        if ((am_I s 2000000 x4.toNatClampNeg) &&& (63 : Int32)) = (0 : Int32) then
          am_ll (A_L_law__208 x4 s) (fun e15 s16 =>
            L_L_law__23 m (x4 + (8 : Int32)) s16
          )
        else if ((am_I s 2000000 x4.toNatClampNeg) &&& (63 : Int32)) = (1 : Int32) then
          am_ll (A_L_law__256 x4 s) (fun e33 s34 =>
            L_L_law__23 m (x4 + (8 : Int32)) s34
          )
        else if ((am_I s 2000000 x4.toNatClampNeg) &&& (63 : Int32)) = (2 : Int32) then
          am_ll (A_L_law__329 x4 s) (fun e47 s48 =>
            L_L_law__23 m (x4 + (8 : Int32)) s48
          )
        else if ((am_I s 2000000 x4.toNatClampNeg) &&& (63 : Int32)) = (3 : Int32) then
          am_ll (A_L_law__385 x4 s) (fun e61 s62 =>
            L_L_law__23 m (x4 + (8 : Int32)) s62
          )
        else if ((am_I s 2000000 x4.toNatClampNeg) &&& (63 : Int32)) = (4 : Int32) then
          am_ll (A_L_law__441 x4 s) (fun e71 s72 =>
            L_L_law__23 m (x4 + (8 : Int32)) s72
          )
        else if ((am_I s 2000000 x4.toNatClampNeg) &&& (63 : Int32)) = (5 : Int32) then
          am_ll (A_L_law__466 x4 s) (fun e87 s88 =>
            L_L_law__23 m (x4 + (8 : Int32)) s88
          )
        else if ((am_I s 2000000 x4.toNatClampNeg) &&& (63 : Int32)) = (6 : Int32) then
          am_ll (A_L_law__534 x4 s) (fun e101 s102 =>
            L_L_law__23 m (x4 + (8 : Int32)) s102
          )
        else if ((am_I s 2000000 x4.toNatClampNeg) &&& (63 : Int32)) = (7 : Int32) then
          am_ll (A_L_law__590 x4 s) (fun e117 s118 =>
            L_L_law__23 m (x4 + (8 : Int32)) s118
          )
        else if ((am_I s 2000000 x4.toNatClampNeg) &&& (63 : Int32)) = (8 : Int32) then
          am_ll (A_L_law__658 x4 s) (fun e135 s136 =>
            L_L_law__23 m (x4 + (8 : Int32)) s136
          )
        else if ((am_I s 2000000 x4.toNatClampNeg) &&& (63 : Int32)) = (9 : Int32) then
          am_ll (A_L_law__738 x4 s) (fun e157 s158 =>
            L_L_law__23 m (x4 + (8 : Int32)) s158
          )
        else if ((am_I s 2000000 x4.toNatClampNeg) &&& (63 : Int32)) = (10 : Int32) then
          am_ll (A_L_law__842 x4 s) (fun e181 s182 =>
            L_L_law__23 m (x4 + (8 : Int32)) s182
          )
        else if ((am_I s 2000000 x4.toNatClampNeg) &&& (63 : Int32)) = (11 : Int32) then
          am_ll (A_L_law__960 x4 s) (fun e199 s200 =>
            L_L_law__23 m (x4 + (8 : Int32)) s200
          )
        else if ((am_I s 2000000 x4.toNatClampNeg) &&& (63 : Int32)) = (12 : Int32) then
          am_ll (A_L_law__1040 x4 s) (fun e215 s216 =>
            L_L_law__23 m (x4 + (8 : Int32)) s216
          )
        else if ((am_I s 2000000 x4.toNatClampNeg) &&& (63 : Int32)) = (13 : Int32) then
          am_ll (A_L_law__1108 x4 s) (fun e223 s224 =>
            L_L_law__23 m (x4 + (8 : Int32)) s224
          )
        else if ((am_I s 2000000 x4.toNatClampNeg) &&& (63 : Int32)) = (14 : Int32) then
          am_ll (A_L_law__1121 x4 s) (fun e237 s238 =>
            L_L_law__23 m (x4 + (8 : Int32)) s238
          )
        else if ((am_I s 2000000 x4.toNatClampNeg) &&& (63 : Int32)) = (15 : Int32) then
          am_ll (A_L_law__1177 x4 s) (fun e265 s266 =>
            L_L_law__23 m (x4 + (8 : Int32)) s266
          )
        else if ((am_I s 2000000 x4.toNatClampNeg) &&& (63 : Int32)) = (16 : Int32) then
          am_ll (A_L_law__1285 x4 s) (fun e283 s284 =>
            L_L_law__23 m (x4 + (8 : Int32)) s284
          )
        else if ((am_I s 2000000 x4.toNatClampNeg) &&& (63 : Int32)) = (17 : Int32) then
          am_ll (A_L_law__1365 x4 s) (fun e299 s300 =>
            L_L_law__23 m (x4 + (8 : Int32)) s300
          )
        else if ((am_I s 2000000 x4.toNatClampNeg) &&& (63 : Int32)) = (18 : Int32) then
          am_ll (A_L_law__1433 x4 s) (fun e307 s308 =>
            L_L_law__23 m (x4 + (8 : Int32)) s308
          )
        else if ((am_I s 2000000 x4.toNatClampNeg) &&& (63 : Int32)) = (19 : Int32) then
          am_ll (A_L_law__1446 x4 s) (fun e327 s328 =>
            L_L_law__23 m (x4 + (8 : Int32)) s328
          )
        else if ((am_I s 2000000 x4.toNatClampNeg) &&& (63 : Int32)) = (20 : Int32) then
          am_ll (A_L_law__1538 x4 s) (fun e355 s356 =>
            L_L_law__23 m (x4 + (8 : Int32)) s356
          )
        else if ((am_I s 2000000 x4.toNatClampNeg) &&& (63 : Int32)) = (21 : Int32) then
          am_ll (A_L_law__1645 x4 s) (fun e381 s382 =>
            L_L_law__23 m (x4 + (8 : Int32)) s382
          )
        else if ((am_I s 2000000 x4.toNatClampNeg) &&& (63 : Int32)) = (22 : Int32) then
          am_ll (A_L_law__1741 x4 s) (fun e405 s406 =>
            L_L_law__23 m (x4 + (8 : Int32)) s406
          )
        else if ((am_I s 2000000 x4.toNatClampNeg) &&& (63 : Int32)) = (23 : Int32) then
          am_ll (A_L_law__1825 x4 s) (fun e435 s436 =>
            L_L_law__23 m (x4 + (8 : Int32)) s436
          )
        else if ((am_I s 2000000 x4.toNatClampNeg) &&& (63 : Int32)) = (24 : Int32) then
          am_ll (A_L_law__1944 x4 s) (fun e463 s464 =>
            L_L_law__23 m (x4 + (8 : Int32)) s464
          )
        else if ((am_I s 2000000 x4.toNatClampNeg) &&& (63 : Int32)) = (25 : Int32) then
          am_ll (A_L_law__2052 x4 s) (fun e493 s494 =>
            L_L_law__23 m (x4 + (8 : Int32)) s494
          )
        else if ((am_I s 2000000 x4.toNatClampNeg) &&& (63 : Int32)) = (26 : Int32) then
          am_ll (A_L_law__2191 x4 s) (fun e519 s520 =>
            L_L_law__23 m (x4 + (8 : Int32)) s520
          )
        else if ((am_I s 2000000 x4.toNatClampNeg) &&& (63 : Int32)) = (27 : Int32) then
          am_ll (A_L_law__2322 x4 s) (fun e537 s538 =>
            L_L_law__23 m (x4 + (8 : Int32)) s538
          )
        else if ((am_I s 2000000 x4.toNatClampNeg) &&& (63 : Int32)) = (28 : Int32) then
          am_ll (A_L_law__2402 x4 s) (fun e551 s552 =>
            L_L_law__23 m (x4 + (8 : Int32)) s552
          )
        else if ((am_I s 2000000 x4.toNatClampNeg) &&& (63 : Int32)) = (29 : Int32) then
          am_ll (A_L_law__2457 x4 s) (fun e583 s584 =>
            L_L_law__23 m (x4 + (8 : Int32)) s584
          )
        else if ((am_I s 2000000 x4.toNatClampNeg) &&& (63 : Int32)) = (30 : Int32) then
          am_ll (A_L_law__2611 x4 s) (fun e605 s606 =>
            L_L_law__23 m (x4 + (8 : Int32)) s606
          )
        else if ((am_I s 2000000 x4.toNatClampNeg) &&& (63 : Int32)) = (31 : Int32) then
          am_ll (A_L_law__2715 x4 s) (fun e619 s620 =>
            L_L_law__23 m (x4 + (8 : Int32)) s620
          )
        else if ((am_I s 2000000 x4.toNatClampNeg) &&& (63 : Int32)) = (32 : Int32) then
          am_ll (A_L_law__2764 x4 s) (fun e635 s636 =>
            L_L_law__23 m (x4 + (8 : Int32)) s636
          )
        else if ((am_I s 2000000 x4.toNatClampNeg) &&& (63 : Int32)) = (33 : Int32) then
          am_ll (A_L_law__2824 x4 s) (fun e655 s656 =>
            L_L_law__23 m (x4 + (8 : Int32)) s656
          )
        else if ((am_I s 2000000 x4.toNatClampNeg) &&& (63 : Int32)) = (34 : Int32) then
          am_ll (A_L_law__2935 x4 s) (fun e671 s672 =>
            L_L_law__23 m (x4 + (8 : Int32)) s672
          )
        else if ((am_I s 2000000 x4.toNatClampNeg) &&& (63 : Int32)) = (35 : Int32) then
          am_ll (A_L_law__3003 x4 s) (fun e683 s684 =>
            L_L_law__23 m (x4 + (8 : Int32)) s684
          )
        else if ((am_I s 2000000 x4.toNatClampNeg) &&& (63 : Int32)) = (36 : Int32) then
          am_ll (A_L_law__3039 x4 s) (fun e695 s696 =>
            L_L_law__23 m (x4 + (8 : Int32)) s696
          )
        else if ((am_I s 2000000 x4.toNatClampNeg) &&& (63 : Int32)) = (37 : Int32) then
          am_ll (A_L_law__3075 x4 s) (fun e705 s706 =>
            L_L_law__23 m (x4 + (8 : Int32)) s706
          )
        else
          L_L_law__23 m (x4 + (8 : Int32)) s
      else none
theorem q_L_law__23 : ∀ (m : Nat) {N : Nat} {d : Nat} {x4 : Int32} {s : am_S} {P : (am_O × am_S) ⊕ (Unit × am_S) → Prop} {Q : am_O → am_S → Prop} (h : am_shE N s)  (k : am_ok (L_L_law__23 m x4 s) P) (hP : ∀ o s, P (.inl (o, s)) → am_shE N s → Q o s) (hX : ∀ (e : Unit) s, P (.inr (e, s)) → am_shE N s → am_WP (d + 11) mL_law_ 3106 [] [] s Q), am_WP (d + 11) mL_law_ 23 [(0, .ref 2000000), (1, .ref 0), (2, .ref 55), (3, .ref 71), (4, .int x4)] [] s Q := by
  intro m
  induction m with
  | zero =>
    intro N d x4 s P Q h  k hP hX
    exact (ok_no k).elim
  | succ m ih =>
    intro N d x4 s P Q h  k hP hX
    unfold L_L_law__23 at k
    refine wp_ld (v := .int x4) dL_law__23 rfl rfl rfl rfl ?_
    refine wp_ld (v := .ref 2000000) dL_law__25 rfl rfl rfl rfl ?_
    refine wp_alen dL_law__26 (kE_script h) (by decide) (v := (Int32.ofNat (am_K s 2000000).2)) rfl ?_
    refine wp_cst (v := .int (8 : Int32)) dL_law__27 rfl rfl ?_
    refine wp_pu dL_law__29 rfl rfl ?_
    refine wp_ic_gt dL_law__30 rfl (fun c1 => have k := ok_pos c1 k; ?_) (fun c1 => have k := ok_neg c1 k; ?_)
    · exact wp_sub (hX _ _ (ok_s k) h) rfl trivial
    · refine wp_ld (v := .ref 2000000) dL_law__33 rfl rfl rfl rfl ?_
      refine wp_ld (v := .int x4) dL_law__34 rfl rfl rfl rfl ?_
      obtain ⟨g2, k⟩ := ok_g k
      refine wq_sald dL_law__36 (kE_script h) g2 (v := (am_I s 2000000 x4.toNatClampNeg)) rfl ?_
      refine wp_cst (v := .int (63 : Int32)) dL_law__37 rfl rfl ?_
      refine wp_pu dL_law__39 rfl rfl ?_
      by_cases c3 : ((am_I s 2000000 x4.toNatClampNeg) &&& (63 : Int32)) = (0 : Int32)
      · have k := ok_pos c3 k
        refine sw_hit dL_law__40 rfl c3 rfl ?_
        refine lp_l k (fun P1 k hA hB => ?_)
        refine wp_sub (q_L_law__208 h k (fun o s p h => hP o s (hA o s p) h) (fun e15 s16 p h => have k := hB e15 s16 p; ?_)) rfl ⟨rfl, rfl, rfl, rfl, rfl, trivial⟩
        refine wp_inc (v := (x4 + (8 : Int32))) (ls' := [(0, .ref 2000000), (1, .ref 0), (2, .ref 55), (3, .ref 71), (4, .int (x4 + (8 : Int32)))]) dL_law__3100 rfl (Nat.le_of_ble_eq_true rfl) rfl rfl ?_
        refine wp_goto dL_law__3103 rfl ?_
        exact wp_sub (ih h k hP hX) rfl ⟨rfl, rfl, rfl, rfl, rfl, trivial⟩
      replace k := ok_neg c3 k
      by_cases c17 : ((am_I s 2000000 x4.toNatClampNeg) &&& (63 : Int32)) = (1 : Int32)
      · have k := ok_pos c17 k
        refine sw_hit dL_law__40 rfl c17 rfl ?_
        refine lp_l k (fun P1 k hA hB => ?_)
        refine wp_sub (q_L_law__256 h k (fun o s p h => hP o s (hA o s p) h) (fun e33 s34 p h => have k := hB e33 s34 p; ?_)) rfl ⟨rfl, rfl, rfl, rfl, rfl, trivial⟩
        refine wp_inc (v := (x4 + (8 : Int32))) (ls' := [(0, .ref 2000000), (1, .ref 0), (2, .ref 55), (3, .ref 71), (4, .int (x4 + (8 : Int32)))]) dL_law__3100 rfl (Nat.le_of_ble_eq_true rfl) rfl rfl ?_
        refine wp_goto dL_law__3103 rfl ?_
        exact wp_sub (ih h k hP hX) rfl ⟨rfl, rfl, rfl, rfl, rfl, trivial⟩
      replace k := ok_neg c17 k
      by_cases c35 : ((am_I s 2000000 x4.toNatClampNeg) &&& (63 : Int32)) = (2 : Int32)
      · have k := ok_pos c35 k
        refine sw_hit dL_law__40 rfl c35 rfl ?_
        refine lp_l k (fun P1 k hA hB => ?_)
        refine wp_sub (q_L_law__329 h k (fun o s p h => hP o s (hA o s p) h) (fun e47 s48 p h => have k := hB e47 s48 p; ?_)) rfl ⟨rfl, rfl, rfl, rfl, rfl, trivial⟩
        refine wp_inc (v := (x4 + (8 : Int32))) (ls' := [(0, .ref 2000000), (1, .ref 0), (2, .ref 55), (3, .ref 71), (4, .int (x4 + (8 : Int32)))]) dL_law__3100 rfl (Nat.le_of_ble_eq_true rfl) rfl rfl ?_
        refine wp_goto dL_law__3103 rfl ?_
        exact wp_sub (ih h k hP hX) rfl ⟨rfl, rfl, rfl, rfl, rfl, trivial⟩
      replace k := ok_neg c35 k
      by_cases c49 : ((am_I s 2000000 x4.toNatClampNeg) &&& (63 : Int32)) = (3 : Int32)
      · have k := ok_pos c49 k
        refine sw_hit dL_law__40 rfl c49 rfl ?_
        refine lp_l k (fun P1 k hA hB => ?_)
        refine wp_sub (q_L_law__385 h k (fun o s p h => hP o s (hA o s p) h) (fun e61 s62 p h => have k := hB e61 s62 p; ?_)) rfl ⟨rfl, rfl, rfl, rfl, rfl, trivial⟩
        refine wp_inc (v := (x4 + (8 : Int32))) (ls' := [(0, .ref 2000000), (1, .ref 0), (2, .ref 55), (3, .ref 71), (4, .int (x4 + (8 : Int32)))]) dL_law__3100 rfl (Nat.le_of_ble_eq_true rfl) rfl rfl ?_
        refine wp_goto dL_law__3103 rfl ?_
        exact wp_sub (ih h k hP hX) rfl ⟨rfl, rfl, rfl, rfl, rfl, trivial⟩
      replace k := ok_neg c49 k
      by_cases c63 : ((am_I s 2000000 x4.toNatClampNeg) &&& (63 : Int32)) = (4 : Int32)
      · have k := ok_pos c63 k
        refine sw_hit dL_law__40 rfl c63 rfl ?_
        refine lp_l k (fun P1 k hA hB => ?_)
        refine wp_sub (q_L_law__441 h k (fun o s p h => hP o s (hA o s p) h) (fun e71 s72 p h => have k := hB e71 s72 p; ?_)) rfl ⟨rfl, rfl, rfl, rfl, rfl, trivial⟩
        refine wp_inc (v := (x4 + (8 : Int32))) (ls' := [(0, .ref 2000000), (1, .ref 0), (2, .ref 55), (3, .ref 71), (4, .int (x4 + (8 : Int32)))]) dL_law__3100 rfl (Nat.le_of_ble_eq_true rfl) rfl rfl ?_
        refine wp_goto dL_law__3103 rfl ?_
        exact wp_sub (ih h k hP hX) rfl ⟨rfl, rfl, rfl, rfl, rfl, trivial⟩
      replace k := ok_neg c63 k
      by_cases c73 : ((am_I s 2000000 x4.toNatClampNeg) &&& (63 : Int32)) = (5 : Int32)
      · have k := ok_pos c73 k
        refine sw_hit dL_law__40 rfl c73 rfl ?_
        refine lp_l k (fun P1 k hA hB => ?_)
        refine wp_sub (q_L_law__466 h k (fun o s p h => hP o s (hA o s p) h) (fun e87 s88 p h => have k := hB e87 s88 p; ?_)) rfl ⟨rfl, rfl, rfl, rfl, rfl, trivial⟩
        refine wp_inc (v := (x4 + (8 : Int32))) (ls' := [(0, .ref 2000000), (1, .ref 0), (2, .ref 55), (3, .ref 71), (4, .int (x4 + (8 : Int32)))]) dL_law__3100 rfl (Nat.le_of_ble_eq_true rfl) rfl rfl ?_
        refine wp_goto dL_law__3103 rfl ?_
        exact wp_sub (ih h k hP hX) rfl ⟨rfl, rfl, rfl, rfl, rfl, trivial⟩
      replace k := ok_neg c73 k
      by_cases c89 : ((am_I s 2000000 x4.toNatClampNeg) &&& (63 : Int32)) = (6 : Int32)
      · have k := ok_pos c89 k
        refine sw_hit dL_law__40 rfl c89 rfl ?_
        refine lp_l k (fun P1 k hA hB => ?_)
        refine wp_sub (q_L_law__534 h k (fun o s p h => hP o s (hA o s p) h) (fun e101 s102 p h => have k := hB e101 s102 p; ?_)) rfl ⟨rfl, rfl, rfl, rfl, rfl, trivial⟩
        refine wp_inc (v := (x4 + (8 : Int32))) (ls' := [(0, .ref 2000000), (1, .ref 0), (2, .ref 55), (3, .ref 71), (4, .int (x4 + (8 : Int32)))]) dL_law__3100 rfl (Nat.le_of_ble_eq_true rfl) rfl rfl ?_
        refine wp_goto dL_law__3103 rfl ?_
        exact wp_sub (ih h k hP hX) rfl ⟨rfl, rfl, rfl, rfl, rfl, trivial⟩
      replace k := ok_neg c89 k
      by_cases c103 : ((am_I s 2000000 x4.toNatClampNeg) &&& (63 : Int32)) = (7 : Int32)
      · have k := ok_pos c103 k
        refine sw_hit dL_law__40 rfl c103 rfl ?_
        refine lp_l k (fun P1 k hA hB => ?_)
        refine wp_sub (q_L_law__590 h k (fun o s p h => hP o s (hA o s p) h) (fun e117 s118 p h => have k := hB e117 s118 p; ?_)) rfl ⟨rfl, rfl, rfl, rfl, rfl, trivial⟩
        refine wp_inc (v := (x4 + (8 : Int32))) (ls' := [(0, .ref 2000000), (1, .ref 0), (2, .ref 55), (3, .ref 71), (4, .int (x4 + (8 : Int32)))]) dL_law__3100 rfl (Nat.le_of_ble_eq_true rfl) rfl rfl ?_
        refine wp_goto dL_law__3103 rfl ?_
        exact wp_sub (ih h k hP hX) rfl ⟨rfl, rfl, rfl, rfl, rfl, trivial⟩
      replace k := ok_neg c103 k
      by_cases c119 : ((am_I s 2000000 x4.toNatClampNeg) &&& (63 : Int32)) = (8 : Int32)
      · have k := ok_pos c119 k
        refine sw_hit dL_law__40 rfl c119 rfl ?_
        refine lp_l k (fun P1 k hA hB => ?_)
        refine wp_sub (q_L_law__658 h k (fun o s p h => hP o s (hA o s p) h) (fun e135 s136 p h => have k := hB e135 s136 p; ?_)) rfl ⟨rfl, rfl, rfl, rfl, rfl, trivial⟩
        refine wp_inc (v := (x4 + (8 : Int32))) (ls' := [(0, .ref 2000000), (1, .ref 0), (2, .ref 55), (3, .ref 71), (4, .int (x4 + (8 : Int32)))]) dL_law__3100 rfl (Nat.le_of_ble_eq_true rfl) rfl rfl ?_
        refine wp_goto dL_law__3103 rfl ?_
        exact wp_sub (ih h k hP hX) rfl ⟨rfl, rfl, rfl, rfl, rfl, trivial⟩
      replace k := ok_neg c119 k
      by_cases c137 : ((am_I s 2000000 x4.toNatClampNeg) &&& (63 : Int32)) = (9 : Int32)
      · have k := ok_pos c137 k
        refine sw_hit dL_law__40 rfl c137 rfl ?_
        refine lp_l k (fun P1 k hA hB => ?_)
        refine wp_sub (q_L_law__738 h k (fun o s p h => hP o s (hA o s p) h) (fun e157 s158 p h => have k := hB e157 s158 p; ?_)) rfl ⟨rfl, rfl, rfl, rfl, rfl, trivial⟩
        refine wp_inc (v := (x4 + (8 : Int32))) (ls' := [(0, .ref 2000000), (1, .ref 0), (2, .ref 55), (3, .ref 71), (4, .int (x4 + (8 : Int32)))]) dL_law__3100 rfl (Nat.le_of_ble_eq_true rfl) rfl rfl ?_
        refine wp_goto dL_law__3103 rfl ?_
        exact wp_sub (ih h k hP hX) rfl ⟨rfl, rfl, rfl, rfl, rfl, trivial⟩
      replace k := ok_neg c137 k
      by_cases c159 : ((am_I s 2000000 x4.toNatClampNeg) &&& (63 : Int32)) = (10 : Int32)
      · have k := ok_pos c159 k
        refine sw_hit dL_law__40 rfl c159 rfl ?_
        refine lp_l k (fun P1 k hA hB => ?_)
        refine wp_sub (q_L_law__842 h k (fun o s p h => hP o s (hA o s p) h) (fun e181 s182 p h => have k := hB e181 s182 p; ?_)) rfl ⟨rfl, rfl, rfl, rfl, rfl, trivial⟩
        refine wp_inc (v := (x4 + (8 : Int32))) (ls' := [(0, .ref 2000000), (1, .ref 0), (2, .ref 55), (3, .ref 71), (4, .int (x4 + (8 : Int32)))]) dL_law__3100 rfl (Nat.le_of_ble_eq_true rfl) rfl rfl ?_
        refine wp_goto dL_law__3103 rfl ?_
        exact wp_sub (ih h k hP hX) rfl ⟨rfl, rfl, rfl, rfl, rfl, trivial⟩
      replace k := ok_neg c159 k
      by_cases c183 : ((am_I s 2000000 x4.toNatClampNeg) &&& (63 : Int32)) = (11 : Int32)
      · have k := ok_pos c183 k
        refine sw_hit dL_law__40 rfl c183 rfl ?_
        refine lp_l k (fun P1 k hA hB => ?_)
        refine wp_sub (q_L_law__960 h k (fun o s p h => hP o s (hA o s p) h) (fun e199 s200 p h => have k := hB e199 s200 p; ?_)) rfl ⟨rfl, rfl, rfl, rfl, rfl, trivial⟩
        refine wp_inc (v := (x4 + (8 : Int32))) (ls' := [(0, .ref 2000000), (1, .ref 0), (2, .ref 55), (3, .ref 71), (4, .int (x4 + (8 : Int32)))]) dL_law__3100 rfl (Nat.le_of_ble_eq_true rfl) rfl rfl ?_
        refine wp_goto dL_law__3103 rfl ?_
        exact wp_sub (ih h k hP hX) rfl ⟨rfl, rfl, rfl, rfl, rfl, trivial⟩
      replace k := ok_neg c183 k
      by_cases c201 : ((am_I s 2000000 x4.toNatClampNeg) &&& (63 : Int32)) = (12 : Int32)
      · have k := ok_pos c201 k
        refine sw_hit dL_law__40 rfl c201 rfl ?_
        refine lp_l k (fun P1 k hA hB => ?_)
        refine wp_sub (q_L_law__1040 h k (fun o s p h => hP o s (hA o s p) h) (fun e215 s216 p h => have k := hB e215 s216 p; ?_)) rfl ⟨rfl, rfl, rfl, rfl, rfl, trivial⟩
        refine wp_inc (v := (x4 + (8 : Int32))) (ls' := [(0, .ref 2000000), (1, .ref 0), (2, .ref 55), (3, .ref 71), (4, .int (x4 + (8 : Int32)))]) dL_law__3100 rfl (Nat.le_of_ble_eq_true rfl) rfl rfl ?_
        refine wp_goto dL_law__3103 rfl ?_
        exact wp_sub (ih h k hP hX) rfl ⟨rfl, rfl, rfl, rfl, rfl, trivial⟩
      replace k := ok_neg c201 k
      by_cases c217 : ((am_I s 2000000 x4.toNatClampNeg) &&& (63 : Int32)) = (13 : Int32)
      · have k := ok_pos c217 k
        refine sw_hit dL_law__40 rfl c217 rfl ?_
        refine lp_l k (fun P1 k hA hB => ?_)
        refine wp_sub (q_L_law__1108 h k (fun o s p h => hP o s (hA o s p) h) (fun e223 s224 p h => have k := hB e223 s224 p; ?_)) rfl ⟨rfl, rfl, rfl, rfl, rfl, trivial⟩
        refine wp_inc (v := (x4 + (8 : Int32))) (ls' := [(0, .ref 2000000), (1, .ref 0), (2, .ref 55), (3, .ref 71), (4, .int (x4 + (8 : Int32)))]) dL_law__3100 rfl (Nat.le_of_ble_eq_true rfl) rfl rfl ?_
        refine wp_goto dL_law__3103 rfl ?_
        exact wp_sub (ih h k hP hX) rfl ⟨rfl, rfl, rfl, rfl, rfl, trivial⟩
      replace k := ok_neg c217 k
      by_cases c225 : ((am_I s 2000000 x4.toNatClampNeg) &&& (63 : Int32)) = (14 : Int32)
      · have k := ok_pos c225 k
        refine sw_hit dL_law__40 rfl c225 rfl ?_
        refine lp_l k (fun P1 k hA hB => ?_)
        refine wp_sub (q_L_law__1121 h k (fun o s p h => hP o s (hA o s p) h) (fun e237 s238 p h => have k := hB e237 s238 p; ?_)) rfl ⟨rfl, rfl, rfl, rfl, rfl, trivial⟩
        refine wp_inc (v := (x4 + (8 : Int32))) (ls' := [(0, .ref 2000000), (1, .ref 0), (2, .ref 55), (3, .ref 71), (4, .int (x4 + (8 : Int32)))]) dL_law__3100 rfl (Nat.le_of_ble_eq_true rfl) rfl rfl ?_
        refine wp_goto dL_law__3103 rfl ?_
        exact wp_sub (ih h k hP hX) rfl ⟨rfl, rfl, rfl, rfl, rfl, trivial⟩
      replace k := ok_neg c225 k
      by_cases c239 : ((am_I s 2000000 x4.toNatClampNeg) &&& (63 : Int32)) = (15 : Int32)
      · have k := ok_pos c239 k
        refine sw_hit dL_law__40 rfl c239 rfl ?_
        refine lp_l k (fun P1 k hA hB => ?_)
        refine wp_sub (q_L_law__1177 h k (fun o s p h => hP o s (hA o s p) h) (fun e265 s266 p h => have k := hB e265 s266 p; ?_)) rfl ⟨rfl, rfl, rfl, rfl, rfl, trivial⟩
        refine wp_inc (v := (x4 + (8 : Int32))) (ls' := [(0, .ref 2000000), (1, .ref 0), (2, .ref 55), (3, .ref 71), (4, .int (x4 + (8 : Int32)))]) dL_law__3100 rfl (Nat.le_of_ble_eq_true rfl) rfl rfl ?_
        refine wp_goto dL_law__3103 rfl ?_
        exact wp_sub (ih h k hP hX) rfl ⟨rfl, rfl, rfl, rfl, rfl, trivial⟩
      replace k := ok_neg c239 k
      by_cases c267 : ((am_I s 2000000 x4.toNatClampNeg) &&& (63 : Int32)) = (16 : Int32)
      · have k := ok_pos c267 k
        refine sw_hit dL_law__40 rfl c267 rfl ?_
        refine lp_l k (fun P1 k hA hB => ?_)
        refine wp_sub (q_L_law__1285 h k (fun o s p h => hP o s (hA o s p) h) (fun e283 s284 p h => have k := hB e283 s284 p; ?_)) rfl ⟨rfl, rfl, rfl, rfl, rfl, trivial⟩
        refine wp_inc (v := (x4 + (8 : Int32))) (ls' := [(0, .ref 2000000), (1, .ref 0), (2, .ref 55), (3, .ref 71), (4, .int (x4 + (8 : Int32)))]) dL_law__3100 rfl (Nat.le_of_ble_eq_true rfl) rfl rfl ?_
        refine wp_goto dL_law__3103 rfl ?_
        exact wp_sub (ih h k hP hX) rfl ⟨rfl, rfl, rfl, rfl, rfl, trivial⟩
      replace k := ok_neg c267 k
      by_cases c285 : ((am_I s 2000000 x4.toNatClampNeg) &&& (63 : Int32)) = (17 : Int32)
      · have k := ok_pos c285 k
        refine sw_hit dL_law__40 rfl c285 rfl ?_
        refine lp_l k (fun P1 k hA hB => ?_)
        refine wp_sub (q_L_law__1365 h k (fun o s p h => hP o s (hA o s p) h) (fun e299 s300 p h => have k := hB e299 s300 p; ?_)) rfl ⟨rfl, rfl, rfl, rfl, rfl, trivial⟩
        refine wp_inc (v := (x4 + (8 : Int32))) (ls' := [(0, .ref 2000000), (1, .ref 0), (2, .ref 55), (3, .ref 71), (4, .int (x4 + (8 : Int32)))]) dL_law__3100 rfl (Nat.le_of_ble_eq_true rfl) rfl rfl ?_
        refine wp_goto dL_law__3103 rfl ?_
        exact wp_sub (ih h k hP hX) rfl ⟨rfl, rfl, rfl, rfl, rfl, trivial⟩
      replace k := ok_neg c285 k
      by_cases c301 : ((am_I s 2000000 x4.toNatClampNeg) &&& (63 : Int32)) = (18 : Int32)
      · have k := ok_pos c301 k
        refine sw_hit dL_law__40 rfl c301 rfl ?_
        refine lp_l k (fun P1 k hA hB => ?_)
        refine wp_sub (q_L_law__1433 h k (fun o s p h => hP o s (hA o s p) h) (fun e307 s308 p h => have k := hB e307 s308 p; ?_)) rfl ⟨rfl, rfl, rfl, rfl, rfl, trivial⟩
        refine wp_inc (v := (x4 + (8 : Int32))) (ls' := [(0, .ref 2000000), (1, .ref 0), (2, .ref 55), (3, .ref 71), (4, .int (x4 + (8 : Int32)))]) dL_law__3100 rfl (Nat.le_of_ble_eq_true rfl) rfl rfl ?_
        refine wp_goto dL_law__3103 rfl ?_
        exact wp_sub (ih h k hP hX) rfl ⟨rfl, rfl, rfl, rfl, rfl, trivial⟩
      replace k := ok_neg c301 k
      by_cases c309 : ((am_I s 2000000 x4.toNatClampNeg) &&& (63 : Int32)) = (19 : Int32)
      · have k := ok_pos c309 k
        refine sw_hit dL_law__40 rfl c309 rfl ?_
        refine lp_l k (fun P1 k hA hB => ?_)
        refine wp_sub (q_L_law__1446 h k (fun o s p h => hP o s (hA o s p) h) (fun e327 s328 p h => have k := hB e327 s328 p; ?_)) rfl ⟨rfl, rfl, rfl, rfl, rfl, trivial⟩
        refine wp_inc (v := (x4 + (8 : Int32))) (ls' := [(0, .ref 2000000), (1, .ref 0), (2, .ref 55), (3, .ref 71), (4, .int (x4 + (8 : Int32)))]) dL_law__3100 rfl (Nat.le_of_ble_eq_true rfl) rfl rfl ?_
        refine wp_goto dL_law__3103 rfl ?_
        exact wp_sub (ih h k hP hX) rfl ⟨rfl, rfl, rfl, rfl, rfl, trivial⟩
      replace k := ok_neg c309 k
      by_cases c329 : ((am_I s 2000000 x4.toNatClampNeg) &&& (63 : Int32)) = (20 : Int32)
      · have k := ok_pos c329 k
        refine sw_hit dL_law__40 rfl c329 rfl ?_
        refine lp_l k (fun P1 k hA hB => ?_)
        refine wp_sub (q_L_law__1538 h k (fun o s p h => hP o s (hA o s p) h) (fun e355 s356 p h => have k := hB e355 s356 p; ?_)) rfl ⟨rfl, rfl, rfl, rfl, rfl, trivial⟩
        refine wp_inc (v := (x4 + (8 : Int32))) (ls' := [(0, .ref 2000000), (1, .ref 0), (2, .ref 55), (3, .ref 71), (4, .int (x4 + (8 : Int32)))]) dL_law__3100 rfl (Nat.le_of_ble_eq_true rfl) rfl rfl ?_
        refine wp_goto dL_law__3103 rfl ?_
        exact wp_sub (ih h k hP hX) rfl ⟨rfl, rfl, rfl, rfl, rfl, trivial⟩
      replace k := ok_neg c329 k
      by_cases c357 : ((am_I s 2000000 x4.toNatClampNeg) &&& (63 : Int32)) = (21 : Int32)
      · have k := ok_pos c357 k
        refine sw_hit dL_law__40 rfl c357 rfl ?_
        refine lp_l k (fun P1 k hA hB => ?_)
        refine wp_sub (q_L_law__1645 h k (fun o s p h => hP o s (hA o s p) h) (fun e381 s382 p h => have k := hB e381 s382 p; ?_)) rfl ⟨rfl, rfl, rfl, rfl, rfl, trivial⟩
        refine wp_inc (v := (x4 + (8 : Int32))) (ls' := [(0, .ref 2000000), (1, .ref 0), (2, .ref 55), (3, .ref 71), (4, .int (x4 + (8 : Int32)))]) dL_law__3100 rfl (Nat.le_of_ble_eq_true rfl) rfl rfl ?_
        refine wp_goto dL_law__3103 rfl ?_
        exact wp_sub (ih h k hP hX) rfl ⟨rfl, rfl, rfl, rfl, rfl, trivial⟩
      replace k := ok_neg c357 k
      by_cases c383 : ((am_I s 2000000 x4.toNatClampNeg) &&& (63 : Int32)) = (22 : Int32)
      · have k := ok_pos c383 k
        refine sw_hit dL_law__40 rfl c383 rfl ?_
        refine lp_l k (fun P1 k hA hB => ?_)
        refine wp_sub (q_L_law__1741 h k (fun o s p h => hP o s (hA o s p) h) (fun e405 s406 p h => have k := hB e405 s406 p; ?_)) rfl ⟨rfl, rfl, rfl, rfl, rfl, trivial⟩
        refine wp_inc (v := (x4 + (8 : Int32))) (ls' := [(0, .ref 2000000), (1, .ref 0), (2, .ref 55), (3, .ref 71), (4, .int (x4 + (8 : Int32)))]) dL_law__3100 rfl (Nat.le_of_ble_eq_true rfl) rfl rfl ?_
        refine wp_goto dL_law__3103 rfl ?_
        exact wp_sub (ih h k hP hX) rfl ⟨rfl, rfl, rfl, rfl, rfl, trivial⟩
      replace k := ok_neg c383 k
      by_cases c407 : ((am_I s 2000000 x4.toNatClampNeg) &&& (63 : Int32)) = (23 : Int32)
      · have k := ok_pos c407 k
        refine sw_hit dL_law__40 rfl c407 rfl ?_
        refine lp_l k (fun P1 k hA hB => ?_)
        refine wp_sub (q_L_law__1825 h k (fun o s p h => hP o s (hA o s p) h) (fun e435 s436 p h => have k := hB e435 s436 p; ?_)) rfl ⟨rfl, rfl, rfl, rfl, rfl, trivial⟩
        refine wp_inc (v := (x4 + (8 : Int32))) (ls' := [(0, .ref 2000000), (1, .ref 0), (2, .ref 55), (3, .ref 71), (4, .int (x4 + (8 : Int32)))]) dL_law__3100 rfl (Nat.le_of_ble_eq_true rfl) rfl rfl ?_
        refine wp_goto dL_law__3103 rfl ?_
        exact wp_sub (ih h k hP hX) rfl ⟨rfl, rfl, rfl, rfl, rfl, trivial⟩
      replace k := ok_neg c407 k
      by_cases c437 : ((am_I s 2000000 x4.toNatClampNeg) &&& (63 : Int32)) = (24 : Int32)
      · have k := ok_pos c437 k
        refine sw_hit dL_law__40 rfl c437 rfl ?_
        refine lp_l k (fun P1 k hA hB => ?_)
        refine wp_sub (q_L_law__1944 h k (fun o s p h => hP o s (hA o s p) h) (fun e463 s464 p h => have k := hB e463 s464 p; ?_)) rfl ⟨rfl, rfl, rfl, rfl, rfl, trivial⟩
        refine wp_inc (v := (x4 + (8 : Int32))) (ls' := [(0, .ref 2000000), (1, .ref 0), (2, .ref 55), (3, .ref 71), (4, .int (x4 + (8 : Int32)))]) dL_law__3100 rfl (Nat.le_of_ble_eq_true rfl) rfl rfl ?_
        refine wp_goto dL_law__3103 rfl ?_
        exact wp_sub (ih h k hP hX) rfl ⟨rfl, rfl, rfl, rfl, rfl, trivial⟩
      replace k := ok_neg c437 k
      by_cases c465 : ((am_I s 2000000 x4.toNatClampNeg) &&& (63 : Int32)) = (25 : Int32)
      · have k := ok_pos c465 k
        refine sw_hit dL_law__40 rfl c465 rfl ?_
        refine lp_l k (fun P1 k hA hB => ?_)
        refine wp_sub (q_L_law__2052 h k (fun o s p h => hP o s (hA o s p) h) (fun e493 s494 p h => have k := hB e493 s494 p; ?_)) rfl ⟨rfl, rfl, rfl, rfl, rfl, trivial⟩
        refine wp_inc (v := (x4 + (8 : Int32))) (ls' := [(0, .ref 2000000), (1, .ref 0), (2, .ref 55), (3, .ref 71), (4, .int (x4 + (8 : Int32)))]) dL_law__3100 rfl (Nat.le_of_ble_eq_true rfl) rfl rfl ?_
        refine wp_goto dL_law__3103 rfl ?_
        exact wp_sub (ih h k hP hX) rfl ⟨rfl, rfl, rfl, rfl, rfl, trivial⟩
      replace k := ok_neg c465 k
      by_cases c495 : ((am_I s 2000000 x4.toNatClampNeg) &&& (63 : Int32)) = (26 : Int32)
      · have k := ok_pos c495 k
        refine sw_hit dL_law__40 rfl c495 rfl ?_
        refine lp_l k (fun P1 k hA hB => ?_)
        refine wp_sub (q_L_law__2191 h k (fun o s p h => hP o s (hA o s p) h) (fun e519 s520 p h => have k := hB e519 s520 p; ?_)) rfl ⟨rfl, rfl, rfl, rfl, rfl, trivial⟩
        refine wp_inc (v := (x4 + (8 : Int32))) (ls' := [(0, .ref 2000000), (1, .ref 0), (2, .ref 55), (3, .ref 71), (4, .int (x4 + (8 : Int32)))]) dL_law__3100 rfl (Nat.le_of_ble_eq_true rfl) rfl rfl ?_
        refine wp_goto dL_law__3103 rfl ?_
        exact wp_sub (ih h k hP hX) rfl ⟨rfl, rfl, rfl, rfl, rfl, trivial⟩
      replace k := ok_neg c495 k
      by_cases c521 : ((am_I s 2000000 x4.toNatClampNeg) &&& (63 : Int32)) = (27 : Int32)
      · have k := ok_pos c521 k
        refine sw_hit dL_law__40 rfl c521 rfl ?_
        refine lp_l k (fun P1 k hA hB => ?_)
        refine wp_sub (q_L_law__2322 h k (fun o s p h => hP o s (hA o s p) h) (fun e537 s538 p h => have k := hB e537 s538 p; ?_)) rfl ⟨rfl, rfl, rfl, rfl, rfl, trivial⟩
        refine wp_inc (v := (x4 + (8 : Int32))) (ls' := [(0, .ref 2000000), (1, .ref 0), (2, .ref 55), (3, .ref 71), (4, .int (x4 + (8 : Int32)))]) dL_law__3100 rfl (Nat.le_of_ble_eq_true rfl) rfl rfl ?_
        refine wp_goto dL_law__3103 rfl ?_
        exact wp_sub (ih h k hP hX) rfl ⟨rfl, rfl, rfl, rfl, rfl, trivial⟩
      replace k := ok_neg c521 k
      by_cases c539 : ((am_I s 2000000 x4.toNatClampNeg) &&& (63 : Int32)) = (28 : Int32)
      · have k := ok_pos c539 k
        refine sw_hit dL_law__40 rfl c539 rfl ?_
        refine lp_l k (fun P1 k hA hB => ?_)
        refine wp_sub (q_L_law__2402 h k (fun o s p h => hP o s (hA o s p) h) (fun e551 s552 p h => have k := hB e551 s552 p; ?_)) rfl ⟨rfl, rfl, rfl, rfl, rfl, trivial⟩
        refine wp_inc (v := (x4 + (8 : Int32))) (ls' := [(0, .ref 2000000), (1, .ref 0), (2, .ref 55), (3, .ref 71), (4, .int (x4 + (8 : Int32)))]) dL_law__3100 rfl (Nat.le_of_ble_eq_true rfl) rfl rfl ?_
        refine wp_goto dL_law__3103 rfl ?_
        exact wp_sub (ih h k hP hX) rfl ⟨rfl, rfl, rfl, rfl, rfl, trivial⟩
      replace k := ok_neg c539 k
      by_cases c553 : ((am_I s 2000000 x4.toNatClampNeg) &&& (63 : Int32)) = (29 : Int32)
      · have k := ok_pos c553 k
        refine sw_hit dL_law__40 rfl c553 rfl ?_
        refine lp_l k (fun P1 k hA hB => ?_)
        refine wp_sub (q_L_law__2457 h k (fun o s p h => hP o s (hA o s p) h) (fun e583 s584 p h => have k := hB e583 s584 p; ?_)) rfl ⟨rfl, rfl, rfl, rfl, rfl, trivial⟩
        refine wp_inc (v := (x4 + (8 : Int32))) (ls' := [(0, .ref 2000000), (1, .ref 0), (2, .ref 55), (3, .ref 71), (4, .int (x4 + (8 : Int32)))]) dL_law__3100 rfl (Nat.le_of_ble_eq_true rfl) rfl rfl ?_
        refine wp_goto dL_law__3103 rfl ?_
        exact wp_sub (ih h k hP hX) rfl ⟨rfl, rfl, rfl, rfl, rfl, trivial⟩
      replace k := ok_neg c553 k
      by_cases c585 : ((am_I s 2000000 x4.toNatClampNeg) &&& (63 : Int32)) = (30 : Int32)
      · have k := ok_pos c585 k
        refine sw_hit dL_law__40 rfl c585 rfl ?_
        refine lp_l k (fun P1 k hA hB => ?_)
        refine wp_sub (q_L_law__2611 h k (fun o s p h => hP o s (hA o s p) h) (fun e605 s606 p h => have k := hB e605 s606 p; ?_)) rfl ⟨rfl, rfl, rfl, rfl, rfl, trivial⟩
        refine wp_inc (v := (x4 + (8 : Int32))) (ls' := [(0, .ref 2000000), (1, .ref 0), (2, .ref 55), (3, .ref 71), (4, .int (x4 + (8 : Int32)))]) dL_law__3100 rfl (Nat.le_of_ble_eq_true rfl) rfl rfl ?_
        refine wp_goto dL_law__3103 rfl ?_
        exact wp_sub (ih h k hP hX) rfl ⟨rfl, rfl, rfl, rfl, rfl, trivial⟩
      replace k := ok_neg c585 k
      by_cases c607 : ((am_I s 2000000 x4.toNatClampNeg) &&& (63 : Int32)) = (31 : Int32)
      · have k := ok_pos c607 k
        refine sw_hit dL_law__40 rfl c607 rfl ?_
        refine lp_l k (fun P1 k hA hB => ?_)
        refine wp_sub (q_L_law__2715 h k (fun o s p h => hP o s (hA o s p) h) (fun e619 s620 p h => have k := hB e619 s620 p; ?_)) rfl ⟨rfl, rfl, rfl, rfl, rfl, trivial⟩
        refine wp_inc (v := (x4 + (8 : Int32))) (ls' := [(0, .ref 2000000), (1, .ref 0), (2, .ref 55), (3, .ref 71), (4, .int (x4 + (8 : Int32)))]) dL_law__3100 rfl (Nat.le_of_ble_eq_true rfl) rfl rfl ?_
        refine wp_goto dL_law__3103 rfl ?_
        exact wp_sub (ih h k hP hX) rfl ⟨rfl, rfl, rfl, rfl, rfl, trivial⟩
      replace k := ok_neg c607 k
      by_cases c621 : ((am_I s 2000000 x4.toNatClampNeg) &&& (63 : Int32)) = (32 : Int32)
      · have k := ok_pos c621 k
        refine sw_hit dL_law__40 rfl c621 rfl ?_
        refine lp_l k (fun P1 k hA hB => ?_)
        refine wp_sub (q_L_law__2764 h k (fun o s p h => hP o s (hA o s p) h) (fun e635 s636 p h => have k := hB e635 s636 p; ?_)) rfl ⟨rfl, rfl, rfl, rfl, rfl, trivial⟩
        refine wp_inc (v := (x4 + (8 : Int32))) (ls' := [(0, .ref 2000000), (1, .ref 0), (2, .ref 55), (3, .ref 71), (4, .int (x4 + (8 : Int32)))]) dL_law__3100 rfl (Nat.le_of_ble_eq_true rfl) rfl rfl ?_
        refine wp_goto dL_law__3103 rfl ?_
        exact wp_sub (ih h k hP hX) rfl ⟨rfl, rfl, rfl, rfl, rfl, trivial⟩
      replace k := ok_neg c621 k
      by_cases c637 : ((am_I s 2000000 x4.toNatClampNeg) &&& (63 : Int32)) = (33 : Int32)
      · have k := ok_pos c637 k
        refine sw_hit dL_law__40 rfl c637 rfl ?_
        refine lp_l k (fun P1 k hA hB => ?_)
        refine wp_sub (q_L_law__2824 h k (fun o s p h => hP o s (hA o s p) h) (fun e655 s656 p h => have k := hB e655 s656 p; ?_)) rfl ⟨rfl, rfl, rfl, rfl, rfl, trivial⟩
        refine wp_inc (v := (x4 + (8 : Int32))) (ls' := [(0, .ref 2000000), (1, .ref 0), (2, .ref 55), (3, .ref 71), (4, .int (x4 + (8 : Int32)))]) dL_law__3100 rfl (Nat.le_of_ble_eq_true rfl) rfl rfl ?_
        refine wp_goto dL_law__3103 rfl ?_
        exact wp_sub (ih h k hP hX) rfl ⟨rfl, rfl, rfl, rfl, rfl, trivial⟩
      replace k := ok_neg c637 k
      by_cases c657 : ((am_I s 2000000 x4.toNatClampNeg) &&& (63 : Int32)) = (34 : Int32)
      · have k := ok_pos c657 k
        refine sw_hit dL_law__40 rfl c657 rfl ?_
        refine lp_l k (fun P1 k hA hB => ?_)
        refine wp_sub (q_L_law__2935 h k (fun o s p h => hP o s (hA o s p) h) (fun e671 s672 p h => have k := hB e671 s672 p; ?_)) rfl ⟨rfl, rfl, rfl, rfl, rfl, trivial⟩
        refine wp_inc (v := (x4 + (8 : Int32))) (ls' := [(0, .ref 2000000), (1, .ref 0), (2, .ref 55), (3, .ref 71), (4, .int (x4 + (8 : Int32)))]) dL_law__3100 rfl (Nat.le_of_ble_eq_true rfl) rfl rfl ?_
        refine wp_goto dL_law__3103 rfl ?_
        exact wp_sub (ih h k hP hX) rfl ⟨rfl, rfl, rfl, rfl, rfl, trivial⟩
      replace k := ok_neg c657 k
      by_cases c673 : ((am_I s 2000000 x4.toNatClampNeg) &&& (63 : Int32)) = (35 : Int32)
      · have k := ok_pos c673 k
        refine sw_hit dL_law__40 rfl c673 rfl ?_
        refine lp_l k (fun P1 k hA hB => ?_)
        refine wp_sub (q_L_law__3003 h k (fun o s p h => hP o s (hA o s p) h) (fun e683 s684 p h => have k := hB e683 s684 p; ?_)) rfl ⟨rfl, rfl, rfl, rfl, rfl, trivial⟩
        refine wp_inc (v := (x4 + (8 : Int32))) (ls' := [(0, .ref 2000000), (1, .ref 0), (2, .ref 55), (3, .ref 71), (4, .int (x4 + (8 : Int32)))]) dL_law__3100 rfl (Nat.le_of_ble_eq_true rfl) rfl rfl ?_
        refine wp_goto dL_law__3103 rfl ?_
        exact wp_sub (ih h k hP hX) rfl ⟨rfl, rfl, rfl, rfl, rfl, trivial⟩
      replace k := ok_neg c673 k
      by_cases c685 : ((am_I s 2000000 x4.toNatClampNeg) &&& (63 : Int32)) = (36 : Int32)
      · have k := ok_pos c685 k
        refine sw_hit dL_law__40 rfl c685 rfl ?_
        refine lp_l k (fun P1 k hA hB => ?_)
        refine wp_sub (q_L_law__3039 h k (fun o s p h => hP o s (hA o s p) h) (fun e695 s696 p h => have k := hB e695 s696 p; ?_)) rfl ⟨rfl, rfl, rfl, rfl, rfl, trivial⟩
        refine wp_inc (v := (x4 + (8 : Int32))) (ls' := [(0, .ref 2000000), (1, .ref 0), (2, .ref 55), (3, .ref 71), (4, .int (x4 + (8 : Int32)))]) dL_law__3100 rfl (Nat.le_of_ble_eq_true rfl) rfl rfl ?_
        refine wp_goto dL_law__3103 rfl ?_
        exact wp_sub (ih h k hP hX) rfl ⟨rfl, rfl, rfl, rfl, rfl, trivial⟩
      replace k := ok_neg c685 k
      by_cases c697 : ((am_I s 2000000 x4.toNatClampNeg) &&& (63 : Int32)) = (37 : Int32)
      · have k := ok_pos c697 k
        refine sw_hit dL_law__40 rfl c697 rfl ?_
        refine lp_l k (fun P1 k hA hB => ?_)
        refine wp_sub (q_L_law__3075 h k (fun o s p h => hP o s (hA o s p) h) (fun e705 s706 p h => have k := hB e705 s706 p; ?_)) rfl ⟨rfl, rfl, rfl, rfl, rfl, trivial⟩
        refine wp_inc (v := (x4 + (8 : Int32))) (ls' := [(0, .ref 2000000), (1, .ref 0), (2, .ref 55), (3, .ref 71), (4, .int (x4 + (8 : Int32)))]) dL_law__3100 rfl (Nat.le_of_ble_eq_true rfl) rfl rfl ?_
        refine wp_goto dL_law__3103 rfl ?_
        exact wp_sub (ih h k hP hX) rfl ⟨rfl, rfl, rfl, rfl, rfl, trivial⟩
      replace k := ok_neg c697 k
      refine ts_out dL_law__40 rfl (by
          intro j h1 h2
          have hj : j = 0 ∨ j = 1 ∨ j = 2 ∨ j = 3 ∨ j = 4 ∨ j = 5 ∨ j = 6 ∨ j = 7 ∨ j = 8 ∨ j = 9 ∨ j = 10 ∨ j = 11 ∨ j = 12 ∨ j = 13 ∨ j = 14 ∨ j = 15 ∨ j = 16 ∨ j = 17 ∨ j = 18 ∨ j = 19 ∨ j = 20 ∨ j = 21 ∨ j = 22 ∨ j = 23 ∨ j = 24 ∨ j = 25 ∨ j = 26 ∨ j = 27 ∨ j = 28 ∨ j = 29 ∨ j = 30 ∨ j = 31 ∨ j = 32 ∨ j = 33 ∨ j = 34 ∨ j = 35 ∨ j = 36 ∨ j = 37 := by omega
          rcases hj with e | e | e | e | e | e | e | e | e | e | e | e | e | e | e | e | e | e | e | e | e | e | e | e | e | e | e | e | e | e | e | e | e | e | e | e | e | e
          · subst e; exact c3
          · subst e; exact c17
          · subst e; exact c35
          · subst e; exact c49
          · subst e; exact c63
          · subst e; exact c73
          · subst e; exact c89
          · subst e; exact c103
          · subst e; exact c119
          · subst e; exact c137
          · subst e; exact c159
          · subst e; exact c183
          · subst e; exact c201
          · subst e; exact c217
          · subst e; exact c225
          · subst e; exact c239
          · subst e; exact c267
          · subst e; exact c285
          · subst e; exact c301
          · subst e; exact c309
          · subst e; exact c329
          · subst e; exact c357
          · subst e; exact c383
          · subst e; exact c407
          · subst e; exact c437
          · subst e; exact c465
          · subst e; exact c495
          · subst e; exact c521
          · subst e; exact c539
          · subst e; exact c553
          · subst e; exact c585
          · subst e; exact c607
          · subst e; exact c621
          · subst e; exact c637
          · subst e; exact c657
          · subst e; exact c673
          · subst e; exact c685
          · subst e; exact c697
          ) ?_
      refine wp_inc (v := (x4 + (8 : Int32))) (ls' := [(0, .ref 2000000), (1, .ref 0), (2, .ref 55), (3, .ref 71), (4, .int (x4 + (8 : Int32)))]) dL_law__3100 rfl (Nat.le_of_ble_eq_true rfl) rfl rfl ?_
      refine wp_goto dL_law__3103 rfl ?_
      exact wp_sub (ih h k hP hX) rfl ⟨rfl, rfl, rfl, rfl, rfl, trivial⟩
