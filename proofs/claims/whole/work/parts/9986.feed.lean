/-! ===== bytes fed to the tape ===== -/
section FEED
variable {s s1 t t1 : am_S} {A B : List Nat} {T T' : hT} {X X' : hX} {x y z x1 x2 x3 x4 x5 : Int32} {n : Nat}
def tp1 (n : Nat) (v : Int32) (s : am_S) : am_S := am_sI (am_sI s 35 n v) 34 1 (oN (n + 1))
def tq1 (n : Nat) (v : Int32) (s : am_S) : am_S := am_sI (am_sI s 59 n v) 55 7 (oN (n + 1))
def tpL : Nat → List Int32 → am_S → am_S
  | _, [], s => s
  | n, v :: l, s => tpL (n + 1) l (tp1 n v s)
def tqL : Nat → List Int32 → am_S → am_S
  | _, [], s => s
  | n, v :: l, s => tqL (n + 1) l (tq1 n v s)
theorem tpL_is : ∀ (l : List Int32) (n : Nat) (s : am_S), am_I s 34 1 = oN n → fr [34, 35] s (tpL n l s) ∧ am_I (tpL n l s) 34 1 = oN (n + l.length) ∧ (∀ k, k ≠ 1 → am_I (tpL n l s) 34 k = am_I s 34 k) ∧ (∀ k, k < n → am_I (tpL n l s) 35 k = am_I s 35 k) ∧ ∀ i v, l[i]? = some v → am_I (tpL n l s) 35 (n + i) = v
  | [], n, s, h => ⟨fr.refl, h, fun _ _ => rfl, fun _ _ => rfl, fun i v hv => by cases hv⟩
  | v :: l, n, s, h => by
    obtain ⟨a1, a2, a3, a4, a5⟩ := tpL_is l (n + 1) (tp1 n v s) (by unfold tp1; rw [I_sI, if_pos ⟨rfl, rfl⟩])
    refine ⟨fr.trans ((fr.refl.sI (by simp)).sI (by simp)) a1, ?_, ?_, ?_, ?_⟩
    · rw [tpL, a2, List.length_cons]; congr 1; omega
    · intro k hk
      rw [tpL, a3 k hk]; unfold tp1; rw [I_sI, if_neg (by omega), I_ne (by decide)]
    · intro k hk
      rw [tpL, a4 k (by omega)]; unfold tp1; rw [I_ne (by decide), I_sI, if_neg (by omega)]
    · intro i w hw
      cases i with
      | zero =>
        cases hw
        show am_I (tpL (n + 1) l (tp1 n v s)) 35 n = v
        rw [a4 n (by omega)]; unfold tp1; rw [I_ne (by decide), I_sI, if_pos ⟨rfl, rfl⟩]
      | succ i =>
        rw [tpL, show n + (i + 1) = n + 1 + i by omega]
        exact a5 i w hw
theorem tqL_is : ∀ (l : List Int32) (n : Nat) (s : am_S), am_I s 55 7 = oN n → fr [55, 59] s (tqL n l s) ∧ am_I (tqL n l s) 55 7 = oN (n + l.length) ∧ (∀ k, k ≠ 7 → am_I (tqL n l s) 55 k = am_I s 55 k) ∧ (∀ k, k < n → am_I (tqL n l s) 59 k = am_I s 59 k) ∧ ∀ i v, l[i]? = some v → am_I (tqL n l s) 59 (n + i) = v
  | [], n, s, h => ⟨fr.refl, h, fun _ _ => rfl, fun _ _ => rfl, fun i v hv => by cases hv⟩
  | v :: l, n, s, h => by
    obtain ⟨a1, a2, a3, a4, a5⟩ := tqL_is l (n + 1) (tq1 n v s) (by unfold tq1; rw [I_sI, if_pos ⟨rfl, rfl⟩])
    refine ⟨fr.trans ((fr.refl.sI (by simp)).sI (by simp)) a1, ?_, ?_, ?_, ?_⟩
    · rw [tqL, a2, List.length_cons]; congr 1; omega
    · intro k hk
      rw [tqL, a3 k hk]; unfold tq1; rw [I_sI, if_neg (by omega), I_ne (by decide)]
    · intro k hk
      rw [tqL, a4 k (by omega)]; unfold tq1; rw [I_ne (by decide), I_sI, if_neg (by omega)]
    · intro i w hw
      cases i with
      | zero =>
        cases hw
        show am_I (tqL (n + 1) l (tq1 n v s)) 59 n = v
        rw [a4 n (by omega)]; unfold tq1; rw [I_ne (by decide), I_sI, if_pos ⟨rfl, rfl⟩]
      | succ i =>
        rw [tqL, show n + (i + 1) = n + 1 + i by omega]
        exact a5 i w hw
theorem tpL_app : ∀ (l l' : List Int32) (n : Nat) (s : am_S), tpL n (l ++ l') s = tpL (n + l.length) l' (tpL n l s)
  | [], l', n, s => rfl
  | v :: l, l', n, s => by
    rw [List.cons_append, tpL, tpL_app l l' (n + 1), tpL, List.length_cons, show n + 1 + l.length = n + (l.length + 1) by omega]
def by4 (x : Int32) : List Int32 := [(x >>> 24) &&& 255, (x >>> 16) &&& 255, (x >>> 8) &&& 255, (x >>> 0) &&& 255]
theorem app1 {m : Nat} (hn : am_I s 34 1 = oN n) (h : n < 400) (hx : ¬ x2 < 0) : L_X3_append_3 (m + 1) x1 x2 s = L_X3_append_3 m x1 (x2 + (-8 : Int32)) (tp1 n ((x1 >>> (x2 &&& 31)) &&& (255 : Int32)) s) := by
  rw [L_X3_append_3, if_neg hx, hn, if_neg (by rw [oN_leR (by omega) (by omega)]; omega), if_pos (in_o (by omega) (by omega)), oN_nat (by omega), oN_addL]
  rfl
theorem tp1_n {v : Int32} : am_I (tp1 n v s) 34 1 = oN (n + 1) := by unfold tp1; rw [I_sI, if_pos ⟨rfl, rfl⟩]
theorem append_is (hn : am_I s 34 1 = oN n) (h : n + 4 ≤ 400) : f_X3_append x1 s = some (.inl none, tpL n (by4 x1) s) := by
  unfold f_X3_append
  obtain ⟨m, hm⟩ : ∃ m, ax_fuel = m + 1 + 1 + 1 + 1 + 1 := ⟨995, by rw [ax_fuel_is]⟩
  have e24 : ((24 : Int32) &&& 31) = 24 := by decide
  have e16 : ((24 : Int32) + (-8)) = 16 := by decide
  have e16' : ((16 : Int32) &&& 31) = 16 := by decide
  have e8 : ((16 : Int32) + (-8)) = 8 := by decide
  have e8' : ((8 : Int32) &&& 31) = 8 := by decide
  have e0 : ((8 : Int32) + (-8)) = 0 := by decide
  have e0' : ((0 : Int32) &&& 31) = 0 := by decide
  have en : ((0 : Int32) + (-8)) < 0 := by decide
  rw [hm, app1 hn (by omega) (by decide), e24, e16, app1 tp1_n (by omega) (by decide), e16', e8, app1 tp1_n (by omega) (by decide), e8', e0, app1 tp1_n (by omega) (by decide), e0', L_X3_append_3, if_pos en, lm_e]
  rfl
theorem byte_bv (x : BitVec 32) {n : Nat} (hn : n ≤ 24) : x.sshiftRight n &&& 255#32 = (x >>> n) &&& 255#32 := by
  apply BitVec.eq_of_getLsbD_eq
  intro i hi
  rw [BitVec.getLsbD_and, BitVec.getLsbD_and, BitVec.getLsbD_sshiftRight, BitVec.getLsbD_ushiftRight]
  by_cases h : i < 8
  · have h1 : n + i < 32 := by omega
    have h3 : decide (32 ≤ i) = false := decide_eq_false (by omega)
    simp [h1, hi, h3]
  · have h2 : ∀ i, i < 32 → ¬ i < 8 → (255#32).getLsbD i = false := by decide
    rw [h2 i hi h, Bool.and_false, Bool.and_false]
theorem byte_m (x : Int32) : ((x.toUInt32 >>> (((24 : Int32)).toUInt32 &&& Int32.toUInt32 31)).toInt32 &&& (255 : Int32)) = (x >>> 24) &&& 255 ∧ ((x.toUInt32 >>> (((16 : Int32)).toUInt32 &&& Int32.toUInt32 31)).toInt32 &&& (255 : Int32)) = (x >>> 16) &&& 255 ∧ ((x.toUInt32 >>> (((8 : Int32)).toUInt32 &&& Int32.toUInt32 31)).toInt32 &&& (255 : Int32)) = (x >>> 8) &&& 255 ∧ ((x.toUInt32 >>> (((0 : Int32)).toUInt32 &&& Int32.toUInt32 31)).toInt32 &&& (255 : Int32)) = (x >>> 0) &&& 255 := by
  refine ⟨?_, ?_, ?_, ?_⟩ <;> apply Int32.toBitVec_inj.mp
  · exact (byte_bv x.toBitVec (n := 24) (by omega)).symm
  · exact (byte_bv x.toBitVec (n := 16) (by omega)).symm
  · exact (byte_bv x.toBitVec (n := 8) (by omega)).symm
  · exact (byte_bv x.toBitVec (n := 0) (by omega)).symm
theorem and255 (x : Int32) : 0 ≤ (x &&& 255).toInt ∧ (x &&& 255).toInt ≤ 255 := by
  have h : (x &&& 255).toInt = (x.toBitVec &&& 255#32).toInt := rfl
  have h2 : (x.toBitVec &&& 255#32).toNat ≤ 255 := by rw [BitVec.toNat_and]; exact Nat.and_le_right
  rw [h, BitVec.toInt_eq_toNat_of_lt (by omega)]
  omega
def by20 (x1 x2 x3 x4 x5 : Int32) : List Int32 := by4 x1 ++ (by4 x2 ++ (by4 x3 ++ (by4 x4 ++ by4 x5)))
theorem mfd1 {m k : Nat} {v : Int32} (hn : am_I t 55 7 = oN n) (h : n < 400) (hk : k < 20) (hv : (((if k < 4 then x1 else if k < 8 then x2 else if k < 12 then x3 else if k < 16 then x4 else x5).toUInt32 >>> (((24 : Int32) - ((8 : Int32) * (oN k &&& (3 : Int32)))).toUInt32 &&& Int32.toUInt32 31)).toInt32 &&& (255 : Int32)) = v) : L_X8_feed_23 (m + 1) x1 x2 x3 x4 x5 (oN k) t = L_X8_feed_23 m x1 x2 x3 x4 x5 (oN (k + 1)) (tq1 n v t) := by
  have key : ∀ e : Int32, (e.toUInt32 >>> (((24 : Int32) - ((8 : Int32) * (oN k &&& (3 : Int32)))).toUInt32 &&& Int32.toUInt32 31)).toInt32 &&& (255 : Int32) = v → (ax_le ((e.toUInt32 >>> (((24 : Int32) - ((8 : Int32) * (oN k &&& (3 : Int32)))).toUInt32 &&& Int32.toUInt32 31)).toInt32 &&& (255 : Int32)) (fun y6 => if am_in (am_I t 55 7) 400 = true then L_X8_feed_23 m x1 x2 x3 x4 x5 (oN k + (1 : Int32)) (am_sI (am_sI t 59 ((am_I t 55 7).toNatClampNeg) y6) 55 7 ((am_I t 55 7) + (1 : Int32))) else none) : am_FE Unit) = L_X8_feed_23 m x1 x2 x3 x4 x5 (oN (k + 1)) (tq1 n v t) := by
    intro e he
    rw [he, le_s, hn, if_pos (in_o (by omega) (by omega)), oN_nat (by omega), oN_addL, oN_addL]
    rfl
  rw [L_X8_feed_23, if_neg (by rw [oN_leR (by omega) (by omega)]; omega), jn_s]
  by_cases c1 : k < 4
  · rw [if_pos c1] at hv
    rw [if_neg (by rw [oN_leR (by omega) (by omega)]; omega)]
    exact key _ hv
  · rw [if_neg c1] at hv
    rw [if_pos ((oN_leR (by omega) (by omega)).mpr (by show 4 ≤ k; omega))]
    by_cases c2 : k < 8
    · rw [if_pos c2] at hv
      rw [if_neg (by rw [oN_leR (by omega) (by omega)]; omega)]
      exact key _ hv
    · rw [if_neg c2] at hv
      rw [if_pos ((oN_leR (by omega) (by omega)).mpr (by show 8 ≤ k; omega))]
      by_cases c3 : k < 12
      · rw [if_pos c3] at hv
        rw [if_neg (by rw [oN_leR (by omega) (by omega)]; omega)]
        exact key _ hv
      · rw [if_neg c3] at hv
        rw [if_pos ((oN_leR (by omega) (by omega)).mpr (by show 12 ≤ k; omega))]
        by_cases c4 : k < 16
        · rw [if_pos c4] at hv
          rw [if_neg (by rw [oN_leR (by omega) (by omega)]; omega)]
          exact key _ hv
        · rw [if_neg c4] at hv
          rw [if_pos ((oN_leR (by omega) (by omega)).mpr (by show 16 ≤ k; omega))]
          exact key _ hv
theorem sh_k : ∀ k : Nat, k < 20 → ((24 : Int32) - ((8 : Int32) * (oN k &&& (3 : Int32)))) = (if k % 4 = 0 then 24 else if k % 4 = 1 then 16 else if k % 4 = 2 then 8 else 0) := by decide
theorem by_at : ∀ k : Nat, k < 20 → (by20 x1 x2 x3 x4 x5)[k]? = some (((if k < 4 then x1 else if k < 8 then x2 else if k < 12 then x3 else if k < 16 then x4 else x5).toUInt32 >>> (((24 : Int32) - ((8 : Int32) * (oN k &&& (3 : Int32)))).toUInt32 &&& Int32.toUInt32 31)).toInt32 &&& (255 : Int32)) := by
  intro k hk
  rw [sh_k k hk]
  obtain ⟨p1, p2, p3, p4⟩ := byte_m x1
  obtain ⟨q1, q2, q3, q4⟩ := byte_m x2
  obtain ⟨r1, r2, r3, r4⟩ := byte_m x3
  obtain ⟨s1, s2, s3, s4⟩ := byte_m x4
  obtain ⟨t1, t2, t3, t4⟩ := byte_m x5
  match k, hk with
  | 0, _ => exact congrArg some p1.symm
  | 1, _ => exact congrArg some p2.symm
  | 2, _ => exact congrArg some p3.symm
  | 3, _ => exact congrArg some p4.symm
  | 4, _ => exact congrArg some q1.symm
  | 5, _ => exact congrArg some q2.symm
  | 6, _ => exact congrArg some q3.symm
  | 7, _ => exact congrArg some q4.symm
  | 8, _ => exact congrArg some r1.symm
  | 9, _ => exact congrArg some r2.symm
  | 10, _ => exact congrArg some r3.symm
  | 11, _ => exact congrArg some r4.symm
  | 12, _ => exact congrArg some s1.symm
  | 13, _ => exact congrArg some s2.symm
  | 14, _ => exact congrArg some s3.symm
  | 15, _ => exact congrArg some s4.symm
  | 16, _ => exact congrArg some t1.symm
  | 17, _ => exact congrArg some t2.symm
  | 18, _ => exact congrArg some t3.symm
  | 19, _ => exact congrArg some t4.symm
  | (k + 20), h => exact absurd h (by omega)
theorem by20_len : (by20 x1 x2 x3 x4 x5).length = 20 := rfl
theorem mfd_in : ∀ (p m k : Nat) (n : Nat) (t : am_S), p < m → k + p = 20 → n + p ≤ 400 → am_I t 55 7 = oN n → L_X8_feed_23 m x1 x2 x3 x4 x5 (oN k) t = some (.inr ((), tqL n ((by20 x1 x2 x3 x4 x5).drop k) t)) := by
  intro p
  induction p with
  | zero =>
    intro m k n t hm hk hn ht
    obtain ⟨m, rfl⟩ : ∃ q, m = q + 1 := ⟨m - 1, by omega⟩
    obtain rfl : k = 20 := by omega
    rw [L_X8_feed_23, if_pos (by decide), List.drop_eq_nil_of_le (by rw [by20_len]; omega)]
    rfl
  | succ p ih =>
    intro m k n t hm hk hn ht
    obtain ⟨m, rfl⟩ : ∃ q, m = q + 1 := ⟨m - 1, by omega⟩
    have hb := by_at (x1 := x1) (x2 := x2) (x3 := x3) (x4 := x4) (x5 := x5) k (by omega)
    obtain ⟨hl, hv⟩ := List.getElem?_eq_some_iff.mp hb
    rw [mfd1 ht (by omega) (by omega) hv.symm, ih m (k + 1) (n + 1) _ (by omega) (by omega) (by omega) (by unfold tq1; rw [I_sI, if_pos ⟨rfl, rfl⟩]), List.drop_eq_getElem_cons hl]
    rfl
theorem by4_ok {v : Int32} (h : v ∈ by4 x) : 0 ≤ v.toInt ∧ v.toInt ≤ 255 := by
  unfold by4 at h
  simp only [List.mem_cons, List.not_mem_nil, or_false] at h
  rcases h with h | h | h | h <;> rw [h] <;> exact and255 _
theorem by20_ok {v : Int32} (h : v ∈ by20 x1 x2 x3 x4 x5) : 0 ≤ v.toInt ∧ v.toInt ≤ 255 := by
  unfold by20 at h
  simp only [List.mem_append] at h
  rcases h with h | h | h | h | h <;> exact by4_ok h
/-- only the tape (and what is read of it) has changed -/
theorem cZ.tape {n : Nat} {tp : Nat → Int32} {fk fp : Int32} (h : cZ s T X) (oT : tO T) (oX : xO X) (f : fr A s s1) (hA : A.all (fun a => decide (33 < a ∧ a < 36)) = true) (ht : tpC s1 n tp fk fp) : cZ s1 T (n, tp, fk, fp, X.2.2.2.2) := by
  have k : ∀ a, ¬ (33 < a ∧ a < 36) → a ∉ A := fun a h hm => h (of_decide_eq_true (List.all_eq_true.mp hA _ hm))
  have kA : ∀ {p : Nat → Bool}, (∀ a, (33 < a ∧ a < 36) → p a = true) → A.all p = true := fun hp => List.all_eq_true.mpr (fun a ha => hp a (of_decide_eq_true (List.all_eq_true.mp hA _ ha)))
  exact ⟨h.1.out oT (fun j hj => f.I (k _ (by omega))), h.2.1.keep f (kA (fun a h => decide_eq_true (by omega))) (by rw [f.I (k _ (by omega))]), h.2.2.1.keep f (kA (fun a h => decide_eq_true (by omega))), ht, h.2.2.2.2.1.keep (fun a h1 h2 => f.I (k _ (by omega))) (fun a h1 h2 => f.L (k _ (by omega))), h.2.2.2.2.2.keep oX.2.2 (fun a h1 h2 => f.I (k _ (by omega))) (by rw [f.R]) f.nn⟩
theorem mZ.tape {n : Nat} {tp : Nat → Int32} {fk fp : Int32} (h : mZ t T X) (f : fr A t t1) (hA : A.all (fun a => decide (a = 55 ∨ a = 59 ∨ a = 60 ∨ a = 61)) = true) (e : am_I t1 55 42 = am_I t 55 42) (e' : am_I t1 55 30 = am_I t 55 30) (ht : tpM t1 n tp fk fp) : mZ t1 T (n, tp, fk, fp, X.2.2.2.2) := by
  have k : ∀ a, ¬ (a = 55 ∨ a = 59 ∨ a = 60 ∨ a = 61) → a ∉ A := fun a h hm => h (of_decide_eq_true (List.all_eq_true.mp hA _ hm))
  exact ⟨by rw [f.I (k 56 (by omega))]; exact h.1, ⟨e.trans h.2.1.1, mSi_of h.2.1.2 e' (f.I (k _ (by omega))) (f.I (k _ (by omega)))⟩, ht, h.2.2.2.1.keep (f.I (k _ (by omega))) (f.I (k _ (by omega))) (f.L (k _ (by omega))), h.2.2.2.2.keep (f.I (k _ (by omega))) (f.I (k _ (by omega)))⟩
theorem le400 (h : n ≤ 400) : (oN n + 20 ≤ (400 : Int32)) ↔ n + 20 ≤ 400 := by
  rw [oN_addL, oN_leL (by omega) (by omega)]
theorem W_feed (hC : cZ s T X) (hM : mZ t T X) (oT : tO T) (oX : xO X) : JW (fun v => some (Value.int v)) k01 s t (f_X7_feed x1 x2 x3 x4 x5 s) (f_X8_feed x1 x2 x3 x4 x5 t) := by
  obtain ⟨n, tp, fk, fp, tr, im⟩ := X
  have hn : n ≤ 400 := oX.1.1
  have e1 : am_I s 34 1 = oN n := hC.2.2.2.1.1
  have e2 : am_I t 55 7 = oN n := hM.2.2.1.1
  unfold f_X7_feed f_X8_feed
  rw [e1, e2]
  by_cases h : n + 20 ≤ 400
  · rw [if_pos ((le400 hn).mpr h), if_pos ((le400 hn).mpr h)]
    obtain ⟨f1, g1, g2, g3, g4⟩ := tpL_is (by20 x1 x2 x3 x4 x5) n s e1
    obtain ⟨f2, d1, d2, d3, d4⟩ := tqL_is (by20 x1 x2 x3 x4 x5) n (am_sI t 55 3 0) (by rw [I_sI, if_neg (by omega)]; exact e2)
    have r2 : am_I (tpL n (by4 x1) s) 34 1 = oN (n + 4) := (tpL_is (by4 x1) n s e1).2.1
    have r3 : am_I (tpL (n + 4) (by4 x2) (tpL n (by4 x1) s)) 34 1 = oN (n + 4 + 4) := (tpL_is (by4 x2) _ _ r2).2.1
    have r4 : am_I (tpL (n + 4 + 4) (by4 x3) (tpL (n + 4) (by4 x2) (tpL n (by4 x1) s))) 34 1 = oN (n + 4 + 4 + 4) := (tpL_is (by4 x3) _ _ r3).2.1
    have r5 : am_I (tpL (n + 4 + 4 + 4) (by4 x4) (tpL (n + 4 + 4) (by4 x3) (tpL (n + 4) (by4 x2) (tpL n (by4 x1) s)))) 34 1 = oN (n + 4 + 4 + 4 + 4) := (tpL_is (by4 x4) _ _ r4).2.1
    have ea : tpL (n + 4 + 4 + 4 + 4) (by4 x5) (tpL (n + 4 + 4 + 4) (by4 x4) (tpL (n + 4 + 4) (by4 x3) (tpL (n + 4) (by4 x2) (tpL n (by4 x1) s)))) = tpL n (by20 x1 x2 x3 x4 x5) s := by
      unfold by20
      rw [tpL_app, tpL_app, tpL_app, tpL_app]
      rfl
    have hl := mfd_in (x1 := x1) (x2 := x2) (x3 := x3) (x4 := x4) (x5 := x5) 20 ax_fuel 0 n (am_sI t 55 3 0) (by rw [ax_fuel_is]; omega) (by omega) (by omega) (by rw [I_sI, if_neg (by omega)]; exact e2)
    have hl' : L_X8_feed_23 ax_fuel x1 x2 x3 x4 x5 0 (am_sI t 55 3 0) = some (.inr ((), tqL n (by20 x1 x2 x3 x4 x5) (am_sI t 55 3 0))) := hl
    rw [append_is e1 (by omega), bu_s, append_is r2 (by omega), bu_s, append_is r3 (by omega), bu_s, append_is r4 (by omega), bu_s, append_is r5 (by omega), bu_s, ea, g1, hl', lm_e, d1]
    have f2' : fr [55, 59] t (tqL n (by20 x1 x2 x3 x4 x5) (am_sI t 55 3 0)) := fr.trans (fr.refl.sI (by simp)) f2
    have hg : ∀ k, k < n + 20 → n ≤ k → (by20 x1 x2 x3 x4 x5)[k - n]? = some (((by20 x1 x2 x3 x4 x5)[k - n]?).getD 0) := by
      intro k h1 h2
      have : k - n < (by20 x1 x2 x3 x4 x5).length := by rw [by20_len]; omega
      rw [List.getElem?_eq_getElem this]
      rfl
    refine JW_v (v := oN (n + 20)) oT (X := (n + 20, fun k => if k < n then tp k else ((by20 x1 x2 x3 x4 x5)[k - n]?).getD 0, fk, fp, tr, im)) ⟨⟨h, ?_⟩, oX.2⟩ f1 (by decide) (cZ.tape (X := (n, tp, fk, fp, tr, im)) hC oT oX f1 (by decide) ⟨g1, ?_, ?_, ?_⟩) rfl f2' (by decide) (mZ.tape (X := (n, tp, fk, fp, tr, im)) hM f2' (by decide) ?_ ?_ ⟨d1, ?_, ?_, ?_⟩) rfl ?_
    · intro k hk
      show 0 ≤ (if k < n then tp k else ((by20 x1 x2 x3 x4 x5)[k - n]?).getD 0).toInt ∧ (if k < n then tp k else ((by20 x1 x2 x3 x4 x5)[k - n]?).getD 0).toInt ≤ 255
      by_cases c : k < n
      · rw [if_pos c]; exact oX.1.2 k c
      · rw [if_neg c]
        exact by20_ok (List.mem_of_getElem? (hg k hk (by omega)))
    · intro k hk
      show am_I _ 35 k = if k < n then tp k else ((by20 x1 x2 x3 x4 x5)[k - n]?).getD 0
      by_cases c : k < n
      · rw [if_pos c, g3 k c]; exact hC.2.2.2.1.2.1 k c
      · rw [if_neg c]
        have := g4 (k - n) _ (hg k hk (by omega))
        rw [show n + (k - n) = k by omega] at this
        exact this
    · rw [g2 7 (by omega)]; exact hC.2.2.2.1.2.2.1
    · rw [g2 8 (by omega)]; exact hC.2.2.2.1.2.2.2
    · rw [d2 42 (by omega), I_sI, if_neg (by omega)]
    · rw [d2 30 (by omega), I_sI, if_neg (by omega)]
    · intro k hk
      show am_I _ 59 k = if k < n then tp k else ((by20 x1 x2 x3 x4 x5)[k - n]?).getD 0
      by_cases c : k < n
      · rw [if_pos c, d3 k c, I_ne (by decide)]; exact hM.2.2.1.2.1 k c
      · rw [if_neg c]
        have := d4 (k - n) _ (hg k hk (by omega))
        rw [show n + (k - n) = k by omega] at this
        exact this
    · rw [d2 15 (by omega), I_sI, if_neg (by omega)]; exact hM.2.2.1.2.2.1
    · rw [d2 16 (by omega), I_sI, if_neg (by omega)]; exact hM.2.2.1.2.2.2
    · rw [d2 3 (by omega), thr0]
  · rw [if_neg (fun hh => h ((le400 hn).mp hh)), if_neg (fun hh => h ((le400 hn).mp hh))]
    exact JW_same hC hM oT oX rfl rfl
end FEED
