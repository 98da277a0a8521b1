/-! ===== the rules as the rows use them ===== -/
section WPQ
variable {d : Nat} {M : am_M} {pc len : Nat} {ls ls' : am_Ls} {st st' : List Value} {σ σ' : am_S} {Q : am_O → am_S → Prop} {ins : Instr}
theorem wp_ic_eq {off : Int} {t : Nat} {x y : Int32} (hd : decode (am_code M) pc = .ok (.if_icmp .eq off, 3)) (ht : am_to pc off = some t)
    (k1 : x = y → am_WP d M t ls st σ Q) (k2 : ¬ x = y → am_WP d M (pc + 3) ls st σ Q) : am_WP d M pc ls (.int y :: .int x :: st) σ Q := wp_ic hd ht (fun h => k1 (am_cmpD.mp h)) (fun h => k2 (am_cmpN.mp h))
theorem wp_ic_ne {off : Int} {t : Nat} {x y : Int32} (hd : decode (am_code M) pc = .ok (.if_icmp .ne off, 3)) (ht : am_to pc off = some t)
    (k1 : ¬ x = y → am_WP d M t ls st σ Q) (k2 : x = y → am_WP d M (pc + 3) ls st σ Q) : am_WP d M pc ls (.int y :: .int x :: st) σ Q := wp_ic hd ht (fun h => k1 (am_cmpD.mp h)) (fun h => k2 (am_cmpN.mp h))
theorem wp_ic_lt {off : Int} {t : Nat} {x y : Int32} (hd : decode (am_code M) pc = .ok (.if_icmp .lt off, 3)) (ht : am_to pc off = some t)
    (k1 : x < y → am_WP d M t ls st σ Q) (k2 : ¬ x < y → am_WP d M (pc + 3) ls st σ Q) : am_WP d M pc ls (.int y :: .int x :: st) σ Q := wp_ic hd ht (fun h => k1 (am_cmpD.mp h)) (fun h => k2 (am_cmpN.mp h))
theorem wp_ic_ge {off : Int} {t : Nat} {x y : Int32} (hd : decode (am_code M) pc = .ok (.if_icmp .ge off, 3)) (ht : am_to pc off = some t)
    (k1 : y ≤ x → am_WP d M t ls st σ Q) (k2 : ¬ y ≤ x → am_WP d M (pc + 3) ls st σ Q) : am_WP d M pc ls (.int y :: .int x :: st) σ Q := wp_ic hd ht (fun h => k1 (am_cmpD.mp h)) (fun h => k2 (am_cmpN.mp h))
theorem wp_ic_gt {off : Int} {t : Nat} {x y : Int32} (hd : decode (am_code M) pc = .ok (.if_icmp .gt off, 3)) (ht : am_to pc off = some t)
    (k1 : y < x → am_WP d M t ls st σ Q) (k2 : ¬ y < x → am_WP d M (pc + 3) ls st σ Q) : am_WP d M pc ls (.int y :: .int x :: st) σ Q := wp_ic hd ht (fun h => k1 (am_cmpD.mp h)) (fun h => k2 (am_cmpN.mp h))
theorem wp_ic_le {off : Int} {t : Nat} {x y : Int32} (hd : decode (am_code M) pc = .ok (.if_icmp .le off, 3)) (ht : am_to pc off = some t)
    (k1 : x ≤ y → am_WP d M t ls st σ Q) (k2 : ¬ x ≤ y → am_WP d M (pc + 3) ls st σ Q) : am_WP d M pc ls (.int y :: .int x :: st) σ Q := wp_ic hd ht (fun h => k1 (am_cmpD.mp h)) (fun h => k2 (am_cmpN.mp h))
theorem wp_if_eq {off : Int} {t : Nat} {x : Int32} (hd : decode (am_code M) pc = .ok (.ifCond .eq off, 3)) (ht : am_to pc off = some t)
    (k1 : x = 0 → am_WP d M t ls st σ Q) (k2 : ¬ x = 0 → am_WP d M (pc + 3) ls st σ Q) : am_WP d M pc ls (.int x :: st) σ Q := wp_if hd ht (fun h => k1 (am_cmpD.mp h)) (fun h => k2 (am_cmpN.mp h))
theorem wp_if_ne {off : Int} {t : Nat} {x : Int32} (hd : decode (am_code M) pc = .ok (.ifCond .ne off, 3)) (ht : am_to pc off = some t)
    (k1 : ¬ x = 0 → am_WP d M t ls st σ Q) (k2 : x = 0 → am_WP d M (pc + 3) ls st σ Q) : am_WP d M pc ls (.int x :: st) σ Q := wp_if hd ht (fun h => k1 (am_cmpD.mp h)) (fun h => k2 (am_cmpN.mp h))
theorem wp_if_lt {off : Int} {t : Nat} {x : Int32} (hd : decode (am_code M) pc = .ok (.ifCond .lt off, 3)) (ht : am_to pc off = some t)
    (k1 : x < 0 → am_WP d M t ls st σ Q) (k2 : ¬ x < 0 → am_WP d M (pc + 3) ls st σ Q) : am_WP d M pc ls (.int x :: st) σ Q := wp_if hd ht (fun h => k1 (am_cmpD.mp h)) (fun h => k2 (am_cmpN.mp h))
theorem wp_if_ge {off : Int} {t : Nat} {x : Int32} (hd : decode (am_code M) pc = .ok (.ifCond .ge off, 3)) (ht : am_to pc off = some t)
    (k1 : 0 ≤ x → am_WP d M t ls st σ Q) (k2 : ¬ 0 ≤ x → am_WP d M (pc + 3) ls st σ Q) : am_WP d M pc ls (.int x :: st) σ Q := wp_if hd ht (fun h => k1 (am_cmpD.mp h)) (fun h => k2 (am_cmpN.mp h))
theorem wp_if_gt {off : Int} {t : Nat} {x : Int32} (hd : decode (am_code M) pc = .ok (.ifCond .gt off, 3)) (ht : am_to pc off = some t)
    (k1 : 0 < x → am_WP d M t ls st σ Q) (k2 : ¬ 0 < x → am_WP d M (pc + 3) ls st σ Q) : am_WP d M pc ls (.int x :: st) σ Q := wp_if hd ht (fun h => k1 (am_cmpD.mp h)) (fun h => k2 (am_cmpN.mp h))
theorem wp_if_le {off : Int} {t : Nat} {x : Int32} (hd : decode (am_code M) pc = .ok (.ifCond .le off, 3)) (ht : am_to pc off = some t)
    (k1 : x ≤ 0 → am_WP d M t ls st σ Q) (k2 : ¬ x ≤ 0 → am_WP d M (pc + 3) ls st σ Q) : am_WP d M pc ls (.int x :: st) σ Q := wp_if hd ht (fun h => k1 (am_cmpD.mp h)) (fun h => k2 (am_cmpN.mp h))
theorem wp_goto {off : Int} {t : Nat} (hd : decode (am_code M) pc = .ok (.goto off, 3)) (ht : am_to pc off = some t) (k : am_WP d M t ls st σ Q) : am_WP d M pc ls st σ Q := wp_jp hd rfl (by rw [am_jump, ht]; rfl) k
theorem wp_div {x y : Int32} (hd : decode (am_code M) pc = .ok (.idiv, 1)) (h : ¬ y = 0) (k : am_WP d M (pc + 1) ls (.int (x / y) :: st) σ Q) : am_WP d M pc ls (.int y :: .int x :: st) σ Q := wp_pu hd rfl (by rw [am_pure, if_neg h]) k
theorem wp_rem {x y : Int32} (hd : decode (am_code M) pc = .ok (.irem, 1)) (h : ¬ y = 0) (k : am_WP d M (pc + 1) ls (.int (x - x / y * y) :: st) σ Q) : am_WP d M pc ls (.int y :: .int x :: st) σ Q := wp_pu hd rfl (by rw [am_pure, if_neg h]) k
theorem wp_ldiv {x y : Int64} (hd : decode (am_code M) pc = .ok (.ldiv, 1)) (h : ¬ y = 0) (k : am_WP d M (pc + 1) ls (.long (x / y) :: st) σ Q) : am_WP d M pc ls (.long y :: .long x :: st) σ Q := wp_pu hd rfl (by rw [am_pure, if_neg h]) k
variable {x ci k z a b n : Nat} {i v : Int32} {w : Int64}
theorem wp_gI (hd : decode (am_code M) pc = .ok (.getfield x, 3)) (hf : am_find x (am_fldT (am_own M)) = some (ci, k)) (h0 : (am_fk ci)[k]? = some 0) (hk : am_K σ a = (ci, z)) (kk : am_WP d M (pc + 3) ls (.int (am_I σ a k) :: st) σ Q) : am_WP d M pc ls (.ref a :: st) σ Q :=
  wp_mem hd rfl rfl rfl (by simp only [am_mem, hf, hk, h0, if_true]) kk
theorem wp_gL (hd : decode (am_code M) pc = .ok (.getfield x, 3)) (hf : am_find x (am_fldT (am_own M)) = some (ci, k)) (h0 : (am_fk ci)[k]? = some 1) (hk : am_K σ a = (ci, z)) (kk : am_WP d M (pc + 3) ls (.long (am_L σ a k) :: st) σ Q) : am_WP d M pc ls (.ref a :: st) σ Q :=
  wp_mem hd rfl rfl rfl (by simp only [am_mem, hf, hk, h0, if_true]) kk
theorem wp_gR {v : Value} (hd : decode (am_code M) pc = .ok (.getfield x, 3)) (hf : am_find x (am_fldT (am_own M)) = some (ci, k)) (h0 : (am_fk ci)[k]? = some 2) (hk : am_K σ a = (ci, z)) (hv : am_rv (am_R σ a k) = v) (kk : am_WP d M (pc + 3) ls (v :: st) σ Q) : am_WP d M pc ls (.ref a :: st) σ Q := by
  subst hv
  exact wp_mem hd rfl rfl rfl (by simp only [am_mem, hf, hk, h0, if_true]) kk
/-- a field that holds a known thing -/
theorem wp_gr (hd : decode (am_code M) pc = .ok (.getfield x, 3)) (hf : am_find x (am_fldT (am_own M)) = some (ci, k)) (h0 : (am_fk ci)[k]? = some 2) (hk : am_K σ a = (ci, z)) (hv : am_R σ a k = some b) (kk : am_WP d M (pc + 3) ls (.ref b :: st) σ Q) : am_WP d M pc ls (.ref a :: st) σ Q :=
  wp_gR hd hf h0 hk (by rw [hv]; rfl) kk
theorem wp_pI (hd : decode (am_code M) pc = .ok (.putfield x, 3)) (hf : am_find x (am_fldT (am_own M)) = some (ci, k)) (h0 : (am_fk ci)[k]? = some 0) (hn : am_fin ci k = false) (hb : ci = 8 ∧ (k = 30 ∨ k = 45) → v &&& 1 = v) (hk : am_K σ a = (ci, z)) (kk : am_WP d M (pc + 3) ls st (am_sI σ a k v) Q) : am_WP d M pc ls (.int v :: .ref a :: st) σ Q :=
  wp_mem hd rfl rfl rfl (by simp only [am_mem, hf]; rw [if_pos ⟨by rw [hk], h0, hn, hb⟩]) kk
theorem wp_pL (hd : decode (am_code M) pc = .ok (.putfield x, 3)) (hf : am_find x (am_fldT (am_own M)) = some (ci, k)) (h0 : (am_fk ci)[k]? = some 1) (hn : am_fin ci k = false) (hk : am_K σ a = (ci, z)) (kk : am_WP d M (pc + 3) ls st (am_sL σ a k w) Q) : am_WP d M pc ls (.long w :: .ref a :: st) σ Q :=
  wp_mem hd rfl rfl rfl (by simp only [am_mem, hf]; rw [if_pos ⟨by rw [hk], h0, hn⟩]) kk
theorem wp_pR (hd : decode (am_code M) pc = .ok (.putfield x, 3)) (hf : am_find x (am_fldT (am_own M)) = some (ci, k)) (h0 : (am_fk ci)[k]? = some 2) (hn : am_fin ci k = true) (hi : (am_name M).name = "<init>") (ho : am_own M = ci) (hk : am_K σ a = (ci, z)) (hb : b < 1000000) (kk : am_WP d M (pc + 3) ls st (am_sR σ a k (some b)) Q) : am_WP d M pc ls (.ref b :: .ref a :: st) σ Q :=
  wp_mem hd rfl rfl rfl (by simp only [am_mem, hf]; rw [if_pos ⟨by rw [hk], h0, hn, hi, ho, hb⟩]) kk
theorem wp_iald (hd : decode (am_code M) pc = .ok (.iaload, 1)) (hk : am_K σ a = (20, n)) (hi : am_in i n = true) (kk : am_WP d M (pc + 1) ls (.int (am_I σ a i.toNatClampNeg) :: st) σ Q) : am_WP d M pc ls (.int i :: .ref a :: st) σ Q :=
  wp_mem hd rfl rfl rfl (by simp only [am_mem]; rw [if_pos ⟨Or.inl (by rw [hk]), by rw [hk]; exact hi⟩]) kk
theorem wp_sald (hd : decode (am_code M) pc = .ok (.iaload, 1)) (hk : am_K σ a = (19, n)) (hi : am_in i n = true) (kk : am_WP d M (pc + 1) ls (.int (am_I σ a i.toNatClampNeg) :: st) σ Q) : am_WP d M pc ls (.int i :: .ref a :: st) σ Q :=
  wp_mem hd rfl rfl rfl (by simp only [am_mem]; rw [if_pos ⟨Or.inr (by rw [hk]), by rw [hk]; exact hi⟩]) kk
theorem wp_lald (hd : decode (am_code M) pc = .ok (.laload, 1)) (hk : am_K σ a = (21, n)) (hi : am_in i n = true) (kk : am_WP d M (pc + 1) ls (.long (am_L σ a i.toNatClampNeg) :: st) σ Q) : am_WP d M pc ls (.int i :: .ref a :: st) σ Q :=
  wp_mem hd rfl rfl rfl (by simp only [am_mem]; rw [if_pos ⟨by rw [hk], by rw [hk]; exact hi⟩]) kk
theorem wp_zald (hd : decode (am_code M) pc = .ok (.baload, 1)) (hk : am_K σ a = (22, n)) (hi : am_in i n = true) (kk : am_WP d M (pc + 1) ls (.int (am_I σ a i.toNatClampNeg) :: st) σ Q) : am_WP d M pc ls (.int i :: .ref a :: st) σ Q :=
  wp_mem hd rfl rfl rfl (by simp only [am_mem]; rw [if_pos ⟨by rw [hk], by rw [hk]; exact hi⟩]) kk
theorem wp_aald {v : Value} (hd : decode (am_code M) pc = .ok (.aaload, 1)) (hk : am_K σ a = (z, n)) (hz : 23 ≤ z ∧ z ≤ 25) (hi : am_in i n = true) (hv : am_rv (am_R σ a i.toNatClampNeg) = v) (kk : am_WP d M (pc + 1) ls (v :: st) σ Q) : am_WP d M pc ls (.int i :: .ref a :: st) σ Q :=
  wp_mem hd rfl rfl rfl (by simp only [am_mem]; rw [if_pos ⟨by rw [hk]; exact hz, by rw [hk]; exact hi⟩]) (by rw [hv]; exact kk)
theorem wp_iast (hd : decode (am_code M) pc = .ok (.iastore, 1)) (hk : am_K σ a = (20, n)) (hi : am_in i n = true) (kk : am_WP d M (pc + 1) ls st (am_sI σ a i.toNatClampNeg v) Q) : am_WP d M pc ls (.int v :: .int i :: .ref a :: st) σ Q :=
  wp_mem hd rfl rfl rfl (by simp only [am_mem]; rw [if_pos ⟨by rw [hk], by rw [hk]; exact hi⟩]) kk
theorem wp_last (hd : decode (am_code M) pc = .ok (.lastore, 1)) (hk : am_K σ a = (21, n)) (hi : am_in i n = true) (kk : am_WP d M (pc + 1) ls st (am_sL σ a i.toNatClampNeg w) Q) : am_WP d M pc ls (.long w :: .int i :: .ref a :: st) σ Q :=
  wp_mem hd rfl rfl rfl (by simp only [am_mem]; rw [if_pos ⟨by rw [hk], by rw [hk]; exact hi⟩]) kk
theorem wp_zast (hd : decode (am_code M) pc = .ok (.bastore, 1)) (hk : am_K σ a = (22, n)) (hi : am_in i n = true) (kk : am_WP d M (pc + 1) ls st (am_sI σ a i.toNatClampNeg (v &&& 1)) Q) : am_WP d M pc ls (.int v :: .int i :: .ref a :: st) σ Q :=
  wp_mem hd rfl rfl rfl (by simp only [am_mem]; rw [if_pos ⟨by rw [hk], by rw [hk]; exact hi⟩]) kk
theorem wp_aast {y : Nat} (hd : decode (am_code M) pc = .ok (.aastore, 1)) (hk : am_K σ a = (z, n)) (hz : 23 ≤ z ∧ z ≤ 25) (hi : am_in i n = true) (hb : am_K σ b = (y, k)) (hy : y + 19 = z) (kk : am_WP d M (pc + 1) ls st (am_sR σ a i.toNatClampNeg (some b)) Q) : am_WP d M pc ls (.ref b :: .int i :: .ref a :: st) σ Q :=
  wp_mem hd rfl rfl rfl (by simp only [am_mem]; rw [if_pos ⟨by rw [hk]; exact hz, by rw [hk]; exact hi, by rw [hk, hb]; exact hy⟩]) kk
theorem wp_alen (hd : decode (am_code M) pc = .ok (.arraylength, 1)) (hk : am_K σ a = (z, n)) (hz : 19 ≤ z ∧ z ≤ 25) (hv : Int32.ofNat n = v) (kk : am_WP d M (pc + 1) ls (.int v :: st) σ Q) : am_WP d M pc ls (.ref a :: st) σ Q :=
  wp_mem hd rfl rfl rfl (by simp only [am_mem]; rw [if_pos (by rw [hk]; exact hz)]) (by rw [hk, hv]; exact kk)
end WPQ
