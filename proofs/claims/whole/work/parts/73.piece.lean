/-! ===== one piece of a Stock is another one now ===== -/
section PIECE
variable {s s' : am_S} {b : Nat} {r c d r' c' d' : Int32} {lw lw' : Nat → Int32} {wy wy' : List (List T2)} {hd hd' : List (List T3)} {dr dr' : List T3} {cr cr' : List T2} {en en' : List T3}
theorem cS.head (h : cS s b r c d lw wy hd dr cr en) (hw : wy.length ≤ 6) (hh : hd.length ≤ 5) (e : ∀ j, j < 32 → 0 < j → am_I s' (b + j) = am_I s (b + j)) (n0 : am_I s' b 0 = r') (n1 : am_I s' b 1 = c') (n2 : am_I s' b 2 = d') (n5 : am_I s' b 5 = am_I s b 5) (n7 : am_I s' b 7 = am_I s b 7) : cS s' b r' c' d' lw wy hd dr cr en := by
  obtain ⟨⟨h1, h2, h3, h4⟩, ⟨h5, h6⟩, ⟨h7, h8⟩, h9, h10, h11, ⟨l1, l2, l3, l4, l5⟩⟩ := h
  refine ⟨⟨n0, n1, n2, fun k hk => by rw [e 1 (by omega) (by omega)]; exact h4 k hk⟩, ⟨n5.trans h5, fun w q hq => by
    have hl := (List.getElem?_eq_some_iff.mp hq).1
    exact (h6 w q hq).same (by rw [Nat.add_assoc, e (10 + 2 * w) (by omega) (by omega)]) (by rw [show b + 10 + 2 * w + 1 = b + (10 + 2 * w + 1) by omega, e (10 + 2 * w + 1) (by omega) (by omega)])⟩, ⟨n7.trans h7, fun w q hq => by
    have hl := (List.getElem?_eq_some_iff.mp hq).1
    exact (h8 w q hq).same (by rw [Nat.add_assoc, e (22 + 2 * w) (by omega) (by omega)]) (by rw [show b + 22 + 2 * w + 1 = b + (22 + 2 * w + 1) by omega, e (22 + 2 * w + 1) (by omega) (by omega)])⟩, h9.same (by rw [e 4 (by omega) (by omega)]) (by rw [show b + 4 + 1 = b + 5 by omega, e 5 (by omega) (by omega)]), h10.same (by rw [e 6 (by omega) (by omega)]) (by rw [show b + 6 + 1 = b + 7 by omega, e 7 (by omega) (by omega)]), h11.same (by rw [e 8 (by omega) (by omega)]) (by rw [show b + 8 + 1 = b + 9 by omega, e 9 (by omega) (by omega)]), ⟨fun w hw => by rw [Nat.add_assoc, e (10 + 2 * w) (by omega) (by omega), ← Nat.add_assoc]; exact l1 w hw, fun w hw => by rw [Nat.add_assoc, e (22 + 2 * w) (by omega) (by omega), ← Nat.add_assoc]; exact l2 w hw, by rw [e 4 (by omega) (by omega)]; exact l3, by rw [e 6 (by omega) (by omega)]; exact l4, by rw [e 8 (by omega) (by omega)]; exact l5⟩⟩
theorem cS.law (h : cS s b r c d lw wy hd dr cr en) (hw : wy.length ≤ 6) (hh : hd.length ≤ 5) (e : ∀ j, j < 32 → j ≠ 1 → am_I s' (b + j) = am_I s (b + j)) (n : ∀ k, k < 23 → am_I s' (b + 1) k = lw' k) : cS s' b r c d lw' wy hd dr cr en := by
  obtain ⟨⟨h1, h2, h3, h4⟩, ⟨h5, h6⟩, ⟨h7, h8⟩, h9, h10, h11, ⟨l1, l2, l3, l4, l5⟩⟩ := h
  have e0 : am_I s' b = am_I s b := e 0 (by omega) (by omega)
  refine ⟨⟨by rw [e0]; exact h1, by rw [e0]; exact h2, by rw [e0]; exact h3, n⟩, ⟨by rw [e0]; exact h5, fun w q hq => by
    have hl := (List.getElem?_eq_some_iff.mp hq).1
    exact (h6 w q hq).same (by rw [Nat.add_assoc, e (10 + 2 * w) (by omega) (by omega)]) (by rw [show b + 10 + 2 * w + 1 = b + (10 + 2 * w + 1) by omega, e (10 + 2 * w + 1) (by omega) (by omega)])⟩, ⟨by rw [e0]; exact h7, fun w q hq => by
    have hl := (List.getElem?_eq_some_iff.mp hq).1
    exact (h8 w q hq).same (by rw [Nat.add_assoc, e (22 + 2 * w) (by omega) (by omega)]) (by rw [show b + 22 + 2 * w + 1 = b + (22 + 2 * w + 1) by omega, e (22 + 2 * w + 1) (by omega) (by omega)])⟩, h9.same (by rw [e 4 (by omega) (by omega)]) (by rw [show b + 4 + 1 = b + 5 by omega, e 5 (by omega) (by omega)]), h10.same (by rw [e 6 (by omega) (by omega)]) (by rw [show b + 6 + 1 = b + 7 by omega, e 7 (by omega) (by omega)]), h11.same (by rw [e 8 (by omega) (by omega)]) (by rw [show b + 8 + 1 = b + 9 by omega, e 9 (by omega) (by omega)]), ⟨fun w hw => by rw [Nat.add_assoc, e (10 + 2 * w) (by omega) (by omega), ← Nat.add_assoc]; exact l1 w hw, fun w hw => by rw [Nat.add_assoc, e (22 + 2 * w) (by omega) (by omega), ← Nat.add_assoc]; exact l2 w hw, by rw [e 4 (by omega) (by omega)]; exact l3, by rw [e 6 (by omega) (by omega)]; exact l4, by rw [e 8 (by omega) (by omega)]; exact l5⟩⟩
theorem cS.dra (h : cS s b r c d lw wy hd dr cr en) (hw : wy.length ≤ 6) (hh : hd.length ≤ 5) (e : ∀ j, j < 32 → (j ≠ 4 ∧ j ≠ 5) → am_I s' (b + j) = am_I s (b + j)) (n : cR3 s' (b + 4) dr') (nl : am_I s' (b + 4) 1 = am_I s (b + 4) 1) : cS s' b r c d lw wy hd dr' cr en := by
  obtain ⟨⟨h1, h2, h3, h4⟩, ⟨h5, h6⟩, ⟨h7, h8⟩, h9, h10, h11, ⟨l1, l2, l3, l4, l5⟩⟩ := h
  have e0 : am_I s' b = am_I s b := e 0 (by omega) (by omega)
  refine ⟨⟨by rw [e0]; exact h1, by rw [e0]; exact h2, by rw [e0]; exact h3, fun k hk => by rw [e 1 (by omega) (by omega)]; exact h4 k hk⟩, ⟨by rw [e0]; exact h5, fun w q hq => by
    have hl := (List.getElem?_eq_some_iff.mp hq).1
    exact (h6 w q hq).same (by rw [Nat.add_assoc, e (10 + 2 * w) (by omega) (by omega)]) (by rw [show b + 10 + 2 * w + 1 = b + (10 + 2 * w + 1) by omega, e (10 + 2 * w + 1) (by omega) (by omega)])⟩, ⟨by rw [e0]; exact h7, fun w q hq => by
    have hl := (List.getElem?_eq_some_iff.mp hq).1
    exact (h8 w q hq).same (by rw [Nat.add_assoc, e (22 + 2 * w) (by omega) (by omega)]) (by rw [show b + 22 + 2 * w + 1 = b + (22 + 2 * w + 1) by omega, e (22 + 2 * w + 1) (by omega) (by omega)])⟩, n, h10.same (by rw [e 6 (by omega) (by omega)]) (by rw [show b + 6 + 1 = b + 7 by omega, e 7 (by omega) (by omega)]), h11.same (by rw [e 8 (by omega) (by omega)]) (by rw [show b + 8 + 1 = b + 9 by omega, e 9 (by omega) (by omega)]), ⟨fun w hw => by rw [Nat.add_assoc, e (10 + 2 * w) (by omega) (by omega), ← Nat.add_assoc]; exact l1 w hw, fun w hw => by rw [Nat.add_assoc, e (22 + 2 * w) (by omega) (by omega), ← Nat.add_assoc]; exact l2 w hw, nl.trans l3, by rw [e 6 (by omega) (by omega)]; exact l4, by rw [e 8 (by omega) (by omega)]; exact l5⟩⟩
theorem cS.cra (h : cS s b r c d lw wy hd dr cr en) (hw : wy.length ≤ 6) (hh : hd.length ≤ 5) (e : ∀ j, j < 32 → (j ≠ 6 ∧ j ≠ 7) → am_I s' (b + j) = am_I s (b + j)) (n : cR2 s' (b + 6) cr') (nl : am_I s' (b + 6) 1 = am_I s (b + 6) 1) : cS s' b r c d lw wy hd dr cr' en := by
  obtain ⟨⟨h1, h2, h3, h4⟩, ⟨h5, h6⟩, ⟨h7, h8⟩, h9, h10, h11, ⟨l1, l2, l3, l4, l5⟩⟩ := h
  have e0 : am_I s' b = am_I s b := e 0 (by omega) (by omega)
  refine ⟨⟨by rw [e0]; exact h1, by rw [e0]; exact h2, by rw [e0]; exact h3, fun k hk => by rw [e 1 (by omega) (by omega)]; exact h4 k hk⟩, ⟨by rw [e0]; exact h5, fun w q hq => by
    have hl := (List.getElem?_eq_some_iff.mp hq).1
    exact (h6 w q hq).same (by rw [Nat.add_assoc, e (10 + 2 * w) (by omega) (by omega)]) (by rw [show b + 10 + 2 * w + 1 = b + (10 + 2 * w + 1) by omega, e (10 + 2 * w + 1) (by omega) (by omega)])⟩, ⟨by rw [e0]; exact h7, fun w q hq => by
    have hl := (List.getElem?_eq_some_iff.mp hq).1
    exact (h8 w q hq).same (by rw [Nat.add_assoc, e (22 + 2 * w) (by omega) (by omega)]) (by rw [show b + 22 + 2 * w + 1 = b + (22 + 2 * w + 1) by omega, e (22 + 2 * w + 1) (by omega) (by omega)])⟩, h9.same (by rw [e 4 (by omega) (by omega)]) (by rw [show b + 4 + 1 = b + 5 by omega, e 5 (by omega) (by omega)]), n, h11.same (by rw [e 8 (by omega) (by omega)]) (by rw [show b + 8 + 1 = b + 9 by omega, e 9 (by omega) (by omega)]), ⟨fun w hw => by rw [Nat.add_assoc, e (10 + 2 * w) (by omega) (by omega), ← Nat.add_assoc]; exact l1 w hw, fun w hw => by rw [Nat.add_assoc, e (22 + 2 * w) (by omega) (by omega), ← Nat.add_assoc]; exact l2 w hw, by rw [e 4 (by omega) (by omega)]; exact l3, nl.trans l4, by rw [e 8 (by omega) (by omega)]; exact l5⟩⟩
theorem cS.ent (h : cS s b r c d lw wy hd dr cr en) (hw : wy.length ≤ 6) (hh : hd.length ≤ 5) (e : ∀ j, j < 32 → (j ≠ 8 ∧ j ≠ 9) → am_I s' (b + j) = am_I s (b + j)) (n : cR3 s' (b + 8) en') (nl : am_I s' (b + 8) 1 = am_I s (b + 8) 1) : cS s' b r c d lw wy hd dr cr en' := by
  obtain ⟨⟨h1, h2, h3, h4⟩, ⟨h5, h6⟩, ⟨h7, h8⟩, h9, h10, h11, ⟨l1, l2, l3, l4, l5⟩⟩ := h
  have e0 : am_I s' b = am_I s b := e 0 (by omega) (by omega)
  refine ⟨⟨by rw [e0]; exact h1, by rw [e0]; exact h2, by rw [e0]; exact h3, fun k hk => by rw [e 1 (by omega) (by omega)]; exact h4 k hk⟩, ⟨by rw [e0]; exact h5, fun w q hq => by
    have hl := (List.getElem?_eq_some_iff.mp hq).1
    exact (h6 w q hq).same (by rw [Nat.add_assoc, e (10 + 2 * w) (by omega) (by omega)]) (by rw [show b + 10 + 2 * w + 1 = b + (10 + 2 * w + 1) by omega, e (10 + 2 * w + 1) (by omega) (by omega)])⟩, ⟨by rw [e0]; exact h7, fun w q hq => by
    have hl := (List.getElem?_eq_some_iff.mp hq).1
    exact (h8 w q hq).same (by rw [Nat.add_assoc, e (22 + 2 * w) (by omega) (by omega)]) (by rw [show b + 22 + 2 * w + 1 = b + (22 + 2 * w + 1) by omega, e (22 + 2 * w + 1) (by omega) (by omega)])⟩, h9.same (by rw [e 4 (by omega) (by omega)]) (by rw [show b + 4 + 1 = b + 5 by omega, e 5 (by omega) (by omega)]), h10.same (by rw [e 6 (by omega) (by omega)]) (by rw [show b + 6 + 1 = b + 7 by omega, e 7 (by omega) (by omega)]), n, ⟨fun w hw => by rw [Nat.add_assoc, e (10 + 2 * w) (by omega) (by omega), ← Nat.add_assoc]; exact l1 w hw, fun w hw => by rw [Nat.add_assoc, e (22 + 2 * w) (by omega) (by omega), ← Nat.add_assoc]; exact l2 w hw, by rw [e 4 (by omega) (by omega)]; exact l3, by rw [e 6 (by omega) (by omega)]; exact l4, nl.trans l5⟩⟩
theorem cS.ways (h : cS s b r c d lw wy hd dr cr en) (hw : wy.length ≤ 6) (hh : hd.length ≤ 5) (e : ∀ j, j < 32 → (0 < j ∧ (j < 10 ∨ 22 ≤ j)) → am_I s' (b + j) = am_I s (b + j)) (n0 : ∀ k, k ≠ 5 → am_I s' b k = am_I s b k) (n5 : am_I s' b 5 = oN wy'.length) (n : ∀ w q, wy'[w]? = some q → cR2 s' (b + 10 + 2 * w) q) (nl : ∀ w, w < 6 → am_I s' (b + 10 + 2 * w) 1 = am_I s (b + 10 + 2 * w) 1) : cS s' b r c d lw wy' hd dr cr en := by
  obtain ⟨⟨h1, h2, h3, h4⟩, ⟨h5, h6⟩, ⟨h7, h8⟩, h9, h10, h11, ⟨l1, l2, l3, l4, l5⟩⟩ := h
  refine ⟨⟨n0 0 (by omega) |>.trans h1, n0 1 (by omega) |>.trans h2, n0 2 (by omega) |>.trans h3, fun k hk => by rw [e 1 (by omega) (by omega)]; exact h4 k hk⟩, ⟨n5, n⟩, ⟨(n0 7 (by omega)).trans h7, fun w q hq => by
    have hl := (List.getElem?_eq_some_iff.mp hq).1
    exact (h8 w q hq).same (by rw [Nat.add_assoc, e (22 + 2 * w) (by omega) (by omega)]) (by rw [show b + 22 + 2 * w + 1 = b + (22 + 2 * w + 1) by omega, e (22 + 2 * w + 1) (by omega) (by omega)])⟩, h9.same (by rw [e 4 (by omega) (by omega)]) (by rw [show b + 4 + 1 = b + 5 by omega, e 5 (by omega) (by omega)]), h10.same (by rw [e 6 (by omega) (by omega)]) (by rw [show b + 6 + 1 = b + 7 by omega, e 7 (by omega) (by omega)]), h11.same (by rw [e 8 (by omega) (by omega)]) (by rw [show b + 8 + 1 = b + 9 by omega, e 9 (by omega) (by omega)]), ⟨fun w hw => (nl w hw).trans (l1 w hw), fun w hw => by rw [Nat.add_assoc, e (22 + 2 * w) (by omega) (by omega), ← Nat.add_assoc]; exact l2 w hw, by rw [e 4 (by omega) (by omega)]; exact l3, by rw [e 6 (by omega) (by omega)]; exact l4, by rw [e 8 (by omega) (by omega)]; exact l5⟩⟩
theorem cS.hands (h : cS s b r c d lw wy hd dr cr en) (hw : wy.length ≤ 6) (hh : hd.length ≤ 5) (e : ∀ j, j < 32 → (0 < j ∧ j < 22) → am_I s' (b + j) = am_I s (b + j)) (n0 : ∀ k, k ≠ 7 → am_I s' b k = am_I s b k) (n7 : am_I s' b 7 = oN hd'.length) (n : ∀ w q, hd'[w]? = some q → cR3 s' (b + 22 + 2 * w) q) (nl : ∀ w, w < 5 → am_I s' (b + 22 + 2 * w) 1 = am_I s (b + 22 + 2 * w) 1) : cS s' b r c d lw wy hd' dr cr en := by
  obtain ⟨⟨h1, h2, h3, h4⟩, ⟨h5, h6⟩, ⟨h7, h8⟩, h9, h10, h11, ⟨l1, l2, l3, l4, l5⟩⟩ := h
  refine ⟨⟨n0 0 (by omega) |>.trans h1, n0 1 (by omega) |>.trans h2, n0 2 (by omega) |>.trans h3, fun k hk => by rw [e 1 (by omega) (by omega)]; exact h4 k hk⟩, ⟨(n0 5 (by omega)).trans h5, fun w q hq => by
    have hl := (List.getElem?_eq_some_iff.mp hq).1
    exact (h6 w q hq).same (by rw [Nat.add_assoc, e (10 + 2 * w) (by omega) (by omega)]) (by rw [show b + 10 + 2 * w + 1 = b + (10 + 2 * w + 1) by omega, e (10 + 2 * w + 1) (by omega) (by omega)])⟩, ⟨n7, n⟩, h9.same (by rw [e 4 (by omega) (by omega)]) (by rw [show b + 4 + 1 = b + 5 by omega, e 5 (by omega) (by omega)]), h10.same (by rw [e 6 (by omega) (by omega)]) (by rw [show b + 6 + 1 = b + 7 by omega, e 7 (by omega) (by omega)]), h11.same (by rw [e 8 (by omega) (by omega)]) (by rw [show b + 8 + 1 = b + 9 by omega, e 9 (by omega) (by omega)]), ⟨fun w hw => by rw [Nat.add_assoc, e (10 + 2 * w) (by omega) (by omega), ← Nat.add_assoc]; exact l1 w hw, fun w hw => (nl w hw).trans (l2 w hw), by rw [e 4 (by omega) (by omega)]; exact l3, by rw [e 6 (by omega) (by omega)]; exact l4, by rw [e 8 (by omega) (by omega)]; exact l5⟩⟩
end PIECE
section MPIECE
variable {t t' : Nat → Int32} {r c d r' c' d' : Int32} {lw lw' : Nat → Int32} {wy wy' : List (List T2)} {hd hd' : List (List T3)} {dr dr' : List T3} {cr cr' : List T2} {en en' : List T3}
theorem mS.head (h : mS t r c d lw wy hd dr cr en) (hw : wy.length ≤ 6) (hq1 : ∀ (w : Nat) (q : List T2), wy[w]? = some q → q.length ≤ 11) (hh : hd.length ≤ 5) (hq3 : ∀ (w : Nat) (q : List T3), hd[w]? = some q → q.length ≤ 4) (hdr : dr.length ≤ 4) (hcr : cr.length ≤ 3) (hen : en.length ≤ 4) (e : ∀ k, (k ≠ 0 ∧ k ≠ 1 ∧ k ≠ 7) → t' k = t k) (n0 : t' 0 = r') (n1 : t' 1 = c') (n7 : t' 7 = d') : mS t' r' c' d' lw wy hd dr cr en := by
  obtain ⟨⟨h1, h2, h3, h4⟩, ⟨h5, h6⟩, ⟨h7, h8⟩, ⟨h9, h10⟩, ⟨h11, h12⟩, ⟨h13, h14⟩⟩ := h
  exact ⟨⟨n0, n1, n7, fun k hk => (e _ (by unfold lp; split <;> omega)).trans (h4 k hk)⟩, ⟨(e 2 (by omega)).trans h5, fun w q hq => by
    have hl := (List.getElem?_eq_some_iff.mp hq).1
    have hq2 := hq1 w q hq
    exact ⟨(e _ (by omega)).trans (h6 w q hq).1, (h6 w q hq).2.same (fun i k hi hk => e _ (by omega))⟩⟩, ⟨(e 3 (by omega)).trans h7, fun w q hq => by
    have hl := (List.getElem?_eq_some_iff.mp hq).1
    have hq2 := hq3 w q hq
    exact ⟨(e _ (by omega)).trans (h8 w q hq).1, (h8 w q hq).2.same (fun i k hi hk => e _ (by omega))⟩⟩, ⟨(e 4 (by omega)).trans h9, h10.same (fun i k hi hk => e _ (by omega))⟩, ⟨(e 5 (by omega)).trans h11, h12.same (fun i k hi hk => e _ (by omega))⟩, ⟨(e 6 (by omega)).trans h13, h14.same (fun i k hi hk => e _ (by omega))⟩⟩
theorem mS.law (h : mS t r c d lw wy hd dr cr en) (hw : wy.length ≤ 6) (hq1 : ∀ (w : Nat) (q : List T2), wy[w]? = some q → q.length ≤ 11) (hh : hd.length ≤ 5) (hq3 : ∀ (w : Nat) (q : List T3), hd[w]? = some q → q.length ≤ 4) (hdr : dr.length ≤ 4) (hcr : cr.length ≤ 3) (hen : en.length ≤ 4) (e : ∀ k, (k < 8 ∨ 31 ≤ k) → t' k = t k) (n : ∀ k, k < 23 → t' (lp k) = lw' k) : mS t' r c d lw' wy hd dr cr en := by
  obtain ⟨⟨h1, h2, h3, h4⟩, ⟨h5, h6⟩, ⟨h7, h8⟩, ⟨h9, h10⟩, ⟨h11, h12⟩, ⟨h13, h14⟩⟩ := h
  exact ⟨⟨(e 0 (by omega)).trans h1, (e 1 (by omega)).trans h2, (e 7 (by omega)).trans h3, n⟩, ⟨(e 2 (by omega)).trans h5, fun w q hq => by
    have hl := (List.getElem?_eq_some_iff.mp hq).1
    have hq2 := hq1 w q hq
    exact ⟨(e _ (by omega)).trans (h6 w q hq).1, (h6 w q hq).2.same (fun i k hi hk => e _ (by omega))⟩⟩, ⟨(e 3 (by omega)).trans h7, fun w q hq => by
    have hl := (List.getElem?_eq_some_iff.mp hq).1
    have hq2 := hq3 w q hq
    exact ⟨(e _ (by omega)).trans (h8 w q hq).1, (h8 w q hq).2.same (fun i k hi hk => e _ (by omega))⟩⟩, ⟨(e 4 (by omega)).trans h9, h10.same (fun i k hi hk => e _ (by omega))⟩, ⟨(e 5 (by omega)).trans h11, h12.same (fun i k hi hk => e _ (by omega))⟩, ⟨(e 6 (by omega)).trans h13, h14.same (fun i k hi hk => e _ (by omega))⟩⟩
theorem mS.dra (h : mS t r c d lw wy hd dr cr en) (hw : wy.length ≤ 6) (hq1 : ∀ (w : Nat) (q : List T2), wy[w]? = some q → q.length ≤ 11) (hh : hd.length ≤ 5) (hq3 : ∀ (w : Nat) (q : List T3), hd[w]? = some q → q.length ≤ 4) (hdr : dr.length ≤ 4) (hcr : cr.length ≤ 3) (hen : en.length ≤ 4) (e : ∀ k, (k ≠ 4 ∧ (k < 234 ∨ 246 ≤ k)) → t' k = t k) (n4 : t' 4 = oN dr'.length) (n : hp3 t' 234 3 dr') : mS t' r c d lw wy hd dr' cr en := by
  obtain ⟨⟨h1, h2, h3, h4⟩, ⟨h5, h6⟩, ⟨h7, h8⟩, ⟨h9, h10⟩, ⟨h11, h12⟩, ⟨h13, h14⟩⟩ := h
  exact ⟨⟨(e 0 (by omega)).trans h1, (e 1 (by omega)).trans h2, (e 7 (by omega)).trans h3, fun k hk => (e _ (by unfold lp; split <;> omega)).trans (h4 k hk)⟩, ⟨(e 2 (by omega)).trans h5, fun w q hq => by
    have hl := (List.getElem?_eq_some_iff.mp hq).1
    have hq2 := hq1 w q hq
    exact ⟨(e _ (by omega)).trans (h6 w q hq).1, (h6 w q hq).2.same (fun i k hi hk => e _ (by omega))⟩⟩, ⟨(e 3 (by omega)).trans h7, fun w q hq => by
    have hl := (List.getElem?_eq_some_iff.mp hq).1
    have hq2 := hq3 w q hq
    exact ⟨(e _ (by omega)).trans (h8 w q hq).1, (h8 w q hq).2.same (fun i k hi hk => e _ (by omega))⟩⟩, ⟨n4, n⟩, ⟨(e 5 (by omega)).trans h11, h12.same (fun i k hi hk => e _ (by omega))⟩, ⟨(e 6 (by omega)).trans h13, h14.same (fun i k hi hk => e _ (by omega))⟩⟩
theorem mS.cra (h : mS t r c d lw wy hd dr cr en) (hw : wy.length ≤ 6) (hq1 : ∀ (w : Nat) (q : List T2), wy[w]? = some q → q.length ≤ 11) (hh : hd.length ≤ 5) (hq3 : ∀ (w : Nat) (q : List T3), hd[w]? = some q → q.length ≤ 4) (hdr : dr.length ≤ 4) (hcr : cr.length ≤ 3) (hen : en.length ≤ 4) (e : ∀ k, (k ≠ 5 ∧ (k < 246 ∨ 252 ≤ k)) → t' k = t k) (n5 : t' 5 = oN cr'.length) (n : hp2 t' 246 2 cr') : mS t' r c d lw wy hd dr cr' en := by
  obtain ⟨⟨h1, h2, h3, h4⟩, ⟨h5, h6⟩, ⟨h7, h8⟩, ⟨h9, h10⟩, ⟨h11, h12⟩, ⟨h13, h14⟩⟩ := h
  exact ⟨⟨(e 0 (by omega)).trans h1, (e 1 (by omega)).trans h2, (e 7 (by omega)).trans h3, fun k hk => (e _ (by unfold lp; split <;> omega)).trans (h4 k hk)⟩, ⟨(e 2 (by omega)).trans h5, fun w q hq => by
    have hl := (List.getElem?_eq_some_iff.mp hq).1
    have hq2 := hq1 w q hq
    exact ⟨(e _ (by omega)).trans (h6 w q hq).1, (h6 w q hq).2.same (fun i k hi hk => e _ (by omega))⟩⟩, ⟨(e 3 (by omega)).trans h7, fun w q hq => by
    have hl := (List.getElem?_eq_some_iff.mp hq).1
    have hq2 := hq3 w q hq
    exact ⟨(e _ (by omega)).trans (h8 w q hq).1, (h8 w q hq).2.same (fun i k hi hk => e _ (by omega))⟩⟩, ⟨(e 4 (by omega)).trans h9, h10.same (fun i k hi hk => e _ (by omega))⟩, ⟨n5, n⟩, ⟨(e 6 (by omega)).trans h13, h14.same (fun i k hi hk => e _ (by omega))⟩⟩
theorem mS.ent (h : mS t r c d lw wy hd dr cr en) (hw : wy.length ≤ 6) (hq1 : ∀ (w : Nat) (q : List T2), wy[w]? = some q → q.length ≤ 11) (hh : hd.length ≤ 5) (hq3 : ∀ (w : Nat) (q : List T3), hd[w]? = some q → q.length ≤ 4) (hdr : dr.length ≤ 4) (hcr : cr.length ≤ 3) (hen : en.length ≤ 4) (e : ∀ k, (k ≠ 6 ∧ (k < 252 ∨ 264 ≤ k)) → t' k = t k) (n6 : t' 6 = oN en'.length) (n : hp3 t' 252 3 en') : mS t' r c d lw wy hd dr cr en' := by
  obtain ⟨⟨h1, h2, h3, h4⟩, ⟨h5, h6⟩, ⟨h7, h8⟩, ⟨h9, h10⟩, ⟨h11, h12⟩, ⟨h13, h14⟩⟩ := h
  exact ⟨⟨(e 0 (by omega)).trans h1, (e 1 (by omega)).trans h2, (e 7 (by omega)).trans h3, fun k hk => (e _ (by unfold lp; split <;> omega)).trans (h4 k hk)⟩, ⟨(e 2 (by omega)).trans h5, fun w q hq => by
    have hl := (List.getElem?_eq_some_iff.mp hq).1
    have hq2 := hq1 w q hq
    exact ⟨(e _ (by omega)).trans (h6 w q hq).1, (h6 w q hq).2.same (fun i k hi hk => e _ (by omega))⟩⟩, ⟨(e 3 (by omega)).trans h7, fun w q hq => by
    have hl := (List.getElem?_eq_some_iff.mp hq).1
    have hq2 := hq3 w q hq
    exact ⟨(e _ (by omega)).trans (h8 w q hq).1, (h8 w q hq).2.same (fun i k hi hk => e _ (by omega))⟩⟩, ⟨(e 4 (by omega)).trans h9, h10.same (fun i k hi hk => e _ (by omega))⟩, ⟨(e 5 (by omega)).trans h11, h12.same (fun i k hi hk => e _ (by omega))⟩, ⟨n6, n⟩⟩
theorem mS.ways (h : mS t r c d lw wy hd dr cr en) (hw : wy.length ≤ 6) (hq1 : ∀ (w : Nat) (q : List T2), wy[w]? = some q → q.length ≤ 11) (hh : hd.length ≤ 5) (hq3 : ∀ (w : Nat) (q : List T3), hd[w]? = some q → q.length ≤ 4) (hdr : dr.length ≤ 4) (hcr : cr.length ≤ 3) (hen : en.length ≤ 4) (e : ∀ k, (k ≠ 2 ∧ (k < 31 ∨ 169 ≤ k)) → t' k = t k) (n2 : t' 2 = oN wy'.length) (n : ∀ (w : Nat) (q : List T2), wy'[w]? = some q → t' (31 + 23 * w) = oN q.length ∧ hp2 t' (32 + 23 * w) 2 q) : mS t' r c d lw wy' hd dr cr en := by
  obtain ⟨⟨h1, h2, h3, h4⟩, ⟨h5, h6⟩, ⟨h7, h8⟩, ⟨h9, h10⟩, ⟨h11, h12⟩, ⟨h13, h14⟩⟩ := h
  exact ⟨⟨(e 0 (by omega)).trans h1, (e 1 (by omega)).trans h2, (e 7 (by omega)).trans h3, fun k hk => (e _ (by unfold lp; split <;> omega)).trans (h4 k hk)⟩, ⟨n2, n⟩, ⟨(e 3 (by omega)).trans h7, fun w q hq => by
    have hl := (List.getElem?_eq_some_iff.mp hq).1
    have hq2 := hq3 w q hq
    exact ⟨(e _ (by omega)).trans (h8 w q hq).1, (h8 w q hq).2.same (fun i k hi hk => e _ (by omega))⟩⟩, ⟨(e 4 (by omega)).trans h9, h10.same (fun i k hi hk => e _ (by omega))⟩, ⟨(e 5 (by omega)).trans h11, h12.same (fun i k hi hk => e _ (by omega))⟩, ⟨(e 6 (by omega)).trans h13, h14.same (fun i k hi hk => e _ (by omega))⟩⟩
theorem mS.hands (h : mS t r c d lw wy hd dr cr en) (hw : wy.length ≤ 6) (hq1 : ∀ (w : Nat) (q : List T2), wy[w]? = some q → q.length ≤ 11) (hh : hd.length ≤ 5) (hq3 : ∀ (w : Nat) (q : List T3), hd[w]? = some q → q.length ≤ 4) (hdr : dr.length ≤ 4) (hcr : cr.length ≤ 3) (hen : en.length ≤ 4) (e : ∀ k, (k ≠ 3 ∧ (k < 169 ∨ 234 ≤ k)) → t' k = t k) (n3 : t' 3 = oN hd'.length) (n : ∀ (w : Nat) (q : List T3), hd'[w]? = some q → t' (169 + 13 * w) = oN q.length ∧ hp3 t' (170 + 13 * w) 3 q) : mS t' r c d lw wy hd' dr cr en := by
  obtain ⟨⟨h1, h2, h3, h4⟩, ⟨h5, h6⟩, ⟨h7, h8⟩, ⟨h9, h10⟩, ⟨h11, h12⟩, ⟨h13, h14⟩⟩ := h
  exact ⟨⟨(e 0 (by omega)).trans h1, (e 1 (by omega)).trans h2, (e 7 (by omega)).trans h3, fun k hk => (e _ (by unfold lp; split <;> omega)).trans (h4 k hk)⟩, ⟨(e 2 (by omega)).trans h5, fun w q hq => by
    have hl := (List.getElem?_eq_some_iff.mp hq).1
    have hq2 := hq1 w q hq
    exact ⟨(e _ (by omega)).trans (h6 w q hq).1, (h6 w q hq).2.same (fun i k hi hk => e _ (by omega))⟩⟩, ⟨n3, n⟩, ⟨(e 4 (by omega)).trans h9, h10.same (fun i k hi hk => e _ (by omega))⟩, ⟨(e 5 (by omega)).trans h11, h12.same (fun i k hi hk => e _ (by omega))⟩, ⟨(e 6 (by omega)).trans h13, h14.same (fun i k hi hk => e _ (by omega))⟩⟩
end MPIECE
