/-! ===== what a hangar holds, told without addresses; how the class and the model hold it ===== -/
abbrev T3 : Type := Int32 × Int32 × Int32
abbrev T2 : Type := Int32 × Int32
/-- rows of three (two) numbers, w apart, from p on -/
def hp3 (g : Nat → Int32) (p w : Nat) (l : List T3) : Prop := ∀ i q, l[i]? = some q → g (p + w * i) = q.1 ∧ g (p + w * i + 1) = q.2.1 ∧ g (p + w * i + 2) = q.2.2
def hp2 (g : Nat → Int32) (p w : Nat) (l : List T2) : Prop := ∀ i q, l[i]? = some q → g (p + w * i) = q.1 ∧ g (p + w * i + 1) = q.2
/-- a Rows -/
def cR3 (s : am_S) (a : Nat) (l : List T3) : Prop := am_I s a 2 = oN l.length ∧ hp3 (am_I s (a + 1)) 0 3 l
def cR2 (s : am_S) (a : Nat) (l : List T2) : Prop := am_I s a 2 = oN l.length ∧ hp2 (am_I s (a + 1)) 0 3 l
def cLim (s : am_S) (b : Nat) : Prop := (∀ w, w < 6 → am_I s (b + 10 + 2 * w) 1 = 11) ∧ (∀ h, h < 5 → am_I s (b + 22 + 2 * h) 1 = 4) ∧ am_I s (b + 4) 1 = 4 ∧ am_I s (b + 6) 1 = 3 ∧ am_I s (b + 8) 1 = 4
/-- a Stock: rows, columns, dampness, law; ways; hands; draughts; crates; entries -/
def cS (s : am_S) (b : Nat) (r c d : Int32) (lw : Nat → Int32) (wy : List (List T2)) (hd : List (List T3)) (dr : List T3) (cr : List T2) (en : List T3) : Prop :=
  (am_I s b 0 = r ∧ am_I s b 1 = c ∧ am_I s b 2 = d ∧ ∀ k, k < 23 → am_I s (b + 1) k = lw k) ∧
  (am_I s b 5 = oN wy.length ∧ ∀ w q, wy[w]? = some q → cR2 s (b + 10 + 2 * w) q) ∧
  (am_I s b 7 = oN hd.length ∧ ∀ h q, hd[h]? = some q → cR3 s (b + 22 + 2 * h) q) ∧
  cR3 s (b + 4) dr ∧ cR2 s (b + 6) cr ∧ cR3 s (b + 8) en ∧ cLim s b
def lp (k : Nat) : Nat := if k < 18 then 13 + k else k - 10
/-- the model's row of told numbers -/
def mS (t : Nat → Int32) (r c d : Int32) (lw : Nat → Int32) (wy : List (List T2)) (hd : List (List T3)) (dr : List T3) (cr : List T2) (en : List T3) : Prop :=
  (t 0 = r ∧ t 1 = c ∧ t 7 = d ∧ ∀ k, k < 23 → t (lp k) = lw k) ∧
  (t 2 = oN wy.length ∧ ∀ w q, wy[w]? = some q → t (31 + 23 * w) = oN q.length ∧ hp2 t (32 + 23 * w) 2 q) ∧
  (t 3 = oN hd.length ∧ ∀ h q, hd[h]? = some q → t (169 + 13 * h) = oN q.length ∧ hp3 t (170 + 13 * h) 3 q) ∧
  (t 4 = oN dr.length ∧ hp3 t 234 3 dr) ∧ (t 5 = oN cr.length ∧ hp2 t 246 2 cr) ∧ (t 6 = oN en.length ∧ hp3 t 252 3 en)
def okT (q : T3) : Prop := (10 ≤ q.1.toInt ∧ q.1.toInt ≤ 999) ∧ (-16 ≤ q.2.1.toInt ∧ q.2.1.toInt ≤ 16) ∧ (1 ≤ q.2.2.toInt ∧ q.2.2.toInt ≤ 9)
def okF (q : T2) : Prop := (0 ≤ q.1.toInt ∧ q.1.toInt ≤ 2) ∧ (1 ≤ q.2.toInt ∧ q.2.toInt ≤ 12)
def okL (lw : Nat → Int32) : Prop := (∀ k, k < 18 → 0 ≤ (lw k).toInt ∧ (lw k).toInt ≤ 99) ∧ (1 ≤ (lw 18).toInt ∧ (lw 18).toInt ≤ 50) ∧ (1 ≤ (lw 19).toInt ∧ (lw 19).toInt ≤ 99) ∧ (0 ≤ (lw 20).toInt ∧ (lw 20).toInt ≤ 99) ∧ (0 ≤ (lw 21).toInt ∧ (lw 21).toInt ≤ 9) ∧ (lw 22 = -1 ∨ (10 ≤ (lw 22).toInt ∧ (lw 22).toInt ≤ 99))
/-- the bounds -/
def okS (r c d : Int32) (lw : Nat → Int32) (wy : List (List T2)) (hd : List (List T3)) (dr : List T3) (cr : List T2) (en : List T3) : Prop :=
  (4 ≤ r.toInt ∧ r.toInt ≤ 24) ∧ (3 ≤ c.toInt ∧ c.toInt ≤ 12) ∧ (0 ≤ d.toInt ∧ d.toInt ≤ 50) ∧ okL lw ∧
  (wy.length ≤ 6 ∧ ∀ q ∈ wy, q.length ≤ 11 ∧ ∀ f ∈ q, okF f) ∧ (hd.length ≤ 5 ∧ ∀ q ∈ hd, q.length ≤ 4 ∧ ∀ f ∈ q, okT f) ∧
  (dr.length ≤ 4 ∧ ∀ q ∈ dr, (1 ≤ q.1.toInt ∧ q.1.toInt ≤ 200) ∧ (q.1.toInt ≤ q.2.1.toInt ∧ q.2.1.toInt ≤ 200) ∧ (-20 ≤ q.2.2.toInt ∧ q.2.2.toInt ≤ 20)) ∧
  (cr.length ≤ 3 ∧ ∀ q ∈ cr, (1 ≤ q.1.toInt ∧ q.1.toInt ≤ 99999) ∧ (1 ≤ q.2.toInt ∧ q.2.toInt ≤ 9999)) ∧
  (en.length ≤ 4 ∧ ∀ q ∈ en, (0 ≤ q.1.toInt ∧ q.1.toInt < wy.length) ∧ (-9 ≤ q.2.1.toInt ∧ q.2.1.toInt ≤ 9) ∧ (0 ≤ q.2.2.toInt ∧ q.2.2.toInt < hd.length))
section ABS
variable {s s' : am_S} {a b : Nat} {r c d : Int32} {lw : Nat → Int32} {wy : List (List T2)} {hd : List (List T3)} {dr : List T3} {cr : List T2} {en : List T3}
theorem hp3.same {g g' : Nat → Int32} {p w : Nat} {l : List T3} (h : hp3 g p w l) (e : ∀ i k, i < l.length → k < 3 → g' (p + w * i + k) = g (p + w * i + k)) : hp3 g' p w l := by
  intro i q hq
  have hi : i < l.length := (List.getElem?_eq_some_iff.mp hq).1
  obtain ⟨h1, h2, h3⟩ := h i q hq
  exact ⟨(e i 0 hi (by omega)).trans h1, (e i 1 hi (by omega)).trans h2, (e i 2 hi (by omega)).trans h3⟩
theorem hp2.same {g g' : Nat → Int32} {p w : Nat} {l : List T2} (h : hp2 g p w l) (e : ∀ i k, i < l.length → k < 2 → g' (p + w * i + k) = g (p + w * i + k)) : hp2 g' p w l := by
  intro i q hq
  have hi : i < l.length := (List.getElem?_eq_some_iff.mp hq).1
  obtain ⟨h1, h2⟩ := h i q hq
  exact ⟨(e i 0 hi (by omega)).trans h1, (e i 1 hi (by omega)).trans h2⟩
theorem hp3.push {g g' : Nat → Int32} {p w : Nat} {l : List T3} {q : T3} (h : hp3 g p w l) (e : ∀ i k, i < l.length → k < 3 → g' (p + w * i + k) = g (p + w * i + k)) (e0 : g' (p + w * l.length) = q.1) (e1 : g' (p + w * l.length + 1) = q.2.1) (e2 : g' (p + w * l.length + 2) = q.2.2) : hp3 g' p w (l ++ [q]) := by
  intro i z hz
  by_cases hi : i < l.length
  · rw [List.getElem?_append_left hi] at hz
    exact hp3.same h e i z hz
  · have hl := (List.getElem?_eq_some_iff.mp hz).1
    rw [List.length_append, List.length_singleton] at hl
    have ei : i = l.length := by omega
    subst ei
    rw [List.getElem?_append_right (Nat.le_refl _), Nat.sub_self] at hz
    cases hz
    exact ⟨e0, e1, e2⟩
theorem hp2.push {g g' : Nat → Int32} {p w : Nat} {l : List T2} {q : T2} (h : hp2 g p w l) (e : ∀ i k, i < l.length → k < 2 → g' (p + w * i + k) = g (p + w * i + k)) (e0 : g' (p + w * l.length) = q.1) (e1 : g' (p + w * l.length + 1) = q.2) : hp2 g' p w (l ++ [q]) := by
  intro i z hz
  by_cases hi : i < l.length
  · rw [List.getElem?_append_left hi] at hz
    exact hp2.same h e i z hz
  · have hl := (List.getElem?_eq_some_iff.mp hz).1
    rw [List.length_append, List.length_singleton] at hl
    have ei : i = l.length := by omega
    subst ei
    rw [List.getElem?_append_right (Nat.le_refl _), Nat.sub_self] at hz
    cases hz
    exact ⟨e0, e1⟩
theorem cR3.same {l : List T3} (h : cR3 s a l) (e1 : am_I s' a 2 = am_I s a 2) (e2 : am_I s' (a + 1) = am_I s (a + 1)) : cR3 s' a l := ⟨e1.trans h.1, by rw [e2]; exact h.2⟩
theorem cR2.same {l : List T2} (h : cR2 s a l) (e1 : am_I s' a 2 = am_I s a 2) (e2 : am_I s' (a + 1) = am_I s (a + 1)) : cR2 s' a l := ⟨e1.trans h.1, by rw [e2]; exact h.2⟩
/-- a Stock whose things have not changed -/
theorem cS.same (h : cS s b r c d lw wy hd dr cr en) (hw : wy.length ≤ 6) (hh : hd.length ≤ 5) (e : ∀ j, j < 32 → am_I s' (b + j) = am_I s (b + j)) : cS s' b r c d lw wy hd dr cr en := by
  have e0 : am_I s' b = am_I s b := e 0 (by omega)
  obtain ⟨⟨h1, h2, h3, h4⟩, ⟨h5, h6⟩, ⟨h7, h8⟩, h9, h10, h11, h12⟩ := h
  refine ⟨⟨by rw [e0]; exact h1, by rw [e0]; exact h2, by rw [e0]; exact h3, fun k hk => by rw [e 1 (by omega)]; exact h4 k hk⟩, ⟨by rw [e0]; exact h5, ?_⟩, ⟨by rw [e0]; exact h7, ?_⟩, ?_, ?_, ?_, ?_⟩
  · intro w q hq
    have hl := (List.getElem?_eq_some_iff.mp hq).1
    have e1 := e (10 + 2 * w) (by omega)
    have e2 := e (10 + 2 * w + 1) (by omega)
    exact (h6 w q hq).same (by rw [Nat.add_assoc, e1]) (by rw [show b + 10 + 2 * w + 1 = b + (10 + 2 * w + 1) by omega, e2])
  · intro w q hq
    have hl := (List.getElem?_eq_some_iff.mp hq).1
    have e1 := e (22 + 2 * w) (by omega)
    have e2 := e (22 + 2 * w + 1) (by omega)
    exact (h8 w q hq).same (by rw [Nat.add_assoc, e1]) (by rw [show b + 22 + 2 * w + 1 = b + (22 + 2 * w + 1) by omega, e2])
  · exact h9.same (by rw [e 4 (by omega)]) (by rw [show b + 4 + 1 = b + 5 by omega, e 5 (by omega)])
  · exact h10.same (by rw [e 6 (by omega)]) (by rw [show b + 6 + 1 = b + 7 by omega, e 7 (by omega)])
  · exact h11.same (by rw [e 8 (by omega)]) (by rw [show b + 8 + 1 = b + 9 by omega, e 9 (by omega)])
  · obtain ⟨l1, l2, l3, l4, l5⟩ := h12
    refine ⟨?_, ?_, by rw [e 4 (by omega)]; exact l3, by rw [e 6 (by omega)]; exact l4, by rw [e 8 (by omega)]; exact l5⟩
    · intro w hw; have := e (10 + 2 * w) (by omega); rw [Nat.add_assoc, this, ← Nat.add_assoc]; exact l1 w hw
    · intro w hw; have := e (22 + 2 * w) (by omega); rw [Nat.add_assoc, this, ← Nat.add_assoc]; exact l2 w hw
end ABS
