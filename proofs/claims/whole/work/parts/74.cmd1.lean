/-! ===== the plain commands: what their functions say ===== -/
section C1
variable {s : am_S} {x y z : Int32}
theorem lit32 : (0 : Int32).toInt = 0 ∧ (1 : Int32).toInt = 1 ∧ (2 : Int32).toInt = 2 ∧ (3 : Int32).toInt = 3 ∧ (4 : Int32).toInt = 4 ∧ (6 : Int32).toInt = 6 ∧ (9 : Int32).toInt = 9 ∧ (10 : Int32).toInt = 10 ∧ (12 : Int32).toInt = 12 ∧ (16 : Int32).toInt = 16 ∧ (20 : Int32).toInt = 20 ∧ (24 : Int32).toInt = 24 ∧ (50 : Int32).toInt = 50 ∧ (200 : Int32).toInt = 200 ∧ (999 : Int32).toInt = 999 ∧ (9999 : Int32).toInt = 9999 ∧ (99999 : Int32).toInt = 99999 ∧ (-9 : Int32).toInt = -9 ∧ (-16 : Int32).toInt = -16 ∧ (-20 : Int32).toInt = -20 := by decide
theorem litL : (0 : Int64).toInt = 0 ∧ (1 : Int64).toInt = 1 ∧ (2 : Int64).toInt = 2 ∧ (3 : Int64).toInt = 3 ∧ (4 : Int64).toInt = 4 ∧ (5 : Int64).toInt = 5 ∧ (6 : Int64).toInt = 6 ∧ (9 : Int64).toInt = 9 ∧ (10 : Int64).toInt = 10 ∧ (12 : Int64).toInt = 12 ∧ (16 : Int64).toInt = 16 ∧ (20 : Int64).toInt = 20 ∧ (24 : Int64).toInt = 24 ∧ (50 : Int64).toInt = 50 ∧ (200 : Int64).toInt = 200 ∧ (999 : Int64).toInt = 999 ∧ (9999 : Int64).toInt = 9999 ∧ (99999 : Int64).toInt = 99999 ∧ (-9 : Int64).toInt = -9 ∧ (-16 : Int64).toInt = -16 ∧ (-20 : Int64).toInt = -20 := by decide
theorem f_sheet : f_X7_sheet x y s = if wi x.toInt 4 24 = true ∧ wi y.toInt 3 12 = true then some (.inl none, am_sI (am_sI s 1 0 x) 1 1 y) else some (.inr 0, am_tick s) := by
  unfold f_X7_sheet
  simp only [f_needWithin, lit32]
  by_cases h1 : wi x.toInt 4 24 = true <;> by_cases h2 : wi y.toInt 3 12 = true <;> simp [h1, h2, am_tu]
theorem g_sheet : f_X8_sheet x y s = if wi x.toInt 4 24 = true ∧ wi y.toInt 3 12 = true then some (.inl none, am_sI (am_sI (am_sI s 55 3 0) 56 0 x) 56 1 y) else some (.inl none, am_sI s 55 3 1) := by
  unfold f_X8_sheet
  simp only [f_within, litL, Int32.toInt_toInt64]
  by_cases h1 : wi x.toInt 4 24 = true <;> by_cases h2 : wi y.toInt 3 12 = true <;> simp [h1, h2, am_bi, am_jn]
theorem f_damp : f_X7_damp x s = if wi x.toInt 0 50 = true then some (.inl (some (.int (am_I s 1 2))), am_sI s 1 2 x) else some (.inr 0, am_tick s) := by
  unfold f_X7_damp
  simp only [f_needWithin, lit32]
  by_cases h1 : wi x.toInt 0 50 = true <;> simp [h1, am_tu]
theorem g_damp : f_X8_damp x s = if wi x.toInt 0 50 = true then some (.inl (some (.int (am_I s 56 7))), am_sI (am_sI s 55 3 0) 56 7 x) else some (.inl (some (.int 0)), am_sI (am_sI s 55 3 0) 55 3 1) := by
  unfold f_X8_damp
  simp only [f_within, litL, Int32.toInt_toInt64]
  by_cases h1 : wi x.toInt 0 50 = true <;> simp [h1, am_bi, f_X8_fails, I_sI]
end C1
