/-! picked out of the rows of the whole claim -/
theorem fup_ne {f : Nat → Int} {k j : Nat} {x : Int} (h : j ≠ k) : fup f k x j = f j := by
  unfold fup
  rw [if_neg h]
theorem fup_eq {f : Nat → Int} {k : Nat} {x : Int} : fup f k x k = x := by
  unfold fup
  rw [if_pos rfl]
theorem pe_10 : ((1 : Int) = 0) = False := eq_false (by decide)
