/-! picked out of the rows of the whole claim -/
theorem tstp_R {WS LS : Nat → Int} {F : Nat} {g : Nat → Int} {n : Int} {rat : Nat → Int} {hero : Int} {k m : Nat} {s : BB × (Nat → Int) × Int} (h : m ≠ k) : (tstp WS LS F g n rat hero k s).2.1 m = s.2.1 m := by
  unfold tstp
  by_cases c : bplay n (bstep WS LS F s.2.1 g k s.1) k = true
  · rw [if_pos c]
    exact fup_ne h
  · rw [if_neg c]
theorem trun_R {WS LS : Nat → Int} {F : Nat} {g : Nat → Int} {n : Int} {rat : Nat → Int} {hero : Int} {s : BB × (Nat → Int) × Int} : ∀ k m : Nat, k ≤ m → (trun WS LS F g n rat hero s k).2.1 m = s.2.1 m := by
  intro k
  induction k with
  | zero => intro m _; rfl
  | succ k ih =>
    intro m hm
    show (tstp WS LS F g n rat hero k _).2.1 m = _
    rw [tstp_R (by omega), ih m (by omega)]
