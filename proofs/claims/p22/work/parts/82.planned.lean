/-! isPlanned() and isSeeded(): closed runs over what is known of the plan -/
def ip_M (z x : Nat) : PM := List.replicate 4 [] ++ [[none, some (x : Int), some (z : Int), some (tR z : Int), some (tF z : Int)], (tz_part z).map some, (tz_round z).map some, (tz_index z).map some, (tz_ws z).map some, (tz_ls z x).map some]
def ip_is (o : Option (Option PV × PM)) (M : PM) : Bool := match o with
  | some (some (.inl 1), M') => decide (M' = M)
  | _ => false
theorem ip_is_of {o : Option (Option PV × PM)} {M : PM} (h : ip_is o M = true) : o = some (some (.inl 1), M) := by
  unfold ip_is at h
  split at h
  · rw [of_decide_eq_true h]
  · cases h
abbrev ip_run (z x : Nat) : Bool := ip_is (pw_ex pm_sC 200000 84 45 [some (.inr (.inr 0)), none, some (.inl (x : Int)), some (.inl (z : Int)), some (.inl (tR z : Int)), none, none, none, none, none, none] [] (ip_M z x)) (ip_M z x)
theorem ip_4_0 : ip_run 4 0 = true := by decide +kernel
theorem ip_4_1 : ip_run 4 1 = true := by decide +kernel
theorem ip_8_0 : ip_run 8 0 = true := by decide +kernel
theorem ip_8_1 : ip_run 8 1 = true := by decide +kernel
