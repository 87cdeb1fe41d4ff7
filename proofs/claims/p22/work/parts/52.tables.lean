/-! the tables by size z (4, 8, 16) and CROSS x: part, round, index, where winners and losers go (a seat is 2 match + side), the seeds -/
def tz_part (z : Nat) : List Int := bif Nat.beq z 4 then [0, 0, 0, 1, 1, 2, 2] else bif Nat.beq z 8 then [0, 0, 0, 0, 0, 0, 0, 1, 1, 1, 1, 1, 1, 2, 2] else [0, 0, 0, 0, 0, 0, 0, 0, 0, 0, 0, 0, 0, 0, 0, 1, 1, 1, 1, 1, 1, 1, 1, 1, 1, 1, 1, 1, 1, 2, 2]
def tz_round (z : Nat) : List Int := bif Nat.beq z 4 then [1, 1, 2, 1, 2, 1, 2] else bif Nat.beq z 8 then [1, 1, 1, 1, 2, 2, 3, 1, 1, 2, 2, 3, 4, 1, 2] else [1, 1, 1, 1, 1, 1, 1, 1, 2, 2, 2, 2, 3, 3, 4, 1, 1, 1, 1, 2, 2, 2, 2, 3, 3, 4, 4, 5, 6, 1, 2]
def tz_index (z : Nat) : List Int := bif Nat.beq z 4 then [0, 1, 0, 0, 0, 0, 0] else bif Nat.beq z 8 then [0, 1, 2, 3, 0, 1, 0, 0, 1, 0, 1, 0, 0, 0, 0] else [0, 1, 2, 3, 4, 5, 6, 7, 0, 1, 2, 3, 0, 1, 0, 0, 1, 2, 3, 0, 1, 2, 3, 0, 1, 0, 1, 0, 0, 0, 0]
def tz_ws (z : Nat) : List Int := bif Nat.beq z 4 then [4, 5, 10, 8, 11, -6, -6] else bif Nat.beq z 8 then [8, 9, 10, 11, 12, 13, 26, 18, 20, 22, 23, 24, 27, -6, -6] else [16, 17, 18, 19, 20, 21, 22, 23, 24, 25, 26, 27, 28, 29, 58, 38, 40, 42, 44, 46, 47, 48, 49, 50, 52, 54, 55, 56, 59, -6, -6]
def tz_wt (z : Nat) : List Int := bif Nat.beq z 4 then [2, 2, 5, 4, 5, -6, -6] else bif Nat.beq z 8 then [4, 4, 5, 5, 6, 6, 13, 9, 10, 11, 11, 12, 13, -6, -6] else [8, 8, 9, 9, 10, 10, 11, 11, 12, 12, 13, 13, 14, 14, 29, 19, 20, 21, 22, 23, 23, 24, 24, 25, 26, 27, 27, 28, 29, -6, -6]
def tz_wd (z : Nat) : List Int := bif Nat.beq z 4 then [0, 1, 0, 0, 1, -6, -6] else bif Nat.beq z 8 then [0, 1, 0, 1, 0, 1, 0, 0, 0, 0, 1, 0, 1, -6, -6] else [0, 1, 0, 1, 0, 1, 0, 1, 0, 1, 0, 1, 0, 1, 0, 0, 0, 0, 0, 0, 1, 0, 1, 0, 0, 0, 1, 0, 1, -6, -6]
def tz_seed (z : Nat) : List Int := bif Nat.beq z 4 then [0, 3, 1, 2] else bif Nat.beq z 8 then [0, 7, 3, 4, 1, 6, 2, 5] else [0, 15, 7, 8, 3, 12, 4, 11, 1, 14, 6, 9, 2, 13, 5, 10]
def tz_ls (z x : Nat) : List Int := bif Nat.beq z 4 then (bif Nat.beq x 0 then [6, 7, 9, -6, -6, -6, -6] else [6, 7, 9, -6, -6, -6, -6]) else bif Nat.beq z 8 then (bif Nat.beq x 0 then [14, 15, 16, 17, 19, 21, 25, -6, -6, -6, -6, -6, -6, -6, -6] else [14, 15, 16, 17, 21, 19, 25, -6, -6, -6, -6, -6, -6, -6, -6]) else (bif Nat.beq x 0 then [30, 31, 32, 33, 34, 35, 36, 37, 39, 41, 43, 45, 51, 53, 57, -6, -6, -6, -6, -6, -6, -6, -6, -6, -6, -6, -6, -6, -6, -6, -6] else [30, 31, 32, 33, 34, 35, 36, 37, 45, 43, 41, 39, 51, 53, 57, -6, -6, -6, -6, -6, -6, -6, -6, -6, -6, -6, -6, -6, -6, -6, -6])
def tz_lt (z x : Nat) : List Int := bif Nat.beq z 4 then (bif Nat.beq x 0 then [3, 3, 4, -6, -6, -6, -6] else [3, 3, 4, -6, -6, -6, -6]) else bif Nat.beq z 8 then (bif Nat.beq x 0 then [7, 7, 8, 8, 9, 10, 12, -6, -6, -6, -6, -6, -6, -6, -6] else [7, 7, 8, 8, 10, 9, 12, -6, -6, -6, -6, -6, -6, -6, -6]) else (bif Nat.beq x 0 then [15, 15, 16, 16, 17, 17, 18, 18, 19, 20, 21, 22, 25, 26, 28, -6, -6, -6, -6, -6, -6, -6, -6, -6, -6, -6, -6, -6, -6, -6, -6] else [15, 15, 16, 16, 17, 17, 18, 18, 22, 21, 20, 19, 25, 26, 28, -6, -6, -6, -6, -6, -6, -6, -6, -6, -6, -6, -6, -6, -6, -6, -6])
def tz_ld (z x : Nat) : List Int := bif Nat.beq z 4 then (bif Nat.beq x 0 then [0, 1, 1, -6, -6, -6, -6] else [0, 1, 1, -6, -6, -6, -6]) else bif Nat.beq z 8 then (bif Nat.beq x 0 then [0, 1, 0, 1, 1, 1, 1, -6, -6, -6, -6, -6, -6, -6, -6] else [0, 1, 0, 1, 1, 1, 1, -6, -6, -6, -6, -6, -6, -6, -6]) else (bif Nat.beq x 0 then [0, 1, 0, 1, 0, 1, 0, 1, 1, 1, 1, 1, 1, 1, 1, -6, -6, -6, -6, -6, -6, -6, -6, -6, -6, -6, -6, -6, -6, -6, -6] else [0, 1, 0, 1, 0, 1, 0, 1, 1, 1, 1, 1, 1, 1, 1, -6, -6, -6, -6, -6, -6, -6, -6, -6, -6, -6, -6, -6, -6, -6, -6])
def tr (l : List Int) : Nat → Int := pw_nth (-6) l
def tF (z : Nat) : Nat := 2 * z - 1
def tR (z : Nat) : Nat := bif Nat.beq z 4 then 2 else bif Nat.beq z 8 then 3 else 4
/-- sizes and CROSS -/
def cfg (z x : Nat) : Prop := (z = 4 ∨ z = 8 ∨ z = 16) ∧ (x = 0 ∨ x = 1)
theorem all_lt {p : Nat → Bool} {k : Nat} (h : (List.range k).all p = true) : ∀ m, m < k → p m = true := fun m hm => List.all_eq_true.mp h m (List.mem_range.mpr hm)
theorem cfg_ind {P : Nat → Nat → Prop} (h : P 4 0 ∧ P 4 1 ∧ P 8 0 ∧ P 8 1 ∧ P 16 0 ∧ P 16 1) {z x : Nat} (hc : cfg z x) : P z x := by
  obtain ⟨h1, h2⟩ := hc
  rcases h1 with rfl | rfl | rfl <;> rcases h2 with rfl | rfl
  · exact h.1
  · exact h.2.1
  · exact h.2.2.1
  · exact h.2.2.2.1
  · exact h.2.2.2.2.1
  · exact h.2.2.2.2.2
/-- where winners go -/
abbrev tWS (z : Nat) : Nat → Int := tr (tz_ws z)
abbrev tLS (z x : Nat) : Nat → Int := tr (tz_ls z x)
abbrev tPT (z : Nat) : Nat → Int := tr (tz_part z)
abbrev tSD (z : Nat) : Nat → Int := tr (tz_seed z)
/-- how many losses a player has who sits there -/
def tlw (z s : Nat) : Int := if s + 4 = 2 * tF z then 0 else if s + 3 = 2 * tF z then 1 else if tPT z (s / 2) = 0 then 0 else 1
theorem tb_win {z x : Nat} (h : cfg z x) : ∀ m, m < tF z - 2 → (z : Int) ≤ tWS z m ∧ (2 * m + 2 : Int) ≤ tWS z m ∧ tWS z m < (2 * tF z - 2 : Nat) := by
  refine cfg_ind (P := fun z _ => ∀ m, m < tF z - 2 → (z : Int) ≤ tWS z m ∧ (2 * m + 2 : Int) ≤ tWS z m ∧ tWS z m < (2 * tF z - 2 : Nat)) ?_ h
  have e : ∀ z, (List.range (tF z - 2)).all (fun m => decide ((z : Int) ≤ tWS z m ∧ (2 * m + 2 : Int) ≤ tWS z m ∧ tWS z m < (2 * tF z - 2 : Nat))) = true → ∀ m, m < tF z - 2 → (z : Int) ≤ tWS z m ∧ (2 * m + 2 : Int) ≤ tWS z m ∧ tWS z m < (2 * tF z - 2 : Nat) := fun z h m hm => of_decide_eq_true (all_lt h m hm)
  exact ⟨e _ (by decide +kernel), e _ (by decide +kernel), e _ (by decide +kernel), e _ (by decide +kernel), e _ (by decide +kernel), e _ (by decide +kernel)⟩
theorem tb_los {z x : Nat} (h : cfg z x) : ∀ m, m < tF z → tLS z x m = -6 ∨ (m < tF z - 2 ∧ (z : Int) ≤ tLS z x m ∧ (2 * m + 2 : Int) ≤ tLS z x m ∧ tLS z x m < (2 * tF z - 4 : Nat)) := by
  refine cfg_ind (P := fun z x => ∀ m, m < tF z → tLS z x m = -6 ∨ (m < tF z - 2 ∧ (z : Int) ≤ tLS z x m ∧ (2 * m + 2 : Int) ≤ tLS z x m ∧ tLS z x m < (2 * tF z - 4 : Nat))) ?_ h
  have e : ∀ z x, (List.range (tF z)).all (fun m => decide (tLS z x m = -6 ∨ (m < tF z - 2 ∧ (z : Int) ≤ tLS z x m ∧ (2 * m + 2 : Int) ≤ tLS z x m ∧ tLS z x m < (2 * tF z - 4 : Nat)))) = true → ∀ m, m < tF z → tLS z x m = -6 ∨ (m < tF z - 2 ∧ (z : Int) ≤ tLS z x m ∧ (2 * m + 2 : Int) ≤ tLS z x m ∧ tLS z x m < (2 * tF z - 4 : Nat)) := fun z x h m hm => of_decide_eq_true (all_lt h m hm)
  exact ⟨e _ _ (by decide +kernel), e _ _ (by decide +kernel), e _ _ (by decide +kernel), e _ _ (by decide +kernel), e _ _ (by decide +kernel), e _ _ (by decide +kernel)⟩
theorem tb_fin {z x : Nat} (h : cfg z x) : tWS z (tF z - 2) = -6 ∧ tWS z (tF z - 1) = -6 ∧ tLS z x (tF z - 2) = -6 ∧ tLS z x (tF z - 1) = -6 ∧ tPT z (tF z - 2) = 2 ∧ tPT z (tF z - 1) = 2 := by
  refine cfg_ind (P := fun z x => tWS z (tF z - 2) = -6 ∧ tWS z (tF z - 1) = -6 ∧ tLS z x (tF z - 2) = -6 ∧ tLS z x (tF z - 1) = -6 ∧ tPT z (tF z - 2) = 2 ∧ tPT z (tF z - 1) = 2) ?_ h
  decide +kernel
/-- no seat is filled twice -/
theorem tb_inj {z x : Nat} (h : cfg z x) : ∀ m, m < tF z - 2 → ∀ k, k < tF z - 2 → (tWS z m = tWS z k → m = k) ∧ (tLS z x m = tLS z x k → tLS z x m = -6 ∨ m = k) ∧ tWS z m ≠ tLS z x k := by
  refine cfg_ind (P := fun z x => ∀ m, m < tF z - 2 → ∀ k, k < tF z - 2 → (tWS z m = tWS z k → m = k) ∧ (tLS z x m = tLS z x k → tLS z x m = -6 ∨ m = k) ∧ tWS z m ≠ tLS z x k) ?_ h
  have e : ∀ z x, (List.range (tF z - 2)).all (fun m => (List.range (tF z - 2)).all (fun k => decide ((tWS z m = tWS z k → m = k) ∧ (tLS z x m = tLS z x k → tLS z x m = -6 ∨ m = k) ∧ tWS z m ≠ tLS z x k))) = true → ∀ m, m < tF z - 2 → ∀ k, k < tF z - 2 → (tWS z m = tWS z k → m = k) ∧ (tLS z x m = tLS z x k → tLS z x m = -6 ∨ m = k) ∧ tWS z m ≠ tLS z x k := fun z x h m hm k hk => of_decide_eq_true (all_lt (all_lt h m hm) k hk)
  exact ⟨e _ _ (by decide +kernel), e _ _ (by decide +kernel), e _ _ (by decide +kernel), e _ _ (by decide +kernel), e _ _ (by decide +kernel), e _ _ (by decide +kernel)⟩
/-- which match fills a seat -/
def tsrc (z x s : Nat) : Nat := ((List.range (tF z - 2)).find? (fun m => decide (tWS z m = (s : Int) ∨ tLS z x m = (s : Int)))).getD 0
theorem tb_src {z x : Nat} (h : cfg z x) : ∀ s, s < 2 * tF z - 2 → z ≤ s → ∃ m, m < tF z - 2 ∧ 2 * m + 2 ≤ s ∧ (tWS z m = (s : Int) ∨ tLS z x m = (s : Int)) := by
  have e : ∀ z x, (List.range (2 * tF z - 2)).all (fun s => decide (z ≤ s → tsrc z x s < tF z - 2 ∧ 2 * tsrc z x s + 2 ≤ s ∧ (tWS z (tsrc z x s) = (s : Int) ∨ tLS z x (tsrc z x s) = (s : Int)))) = true → ∀ s, s < 2 * tF z - 2 → z ≤ s → ∃ m, m < tF z - 2 ∧ 2 * m + 2 ≤ s ∧ (tWS z m = (s : Int) ∨ tLS z x m = (s : Int)) := fun z x h s hs hz => ⟨tsrc z x s, of_decide_eq_true (all_lt h s hs) hz⟩
  refine cfg_ind (P := fun z x => ∀ s, s < 2 * tF z - 2 → z ≤ s → ∃ m, m < tF z - 2 ∧ 2 * m + 2 ≤ s ∧ (tWS z m = (s : Int) ∨ tLS z x m = (s : Int))) ?_ h
  exact ⟨e _ _ (by decide +kernel), e _ _ (by decide +kernel), e _ _ (by decide +kernel), e _ _ (by decide +kernel), e _ _ (by decide +kernel), e _ _ (by decide +kernel)⟩
theorem tb_part {z x : Nat} (h : cfg z x) : ∀ m, m < tF z - 2 → (tPT z m = 0 ∧ tLS z x m ≠ -6) ∨ (tPT z m = 1 ∧ tLS z x m = -6) := by
  refine cfg_ind (P := fun z x => ∀ m, m < tF z - 2 → (tPT z m = 0 ∧ tLS z x m ≠ -6) ∨ (tPT z m = 1 ∧ tLS z x m = -6)) ?_ h
  have e : ∀ z x, (List.range (tF z - 2)).all (fun m => decide ((tPT z m = 0 ∧ tLS z x m ≠ -6) ∨ (tPT z m = 1 ∧ tLS z x m = -6))) = true → ∀ m, m < tF z - 2 → (tPT z m = 0 ∧ tLS z x m ≠ -6) ∨ (tPT z m = 1 ∧ tLS z x m = -6) := fun z x h m hm => of_decide_eq_true (all_lt h m hm)
  exact ⟨e _ _ (by decide +kernel), e _ _ (by decide +kernel), e _ _ (by decide +kernel), e _ _ (by decide +kernel), e _ _ (by decide +kernel), e _ _ (by decide +kernel)⟩
theorem tb_lw {z x : Nat} (h : cfg z x) : ∀ m, m < tF z - 2 → tlw z (2 * m) = tPT z m ∧ tlw z (2 * m + 1) = tPT z m ∧ tlw z (tWS z m).toNat = tPT z m ∧ (tLS z x m ≠ -6 → tlw z (tLS z x m).toNat = 1) := by
  refine cfg_ind (P := fun z x => ∀ m, m < tF z - 2 → tlw z (2 * m) = tPT z m ∧ tlw z (2 * m + 1) = tPT z m ∧ tlw z (tWS z m).toNat = tPT z m ∧ (tLS z x m ≠ -6 → tlw z (tLS z x m).toNat = 1)) ?_ h
  have e : ∀ z x, (List.range (tF z - 2)).all (fun m => decide (tlw z (2 * m) = tPT z m ∧ tlw z (2 * m + 1) = tPT z m ∧ tlw z (tWS z m).toNat = tPT z m ∧ (tLS z x m ≠ -6 → tlw z (tLS z x m).toNat = 1))) = true → ∀ m, m < tF z - 2 → tlw z (2 * m) = tPT z m ∧ tlw z (2 * m + 1) = tPT z m ∧ tlw z (tWS z m).toNat = tPT z m ∧ (tLS z x m ≠ -6 → tlw z (tLS z x m).toNat = 1) := fun z x h m hm => of_decide_eq_true (all_lt h m hm)
  exact ⟨e _ _ (by decide +kernel), e _ _ (by decide +kernel), e _ _ (by decide +kernel), e _ _ (by decide +kernel), e _ _ (by decide +kernel), e _ _ (by decide +kernel)⟩
theorem tb_seed {z x : Nat} (h : cfg z x) : ∀ s, s < z → (0 ≤ tSD z s ∧ tSD z s < (z : Int)) ∧ (∀ k, k < z → tSD z s = tSD z k → s = k) ∧ ∃ k, k < z ∧ tSD z k = (s : Int) := by
  refine cfg_ind (P := fun z _ => ∀ s, s < z → (0 ≤ tSD z s ∧ tSD z s < (z : Int)) ∧ (∀ k, k < z → tSD z s = tSD z k → s = k) ∧ ∃ k, k < z ∧ tSD z k = (s : Int)) ?_ h
  have e : ∀ z, (List.range z).all (fun s => decide (0 ≤ tSD z s ∧ tSD z s < (z : Int)) && ((List.range z).all (fun k => decide (tSD z s = tSD z k → s = k)) && (List.range z).any (fun k => decide (tSD z k = (s : Int))))) = true → ∀ s, s < z → (0 ≤ tSD z s ∧ tSD z s < (z : Int)) ∧ (∀ k, k < z → tSD z s = tSD z k → s = k) ∧ ∃ k, k < z ∧ tSD z k = (s : Int) := fun z h s hs => by
    have q := all_lt h s hs
    simp only [Bool.and_eq_true] at q
    obtain ⟨q1, q2, q3⟩ := q
    obtain ⟨k, k1, k2⟩ := List.any_eq_true.mp q3
    exact ⟨of_decide_eq_true q1, fun k hk => of_decide_eq_true (all_lt q2 k hk), k, List.mem_range.mp k1, of_decide_eq_true k2⟩
  exact ⟨e _ (by decide +kernel), e _ (by decide +kernel), e _ (by decide +kernel), e _ (by decide +kernel), e _ (by decide +kernel), e _ (by decide +kernel)⟩
/-- the rounds -/
theorem tb_round {z x : Nat} (h : cfg z x) : ∀ m, m < tF z → (0 ≤ tr (tz_round z) m ∧ tr (tz_round z) m ≤ 8) ∧ (tPT z m = 1 → 1 ≤ tr (tz_round z) m ∧ tr (tz_round z) m ≤ 2 * (tR z : Int) - 2) := by
  refine cfg_ind (P := fun z _ => ∀ m, m < tF z → (0 ≤ tr (tz_round z) m ∧ tr (tz_round z) m ≤ 8) ∧ (tPT z m = 1 → 1 ≤ tr (tz_round z) m ∧ tr (tz_round z) m ≤ 2 * (tR z : Int) - 2)) ?_ h
  have e : ∀ z, (List.range (tF z)).all (fun m => decide ((0 ≤ tr (tz_round z) m ∧ tr (tz_round z) m ≤ 8) ∧ (tPT z m = 1 → 1 ≤ tr (tz_round z) m ∧ tr (tz_round z) m ≤ 2 * (tR z : Int) - 2))) = true → ∀ m, m < tF z → (0 ≤ tr (tz_round z) m ∧ tr (tz_round z) m ≤ 8) ∧ (tPT z m = 1 → 1 ≤ tr (tz_round z) m ∧ tr (tz_round z) m ≤ 2 * (tR z : Int) - 2) := fun z h m hm => of_decide_eq_true (all_lt h m hm)
  exact ⟨e _ (by decide +kernel), e _ (by decide +kernel), e _ (by decide +kernel), e _ (by decide +kernel), e _ (by decide +kernel), e _ (by decide +kernel)⟩
