/-! the reference's ways: closed runs over what is known of the memory -/
def ov (M : PM) (G : PW) : PW := fun r j => (pw_get M r j).getD (G r j)
theorem pw_at {S : PS} {n k pc : Nat} {P : PL} {st : List PV} {M M' : PM} {r : Option PV} {G : PW} (h : pw_ex S n k pc P st M = some (r, M')) (hG : pw_hs M G) : pm_dn S k pc P st G = some (r, ov M' G) := by
  obtain ⟨G', h1, h2, h3, -⟩ := pw_sound S _ _ _ _ _ _ _ _ _ h hG
  have e : G' = ov M' G := by
    funext a b
    unfold ov
    cases q : pw_get M' a b with
    | none => exact h3 a b q
    | some y => exact h2 a b y q
  rw [← e]
  exact pm_dn_of h1
theorem ov_no {M : PM} {G : PW} {r j : Nat} (h : pw_get M r j = none) : ov M G r j = G r j := by
  unfold ov
  rw [h]
  rfl
theorem ov_at {M : PM} {G : PW} {r j : Nat} {v : Int} (h : pw_get M r j = some v) : ov M G r j = v := by
  unfold ov
  rw [h]
  rfl
theorem nth_some {l : List Int} : ∀ j : Nat, j < l.length → pw_nth none (l.map some) j = some (pw_nth (-6) l j) := by
  induction l with
  | nil => intro j h; exact absurd h (Nat.not_lt_zero j)
  | cons a t ih =>
    intro j h
    cases j with
    | zero => rfl
    | succ j => exact ih j (by simpa using h)
def lr_up (z : Nat) : List (Option Int) := bif Nat.beq z 4 then [none, some 0, some 2] else bif Nat.beq z 8 then [none, some 0, some 4, some 6] else [none, some 0, some 8, some 12, some 14]
def lr_lo (z : Nat) : List (Option Int) := bif Nat.beq z 4 then [none, some 3, some 4] else bif Nat.beq z 8 then [none, some 7, some 9, some 11, some 12] else [none, some 15, some 19, some 23, some 25, some 27, some 28]
def lr_mn (z : Nat) : List (Option Int) := bif Nat.beq z 4 then [none, some 1, some 1] else bif Nat.beq z 8 then [none, some 2, some 2, some 1, some 1] else [none, some 4, some 4, some 2, some 2, some 1, some 1]
def tz (n : Nat) : Nat := bif Nat.ble n 4 then 4 else bif Nat.ble n 8 then 8 else 16
def lr_0 (z : Nat) : List (Option Int) := [none, none, none, none, none, some (z : Int), some (tR z : Int), some (tF z : Int)]
def lr_M (n z : Nat) : PM := [lr_0 z, [some (n : Int)], [], [], [], [], [], [], [], [], [], [], lr_up z, lr_lo z, lr_mn z]
def lw_0 (z x : Nat) : PM := [lr_0 z, [none, some (x : Int)], [], [], [], [], [], [], [], [], [], [], lr_up z, lr_lo z, lr_mn z]
def lw_M (z x : Nat) : PM := [lr_0 z, [none, some (x : Int)], [], [], [], (tz_part z).map some, (tz_round z).map some, (tz_index z).map some, (tz_wt z).map some, (tz_wd z).map some, (tz_lt z x).map some, (tz_ld z x).map some, lr_up z, lr_lo z, lr_mn z, (tz_seed z).map some, (tz_seed z).map some]
/-- the memory behind the laying of the ways -/
def wayed (G : PW) (n x : Nat) : PW := ov (lw_M (tz n) x) (ov (lr_M n (tz n)) G)
theorem tz_cfg {n x : Nat} (h : 2 ≤ n ∧ n ≤ 16) (hx : x = 0 ∨ x = 1) : cfg (tz n) x ∧ n ≤ tz n := by
  have e : tz n = if n ≤ 4 then 4 else if n ≤ 8 then 8 else 16 := by
    unfold tz
    by_cases c1 : n ≤ 4
    · rw [Nat.ble_eq_true_of_le c1, if_pos c1]
      rfl
    · have b1 : Nat.ble n 4 = false := by
        cases q : Nat.ble n 4 with
        | false => rfl
        | true => exact absurd (Nat.le_of_ble_eq_true q) c1
      rw [b1, if_neg c1]
      by_cases c2 : n ≤ 8
      · rw [Nat.ble_eq_true_of_le c2, if_pos c2]
        rfl
      · have b2 : Nat.ble n 8 = false := by
          cases q : Nat.ble n 8 with
          | false => rfl
          | true => exact absurd (Nat.le_of_ble_eq_true q) c2
        rw [b2, if_neg c2]
        rfl
  rw [e]
  by_cases c1 : n ≤ 4
  · rw [if_pos c1]
    exact ⟨⟨Or.inl rfl, hx⟩, c1⟩
  · rw [if_neg c1]
    by_cases c2 : n ≤ 8
    · rw [if_pos c2]
      exact ⟨⟨Or.inr (Or.inl rfl), hx⟩, c2⟩
    · rw [if_neg c2]
      exact ⟨⟨Or.inr (Or.inr rfl), hx⟩, h.2⟩
theorem lw_row {z x r : Nat} (n : Nat) (h : r ≠ 1) (j : Nat) : pw_get (lw_0 z x) r j = pw_get (lr_M n z) r j := by
  match r with
  | 0 => rfl
  | 1 => exact absurd rfl h
  | r + 2 => rfl
theorem wayed_1 {G : PW} {n x : Nat} (hn : G 1 0 = (n : Int)) (hx : G 1 1 = (x : Int)) : wayed G n x 1 = G 1 := by
  funext j
  unfold wayed
  match j with
  | 0 => rw [ov_no rfl, ov_at (show pw_get (lr_M n (tz n)) 1 0 = some (n : Int) from rfl), hn]
  | 1 => rw [ov_at (show pw_get (lw_M (tz n) x) 1 1 = some (x : Int) from rfl), hx]
  | j + 2 => rw [ov_no rfl, ov_no rfl]
theorem wayed_r {G : PW} {n x r : Nat} (h : r = 2 ∨ r = 3 ∨ r = 4 ∨ 17 ≤ r) : wayed G n x r = G r := by
  funext j
  unfold wayed
  match r with
  | 0 => omega
  | 1 => omega
  | 2 => rw [ov_no rfl, ov_no rfl]
  | 3 => rw [ov_no rfl, ov_no rfl]
  | 4 => rw [ov_no rfl, ov_no rfl]
  | 5 => omega
  | 6 => omega
  | 7 => omega
  | 8 => omega
  | 9 => omega
  | 10 => omega
  | 11 => omega
  | 12 => omega
  | 13 => omega
  | 14 => omega
  | 15 => omega
  | 16 => omega
  | r + 17 => rw [ov_no rfl, ov_no rfl]
theorem wayed_0 {G : PW} {n x j : Nat} (h : j < 5 ∨ 8 ≤ j) : wayed G n x 0 j = G 0 j := by
  unfold wayed
  match j with
  | 0 => rw [ov_no rfl, ov_no rfl]
  | 1 => rw [ov_no rfl, ov_no rfl]
  | 2 => rw [ov_no rfl, ov_no rfl]
  | 3 => rw [ov_no rfl, ov_no rfl]
  | 4 => rw [ov_no rfl, ov_no rfl]
  | 5 => omega
  | 6 => omega
  | 7 => omega
  | j + 8 => rw [ov_no rfl, ov_no rfl]
theorem tz_len {z x : Nat} (h : cfg z x) : ((tz_part z).length = tF z ∧ (tz_round z).length = tF z ∧ (tz_index z).length = tF z) ∧ ((tz_wt z).length = tF z ∧ (tz_wd z).length = tF z ∧ (tz_ws z).length = tF z) ∧ ((tz_lt z x).length = tF z ∧ (tz_ld z x).length = tF z ∧ (tz_ls z x).length = tF z) ∧ (tz_seed z).length = z := by
  refine cfg_ind (P := fun z x => ((tz_part z).length = tF z ∧ (tz_round z).length = tF z ∧ (tz_index z).length = tF z) ∧ ((tz_wt z).length = tF z ∧ (tz_wd z).length = tF z ∧ (tz_ws z).length = tF z) ∧ ((tz_lt z x).length = tF z ∧ (tz_ld z x).length = tF z ∧ (tz_ls z x).length = tF z) ∧ (tz_seed z).length = z) ?_ h
  decide +kernel