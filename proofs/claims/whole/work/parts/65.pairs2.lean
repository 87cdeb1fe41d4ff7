/-! the reference's pairs are the class' matches without byes-/
theorem cnt_win {p : Nat → Bool} {st mn N : Nat} (h : st + mn ≤ N) (hp : ∀ m, m < N → p m = true → st ≤ m ∧ m < st + mn) : cnt p N = cnt (fun j => p (st + j)) mn := by
  have lo : ∀ k, k ≤ st → cnt p k = 0 := fun k hk => cnt_zero k (fun m hm => by
    cases c : p m with
    | false => rfl
    | true => have := hp m (by omega) c; omega)
  have mid : ∀ j, j ≤ mn → cnt p (st + j) = cnt (fun j => p (st + j)) j := by
    intro j
    induction j with
    | zero => intro _; exact lo st (Nat.le_refl _)
    | succ j ih =>
      intro hj
      show cnt p (st + j) + _ = cnt (fun j => p (st + j)) j + _
      rw [ih (by omega)]
      rfl
  have hi : ∀ d, st + mn + d ≤ N → cnt p (st + mn + d) = cnt p (st + mn) := by
    intro d
    induction d with
    | zero => intro _; rfl
    | succ d ih =>
      intro hd
      show cnt p (st + mn + d) + _ = _
      rw [ih (by omega)]
      cases c : p (st + mn + d) with
      | false => exact Int.add_zero _
      | true => have := hp _ (by omega) c; omega
  have e := hi (N - (st + mn)) (by omega)
  rw [show st + mn + (N - (st + mn)) = N by omega] at e
  rw [e, mid mn (Nat.le_refl _)]
section PRS
variable {K : PW} {z x n : Nat}
theorem prs_Y (hc : cfg z x) (hp : planM K z x) : ∀ k, k ≤ tF z - 2 → ∀ s, s < 2 * tF z → (pruns (K 8) (K 9) (K 10) (K 11) (K 6) (K 5) (byem K (tF z) z, prm K) k).1 s = yrun (tWS z) (tLS z x) (byem K (tF z) z) k s ∧ ((pruns (K 8) (K 9) (K 10) (K 11) (K 6) (K 5) (byem K (tF z) z, prm K) k).1 s = 0 ∨ (pruns (K 8) (K 9) (K 10) (K 11) (K 6) (K 5) (byem K (tF z) z, prm K) k).1 s = 1) := by
  obtain ⟨f1, f2, f3, f4⟩ := cfg_F hc
  intro k
  induction k with
  | zero =>
    intro _ s hs
    refine ⟨rfl, ?_⟩
    show mixf (2 * tF z) (fun s => if s < z ∧ K 1 0 ≤ K 15 s then 1 else 0) (K 22) s = 0 ∨ mixf (2 * tF z) (fun s => if s < z ∧ K 1 0 ≤ K 15 s then 1 else 0) (K 22) s = 1
    unfold mixf
    rw [if_pos hs]
    exact ite10
  | succ k ih =>
    intro hk s hs
    obtain ⟨⟨w1, w2⟩, e1, e2⟩ := plan_ways hc hp k (by omega)
    have tw := tb_win hc k (by omega)
    have tl := tb_los hc k (by omega)
    have i0 := ih (by omega) (2 * k) (by omega)
    have i1 := ih (by omega) (2 * k + 1) (by omega)
    have is := ih (by omega) s hs
    show (pstp (K 8) (K 9) (K 10) (K 11) (K 6) (K 5) k _).1 s = ystp (tWS z) (tLS z x) k _ s ∧ ((pstp (K 8) (K 9) (K 10) (K 11) (K 6) (K 5) k _).1 s = 0 ∨ (pstp (K 8) (K 9) (K 10) (K 11) (K 6) (K 5) k _).1 s = 1)
    generalize pruns (K 8) (K 9) (K 10) (K 11) (K 6) (K 5) (byem K (tF z) z, prm K) k = q at *
    generalize yrun (tWS z) (tLS z x) (byem K (tF z) z) k = Y at *
    have pa : pany q.1 k = if 0 < Y (2 * k) + Y (2 * k + 1) then 1 else 0 := by
      unfold pany
      rw [← i0.1, ← i1.1]
      by_cases c : q.1 (2 * k) = 0 ∧ q.1 (2 * k + 1) = 0
      · rw [if_pos c, if_neg (by omega)]
      · rw [if_neg c, if_pos (by omega)]
    have pb : pboth q.1 k = if Y (2 * k) + Y (2 * k + 1) = 2 then 1 else 0 := by
      unfold pboth
      rw [← i0.1, ← i1.1]
      by_cases c : q.1 (2 * k) = 0 ∨ q.1 (2 * k + 1) = 0
      · rw [if_pos c, if_neg (by omega)]
      · rw [if_neg c, if_pos (by omega)]
    have b1 : ∀ (f : Nat → Int) (v : Int), bput f (tWS z k) v = fup f (2 * K 8 k + K 9 k).toNat v := fun f v => by
      rw [← e1, bput_w w1 f3]
      by_cases c : K 8 k = -6
      · unfold wsx at e1
        rw [if_pos c] at e1
        omega
      · rw [if_neg c]
    have b2 : ∀ (f : Nat → Int) (v : Int), bput f (tLS z x k) v = if K 10 k = -6 then f else fup f (2 * K 10 k + K 11 k).toNat v := fun f v => by
      rw [← e2, bput_w w2 f3]
    have sp : ∀ (f g : Nat → Int) (t : Nat) (v : Int), (f s = g s ∧ (f s = 0 ∨ f s = 1)) → (v = 0 ∨ v = 1) → fup f t v s = fup g t v s ∧ (fup f t v s = 0 ∨ fup f t v s = 1) := fun f g t v a b => by
      unfold fup
      by_cases c : s = t
      · rw [if_pos c, if_pos c]
        exact ⟨rfl, b⟩
      · rw [if_neg c, if_neg c]
        exact a
    unfold pstp ystp
    dsimp only
    rw [b2, b1, pa, pb]
    by_cases c : K 10 k = -6
    · rw [if_pos c, if_pos c]
      exact sp _ _ _ _ is ite10
    · rw [if_neg c, if_neg c]
      exact sp _ _ _ _ (sp _ _ _ _ is ite10) ite10
theorem prs_by (hc : cfg z x) (hp : planM K z x) (hn : K 1 0 = (n : Int)) {m : Nat} (hm : m < tF z - 2) : pany (pruns (K 8) (K 9) (K 10) (K 11) (K 6) (K 5) (byem K (tF z) z, prm K) m).1 m = 0 ↔ byY z x n (2 * m) + byY z x n (2 * m + 1) = 0 := by
  obtain ⟨f1, f2, f3, f4⟩ := cfg_F hc
  have E : ∀ i : Nat, i = 0 ∨ i = 1 → (pruns (K 8) (K 9) (K 10) (K 11) (K 6) (K 5) (byem K (tF z) z, prm K) m).1 (2 * m + i) = byY z x n (2 * m + i) ∧ (byY z x n (2 * m + i) = 0 ∨ byY z x n (2 * m + i) = 1) := fun i hi => by
    obtain ⟨a, b⟩ := prs_Y hc hp m (by omega) (2 * m + i) (by omega)
    have s1 := yrun_same (WS := tWS z) (LS := tLS z x) (Y := byem K (tF z) z) (Y' := fun s => if s < z ∧ (n : Int) ≤ tSD z s then 1 else 0) hc (fun _ _ => ⟨rfl, rfl⟩) (fun s hs => by
      show mixf (2 * tF z) (fun s => if s < z ∧ K 1 0 ≤ K 15 s then 1 else 0) (K 22) s = _
      unfold mixf
      rw [if_pos (by omega), hn]
      dsimp only
      rw [hp.2.2 s hs]) m (by omega) (2 * m + i) (by omega) (cov_side hc hm hi)
    have s2 := yrun_lo hc (Y := fun s => if s < z ∧ (n : Int) ≤ tSD z s then 1 else 0) (k := m) (tF z - 2 - m) (by omega) (2 * m + i) (by omega)
    rw [show m + (tF z - 2 - m) = tF z - 2 by omega] at s2
    have s2 : byY z x n (2 * m + i) = _ := s2
    rw [a, s1, ← s2] at b
    exact ⟨a.trans (s1.trans s2.symm), b⟩
  have e0 := E 0 (Or.inl rfl)
  have e1 := E 1 (Or.inr rfl)
  rw [Nat.add_zero] at e0
  unfold pany
  rw [e0.1, e1.1]
  by_cases c : byY z x n (2 * m) = 0 ∧ byY z x n (2 * m + 1) = 0
  · rw [if_pos c]
    exact ⟨fun _ => by omega, fun _ => rfl⟩
  · rw [if_neg c]
    exact ⟨fun y => by omega, fun y => by omega⟩
theorem prs_P (hc : cfg z x) (hp : planM K z x) (hn : K 1 0 = (n : Int)) {j : Nat} (hj : j < 9) : ∀ k, k ≤ tF z - 2 → (pruns (K 8) (K 9) (K 10) (K 11) (K 6) (K 5) (byem K (tF z) z, prm K) k).2 j = cnt (fun m => decide ((tPT z m = 1 ∧ tr (tz_round z) m = (j : Int)) ∧ byY z x n (2 * m) + byY z x n (2 * m + 1) = 0)) k := by
  obtain ⟨f1, f2, f3, f4⟩ := cfg_F hc
  intro k
  induction k with
  | zero =>
    intro _
    show mixf 9 (fun _ => 0) (K 23) j = 0
    unfold mixf
    rw [if_pos hj]
  | succ k ih =>
    intro hk
    have i1 := ih (by omega)
    have by1 := prs_by hc hp hn (m := k) (by omega)
    obtain ⟨⟨g5, g6, -⟩, -⟩ := hp.2.1 k (by omega)
    have rr := (tb_round hc k (by omega)).1
    show (pstp (K 8) (K 9) (K 10) (K 11) (K 6) (K 5) k _).2 j = cnt _ k + _
    rw [← i1]
    generalize pruns (K 8) (K 9) (K 10) (K 11) (K 6) (K 5) (byem K (tF z) z, prm K) k = q at by1 ⊢
    unfold pstp
    dsimp only
    rw [g5, g6]
    unfold fup
    by_cases c : j = (tr (tz_round z) k).toNat
    · rw [if_pos c, ← c]
      by_cases c2 : tPT z k = 1 ∧ pany q.1 k = 0
      · rw [if_pos c2, decide_eq_true ⟨⟨c2.1, by omega⟩, by1.mp c2.2⟩]
        rfl
      · rw [if_neg c2, decide_eq_false (fun y => c2 ⟨y.1.1, by1.mpr y.2⟩)]
        rfl
    · rw [if_neg c, decide_eq_false (fun y => c (by omega))]
      exact (Int.add_zero _).symm
/-- a round's pairs -/
theorem pairs_nbk (hc : cfg z x) (hp : planM K z x) (hn : K 1 0 = (n : Int)) {k : Nat} (h1 : 1 ≤ k) (h2 : k ≤ 2 * tR z - 2) : (pairs K (tF z) z).2 k = nbk z x n k := by
  obtain ⟨f1, f2, f3, f4⟩ := cfg_F hc
  obtain ⟨g1, g2, g3, g4⟩ := lst_rg hc h1 h2
  have r4 : tR z ≤ 4 := by
    rcases hc.1 with e | e | e
    · subst e
      decide
    · subst e
      decide
    · subst e
      decide
  have a := prs_P hc hp hn (j := k) (by omega) (tF z - 2) (Nat.le_refl _)
  have a : (pairs K (tF z) z).2 k = _ := a
  rw [a, cnt_win (st := (lst z k).toNat) (mn := (lmn z k).toNat) (by omega) (fun m hm q => by
    have q := of_decide_eq_true q
    have := (tb_rng hc m (by omega) k h1 h2).mpr q.1
    omega)]
  unfold nbk nob
  refine cnt_congr _ (fun j hj => ?_)
  have q := (tb_rng hc ((lst z k).toNat + j) (by omega) k h1 h2).mp (by omega)
  by_cases c : byY z x n (2 * ((lst z k).toNat + j)) + byY z x n (2 * ((lst z k).toNat + j) + 1) = 0
  · rw [decide_eq_true c, decide_eq_true ⟨q, c⟩]
  · rw [decide_eq_false c, decide_eq_false (fun y => c y.2)]
theorem psm_same {P Q : Nat → Int} : ∀ f k : Nat, (∀ j, k ≤ j → j < k + f → P j = Q j) → psm P f k = psm Q f k := by
  intro f
  induction f with
  | zero => intro k _; rfl
  | succ f ih =>
    intro k h
    show P k + _ = Q k + _
    rw [h k (Nat.le_refl _) (by omega), ih (k + 1) (fun j a b => h j (by omega) (by omega))]
end PRS
