/-! the class' plan laid: tables, byes, places -/
/-- the byes as they must be -/
def byY (z x n : Nat) : Nat → Int := yrun (tWS z) (tLS z x) (fun s => if s < z ∧ (n : Int) ≤ tSD z s then 1 else 0) (tF z - 2)
/-- the pairs of a round of the lower bracket -/
def nbk (z x n k : Nat) : Int := nob (byY z x n) (lst z k).toNat (lmn z k).toNat
theorem tb_rng {z x : Nat} (h : cfg z x) : ∀ m, m < tF z → ∀ j, 1 ≤ j → j ≤ 2 * tR z - 2 → (lst z j ≤ (m : Int) ∧ (m : Int) < lst z j + lmn z j ↔ tPT z m = 1 ∧ tr (tz_round z) m = (j : Int)) := by
  have e : ∀ z, (List.range (tF z)).all (fun m => (List.range (2 * tR z - 1)).all (fun j => decide (1 ≤ j → (lst z j ≤ (m : Int) ∧ (m : Int) < lst z j + lmn z j ↔ tPT z m = 1 ∧ tr (tz_round z) m = (j : Int))))) = true → ∀ m, m < tF z → ∀ j, j < 2 * tR z - 1 → 1 ≤ j → (lst z j ≤ (m : Int) ∧ (m : Int) < lst z j + lmn z j ↔ tPT z m = 1 ∧ tr (tz_round z) m = (j : Int)) := fun z h m hm j hj => of_decide_eq_true (all_lt (all_lt h m hm) j hj)
  have q := cfg_ind (P := fun z _ => ∀ m, m < tF z → ∀ j, j < 2 * tR z - 1 → 1 ≤ j → (lst z j ≤ (m : Int) ∧ (m : Int) < lst z j + lmn z j ↔ tPT z m = 1 ∧ tr (tz_round z) m = (j : Int))) ⟨e _ (by decide +kernel), e _ (by decide +kernel), e _ (by decide +kernel), e _ (by decide +kernel), e _ (by decide +kernel), e _ (by decide +kernel)⟩ h
  exact fun m hm j h1 h2 => q m hm j (by omega) h1
section YRN
variable {z x : Nat} {Y Y' WS LS : Nat → Int}
/-- a seat that is known when k matches have passed their byes on -/
def cov (z x k s : Nat) : Prop := s < z ∨ ∃ m, m < k ∧ (tWS z m = (s : Int) ∨ tLS z x m = (s : Int))
theorem cov_side (h : cfg z x) {k i : Nat} (hk : k < tF z - 2) (hi : i = 0 ∨ i = 1) : cov z x k (2 * k + i) := by
  obtain ⟨f1, f2, f3, f4⟩ := cfg_F h
  by_cases c : 2 * k + i < z
  · exact Or.inl c
  · obtain ⟨m, m1, m2, m3⟩ := tb_src h (2 * k + i) (by omega) (by omega)
    exact Or.inr ⟨m, by omega, m3⟩
/-- what is passed on depends on what is known alone -/
theorem yrun_same (h : cfg z x) (hW : ∀ m, m < tF z - 2 → WS m = tWS z m ∧ LS m = tLS z x m) (h0 : ∀ s, s < z → Y s = Y' s) : ∀ k, k ≤ tF z - 2 → ∀ s, s < 62 → cov z x k s → yrun WS LS Y k s = yrun (tWS z) (tLS z x) Y' k s := by
  obtain ⟨f1, f2, f3, f4⟩ := cfg_F h
  intro k
  induction k with
  | zero =>
    intro _ s _ hs
    rcases hs with hs | ⟨m, hm, -⟩
    · exact h0 s hs
    · exact absurd hm (Nat.not_lt_zero m)
  | succ k ih =>
    intro hk s hs62 hs
    have i0 := ih (by omega) (2 * k) (by omega) (cov_side h (i := 0) (by omega) (Or.inl rfl))
    have i1 := ih (by omega) (2 * k + 1) (by omega) (cov_side h (i := 1) (by omega) (Or.inr rfl))
    have w := tb_win h k (by omega)
    have l := tb_los h k (by omega)
    obtain ⟨e1, e2⟩ := hW k (by omega)
    show ystp WS LS k (yrun WS LS Y k) s = ystp (tWS z) (tLS z x) k (yrun (tWS z) (tLS z x) Y' k) s
    unfold ystp
    rw [e1, e2, i0, i1]
    have b : ∀ (f g : Nat → Int) (i v : Int), ((s : Int) ≠ i → f s = g s) → bput f i v s = bput g i v s := fun f g i v q => by
      unfold bput
      by_cases c : 0 ≤ i ∧ i < 62
      · rw [if_pos c, if_pos c]
        unfold fup
        by_cases c2 : s = i.toNat
        · rw [if_pos c2, if_pos c2]
        · rw [if_neg c2, if_neg c2]
          exact q (by omega)
      · rw [if_neg c, if_neg c]
        exact q (by omega)
    refine b _ _ _ _ (fun n1 => b _ _ _ _ (fun n2 => ?_))
    refine ih (by omega) s hs62 ?_
    rcases hs with hs | ⟨m, m1, m2⟩
    · exact Or.inl hs
    · refine Or.inr ⟨m, ?_, m2⟩
      by_cases c : m = k
      · subst c
        rcases m2 with m2 | m2
        · exact absurd m2.symm n2
        · exact absurd m2.symm n1
      · omega
/-- the sides of match k are as they will be -/
theorem yrun_lo (h : cfg z x) {Y : Nat → Int} {k : Nat} : ∀ d : Nat, k + d ≤ tF z - 2 → ∀ s, s < 2 * k + 2 → yrun (tWS z) (tLS z x) Y (k + d) s = yrun (tWS z) (tLS z x) Y k s := by
  obtain ⟨f1, f2, f3, f4⟩ := cfg_F h
  intro d
  induction d with
  | zero => intro _ _ _; rfl
  | succ d ih =>
    intro hd s hs
    rw [← ih (by omega) s hs]
    have w := tb_win h (k + d) (by omega)
    have l := tb_los h (k + d) (by omega)
    show ystp _ _ (k + d) _ s = _
    unfold ystp
    have p : ∀ (f : Nat → Int) (i v : Int), (s : Int) ≠ i → bput f i v s = f s := fun f i v q => by
      unfold bput
      by_cases c : 0 ≤ i ∧ i < 62
      · rw [if_pos c, fup_ne (by omega)]
      · rw [if_neg c]
    rw [p _ _ _ (by omega), p _ _ _ (by omega)]
    rfl
theorem nob_same {Y Y' : Nat → Int} {st mn N : Nat} (h : ∀ s, s < 2 * N → Y s = Y' s) (h2 : st + mn ≤ N) : nob Y st mn = nob Y' st mn := cnt_congr mn (fun j hj => by rw [h _ (by omega), h _ (by omega)])
theorem shf_same {Y Y' : Nat → Int} (h : cfg z x) (he : ∀ s, s < 2 * (tF z - 2) → Y s = Y' s) : ∀ k, k ≤ 2 * tR z - 2 → ∀ la q, shf Y z k la q = shf Y' z k la q := by
  obtain ⟨f1, f2, f3, f4⟩ := cfg_F h
  intro k
  induction k with
  | zero => intro _ _ _; rfl
  | succ k ih =>
    intro hk la q
    obtain ⟨g1, g2, g3, g4⟩ := lst_rg h (show 1 ≤ k + 1 by omega) hk
    show shf Y z k _ _ = shf Y' z k _ _
    rw [nob_same (N := tF z - 2) he (by omega), ih (by omega)]
theorem shf_out {Y : Nat → Int} (h : cfg z x) {m : Nat} (hm : m < tF z) : ∀ k, k ≤ 2 * tR z - 2 → (∀ j, 1 ≤ j → j ≤ k → ¬ (tPT z m = 1 ∧ tr (tz_round z) m = (j : Int))) → ∀ la q, (shf Y z k la q).1 m = q.1 m ∧ (shf Y z k la q).2 m = q.2 m := by
  intro k
  induction k with
  | zero => intro _ _ _ _; exact ⟨rfl, rfl⟩
  | succ k ih =>
    intro hk hn la q
    obtain ⟨g1, g2, g3, g4⟩ := lst_rg h (show 1 ≤ k + 1 by omega) hk
    have r := tb_rng h m hm (k + 1) (by omega) hk
    have nr : ¬ ((lst z (k + 1)).toNat ≤ m ∧ m < (lst z (k + 1)).toNat + (lmn z (k + 1)).toNat) := fun y => hn (k + 1) (by omega) (Nat.le_refl _) (r.mp (by omega))
    obtain ⟨i1, i2⟩ := ih (by omega) (fun j a b => hn j a (by omega)) (la + nob Y (lst z (k + 1)).toNat (lmn z (k + 1)).toNat) (mixr (lst z (k + 1)).toNat (lmn z (k + 1)).toNat (la + 3) q.1, mixr (lst z (k + 1)).toNat (lmn z (k + 1)).toNat (la + 2 + nob Y (lst z (k + 1)).toNat (lmn z (k + 1)).toNat) q.2)
    constructor
    · refine i1.trans ?_
      show mixr _ _ _ _ m = _
      unfold mixr
      rw [if_neg nr]
    · refine i2.trans ?_
      show mixr _ _ _ _ m = _
      unfold mixr
      rw [if_neg nr]
theorem psm_last {P : Nat → Int} : ∀ f k : Nat, psm P (f + 1) k = psm P f k + P (k + f) := by
  intro f
  induction f with
  | zero =>
    intro k
    show P k + 0 = 0 + P k
    omega
  | succ f ih =>
    intro k
    show P k + psm P (f + 1) (k + 1) = P k + psm P f (k + 1) + P (k + (f + 1))
    rw [ih (k + 1), show k + 1 + f = k + (f + 1) by omega]
    omega
theorem shf_in {Y : Nat → Int} (h : cfg z x) {m r : Nat} (hm : m < tF z) (h1 : tPT z m = 1) (hr : tr (tz_round z) m = (r : Int)) (hr1 : 1 ≤ r) : ∀ k, k ≤ 2 * tR z - 2 → r ≤ k → ∀ la q, (shf Y z k la q).1 m = la + psm (fun j => nob Y (lst z j).toNat (lmn z j).toNat) (k - r) (r + 1) + 3 ∧ (shf Y z k la q).2 m = la + psm (fun j => nob Y (lst z j).toNat (lmn z j).toNat) (k - r) (r + 1) + 2 + nob Y (lst z r).toNat (lmn z r).toNat := by
  intro k
  induction k with
  | zero => intro _ hk; omega
  | succ k ih =>
    intro hk hrk la q
    obtain ⟨g1, g2, g3, g4⟩ := lst_rg h (show 1 ≤ k + 1 by omega) hk
    by_cases c : r = k + 1
    · have rg := (tb_rng h m hm (k + 1) (by omega) hk).mpr ⟨h1, by rw [hr, c]⟩
      have yr : (lst z (k + 1)).toNat ≤ m ∧ m < (lst z (k + 1)).toNat + (lmn z (k + 1)).toNat := by omega
      obtain ⟨o1, o2⟩ := shf_out (Y := Y) h hm k (by omega) (fun j a b y => by have := y.2; omega) (la + nob Y (lst z (k + 1)).toNat (lmn z (k + 1)).toNat) (mixr (lst z (k + 1)).toNat (lmn z (k + 1)).toNat (la + 3) q.1, mixr (lst z (k + 1)).toNat (lmn z (k + 1)).toNat (la + 2 + nob Y (lst z (k + 1)).toNat (lmn z (k + 1)).toNat) q.2)
      rw [c, show k + 1 - (k + 1) = 0 by omega]
      constructor
      · refine o1.trans ?_
        show mixr _ _ _ _ m = la + 0 + 3
        unfold mixr
        rw [if_pos yr]
        omega
      · refine o2.trans ?_
        show mixr _ _ _ _ m = la + 0 + 2 + _
        unfold mixr
        rw [if_pos yr]
        omega
    · obtain ⟨i1, i2⟩ := ih (by omega) (by omega) (la + nob Y (lst z (k + 1)).toNat (lmn z (k + 1)).toNat) (mixr (lst z (k + 1)).toNat (lmn z (k + 1)).toNat (la + 3) q.1, mixr (lst z (k + 1)).toNat (lmn z (k + 1)).toNat (la + 2 + nob Y (lst z (k + 1)).toNat (lmn z (k + 1)).toNat) q.2)
      have e : psm (fun j => nob Y (lst z j).toNat (lmn z j).toNat) (k + 1 - r) (r + 1) = psm (fun j => nob Y (lst z j).toNat (lmn z j).toNat) (k - r) (r + 1) + nob Y (lst z (k + 1)).toNat (lmn z (k + 1)).toNat := by
        rw [show k + 1 - r = k - r + 1 by omega, psm_last, show r + 1 + (k - r) = k + 1 by omega]
      rw [e]
      constructor
      · refine i1.trans ?_
        omega
      · refine i2.trans ?_
        omega
end YRN
/-- the class' plan at cell p of its memory -/
def planC (G : PW) (p z x n : Nat) : Prop := (G p 0 = (n : Int) ∧ G p 1 = (x : Int) ∧ G p 2 = (z : Int) ∧ G p 3 = (tR z : Int) ∧ G p 4 = (tF z : Int)) ∧ (∀ m, m < tF z → G (p + 1) m = tPT z m ∧ G (p + 2) m = tr (tz_round z) m ∧ G (p + 3) m = tr (tz_index z) m ∧ G (p + 4) m = tWS z m ∧ G (p + 5) m = tLS z x m) ∧ (∀ s, s < z → G (p + 8) s = tSD z s) ∧ ∀ m r : Nat, m < tF z → tPT z m = 1 → tr (tz_round z) m = (r : Int) → G (p + 6) m = psm (nbk z x n) (2 * tR z - 2 - r) (r + 1) + 3 ∧ G (p + 7) m = psm (nbk z x n) (2 * tR z - 2 - r) (r + 1) + 2 + nbk z x n r
/-- the memory when the tables are laid -/
def lyt_L (G : PW) (n x : Nat) : PW := ov (cp_M 4 x (tz n)) (ov (cp_h 4 n x (tz n)) G)
def lyb_L (G : PW) (n x : Nat) : PW := pm_row (lyt_L G n x) 13 (yrun (lyt_L G n x 8) (lyt_L G n x 9) (mixf (tz n) (byi_L (lyt_L G n x)) (lyt_L G n x 13)) (tF (tz n) - 2))
/-- the plan laid -/
def lyd_L (G : PW) (n x : Nat) : PW := q2_L (lyb_L G n x) (shf (lyb_L G n x 13) (tz n) (2 * tR (tz n) - 2) 0 (lyb_L G n x 10, lyb_L G n x 11)).1 (shf (lyb_L G n x 13) (tz n) (2 * tR (tz n) - 2) 0 (lyb_L G n x 10, lyb_L G n x 11)).2
theorem lyt_ne_L {G : PW} {n x r : Nat} (h : r < 4 ∨ 12 < r) : lyt_L G n x r = G r := by
  funext j
  unfold lyt_L cp_M cp_h
  by_cases c : r < 4
  · have d : ∀ M : PM, (List.range 4).all (fun r => (pw_nth [] (List.replicate 4 [] ++ M) r).isEmpty) = true := fun M => rfl
    have e : ∀ M : PM, pw_get (List.replicate 4 [] ++ M) r j = none := fun M => by
      unfold pw_get
      rw [List.isEmpty_iff.mp (all_lt (d M) r c)]
      rfl
    rw [ov_no (e _), ov_no (e _)]
  · obtain ⟨d, rfl⟩ : ∃ d, r = d + 12 + 1 := ⟨r - 12 - 1, by omega⟩
    rw [ov_no rfl, ov_no rfl]
theorem lyt_p_L {G : PW} {n x : Nat} : lyt_L G n x 4 0 = (n : Int) ∧ lyt_L G n x 4 1 = (x : Int) ∧ lyt_L G n x 4 2 = (tz n : Int) ∧ lyt_L G n x 4 3 = (tR (tz n) : Int) ∧ lyt_L G n x 4 4 = (tF (tz n) : Int) := by
  refine ⟨?_, ov_at rfl, ov_at rfl, ov_at rfl, ov_at rfl⟩
  unfold lyt_L
  rw [ov_no rfl]
  exact ov_at rfl
theorem lyt_t_L {G : PW} {n x : Nat} (h : 2 ≤ n ∧ n ≤ 16) (hx : x = 0 ∨ x = 1) : (∀ m, m < tF (tz n) → lyt_L G n x 5 m = tPT (tz n) m ∧ lyt_L G n x 6 m = tr (tz_round (tz n)) m ∧ lyt_L G n x 7 m = tr (tz_index (tz n)) m ∧ lyt_L G n x 8 m = tWS (tz n) m ∧ lyt_L G n x 9 m = tLS (tz n) x m) ∧ ∀ s, s < tz n → lyt_L G n x 12 s = tSD (tz n) s := by
  obtain ⟨hc, -⟩ := tz_cfg h hx
  obtain ⟨⟨l1, l2, l3⟩, ⟨-, -, l4⟩, ⟨-, -, l5⟩, l8⟩ := tz_len hc
  exact ⟨fun m hm => ⟨ov_at (nth_some m (by omega)), ov_at (nth_some m (by omega)), ov_at (nth_some m (by omega)), ov_at (nth_some m (by omega)), ov_at (nth_some m (by omega))⟩, fun s hs => ov_at (nth_some s (by omega))⟩
theorem lyd_ne_L {G : PW} {n x r : Nat} (h : r < 4 ∨ 13 < r) : lyd_L G n x r = G r := by
  unfold lyd_L
  rw [q2_ne_L (by omega) (by omega)]
  unfold lyb_L
  rw [row_ne (by omega), lyt_ne_L (by omega)]
theorem lyd_is_L {G : PW} {n x r : Nat} (h1 : r ≠ 10) (h2 : r ≠ 11) (h3 : r ≠ 13) : lyd_L G n x r = lyt_L G n x r := by
  unfold lyd_L
  rw [q2_ne_L h1 h2]
  unfold lyb_L
  rw [row_ne h3]
theorem lyb_by_L {G : PW} {n x : Nat} (h : 2 ≤ n ∧ n ≤ 16) (hx : x = 0 ∨ x = 1) : ∀ s, s < 2 * (tF (tz n) - 2) → lyb_L G n x 13 s = byY (tz n) x n s := fun s hs => by
  obtain ⟨hc, hnz⟩ := tz_cfg h hx
  obtain ⟨f1, f2, f3, f4⟩ := cfg_F hc
  obtain ⟨t1, t2⟩ := lyt_t_L (G := G) h hx
  have e : lyb_L G n x 13 = yrun (lyt_L G n x 8) (lyt_L G n x 9) (mixf (tz n) (byi_L (lyt_L G n x)) (lyt_L G n x 13)) (tF (tz n) - 2) := row_eq
  rw [e]
  unfold byY
  refine yrun_same hc (fun m hm => ⟨(t1 m (by omega)).2.2.2.1, (t1 m (by omega)).2.2.2.2⟩) (fun s hs => ?_) _ (Nat.le_refl _) s (by omega) ?_
  · have sd := (tb_seed hc s hs).1
    have z16 : tz n ≤ 16 := by omega
    unfold mixf
    rw [if_pos hs]
    unfold byi_L
    rw [atv_in lenC_12 (by omega) (by omega), Int.toNat_natCast, t2 s hs, lyt_p_L.1]
    by_cases c : tSD (tz n) s < (n : Int)
    · rw [if_pos c, if_neg (by omega), if_neg (by omega)]
    · rw [if_neg c, if_pos rfl, if_pos (by omega)]
  · by_cases c : s < tz n
    · exact Or.inl c
    · obtain ⟨m, m1, m2, m3⟩ := tb_src hc s (by omega) (by omega)
      exact Or.inr ⟨m, m1, m3⟩
theorem lyd_plan_L {G : PW} {n x : Nat} (h : 2 ≤ n ∧ n ≤ 16) (hx : x = 0 ∨ x = 1) : planC (lyd_L G n x) 4 (tz n) x n := by
  obtain ⟨hc, hnz⟩ := tz_cfg h hx
  obtain ⟨f1, f2, f3, f4⟩ := cfg_F hc
  obtain ⟨t1, t2⟩ := lyt_t_L (G := G) h hx
  refine ⟨?_, fun m hm => ?_, fun s hs => ?_, fun m r hm p1 hr => ?_⟩
  · rw [lyd_is_L (r := 4) (by decide) (by decide) (by decide)]
    exact lyt_p_L
  · show lyd_L G n x 5 m = _ ∧ lyd_L G n x 6 m = _ ∧ lyd_L G n x 7 m = _ ∧ lyd_L G n x 8 m = _ ∧ lyd_L G n x 9 m = _
    rw [lyd_is_L (r := 5) (by decide) (by decide) (by decide), lyd_is_L (r := 6) (by decide) (by decide) (by decide), lyd_is_L (r := 7) (by decide) (by decide) (by decide), lyd_is_L (r := 8) (by decide) (by decide) (by decide), lyd_is_L (r := 9) (by decide) (by decide) (by decide)]
    exact t1 m hm
  · show lyd_L G n x 12 s = _
    rw [lyd_is_L (r := 12) (by decide) (by decide) (by decide)]
    exact t2 s hs
  · have rr := (tb_round hc m hm).2 p1
    have ss := shf_same (Y := lyb_L G n x 13) (Y' := byY (tz n) x n) hc (lyb_by_L h hx) (2 * tR (tz n) - 2) (Nat.le_refl _) 0 (lyb_L G n x 10, lyb_L G n x 11)
    have si := shf_in (Y := byY (tz n) x n) hc hm p1 hr (by omega) (2 * tR (tz n) - 2) (Nat.le_refl _) (by omega) 0 (lyb_L G n x 10, lyb_L G n x 11)
    rw [← ss] at si
    have b : lyd_L G n x 10 = (shf (lyb_L G n x 13) (tz n) (2 * tR (tz n) - 2) 0 (lyb_L G n x 10, lyb_L G n x 11)).1 := by
      unfold lyd_L q2_L
      rw [row_ne (by decide), row_eq]
    have l : lyd_L G n x 11 = (shf (lyb_L G n x 13) (tz n) (2 * tR (tz n) - 2) 0 (lyb_L G n x 10, lyb_L G n x 11)).2 := by
      unfold lyd_L q2_L
      rw [row_eq]
    show lyd_L G n x 10 m = _ ∧ lyd_L G n x 11 m = _
    rw [b, l, si.1, si.2, Int.zero_add]
    exact ⟨rfl, rfl⟩
theorem lyb_01_L {G : PW} {n x : Nat} (hY : y01 (G 13)) : y01 (lyb_L G n x 13) := by
  have e : lyb_L G n x 13 = yrun (lyt_L G n x 8) (lyt_L G n x 9) (mixf (tz n) (byi_L (lyt_L G n x)) (lyt_L G n x 13)) (tF (tz n) - 2) := row_eq
  rw [e]
  refine y01_run (fun s hs => ?_) _
  unfold mixf
  by_cases c : s < tz n
  · rw [if_pos c]
    unfold byi_L
    exact ite10
  · rw [if_neg c, lyt_ne_L (r := 13) (by omega)]
    exact hY s hs
theorem lyd_01_L {G : PW} {n x : Nat} (hY : y01 (G 13)) : y01 (lyd_L G n x 13) := by
  have e : lyd_L G n x 13 = lyb_L G n x 13 := q2_ne_L (by decide) (by decide)
  rw [e]
  exact lyb_01_L hY
theorem c_lay_L {G : PW} {n x : Nat} (h : 2 ≤ n ∧ n ≤ 16) (hx : x = 0 ∨ x = 1) (hY : y01 (G 13)) : pm_ca pm_sC 33 [.inr (.inr 4), .inl (n : Int), .inl (x : Int)] G = some (none, lyd_L G n x) := by
  obtain ⟨hc, hnz⟩ := tz_cfg h hx
  obtain ⟨f1, f2, f3, f4⟩ := cfg_F hc
  have z16 : tz n ≤ 16 := by omega
  have a1 : pm_ca pm_sC 33 [.inr (.inr 4), .inl (n : Int), .inl (x : Int)] G = pm_dn pm_sC 33 75 [some (.inr (.inr 4)), some (.inl (n : Int)), some (.inl (x : Int))] [] (ov (cp_h 4 n x (tz n)) G) := pw_go (lh_run_L h hx) (fun r j v hv => by
    unfold pw_get at hv
    cases hv)
  have a2 : pm_dn pm_sC 33 75 [some (.inr (.inr 4)), none, none] [] (ov (cp_h 4 n x (tz n)) G) = pm_dn pm_sC 33 109 [some (.inr (.inr 4)), none, none] [] (lyt_L G n x) := pw_go (lm_run_L hc) (fun r j v hv => by
    refine ov_at ?_
    by_cases c : r < 4
    · exfalso
      have d : ∀ M : PM, (List.range 4).all (fun r => (pw_nth [] (List.replicate 4 [] ++ M) r).isEmpty) = true := fun M => rfl
      unfold cp_0 pw_get at hv
      rw [List.isEmpty_iff.mp (all_lt (d _) r c)] at hv
      cases hv
    · by_cases c2 : r = 4
      · subst c2
        match j with
        | 0 => cases hv
        | 1 => exact hv
        | 2 => exact hv
        | 3 => exact hv
        | 4 => exact hv
        | j + 5 => cases hv
      · obtain ⟨d, rfl⟩ : ∃ d, r = d + 4 + 1 := ⟨r - 4 - 1, by omega⟩
        cases hv)
  have p := lyt_p_L (G := G) (n := n) (x := x)
  have by0 : lyt_L G n x 13 = G 13 := lyt_ne_L (by omega)
  have q1 := c_findByes_L (sz := tz n) (F := tF (tz n) - 2) (G := lyt_L G n x) p.2.2.1 ⟨f4, z16⟩ (by rw [p.2.2.1]; omega) (by rw [by0]; exact hY)
  have q1 : _ = (some (none, lyb_L G n x) : Option PR) := q1
  have lb : lyb_L G n x 4 = lyt_L G n x 4 := row_ne (by decide)
  have q2 := c_sharePlaces_L (G := lyb_L G n x) hc (by rw [lb]; exact p.2.2.1) (by rw [lb]; exact p.2.2.2.1) (lyb_01_L hY)
  have q2 : _ = (some (none, lyd_L G n x) : Option PR) := q2
  have a3 : pm_dn pm_sC 33 109 [some (.inr (.inr 4)), none, none] [] (lyt_L G n x) = some (none, lyd_L G n x) := by
    simp (disch := first | assumption | omega | (simp (disch := omega) only [stv_ne, upd_ne])) only [ue_33, u_33_0, u_33_1, u_33_2, u_33_5, u_33_6, u_33_7, u_33_10, u_33_11, u_33_12, u_33_15, u_33_16, u_33_17, u_33_21, u_33_24, u_33_25, u_33_28, u_33_31, u_33_32, u_33_35, u_33_37, u_33_40, u_33_41, u_33_42, u_33_45, u_33_46, u_33_47, u_33_50, u_33_51, u_33_52, u_33_55, u_33_56, u_33_57, u_33_60, u_33_63, u_33_64, u_33_65, u_33_66, u_33_69, u_33_70, u_33_71, u_33_72, u_33_75, u_33_76, u_33_79, u_33_80, u_33_83, u_33_84, u_33_85, u_33_88, u_33_89, u_33_90, u_33_91, u_33_94, u_33_95, u_33_96, u_33_99, u_33_100, u_33_101, u_33_102, u_33_105, u_33_106, u_33_109, u_33_110, u_33_113, u_33_114, u_33_117, uc_36_4_0, uc_36_4_1, uc_36_4_2, uc_36_4_3, uc_36_20_0, uc_36_20_1, uc_36_20_2, uc_36_20_3, uc_37_4_0, uc_37_4_1, uc_37_4_2, uc_37_4_3, uc_37_20_0, uc_37_20_1, uc_37_20_2, uc_37_20_3, uc_44_4_0, uc_44_4_1, uc_44_4_2, uc_44_4_3, uc_44_20_0, uc_44_20_1, uc_44_20_2, uc_44_20_3, uc_45_4_0, uc_45_4_1, uc_45_4_2, uc_45_4_3, uc_45_20_0, uc_45_20_1, uc_45_20_2, uc_45_20_3, uc_46_4_0, uc_46_4_1, uc_46_4_2, uc_46_4_3, uc_46_20_0, uc_46_20_1, uc_46_20_2, uc_46_20_3, uc_50_4_0, uc_50_4_1, uc_50_4_2, uc_50_4_3, uc_50_20_0, uc_50_20_1, uc_50_20_2, uc_50_20_3, uc_51_4_0, uc_51_4_1, uc_51_4_2, uc_51_4_3, uc_51_20_0, uc_51_20_1, uc_51_20_2, uc_51_20_3, uc_53_4_0, uc_53_4_1, uc_53_4_2, uc_53_4_3, uc_53_20_0, uc_53_20_1, uc_53_20_2, uc_53_20_3, q1, q2, if_true, if_false, pm_go_n, pm_go_c, pm_go_r, pm_go_i, pm_oIL, pm_oLL, pm_oAL, pm_oIS, pm_oLS, pm_oAS, pm_oK, pm_oKL, pe_add, pe_sub, pe_mul, pe_div, pe_rem, pe_shr, pe_and, pm_or_ok, pm_oInc, pe_rgb, pe_if, pe_ic, pe_b1, pe_nn, pe_eq, pe_ne, pe_lt, pe_ge, pe_gt, pe_le, pe_go, pe_ri0, pe_ri1, pe_ri2, pe_i2c, pm_oRv, pm_oGf, pm_oLen, pm_oDup, pm_oDu2, pm_oPop, pm_oL2i, pm_oLand, pm_oLus, pm_oLsh, pm_oLcm, lk_0, lk_1, lk_2, lk_3, lk_4, lk_5, lk_6, lk_7, lk_8, lk_9, lk_10, lk_11, lk_12, lk_13, st_0, st_1n, st_1i, st_1r, st_2, st_3, st_4, st_5, st_6, st_7, st_8, st_9, st_10, st_11, st_12, st_13, Option.toList_some, Option.toList_none, List.cons_append, List.nil_append, shC_fd0_0, shC_fd0_1, shC_fd0_2, shC_fd0_3, shC_fd0_4, shC_fd0_5, shC_fd0_6, shC_fd0_7, shC_al1, shC_ld1, shC_st1, shC_al2, shC_ld2, shC_st2, shC_fd3_0, shC_fd3_1, shC_fd3_2, shC_fd3_3, shC_fd3_4, shC_fd3_5, shC_fd4_0, shC_pf4_0, shC_fd4_1, shC_pf4_1, shC_fd4_2, shC_pf4_2, shC_fd4_3, shC_pf4_3, shC_fd4_4, shC_pf4_4, shC_fd4_5, shC_fd4_6, shC_fd4_7, shC_fd4_8, shC_fd4_9, shC_fd4_10, shC_fd4_11, shC_fd4_12, shC_fd4_13, shC_al5, shC_ld5, shC_st5, shC_al6, shC_ld6, shC_st6, shC_al7, shC_ld7, shC_st7, shC_al8, shC_ld8, shC_st8, shC_al9, shC_ld9, shC_st9, shC_al10, shC_ld10, shC_st10, shC_al11, shC_ld11, shC_st11, shC_al12, shC_ld12, shC_st12, shC_al13, shC_ld13, shC_st13, shC_al14, shC_ld14, shC_st14, shC_al15, shC_ld15, shC_st15, shC_al16, shC_ld16, shC_st16, shC_al17, shC_ld17, shC_st17, shC_al18, shC_ld18, shC_st18, shC_fd19_0, shC_fd19_1, shC_fd19_2, shC_fd19_3, shC_fd19_4, shC_fd19_5, shC_fd20_0, shC_pf20_0, shC_fd20_1, shC_pf20_1, shC_fd20_2, shC_pf20_2, shC_fd20_3, shC_pf20_3, shC_fd20_4, shC_pf20_4, shC_fd20_5, shC_fd20_6, shC_fd20_7, shC_fd20_8, shC_fd20_9, shC_fd20_10, shC_fd20_11, shC_fd20_12, shC_fd20_13, shC_al21, shC_ld21, shC_st21, shC_al22, shC_ld22, shC_st22, shC_al23, shC_ld23, shC_st23, shC_al24, shC_ld24, shC_st24, shC_al25, shC_ld25, shC_st25, shC_al26, shC_ld26, shC_st26, shC_al27, shC_ld27, shC_st27, shC_al28, shC_ld28, shC_st28, shC_al29, shC_ld29, shC_st29, shC_al30, shC_ld30, shC_st30, shC_al31, shC_ld31, shC_st31, shC_al32, shC_ld32, shC_st32, shC_al33, shC_ld33, shC_st33, shC_al34, shC_ld34, shC_st34, shC_fd35_0, shC_fd35_1, shC_pf35_1, shC_al36, shC_ld36, shC_st36, shC_fd37_0, shC_fd37_1, shC_pf37_1, shC_fd37_2, shC_pf37_2, shC_fd37_3, shC_pf37_3, shC_al38, shC_ld38, shC_st38, shC_fd39_0, shC_pf39_0, shC_fd39_1, shC_pf39_1, shC_fd39_2, shC_pf39_2, shC_fd39_3, shC_fd39_4, shC_al40, shC_ld40, shC_st40, shC_fd41_0, shC_fd41_1, shC_pf41_1, shC_al42, shC_ld42, shC_st42, shC_fd43_0, shC_pf43_0, shC_fd43_1, shC_pf43_1, shC_fd43_2, shC_pf43_2, shC_fd43_3, shC_fd43_4, shC_al44, shC_ld44, shC_st44, shC_fd45_0, shC_fd45_1, shC_pf45_1, shC_al46, shC_ld46, shC_st46]
  rw [a1]
  exact pm_dn_mono (pl_s (pl_n (pl_n pl_nil))) (a2.trans a3)
/-- the memory when the tables are laid -/
def lyt_T (G : PW) (n x : Nat) : PW := ov (cp_M 20 x (tz n)) (ov (cp_h 20 n x (tz n)) G)
def lyb_T (G : PW) (n x : Nat) : PW := pm_row (lyt_T G n x) 29 (yrun (lyt_T G n x 24) (lyt_T G n x 25) (mixf (tz n) (byi_T (lyt_T G n x)) (lyt_T G n x 29)) (tF (tz n) - 2))
/-- the plan laid -/
def lyd_T (G : PW) (n x : Nat) : PW := q2_T (lyb_T G n x) (shf (lyb_T G n x 29) (tz n) (2 * tR (tz n) - 2) 0 (lyb_T G n x 26, lyb_T G n x 27)).1 (shf (lyb_T G n x 29) (tz n) (2 * tR (tz n) - 2) 0 (lyb_T G n x 26, lyb_T G n x 27)).2
theorem lyt_ne_T {G : PW} {n x r : Nat} (h : r < 20 ∨ 28 < r) : lyt_T G n x r = G r := by
  funext j
  unfold lyt_T cp_M cp_h
  by_cases c : r < 20
  · have d : ∀ M : PM, (List.range 20).all (fun r => (pw_nth [] (List.replicate 20 [] ++ M) r).isEmpty) = true := fun M => rfl
    have e : ∀ M : PM, pw_get (List.replicate 20 [] ++ M) r j = none := fun M => by
      unfold pw_get
      rw [List.isEmpty_iff.mp (all_lt (d M) r c)]
      rfl
    rw [ov_no (e _), ov_no (e _)]
  · obtain ⟨d, rfl⟩ : ∃ d, r = d + 28 + 1 := ⟨r - 28 - 1, by omega⟩
    rw [ov_no rfl, ov_no rfl]
theorem lyt_p_T {G : PW} {n x : Nat} : lyt_T G n x 20 0 = (n : Int) ∧ lyt_T G n x 20 1 = (x : Int) ∧ lyt_T G n x 20 2 = (tz n : Int) ∧ lyt_T G n x 20 3 = (tR (tz n) : Int) ∧ lyt_T G n x 20 4 = (tF (tz n) : Int) := by
  refine ⟨?_, ov_at rfl, ov_at rfl, ov_at rfl, ov_at rfl⟩
  unfold lyt_T
  rw [ov_no rfl]
  exact ov_at rfl
theorem lyt_t_T {G : PW} {n x : Nat} (h : 2 ≤ n ∧ n ≤ 16) (hx : x = 0 ∨ x = 1) : (∀ m, m < tF (tz n) → lyt_T G n x 21 m = tPT (tz n) m ∧ lyt_T G n x 22 m = tr (tz_round (tz n)) m ∧ lyt_T G n x 23 m = tr (tz_index (tz n)) m ∧ lyt_T G n x 24 m = tWS (tz n) m ∧ lyt_T G n x 25 m = tLS (tz n) x m) ∧ ∀ s, s < tz n → lyt_T G n x 28 s = tSD (tz n) s := by
  obtain ⟨hc, -⟩ := tz_cfg h hx
  obtain ⟨⟨l1, l2, l3⟩, ⟨-, -, l4⟩, ⟨-, -, l5⟩, l8⟩ := tz_len hc
  exact ⟨fun m hm => ⟨ov_at (nth_some m (by omega)), ov_at (nth_some m (by omega)), ov_at (nth_some m (by omega)), ov_at (nth_some m (by omega)), ov_at (nth_some m (by omega))⟩, fun s hs => ov_at (nth_some s (by omega))⟩
theorem lyd_ne_T {G : PW} {n x r : Nat} (h : r < 20 ∨ 29 < r) : lyd_T G n x r = G r := by
  unfold lyd_T
  rw [q2_ne_T (by omega) (by omega)]
  unfold lyb_T
  rw [row_ne (by omega), lyt_ne_T (by omega)]
theorem lyd_is_T {G : PW} {n x r : Nat} (h1 : r ≠ 26) (h2 : r ≠ 27) (h3 : r ≠ 29) : lyd_T G n x r = lyt_T G n x r := by
  unfold lyd_T
  rw [q2_ne_T h1 h2]
  unfold lyb_T
  rw [row_ne h3]
theorem lyb_by_T {G : PW} {n x : Nat} (h : 2 ≤ n ∧ n ≤ 16) (hx : x = 0 ∨ x = 1) : ∀ s, s < 2 * (tF (tz n) - 2) → lyb_T G n x 29 s = byY (tz n) x n s := fun s hs => by
  obtain ⟨hc, hnz⟩ := tz_cfg h hx
  obtain ⟨f1, f2, f3, f4⟩ := cfg_F hc
  obtain ⟨t1, t2⟩ := lyt_t_T (G := G) h hx
  have e : lyb_T G n x 29 = yrun (lyt_T G n x 24) (lyt_T G n x 25) (mixf (tz n) (byi_T (lyt_T G n x)) (lyt_T G n x 29)) (tF (tz n) - 2) := row_eq
  rw [e]
  unfold byY
  refine yrun_same hc (fun m hm => ⟨(t1 m (by omega)).2.2.2.1, (t1 m (by omega)).2.2.2.2⟩) (fun s hs => ?_) _ (Nat.le_refl _) s (by omega) ?_
  · have sd := (tb_seed hc s hs).1
    have z16 : tz n ≤ 16 := by omega
    unfold mixf
    rw [if_pos hs]
    unfold byi_T
    rw [atv_in lenC_28 (by omega) (by omega), Int.toNat_natCast, t2 s hs, lyt_p_T.1]
    by_cases c : tSD (tz n) s < (n : Int)
    · rw [if_pos c, if_neg (by omega), if_neg (by omega)]
    · rw [if_neg c, if_pos rfl, if_pos (by omega)]
  · by_cases c : s < tz n
    · exact Or.inl c
    · obtain ⟨m, m1, m2, m3⟩ := tb_src hc s (by omega) (by omega)
      exact Or.inr ⟨m, m1, m3⟩
theorem lyd_plan_T {G : PW} {n x : Nat} (h : 2 ≤ n ∧ n ≤ 16) (hx : x = 0 ∨ x = 1) : planC (lyd_T G n x) 20 (tz n) x n := by
  obtain ⟨hc, hnz⟩ := tz_cfg h hx
  obtain ⟨f1, f2, f3, f4⟩ := cfg_F hc
  obtain ⟨t1, t2⟩ := lyt_t_T (G := G) h hx
  refine ⟨?_, fun m hm => ?_, fun s hs => ?_, fun m r hm p1 hr => ?_⟩
  · rw [lyd_is_T (r := 20) (by decide) (by decide) (by decide)]
    exact lyt_p_T
  · show lyd_T G n x 21 m = _ ∧ lyd_T G n x 22 m = _ ∧ lyd_T G n x 23 m = _ ∧ lyd_T G n x 24 m = _ ∧ lyd_T G n x 25 m = _
    rw [lyd_is_T (r := 21) (by decide) (by decide) (by decide), lyd_is_T (r := 22) (by decide) (by decide) (by decide), lyd_is_T (r := 23) (by decide) (by decide) (by decide), lyd_is_T (r := 24) (by decide) (by decide) (by decide), lyd_is_T (r := 25) (by decide) (by decide) (by decide)]
    exact t1 m hm
  · show lyd_T G n x 28 s = _
    rw [lyd_is_T (r := 28) (by decide) (by decide) (by decide)]
    exact t2 s hs
  · have rr := (tb_round hc m hm).2 p1
    have ss := shf_same (Y := lyb_T G n x 29) (Y' := byY (tz n) x n) hc (lyb_by_T h hx) (2 * tR (tz n) - 2) (Nat.le_refl _) 0 (lyb_T G n x 26, lyb_T G n x 27)
    have si := shf_in (Y := byY (tz n) x n) hc hm p1 hr (by omega) (2 * tR (tz n) - 2) (Nat.le_refl _) (by omega) 0 (lyb_T G n x 26, lyb_T G n x 27)
    rw [← ss] at si
    have b : lyd_T G n x 26 = (shf (lyb_T G n x 29) (tz n) (2 * tR (tz n) - 2) 0 (lyb_T G n x 26, lyb_T G n x 27)).1 := by
      unfold lyd_T q2_T
      rw [row_ne (by decide), row_eq]
    have l : lyd_T G n x 27 = (shf (lyb_T G n x 29) (tz n) (2 * tR (tz n) - 2) 0 (lyb_T G n x 26, lyb_T G n x 27)).2 := by
      unfold lyd_T q2_T
      rw [row_eq]
    show lyd_T G n x 26 m = _ ∧ lyd_T G n x 27 m = _
    rw [b, l, si.1, si.2, Int.zero_add]
    exact ⟨rfl, rfl⟩
theorem lyb_01_T {G : PW} {n x : Nat} (hY : y01 (G 29)) : y01 (lyb_T G n x 29) := by
  have e : lyb_T G n x 29 = yrun (lyt_T G n x 24) (lyt_T G n x 25) (mixf (tz n) (byi_T (lyt_T G n x)) (lyt_T G n x 29)) (tF (tz n) - 2) := row_eq
  rw [e]
  refine y01_run (fun s hs => ?_) _
  unfold mixf
  by_cases c : s < tz n
  · rw [if_pos c]
    unfold byi_T
    exact ite10
  · rw [if_neg c, lyt_ne_T (r := 29) (by omega)]
    exact hY s hs
theorem lyd_01_T {G : PW} {n x : Nat} (hY : y01 (G 29)) : y01 (lyd_T G n x 29) := by
  have e : lyd_T G n x 29 = lyb_T G n x 29 := q2_ne_T (by decide) (by decide)
  rw [e]
  exact lyb_01_T hY
theorem c_lay_T {G : PW} {n x : Nat} (h : 2 ≤ n ∧ n ≤ 16) (hx : x = 0 ∨ x = 1) (hY : y01 (G 29)) : pm_ca pm_sC 33 [.inr (.inr 20), .inl (n : Int), .inl (x : Int)] G = some (none, lyd_T G n x) := by
  obtain ⟨hc, hnz⟩ := tz_cfg h hx
  obtain ⟨f1, f2, f3, f4⟩ := cfg_F hc
  have z16 : tz n ≤ 16 := by omega
  have a1 : pm_ca pm_sC 33 [.inr (.inr 20), .inl (n : Int), .inl (x : Int)] G = pm_dn pm_sC 33 75 [some (.inr (.inr 20)), some (.inl (n : Int)), some (.inl (x : Int))] [] (ov (cp_h 20 n x (tz n)) G) := pw_go (lh_run_T h hx) (fun r j v hv => by
    unfold pw_get at hv
    cases hv)
  have a2 : pm_dn pm_sC 33 75 [some (.inr (.inr 20)), none, none] [] (ov (cp_h 20 n x (tz n)) G) = pm_dn pm_sC 33 109 [some (.inr (.inr 20)), none, none] [] (lyt_T G n x) := pw_go (lm_run_T hc) (fun r j v hv => by
    refine ov_at ?_
    by_cases c : r < 20
    · exfalso
      have d : ∀ M : PM, (List.range 20).all (fun r => (pw_nth [] (List.replicate 20 [] ++ M) r).isEmpty) = true := fun M => rfl
      unfold cp_0 pw_get at hv
      rw [List.isEmpty_iff.mp (all_lt (d _) r c)] at hv
      cases hv
    · by_cases c2 : r = 20
      · subst c2
        match j with
        | 0 => cases hv
        | 1 => exact hv
        | 2 => exact hv
        | 3 => exact hv
        | 4 => exact hv
        | j + 5 => cases hv
      · obtain ⟨d, rfl⟩ : ∃ d, r = d + 20 + 1 := ⟨r - 20 - 1, by omega⟩
        cases hv)
  have p := lyt_p_T (G := G) (n := n) (x := x)
  have by0 : lyt_T G n x 29 = G 29 := lyt_ne_T (by omega)
  have q1 := c_findByes_T (sz := tz n) (F := tF (tz n) - 2) (G := lyt_T G n x) p.2.2.1 ⟨f4, z16⟩ (by rw [p.2.2.1]; omega) (by rw [by0]; exact hY)
  have q1 : _ = (some (none, lyb_T G n x) : Option PR) := q1
  have lb : lyb_T G n x 20 = lyt_T G n x 20 := row_ne (by decide)
  have q2 := c_sharePlaces_T (G := lyb_T G n x) hc (by rw [lb]; exact p.2.2.1) (by rw [lb]; exact p.2.2.2.1) (lyb_01_T hY)
  have q2 : _ = (some (none, lyd_T G n x) : Option PR) := q2
  have a3 : pm_dn pm_sC 33 109 [some (.inr (.inr 20)), none, none] [] (lyt_T G n x) = some (none, lyd_T G n x) := by
    simp (disch := first | assumption | omega | (simp (disch := omega) only [stv_ne, upd_ne])) only [ue_33, u_33_0, u_33_1, u_33_2, u_33_5, u_33_6, u_33_7, u_33_10, u_33_11, u_33_12, u_33_15, u_33_16, u_33_17, u_33_21, u_33_24, u_33_25, u_33_28, u_33_31, u_33_32, u_33_35, u_33_37, u_33_40, u_33_41, u_33_42, u_33_45, u_33_46, u_33_47, u_33_50, u_33_51, u_33_52, u_33_55, u_33_56, u_33_57, u_33_60, u_33_63, u_33_64, u_33_65, u_33_66, u_33_69, u_33_70, u_33_71, u_33_72, u_33_75, u_33_76, u_33_79, u_33_80, u_33_83, u_33_84, u_33_85, u_33_88, u_33_89, u_33_90, u_33_91, u_33_94, u_33_95, u_33_96, u_33_99, u_33_100, u_33_101, u_33_102, u_33_105, u_33_106, u_33_109, u_33_110, u_33_113, u_33_114, u_33_117, uc_36_4_0, uc_36_4_1, uc_36_4_2, uc_36_4_3, uc_36_20_0, uc_36_20_1, uc_36_20_2, uc_36_20_3, uc_37_4_0, uc_37_4_1, uc_37_4_2, uc_37_4_3, uc_37_20_0, uc_37_20_1, uc_37_20_2, uc_37_20_3, uc_44_4_0, uc_44_4_1, uc_44_4_2, uc_44_4_3, uc_44_20_0, uc_44_20_1, uc_44_20_2, uc_44_20_3, uc_45_4_0, uc_45_4_1, uc_45_4_2, uc_45_4_3, uc_45_20_0, uc_45_20_1, uc_45_20_2, uc_45_20_3, uc_46_4_0, uc_46_4_1, uc_46_4_2, uc_46_4_3, uc_46_20_0, uc_46_20_1, uc_46_20_2, uc_46_20_3, uc_50_4_0, uc_50_4_1, uc_50_4_2, uc_50_4_3, uc_50_20_0, uc_50_20_1, uc_50_20_2, uc_50_20_3, uc_51_4_0, uc_51_4_1, uc_51_4_2, uc_51_4_3, uc_51_20_0, uc_51_20_1, uc_51_20_2, uc_51_20_3, uc_53_4_0, uc_53_4_1, uc_53_4_2, uc_53_4_3, uc_53_20_0, uc_53_20_1, uc_53_20_2, uc_53_20_3, q1, q2, if_true, if_false, pm_go_n, pm_go_c, pm_go_r, pm_go_i, pm_oIL, pm_oLL, pm_oAL, pm_oIS, pm_oLS, pm_oAS, pm_oK, pm_oKL, pe_add, pe_sub, pe_mul, pe_div, pe_rem, pe_shr, pe_and, pm_or_ok, pm_oInc, pe_rgb, pe_if, pe_ic, pe_b1, pe_nn, pe_eq, pe_ne, pe_lt, pe_ge, pe_gt, pe_le, pe_go, pe_ri0, pe_ri1, pe_ri2, pe_i2c, pm_oRv, pm_oGf, pm_oLen, pm_oDup, pm_oDu2, pm_oPop, pm_oL2i, pm_oLand, pm_oLus, pm_oLsh, pm_oLcm, lk_0, lk_1, lk_2, lk_3, lk_4, lk_5, lk_6, lk_7, lk_8, lk_9, lk_10, lk_11, lk_12, lk_13, st_0, st_1n, st_1i, st_1r, st_2, st_3, st_4, st_5, st_6, st_7, st_8, st_9, st_10, st_11, st_12, st_13, Option.toList_some, Option.toList_none, List.cons_append, List.nil_append, shC_fd0_0, shC_fd0_1, shC_fd0_2, shC_fd0_3, shC_fd0_4, shC_fd0_5, shC_fd0_6, shC_fd0_7, shC_al1, shC_ld1, shC_st1, shC_al2, shC_ld2, shC_st2, shC_fd3_0, shC_fd3_1, shC_fd3_2, shC_fd3_3, shC_fd3_4, shC_fd3_5, shC_fd4_0, shC_pf4_0, shC_fd4_1, shC_pf4_1, shC_fd4_2, shC_pf4_2, shC_fd4_3, shC_pf4_3, shC_fd4_4, shC_pf4_4, shC_fd4_5, shC_fd4_6, shC_fd4_7, shC_fd4_8, shC_fd4_9, shC_fd4_10, shC_fd4_11, shC_fd4_12, shC_fd4_13, shC_al5, shC_ld5, shC_st5, shC_al6, shC_ld6, shC_st6, shC_al7, shC_ld7, shC_st7, shC_al8, shC_ld8, shC_st8, shC_al9, shC_ld9, shC_st9, shC_al10, shC_ld10, shC_st10, shC_al11, shC_ld11, shC_st11, shC_al12, shC_ld12, shC_st12, shC_al13, shC_ld13, shC_st13, shC_al14, shC_ld14, shC_st14, shC_al15, shC_ld15, shC_st15, shC_al16, shC_ld16, shC_st16, shC_al17, shC_ld17, shC_st17, shC_al18, shC_ld18, shC_st18, shC_fd19_0, shC_fd19_1, shC_fd19_2, shC_fd19_3, shC_fd19_4, shC_fd19_5, shC_fd20_0, shC_pf20_0, shC_fd20_1, shC_pf20_1, shC_fd20_2, shC_pf20_2, shC_fd20_3, shC_pf20_3, shC_fd20_4, shC_pf20_4, shC_fd20_5, shC_fd20_6, shC_fd20_7, shC_fd20_8, shC_fd20_9, shC_fd20_10, shC_fd20_11, shC_fd20_12, shC_fd20_13, shC_al21, shC_ld21, shC_st21, shC_al22, shC_ld22, shC_st22, shC_al23, shC_ld23, shC_st23, shC_al24, shC_ld24, shC_st24, shC_al25, shC_ld25, shC_st25, shC_al26, shC_ld26, shC_st26, shC_al27, shC_ld27, shC_st27, shC_al28, shC_ld28, shC_st28, shC_al29, shC_ld29, shC_st29, shC_al30, shC_ld30, shC_st30, shC_al31, shC_ld31, shC_st31, shC_al32, shC_ld32, shC_st32, shC_al33, shC_ld33, shC_st33, shC_al34, shC_ld34, shC_st34, shC_fd35_0, shC_fd35_1, shC_pf35_1, shC_al36, shC_ld36, shC_st36, shC_fd37_0, shC_fd37_1, shC_pf37_1, shC_fd37_2, shC_pf37_2, shC_fd37_3, shC_pf37_3, shC_al38, shC_ld38, shC_st38, shC_fd39_0, shC_pf39_0, shC_fd39_1, shC_pf39_1, shC_fd39_2, shC_pf39_2, shC_fd39_3, shC_fd39_4, shC_al40, shC_ld40, shC_st40, shC_fd41_0, shC_fd41_1, shC_pf41_1, shC_al42, shC_ld42, shC_st42, shC_fd43_0, shC_pf43_0, shC_fd43_1, shC_pf43_1, shC_fd43_2, shC_pf43_2, shC_fd43_3, shC_fd43_4, shC_al44, shC_ld44, shC_st44, shC_fd45_0, shC_fd45_1, shC_pf45_1, shC_al46, shC_ld46, shC_st46]
  rw [a1]
  exact pm_dn_mono (pl_s (pl_n (pl_n pl_nil))) (a2.trans a3)
