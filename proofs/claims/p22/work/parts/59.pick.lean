/-! picked out of the rows of the whole claim -/
theorem bstep_ext {WS LS WS' LS' R R' g g' : Nat → Int} {F m : Nat} {B : BB} (h1 : WS m = WS' m) (h2 : LS m = LS' m) (h3 : R m = R' m) (h4 : ∀ p, p < 16 → g p = g' p) : bstep WS LS F R g m B = bstep WS' LS' F R' g' m B := by
  unfold bstep
  rw [h3, bdec_ext h1 h2, bdec_ext h1 h2, bdec_ext h1 h2]
  by_cases c0 : B.2.1 m ≠ 0 ∨ B.1 (2 * m) = -6 ∨ B.1 (2 * m + 1) = -6
  · rw [if_pos c0, if_pos c0]
  · rw [if_neg c0, if_neg c0]
    by_cases c1 : B.1 (2 * m) = 16 ∨ B.1 (2 * m + 1) = 16
    · rw [if_pos c1, if_pos c1]
    · rw [if_neg c1, if_neg c1]
      by_cases c2 : R' m ≠ -6
      · rw [if_pos c2, if_pos c2]
      · rw [if_neg c2, if_neg c2]
        have e0 := gon_ext (p := B.1 (2 * m)) h4
        have e1 := gon_ext (p := B.1 (2 * m + 1)) h4
        by_cases c3 : gon g' (B.1 (2 * m)) ∨ gon g' (B.1 (2 * m + 1))
        · rw [if_pos c3, if_pos (c3.elim (fun y => Or.inl (e0.mpr y)) (fun y => Or.inr (e1.mpr y)))]
          by_cases c4 : gon g' (B.1 (2 * m + 1))
          · rw [if_pos c4, if_pos (e1.mpr c4)]
          · rw [if_neg c4, if_neg (fun y => c4 (e1.mp y))]
        · rw [if_neg c3, if_neg (fun y => c3 (y.elim (fun y => Or.inl (e0.mp y)) (fun y => Or.inr (e1.mp y))))]
theorem bruns_ext {WS LS WS' LS' R R' g g' : Nat → Int} {F : Nat} {B : BB} {N : Nat} (h : ∀ m, m < N → WS m = WS' m ∧ LS m = LS' m ∧ R m = R' m) (h4 : ∀ p, p < 16 → g p = g' p) : ∀ k, k ≤ N → bruns WS LS F R g B k = bruns WS' LS' F R' g' B k := by
  intro k
  induction k with
  | zero => intro _; rfl
  | succ k ih =>
    intro hk
    obtain ⟨a, b, c⟩ := h k (by omega)
    show bstep _ _ _ _ _ k _ = bstep _ _ _ _ _ k _
    rw [ih (by omega), bstep_ext a b c h4]
theorem tstp_ext {WS LS WS' LS' g g' : Nat → Int} {F m : Nat} {n : Int} {rat : Nat → Int} {hero : Int} {s : BB × (Nat → Int) × Int} (h1 : WS m = WS' m) (h2 : LS m = LS' m) (h4 : ∀ p, p < 16 → g p = g' p) : tstp WS LS F g n rat hero m s = tstp WS' LS' F g' n rat hero m s := by
  have e : ∀ R B, bstep WS LS F R g m B = bstep WS' LS' F R g' m B := fun R B => bstep_ext h1 h2 rfl h4
  unfold tstp
  rw [e]
  by_cases c : bplay n (bstep WS' LS' F s.2.1 g' m s.1) m = true
  · rw [if_pos c, if_pos c, e]
  · rw [if_neg c, if_neg c]
theorem favs_ext {rat rat' : Nat → Int} (h : ∀ p, p < 16 → rat p = rat' p) {a b : Int} (ha : a < 16) (hb : b < 16) : favs rat a b = favs rat' a b := by
  unfold favs
  rw [h a.toNat (by omega), h b.toNat (by omega)]
theorem trun_ext {WS LS WS' LS' g g' : Nat → Int} {F N : Nat} {n : Int} {rat : Nat → Int} {hero : Int} {s : BB × (Nat → Int) × Int} (h : ∀ m, m < N → WS m = WS' m ∧ LS m = LS' m) (h4 : ∀ p, p < 16 → g p = g' p) : ∀ k, k ≤ N → trun WS LS F g n rat hero s k = trun WS' LS' F g' n rat hero s k := by
  intro k
  induction k with
  | zero => intro _; rfl
  | succ k ih =>
    intro hk
    obtain ⟨a, b⟩ := h k (by omega)
    show tstp _ _ _ _ _ _ _ k _ = tstp _ _ _ _ _ _ _ k _
    rw [ih (by omega), tstp_ext a b h4]
section
variable {W : PW} {z x n : Nat} {R g rat : Nat → Int} {hero : Int} {B0 : BB}
/-- the course of a rule hangs together, and everyone has a place to sit -/
theorem fin_run {rl : RUL} (hc : cfg z x) (hr : rlok rl) (hn : 2 ≤ n ∧ n ≤ z) (h0 : gbeg z n B0) : ∃ ps, fin z x n rl (grun z x rl B0 (tF z)) ps := by
  obtain ⟨ps, hj⟩ := jJ_run (rl := rl) hc hr hn.2 h0 (tF z) (Nat.le_refl _)
  exact ⟨ps, hc, hr, hn, gS_run hc hr (gS_beg hc h0) _ (Nat.le_refl _), hj⟩
end
