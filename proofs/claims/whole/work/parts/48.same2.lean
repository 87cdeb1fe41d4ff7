/-! the class' matches and the reference's: a step, and all of them -/
theorem rel_step {F k : Nat} {WT WD LT LD R g T gm Rt : Nat → Int} {fav : Int} {B : BB} {C : R4} (h : rel F k B C) (hk : k < F) (hF : F ≤ 31) (hW : won F WT WD k) (hL : won F LT LD k) (hT : T k = R k) (hR : R k = -6 ∨ R k = 0 ∨ R k = 1) (hg : ∀ p, p < 16 → gm p = g p) (h0 : sid (B.1 (2 * k))) (h1 : sid (B.1 (2 * k + 1))) (hd : k + 2 = F → ¬ B.1 (2 * k) = -6 → B.1 (2 * k) ≠ B.1 (2 * k + 1)) : rel F (k + 1) (bstep (wsx WT WD) (wsx LT LD) F R g k B) (rone WT WD LT LD T gm Rt 0 fav F k C) := by
  have e0 := h.1 (2 * k) (by omega)
  have e1 := h.1 (2 * k + 1) (by omega)
  have hk0 := h.2.2.1 k (Nat.le_refl _) hk
  have n0 : ∀ way sd : Int, (rdec k way sd (rnul k C)).2.1 k = way := fun _ _ => fup_eq
  have n1 : (rnul k C).2.1 k = 0 := fup_eq
  have ne : ∀ way sd : Int, ¬ way = 0 → ∀ X : R4, (if (rdec k way sd (rnul k C)).2.1 k = 0 then rdec k way sd (rnul k C) else X) = X := fun way sd hw X => if_neg (by rw [n0]; exact hw)
  unfold bstep rone rtry rbet
  rw [e0, e1]
  by_cases c0 : B.1 (2 * k) = -6 ∨ B.1 (2 * k + 1) = -6
  · rw [if_pos c0, if_pos (Or.inr c0)]
    exact rel_nul h hk
  · have c0' : ¬ (B.2.1 k ≠ 0 ∨ B.1 (2 * k) = -6 ∨ B.1 (2 * k + 1) = -6) := fun z => z.elim (fun z => z hk0) c0
    rw [if_neg c0, if_neg c0']
    have d0 : ¬ B.1 (2 * k) = -6 := fun z => c0 (Or.inl z)
    have d1 : ¬ B.1 (2 * k + 1) = -6 := fun z => c0 (Or.inr z)
    have hd : k + 2 = F → B.1 (2 * k) ≠ B.1 (2 * k + 1) := fun z => hd z d0
    have r0 := h0.resolve_left d0
    have r1 := h1.resolve_left d1
    by_cases c1 : B.1 (2 * k) = 16 ∨ B.1 (2 * k + 1) = 16
    · rw [if_pos c1, if_pos c1, ne 1 _ (by decide)]
      have es : (if B.1 (2 * k) = 16 ∧ B.1 (2 * k + 1) ≠ 16 then (1 : Int) else 0) = if B.1 (2 * k + 1) = 16 then 0 else 1 := by
        by_cases q : B.1 (2 * k + 1) = 16
        · rw [if_pos q, if_neg (fun z => z.2 q)]
        · rw [if_neg q, if_pos ⟨c1.resolve_right q, q⟩]
      rw [es]
      have := rel_dec (sd := if B.1 (2 * k + 1) = 16 then 0 else 1) (kd := 1) h hk hF hW hL ite01 (by decide) hd
      rw [e0, e1] at this
      exact this
    · rw [if_neg c1, if_neg c1, hT]
      by_cases c2 : R k ≠ -6
      · rw [if_pos c2, if_pos c2, ne 3 _ (by decide)]
        have := rel_dec (sd := R k) (kd := 3) h hk hF hW hL (hR.resolve_left c2) (by decide) hd
        rw [e0, e1] at this
        exact this
      · have q0 : 0 ≤ B.1 (2 * k) ∧ B.1 (2 * k) < 16 := by
          have : ¬ B.1 (2 * k) = 16 := fun z => c1 (Or.inl z)
          omega
        have q1 : 0 ≤ B.1 (2 * k + 1) ∧ B.1 (2 * k + 1) < 16 := by
          have : ¬ B.1 (2 * k + 1) = 16 := fun z => c1 (Or.inr z)
          omega
        have g0 : gon g (B.1 (2 * k)) ↔ gm (B.1 (2 * k)).toNat = 1 := by
          rw [hg _ (by omega)]
          exact ⟨fun z => z.2.2, fun z => ⟨q0.1, q0.2, z⟩⟩
        have g1 : gon g (B.1 (2 * k + 1)) ↔ gm (B.1 (2 * k + 1)).toNat = 1 := by
          rw [hg _ (by omega)]
          exact ⟨fun z => z.2.2, fun z => ⟨q1.1, q1.2, z⟩⟩
        rw [if_neg c2, if_neg c2]
        by_cases c3 : gm (B.1 (2 * k)).toNat = 1 ∨ gm (B.1 (2 * k + 1)).toNat = 1
        · have c3' : gon g (B.1 (2 * k)) ∨ gon g (B.1 (2 * k + 1)) := c3.elim (fun z => Or.inl (g0.mpr z)) (fun z => Or.inr (g1.mpr z))
          rw [if_pos c3, if_pos c3', ne 2 _ (by decide)]
          have es : (if gm (B.1 (2 * k)).toNat = 1 ∧ ¬ gm (B.1 (2 * k + 1)).toNat = 1 then (1 : Int) else 0) = if gon g (B.1 (2 * k + 1)) then 0 else 1 := by
            by_cases q : gm (B.1 (2 * k + 1)).toNat = 1
            · rw [if_pos (g1.mpr q), if_neg (fun z => z.2 q)]
            · rw [if_neg (fun z => q (g1.mp z)), if_pos ⟨c3.resolve_right q, q⟩]
          rw [es]
          have := rel_dec (sd := if gon g (B.1 (2 * k + 1)) then 0 else 1) (kd := 2) h hk hF hW hL ite01 (by decide) hd
          rw [e0, e1] at this
          exact this
        · have c3' : ¬ (gon g (B.1 (2 * k)) ∨ gon g (B.1 (2 * k + 1))) := fun z => c3 (z.elim (fun z => Or.inl (g0.mp z)) (fun z => Or.inr (g1.mp z)))
          have m0 : ¬ (0 : Int) = 1 := by decide
          rw [if_neg c3, if_neg c3', if_neg m0, if_pos n1]
          exact rel_nul h hk
/-- all matches: what the first final needs stands as a premise, of every step -/
theorem rel_runs {F : Nat} {WT WD LT LD R g T gm Rt : Nat → Int} {fav : Int} {B : BB} {C : R4} (hF : F ≤ 31) (h : rel F 0 B C) (hW : ∀ m, m < F → won F WT WD m ∧ won F LT LD m) (hT : ∀ m, m < F → T m = R m ∧ (R m = -6 ∨ R m = 0 ∨ R m = 1)) (hg : ∀ p, p < 16 → gm p = g p) (hs : sall F C) (hd : ∀ k, k + 2 = F → ¬ (bruns (wsx WT WD) (wsx LT LD) F R g B k).1 (2 * k) = -6 → (bruns (wsx WT WD) (wsx LT LD) F R g B k).1 (2 * k) ≠ (bruns (wsx WT WD) (wsx LT LD) F R g B k).1 (2 * k + 1)) : ∀ k, k ≤ F → rel F k (bruns (wsx WT WD) (wsx LT LD) F R g B k) (rruns WT WD LT LD T gm Rt 0 fav F C k) := by
  intro k
  induction k with
  | zero => intro _; exact h
  | succ k ih =>
    intro hk
    have i1 := ih (by omega)
    have sk := sall_rruns (WT := WT) (WD := WD) (LT := LT) (LD := LD) (T := T) (g := gm) (R := Rt) (mode := 0) (fav := fav) (fun m hm => by rw [(hT m hm).1]; exact (hT m hm).2) hs k (by omega)
    have s0 := sk (2 * k) (by omega)
    have s1 := sk (2 * k + 1) (by omega)
    rw [i1.1 _ (by omega)] at s0 s1
    exact rel_step i1 (by omega) hF (hW k (by omega)).1 (hW k (by omega)).2 (hT k (by omega)).1 (hT k (by omega)).2 hg s0 s1 (hd k)
