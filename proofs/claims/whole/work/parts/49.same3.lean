/-! a trial's matches: the class' and the reference's -/
theorem rone_m {F k : Nat} {WT WD LT LD T gm Rt : Nat → Int} {fav : Int} {C : R4} (h : ¬ (¬ C.1 (2 * k) = -6 ∧ ¬ C.1 (2 * k + 1) = -6 ∧ ¬ C.1 (2 * k) = 16 ∧ ¬ C.1 (2 * k + 1) = 16 ∧ T k = -6 ∧ ¬ gm (C.1 (2 * k)).toNat = 1 ∧ ¬ gm (C.1 (2 * k + 1)).toNat = 1)) : rone WT WD LT LD T gm Rt 1 fav F k C = rone WT WD LT LD T gm Rt 0 fav F k C := by
  unfold rone
  by_cases c0 : C.1 (2 * k) = -6 ∨ C.1 (2 * k + 1) = -6
  · rw [if_pos c0, if_pos c0]
  · rw [if_neg c0, if_neg c0]
    have e : rtry T gm Rt 1 fav k C = rtry T gm Rt 0 fav k C := by
      unfold rtry rbet
      by_cases c1 : C.1 (2 * k) = 16 ∨ C.1 (2 * k + 1) = 16
      · rw [if_pos c1, if_pos c1]
      · rw [if_neg c1, if_neg c1]
        by_cases c2 : T k ≠ -6
        · rw [if_pos c2, if_pos c2]
        · rw [if_neg c2, if_neg c2]
          by_cases c3 : gm (C.1 (2 * k)).toNat = 1 ∨ gm (C.1 (2 * k + 1)).toNat = 1
          · rw [if_pos c3, if_pos c3]
          · exact absurd ⟨fun z => c0 (Or.inl z), fun z => c0 (Or.inr z), fun z => c1 (Or.inl z), fun z => c1 (Or.inr z), Decidable.not_not.mp c2, fun z => c3 (Or.inl z), fun z => c3 (Or.inr z)⟩ h
    rw [e]
/-- the side that wins a trial's match -/
theorem side_same {rat : Nat → Int} {a b hero : Int} (hab : a ≠ b) : (if hero = (if (1 - favs rat a b).toNat = 0 then a else b) then 1 - favs rat a b else favs rat a b) = if a = hero ∨ (b ≠ hero ∧ mbet rat a b = 1) then 0 else 1 := by
  unfold favs mbet
  (repeat' split) <;> omega
theorem mbet_same {Rt rat : Nat → Int} {a b : Int} (hr : ∀ p, p < 16 → Rt p = rat p) (ha : 0 ≤ a ∧ a < 16) (hb : 0 ≤ b ∧ b < 16) : mbet Rt a b = mbet rat a b := by
  unfold mbet
  rw [hr a.toNat (by omega), hr b.toNat (by omega)]
theorem rel_tstp {F k : Nat} {WT WD LT LD g T gm Rt rat : Nat → Int} {hero n : Int} {s : BB × (Nat → Int) × Int} {C : R4} (h : rel F k s.1 C) (hk : k < F) (hF : F ≤ 31) (hW : won F WT WD k) (hL : won F LT LD k) (hT : T k = s.2.1 k) (hR : s.2.1 k = -6 ∨ s.2.1 k = 0 ∨ s.2.1 k = 1) (hg : ∀ p, p < 16 → gm p = g p) (hr : ∀ p, p < 16 → Rt p = rat p) (h0 : s.1.1 (2 * k) = -6 ∨ s.1.1 (2 * k) = 16 ∨ (0 ≤ s.1.1 (2 * k) ∧ s.1.1 (2 * k) < n)) (h1 : s.1.1 (2 * k + 1) = -6 ∨ s.1.1 (2 * k + 1) = 16 ∨ (0 ≤ s.1.1 (2 * k + 1) ∧ s.1.1 (2 * k + 1) < n)) (hn : n ≤ 16) (hd : k + 2 = F → ¬ s.1.1 (2 * k) = -6 → s.1.1 (2 * k) ≠ s.1.1 (2 * k + 1)) (hab : 0 ≤ s.1.1 (2 * k) ∧ s.1.1 (2 * k) < n → s.1.1 (2 * k) ≠ s.1.1 (2 * k + 1)) : rel F (k + 1) (tstp (wsx WT WD) (wsx LT LD) F g n rat hero k s).1 (rone WT WD LT LD T gm Rt 1 hero F k C) := by
  obtain ⟨B, R, u⟩ := s
  dsimp only at h hT hR h0 h1 hd hab
  have e0 := h.1 (2 * k) (by omega)
  have e1 := h.1 (2 * k + 1) (by omega)
  have hk0 := h.2.2.1 k (Nat.le_refl _) hk
  have s0 : sid (B.1 (2 * k)) := by unfold sid; omega
  have s1 : sid (B.1 (2 * k + 1)) := by unfold sid; omega
  by_cases fr : ¬ C.1 (2 * k) = -6 ∧ ¬ C.1 (2 * k + 1) = -6 ∧ ¬ C.1 (2 * k) = 16 ∧ ¬ C.1 (2 * k + 1) = 16 ∧ T k = -6 ∧ ¬ gm (C.1 (2 * k)).toNat = 1 ∧ ¬ gm (C.1 (2 * k + 1)).toNat = 1
  · have fr' := fr
    rw [e0, e1] at fr'
    obtain ⟨a0, a1, a2, a3, a4, a5, a6⟩ := fr'
    have q0 : 0 ≤ B.1 (2 * k) ∧ B.1 (2 * k) < n := by omega
    have q1 : 0 ≤ B.1 (2 * k + 1) ∧ B.1 (2 * k + 1) < n := by omega
    have hab := hab q0
    have b1 : ¬ (B.2.1 k ≠ 0 ∨ B.1 (2 * k) = -6 ∨ B.1 (2 * k + 1) = -6) := by omega
    have b2 : ¬ (B.1 (2 * k) = 16 ∨ B.1 (2 * k + 1) = 16) := by omega
    have b3 : ¬ R k ≠ -6 := fun z => z (hT ▸ a4)
    have b4 : ¬ (gon g (B.1 (2 * k)) ∨ gon g (B.1 (2 * k + 1))) := fun z => z.elim (fun z => a5 (by rw [hg _ (by omega)]; exact z.2.2)) (fun z => a6 (by rw [hg _ (by omega)]; exact z.2.2))
    have eb : bstep (wsx WT WD) (wsx LT LD) F R g k B = B := by
      unfold bstep
      rw [if_neg b1, if_neg b2, if_neg b3, if_neg b4]
    have hp : bplay n B k = true := by
      unfold bplay
      exact decide_eq_true ⟨hk0, q0, q1⟩
    have ev : B.1 (2 * k + (1 - favs rat (B.1 (2 * k)) (B.1 (2 * k + 1))).toNat) = if (1 - favs rat (B.1 (2 * k)) (B.1 (2 * k + 1))).toNat = 0 then B.1 (2 * k) else B.1 (2 * k + 1) := by
      rcases favs_01 (rat := rat) (a := B.1 (2 * k)) (b := B.1 (2 * k + 1)) with z | z
      · rw [z]; rfl
      · rw [z]; rfl
    have sd := side_same (rat := rat) (hero := hero) hab
    rw [← ev] at sd
    have et : (tstp (wsx WT WD) (wsx LT LD) F g n rat hero k (B, R, u)).1 = bstep (wsx WT WD) (wsx LT LD) F (fup R k (if B.1 (2 * k) = hero ∨ (B.1 (2 * k + 1) ≠ hero ∧ mbet rat (B.1 (2 * k)) (B.1 (2 * k + 1)) = 1) then 0 else 1)) g k B := by
      unfold tstp
      dsimp only
      rw [eb, if_pos hp]
      dsimp only
      rw [sd]
    rw [et]
    generalize hsd : (if B.1 (2 * k) = hero ∨ (B.1 (2 * k + 1) ≠ hero ∧ mbet rat (B.1 (2 * k)) (B.1 (2 * k + 1)) = 1) then (0 : Int) else 1) = sd'
    have sd01 : sd' = 0 ∨ sd' = 1 := by rw [← hsd]; exact ite01
    have b3' : fup R k sd' k ≠ -6 := by rw [fup_eq]; omega
    have eb2 : bstep (wsx WT WD) (wsx LT LD) F (fup R k sd') g k B = bdec (wsx WT WD) (wsx LT LD) F k sd' 3 B := by
      unfold bstep
      rw [if_neg b1, if_neg b2, if_pos b3', fup_eq]
    rw [eb2]
    have n0 : (rdec k 3 sd' (rnul k C)).2.1 k = 3 := fup_eq
    have er : rone WT WD LT LD T gm Rt 1 hero F k C = rfin F k (C.1 (2 * k)) (C.1 (2 * k + 1)) (rlos LT LD k (rwin WT WD k (rdec k 3 sd' (rnul k C)))) := by
      have c1 : ¬ (C.1 (2 * k) = -6 ∨ C.1 (2 * k + 1) = -6) := fun z => z.elim fr.1 fr.2.1
      have c2 : ¬ (C.1 (2 * k) = 16 ∨ C.1 (2 * k + 1) = 16) := fun z => z.elim fr.2.2.1 fr.2.2.2.1
      have c3 : ¬ T k ≠ -6 := fun z => z a4
      have c4 : ¬ (gm (C.1 (2 * k)).toNat = 1 ∨ gm (C.1 (2 * k + 1)).toNat = 1) := fun z => z.elim fr.2.2.2.2.2.1 fr.2.2.2.2.2.2
      have et : rtry T gm Rt 1 hero k C = rdec k 3 sd' (rnul k C) := by
        unfold rtry rbet
        rw [if_neg c2, if_neg c3, if_neg c4, if_pos rfl, e0, e1, mbet_same hr (by omega) (by omega), hsd]
      unfold rone
      rw [if_neg c1, et, if_neg (by rw [n0]; decide)]
    rw [er]
    exact rel_dec h hk hF hW hL sd01 (by decide) (fun _ => hab)
  · rw [rone_m fr]
    have st := rel_step (fav := hero) (Rt := Rt) h hk hF hW hL hT hR hg s0 s1 hd
    have nb : ¬ bplay n (bstep (wsx WT WD) (wsx LT LD) F R g k B) k = true := fun hb => by
      unfold bplay at hb
      rw [decide_eq_true_eq] at hb
      obtain ⟨p0, p1, p2⟩ := hb
      refine fr ?_
      rw [e0, e1]
      unfold bstep at p0 p1 p2
      by_cases c0 : B.2.1 k ≠ 0 ∨ B.1 (2 * k) = -6 ∨ B.1 (2 * k + 1) = -6
      · rw [if_pos c0] at p0 p1 p2
        omega
      · rw [if_neg c0] at p0 p1 p2
        by_cases c1 : B.1 (2 * k) = 16 ∨ B.1 (2 * k + 1) = 16
        · rw [if_pos c1] at p0
          exact absurd (p0.symm.trans (show _ = (1 : Int) from fup_eq)) (by decide)
        · rw [if_neg c1] at p0 p1 p2
          by_cases c2 : R k ≠ -6
          · rw [if_pos c2] at p0
            exact absurd (p0.symm.trans (show _ = (3 : Int) from fup_eq)) (by decide)
          · rw [if_neg c2] at p0 p1 p2
            by_cases c3 : gon g (B.1 (2 * k)) ∨ gon g (B.1 (2 * k + 1))
            · rw [if_pos c3] at p0
              exact absurd (p0.symm.trans (show _ = (2 : Int) from fup_eq)) (by decide)
            · rw [if_neg c3] at p0 p1 p2
              refine ⟨by omega, by omega, by omega, by omega, by rw [hT]; exact Decidable.not_not.mp c2, fun z => c3 (Or.inl ⟨by omega, by omega, ?_⟩), fun z => c3 (Or.inr ⟨by omega, by omega, ?_⟩)⟩
              · rw [← hg _ (by omega)]; exact z
              · rw [← hg _ (by omega)]; exact z
    have et : (tstp (wsx WT WD) (wsx LT LD) F g n rat hero k (B, R, u)).1 = bstep (wsx WT WD) (wsx LT LD) F R g k B := by
      unfold tstp
      dsimp only
      rw [if_neg nb]
    rw [et]
    exact st
