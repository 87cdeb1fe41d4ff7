/-! where players stand, as the calls tell it -/
section PLC
variable {G : PW} {n x L : Nat} {ps : Nat → Nat}
theorem nbk_0 {z x n k : Nat} : 0 ≤ nbk z x n k := (nob_rg _ _ _).1
theorem psm_0 {P : Nat → Int} (h : ∀ j, 0 ≤ P j) : ∀ f k : Nat, 0 ≤ psm P f k := by
  intro f
  induction f with
  | zero => intro k; exact Int.le_refl _
  | succ f ih =>
    intro k
    have a := h k
    have b := ih (k + 1)
    show 0 ≤ P k + psm P f (k + 1)
    omega
theorem CI_part (h : CI G n x L) {m : Nat} (hm : m < tF (tz n)) : G 5 m = tPT (tz n) m ∧ G 8 m = tWS (tz n) m ∧ G 9 m = tLS (tz n) x m := by
  have a := h.2.2.2.2.1.2.1 m hm
  exact ⟨a.1, a.2.2.2.1, a.2.2.2.2⟩
theorem CI_next (h : CI G n x L) (hf : fin (tz n) x n (rlive (G 14) (G 15)) (pm_rows G 3) ps) {p : Nat} (hp : p < n) : cnext G (tF (tz n)) (p : Int) = if ps p < 64 then ((ps p / 2 : Nat) : Int) else -6 := f_next hf hp
theorem CI_outs (h : CI G n x L) (hf : fin (tz n) x n (rlive (G 14) (G 15)) (pm_rows G 3) ps) {p : Nat} (hp : p < n) : couts G (tF (tz n)) (p : Int) = if 64 ≤ ps p ∧ (ps p - 64) / 2 < tF (tz n) - 2 then (((ps p - 64) / 2 : Nat) : Int) else -6 := by
  rw [← f_out hf hp]
  unfold couts
  refine ffrom_congr _ 0 (fun m _ hm => ?_)
  rw [(CI_part h (show m < tF (tz n) by omega)).1]
theorem CI_best (h : CI G n x L) {m : Nat} (hm : m < tF (tz n)) (hp : tPT (tz n) m = 1) : 3 ≤ G 10 m := by
  obtain ⟨hc, g1, g2, g3, g4, g5⟩ := tz_facts h.1 h.2.1
  have r := tb_round hc m hm
  have q := h.2.2.2.2.1.2.2.2 m (tr (tz_round (tz n)) m).toNat hm hp (by omega)
  have e := psm_0 (P := nbk (tz n) x n) (fun _ => nbk_0) (2 * tR (tz n) - 2 - (tr (tz_round (tz n)) m).toNat) ((tr (tz_round (tz n)) m).toNat + 1)
  rw [q.1]
  omega
/-- a player's three ways to stand -/
theorem CI_pl (h : CI G n x L) (hf : fin (tz n) x n (rlive (G 14) (G 15)) (pm_rows G 3) ps) {p : Nat} (hp : p < n) :
    (ps p < 64 ∧ cnext G (tF (tz n)) (p : Int) = ((ps p / 2 : Nat) : Int) ∧ ps p / 2 < tF (tz n) ∧ cplace G (tF (tz n)) 10 (p : Int) = -6 ∧ cplace G (tF (tz n)) 11 (p : Int) = -6 ∧ (blos (pm_rows G 3) (tF (tz n)) p = 0 ∨ blos (pm_rows G 3) (tF (tz n)) p = 1) ∧ cchamp G (tF (tz n)) ≠ (p : Int)) ∨
    (64 ≤ ps p ∧ cnext G (tF (tz n)) (p : Int) = -6 ∧ ((ps p - 64) / 2 < tF (tz n) - 2 ∧ tPT (tz n) ((ps p - 64) / 2) = 1 ∧ cplace G (tF (tz n)) 10 (p : Int) = G 10 ((ps p - 64) / 2) ∧ cplace G (tF (tz n)) 11 (p : Int) = G 11 ((ps p - 64) / 2) ∧ blos (pm_rows G 3) (tF (tz n)) p = 2 ∧ cchamp G (tF (tz n)) ≠ (p : Int))) ∨
    (64 ≤ ps p ∧ cnext G (tF (tz n)) (p : Int) = -6 ∧ tF (tz n) - 2 ≤ (ps p - 64) / 2 ∧ cchamp G (tF (tz n)) ≠ -6 ∧ ((cchamp G (tF (tz n)) = (p : Int) ∧ cplace G (tF (tz n)) 10 (p : Int) = 1 ∧ cplace G (tF (tz n)) 11 (p : Int) = 1 ∧ (blos (pm_rows G 3) (tF (tz n)) p = 0 ∨ blos (pm_rows G 3) (tF (tz n)) p = 1)) ∨ (cchamp G (tF (tz n)) ≠ (p : Int) ∧ cplace G (tF (tz n)) 10 (p : Int) = 2 ∧ cplace G (tF (tz n)) 11 (p : Int) = 2 ∧ blos (pm_rows G 3) (tF (tz n)) p = 2))) := by
  obtain ⟨hc, g1, g2, g3, g4, g5⟩ := tz_facts h.1 h.2.1
  have nx := CI_next h hf hp
  have ou := CI_outs h hf hp
  have lo := f_los hf hp
  have ch : (cchamp G (tF (tz n)) = (p : Int)) ↔ _ := (f_champ hf hp).1
  by_cases c : ps p < 64
  · rw [if_pos c] at nx
    obtain ⟨q1, q2, q3⟩ := f_pend hf hp c
    left
    have pl : ∀ r, cplace G (tF (tz n)) r (p : Int) = -6 := fun r => by
      unfold cplace
      rw [nx, if_neg (by omega)]
    exact ⟨c, nx, by omega, pl 10, pl 11, lo.1 c, fun y => by have := (ch.mp y).1; omega⟩
  · have c : 64 ≤ ps p := by omega
    right
    rw [if_neg (by omega)] at nx
    obtain ⟨s, s1, s2, s3, s4, s5⟩ := f_term hf hp c
    have e64 : (ps p - 64) / 2 = s / 2 := by omega
    by_cases d : (ps p - 64) / 2 < tF (tz n) - 2
    · rw [if_pos ⟨c, d⟩] at ou
      left
      have pt : tPT (tz n) ((ps p - 64) / 2) = 1 := by
        rcases s5 with s5 | s5 | s5
        · rw [e64]; exact s5.2.1
        · omega
        · omega
      have pl : ∀ r, cplace G (tF (tz n)) r (p : Int) = G r ((ps p - 64) / 2) := fun r => by
        unfold cplace
        rw [nx, if_pos rfl, ou, if_neg (by omega), Int.toNat_natCast]
      exact ⟨c, nx, d, pt, pl 10, pl 11, lo.2 c d, fun y => by have := (ch.mp y).1; omega⟩
    · rw [if_neg (by omega)] at ou
      right
      have lw := hf.2.2.2.2.2.2.1 p hp
      have tl : tlw (tz n) s = 0 ∧ s + 4 = 2 * tF (tz n) ∨ tlw (tz n) s = 1 ∧ s + 4 ≠ 2 * tF (tz n) := by
        unfold tlw
        by_cases e1 : s + 4 = 2 * tF (tz n)
        · rw [if_pos e1]; exact Or.inl ⟨rfl, e1⟩
        · rw [if_neg e1]
          by_cases e2 : s + 3 = 2 * tF (tz n)
          · rw [if_pos e2]; exact Or.inr ⟨rfl, e1⟩
          · rw [if_neg e2]
            have e3 : s / 2 = tF (tz n) - 1 := by omega
            rw [e3, (tb_fin hc).2.2.2.2.2, if_neg (by decide)]
            exact Or.inr ⟨rfl, e1⟩
      rw [s2, plw_hi] at lw
      have cne : cchamp G (tF (tz n)) ≠ -6 := fun y => by
        have y2 := (f_ch6 hf).mp y
        rcases s5 with s5 | s5 | s5
        · omega
        · exact y2.2 s5.2
        · rw [s5] at s4
          exact s4 y2.1
      have par : ((ps p % 2 : Nat) : Int) = ((s % 2 : Nat) : Int) := by omega
      refine ⟨c, nx, by omega, cne, ?_⟩
      by_cases w : (pm_rows G 3).2.2 (s / 2) = ((s % 2 : Nat) : Int)
      · have hch : cchamp G (tF (tz n)) = (p : Int) := ch.mpr ⟨by omega, by rw [e64, par]; exact w⟩
        left
        have pl : ∀ r, cplace G (tF (tz n)) r (p : Int) = 1 := fun r => by
          unfold cplace
          rw [nx, if_pos rfl, ou, if_pos rfl, if_pos hch]
        rw [if_pos w] at lw
        exact ⟨hch, pl 10, pl 11, by omega⟩
      · have hch : cchamp G (tF (tz n)) ≠ (p : Int) := fun y => w (by have := (ch.mp y).2; rw [e64, par] at this; exact this)
        right
        have pl : ∀ r, cplace G (tF (tz n)) r (p : Int) = 2 := fun r => by
          unfold cplace
          rw [nx, if_pos rfl, ou, if_pos rfl, if_neg hch]
        rw [if_neg w] at lw
        refine ⟨hch, pl 10, pl 11, ?_⟩
        have : s + 4 ≠ 2 * tF (tz n) := fun e => by
          rcases s5 with s5 | s5 | s5
          · omega
          · refine w ?_
            rw [s5.1, s5.2]
            omega
          · omega
        omega
end PLC
