/-! both sides: undoing -/
section UND
variable {G K : PW} {n x L : Nat}
theorem entall_eR {A : Nat → Int} {M : PW} (hA : alegal A L) (h14 : ∀ m, m < 31 → M 14 m = -6) (h15 : ∀ p, p < 16 → M 15 p = 0) : ∀ k, k ≤ L → (∀ m, m < 31 → entall A M k 14 m = eR A k m) ∧ ∀ p, p < 16 → entall A M k 15 p = eG A k p := by
  intro k
  induction k with
  | zero => intro _; exact ⟨h14, h15⟩
  | succ k ih =>
    intro hk
    obtain ⟨i1, i2⟩ := ih (by omega)
    obtain ⟨e1, e2⟩ := entered_in (M := entall A M k) (hA k (by omega)).1
    refine ⟨fun m hm => ?_, fun p hp => ?_⟩
    · show entered (entall A M k) (A k) 14 m = (if A k < 62 then fup (eR A k) (A k / 2).toNat (A k % 2) else eR A k) m
      rw [e1]
      by_cases c : A k < 62
      · rw [if_pos c, if_pos c]
        unfold fup
        by_cases e : m = (A k / 2).toNat
        · rw [if_pos e, if_pos e]
        · rw [if_neg e, if_neg e]
          exact i1 m hm
      · rw [if_neg c, if_neg c]
        exact i1 m hm
    · show entered (entall A M k) (A k) 15 p = (if A k < 62 then eG A k else fup (eG A k) (A k - 62).toNat 1) p
      rw [e2]
      by_cases c : A k < 62
      · rw [if_pos c, if_pos c]
        exact i2 p hp
      · rw [if_neg c, if_neg c]
        unfold fup
        by_cases e : p = (A k - 62).toNat
        · rw [if_pos e, if_pos e]
        · rw [if_neg e, if_neg e]
          exact i2 p hp
theorem replayed_ne {r : Nat} (h : r < 14 ∨ 18 < r) : replayed G L r = G r := by
  unfold replayed
  rw [setl_ne_L (by omega) (by omega) (by omega), entall_ne (by omega) (by omega), setl_ne_L (by omega) (by omega) (by omega), wiped_ne (by omega) (by omega)]
/-- a tournament played again from its acts -/
theorem livs_replayed (h : 2 ≤ n ∧ n ≤ 16) (hx : x = 0 ∨ x = 1) (hp : planC G 4 (tz n) x n) (hp2 : planC G 20 (tz n) x n) (hL : G 35 1 = (L : Int)) (hA : alegal (G 36) L) : livs (replayed G L) n x L := by
  have w14 : ∀ m, m < 31 → setl_L (wiped_L G) 14 m = -6 := fun m hm => by
    rw [setl_ne_L (by decide) (by decide) (by decide), wiped_14]
    unfold mixf
    rw [if_pos hm]
  have w15 : ∀ p, p < 16 → setl_L (wiped_L G) 15 p = 0 := fun p hp => by
    rw [setl_ne_L (by decide) (by decide) (by decide), wiped_15]
    unfold mixf
    rw [if_pos hp]
  obtain ⟨e1, e2⟩ := entall_eR hA w14 w15 L (Nat.le_refl _)
  have ne : ∀ r, (r < 14 ∨ 18 < r) → entall (G 36) (setl_L (wiped_L G)) L r = G r := fun r q => by
    rw [entall_ne (by omega) (by omega), setl_ne_L (by omega) (by omega) (by omega), wiped_ne (by omega) (by omega)]
  have n36 := ne 36 (by decide)
  refine livs_setl h hx (planC_same hp (fun r a b => ne r (by omega))) (planC_same hp2 (fun r a b => ne r (by omega))) ?_ ?_ (fun m hm => ?_) (fun p hp => ?_)
  · rw [ne 35 (by decide)]; exact hL
  · rw [n36]; exact hA
  · rw [n36]; exact e1 m hm
  · rw [n36]; exact e2 p hp
theorem b_undo (h : REL G K) : both 86 162 [] G K := by
  obtain ⟨n, x, L, t, l⟩ := h.1
  have lo := livs_ok t l
  have hA := t.2.2.1
  have L47 := alegal_47 hA
  obtain ⟨t1, t2, t3, t4, t5, t6, t7, t8, t9⟩ := t
  have cr := c_undo l.2.2.1 L47 (fun j hj => (hA j hj).1) lo.1
  have mr := m_undo t5.2.2 L47 (fun j hj => by
    rw [t9 j hj]
    have := (hA j hj).1
    unfold acode
    by_cases c : G 36 j < 62
    · rw [if_pos c]; omega
    · rw [if_neg c]; omega)
  by_cases c0 : L = 0
  · rw [if_pos c0] at cr mr
    exact ⟨_, _, _, cr, mr, h⟩
  · rw [if_neg c0] at cr mr
    refine ⟨_, _, _, cr, mr, ?_⟩
    obtain ⟨j, rfl⟩ : ∃ j, L = j + 1 := ⟨L - 1, by omega⟩
    rw [show j + 1 - 1 = j by omega]
    have n0 : ∀ r, r ≠ 35 → pm_upd G 35 1 (((j + 1 : Nat) : Int) - 1) r = G r := fun r q => upd_ne q
    have n35 : pm_upd G 35 1 (((j + 1 : Nat) : Int) - 1) 35 1 = (j : Int) := by
      rw [upd_eq, fup_eq]
      omega
    have hA' := alegal_le hA (show j ≤ j + 1 by omega)
    have lv : livs (replayed (pm_upd G 35 1 (((j + 1 : Nat) : Int) - 1)) j) n x j := livs_replayed t1 t2 (planC_same l.1 (fun r a b => n0 r (by omega))) (planC_same l.2.1 (fun r a b => n0 r (by omega))) n35 (by rw [n0 36 (by decide)]; exact hA')
    have rn : ∀ r, (r < 14 ∨ 18 < r) → r ≠ 35 → replayed (pm_upd G 35 1 (((j + 1 : Nat) : Int) - 1)) j r = G r := fun r a b => by rw [replayed_ne a, n0 r b]
    -- the reference's row
    obtain ⟨a0, a1, a2⟩ := hA j (by omega)
    have ac := t9 j (by omega)
    have e1 : eR (G 36) (j + 1) = if G 36 j < 62 then fup (eR (G 36) j) (G 36 j / 2).toNat (G 36 j % 2) else eR (G 36) j := rfl
    have e2 : eG (G 36) (j + 1) = if G 36 j < 62 then eG (G 36) j else fup (eG (G 36) j) (G 36 j - 62).toNat 1 := rfl
    have kr : mundone K (j + 1) 1 = if G 36 j < 62 then fup (fup (K 1) 2 (((j + 1 : Nat) : Int) - 1)) (19 + (G 36 j / 2).toNat) (-6) else fup (fup (K 1) 2 (((j + 1 : Nat) : Int) - 1)) (50 + (G 36 j - 62).toNat) 0 := by
      unfold mundone
      rw [show j + 1 - 1 = j by omega, ac]
      unfold acode
      by_cases c : G 36 j < 62
      · rw [if_pos c, if_neg (by omega), if_pos c, upd_eq, upd_eq]
      · rw [if_neg c, if_pos (by omega), if_neg c, upd_eq, upd_eq, show G 36 j + 38 - 100 = G 36 j - 62 by omega]
    have ko : ∀ r, r ≠ 1 → mundone K (j + 1) r = K r := fun r q => by
      unfold mundone
      by_cases c : 100 ≤ K 1 (66 + (j + 1 - 1))
      · rw [if_pos c, upd_ne q, upd_ne q]
      · rw [if_neg c, upd_ne q, upd_ne q]
    have tt : tour n x j (G 1) (G 36) (mundone K (j + 1) 1) := by
      rw [kr]
      by_cases c : G 36 j < 62
      · rw [if_pos c] at e1 e2 ⊢
        refine ⟨t1, t2, hA', t4, ⟨?_, ?_, ?_⟩, fun p hp => ?_, fun m hm => ?_, fun p hp => ?_, fun i hi => ?_⟩
        · rw [fup_ne (by omega), fup_ne (by omega)]; exact t5.1
        · rw [fup_ne (by omega), fup_ne (by omega)]; exact t5.2.1
        · rw [fup_ne (by omega), fup_eq]; omega
        · rw [fup_ne (by omega), fup_ne (by omega)]; exact t6 p hp
        · by_cases e : m = (G 36 j / 2).toNat
          · rw [e, fup_eq]
            exact (a1 c).symm
          · have q := t7 m hm
            rw [e1, fup_ne e] at q
            rw [fup_ne (by omega), fup_ne (by omega)]; exact q
        · have q := t8 p hp
          rw [e2] at q
          rw [fup_ne (by omega), fup_ne (by omega)]; exact q
        · rw [fup_ne (by omega), fup_ne (by omega)]; exact t9 i (by omega)
      · rw [if_neg c] at e1 e2 ⊢
        refine ⟨t1, t2, hA', t4, ⟨?_, ?_, ?_⟩, fun p hp => ?_, fun m hm => ?_, fun p hp => ?_, fun i hi => ?_⟩
        · rw [fup_ne (by omega), fup_ne (by omega)]; exact t5.1
        · rw [fup_ne (by omega), fup_ne (by omega)]; exact t5.2.1
        · rw [fup_ne (by omega), fup_eq]; omega
        · rw [fup_ne (by omega), fup_ne (by omega)]; exact t6 p hp
        · have q := t7 m hm
          rw [e1] at q
          rw [fup_ne (by omega), fup_ne (by omega)]; exact q
        · by_cases e : p = (G 36 j - 62).toNat
          · rw [e, fup_eq]
            exact (a2 (by omega)).symm
          · have q := t8 p hp
            rw [e2, fup_ne e] at q
            rw [fup_ne (by omega), fup_ne (by omega)]; exact q
        · rw [fup_ne (by omega), fup_ne (by omega)]; exact t9 i (by omega)
    refine ⟨⟨n, x, j, ?_, lv⟩, ⟨?_, ?_⟩, ?_, ?_, ?_⟩
    · rw [rn 1 (by decide) (by decide), rn 36 (by decide) (by decide)]; exact tt
    · rw [rn 13 (by decide) (by decide)]; exact h.2.1.1
    · rw [rn 29 (by decide) (by decide)]; exact h.2.1.2
    · have s := slo_same (G' := replayed (pm_upd G 35 1 (((j + 1 : Nat) : Int) - 1)) j) h.2.2.1 (fun r q1 q2 => rn r (by omega) (by omega))
      unfold slo at s ⊢
      rw [ko 3 (by decide), ko 2 (by decide)]
      exact s
    · have s := slo_same (G' := replayed (pm_upd G 35 1 (((j + 1 : Nat) : Int) - 1)) j) h.2.2.2.1 (fun r q1 q2 => rn r (by omega) (by omega))
      unfold slo at s ⊢
      rw [ko 3 (by decide), ko 2 (by decide)]
      exact s
    · have s := h.2.2.2.2
      unfold pads at s ⊢
      rw [rn 37 (by decide) (by decide), rn 38 (by decide) (by decide), ko 0 (by decide), ko 4 (by decide)]
      exact s
end UND
