/-! both memories behind the constructors -/
def zG : PW := fun _ _ => 0
/-- the class' memory behind its constructor, and the reference's -/
def startG : PW := rated0 (bgn zG 8 0)
def startK : PW := mbeg zG 8 0 16 31
theorem start_begin : pm_ca pm_sC 89 [.inr (.inr 0), .inl 8, .inl 0] zG = some (none, bgn zG 8 0) :=
  (c_bgn (G := zG) (n := 8) (x := 0) ⟨by decide, by decide⟩ (Or.inl rfl) (fun _ _ => Or.inl rfl) (fun _ _ => Or.inl rfl)).1
theorem start_rate : pm_ca pm_sC 100 [.inr (.inr 0)] (bgn zG 8 0) = some (none, startG) := c_rateAsAtFirst
theorem start_model : pm_ca pm_sM 110 [.inr (.inr 0), .inl 8, .inl 0] zG = some (none, startK) := m_begin
theorem start_rel : REL startG startK := by
  have hn : 2 ≤ 8 ∧ 8 ≤ 16 := ⟨by decide, by decide⟩
  have hx : (0 : Nat) = 0 ∨ (0 : Nat) = 1 := Or.inl rfl
  have fr : ∀ r, r ≠ 1 → startG r = bgn zG 8 0 r := fun r a => by
    unfold startG rated0
    rw [row_ne a]
  have f1 : ∀ p, p < 16 → startG 1 p = 1500 - 10 * (p : Int) := fun p hp => by
    unfold startG rated0
    rw [row_eq]
    unfold mixf
    rw [if_pos hp]
  have f29 : ∀ r, 29 < r → startG r = zG r := fun r a => by
    rw [fr r (by omega), bgn_ne (by omega)]
  have kr : ∀ r, r ≠ 1 → startK r = zG r := fun r a => mbeg_ne a
  have y := bgn_01 (G := zG) (n := 8) (x := 0) (fun _ _ => Or.inl rfl) (fun _ _ => Or.inl rfl)
  refine ⟨⟨8, 0, 0, ?_, livs_begun (G := zG) hn hx (fun r a b => fr r (by omega)) ?_⟩, ⟨?_, ?_⟩, ?_, ?_, ?_⟩
  · exact tour_mbeg (K := zG) (n := 8) (x := 0) hn hx f1
  · rw [f29 35 (by decide)]; rfl
  · rw [fr 13 (by decide)]; exact y.1
  · rw [fr 29 (by decide)]; exact y.2
  · refine Or.inl ⟨?_, ?_⟩
    · rw [f29 39 (by decide)]; rfl
    · rw [kr 3 (by decide)]; rfl
  · refine Or.inl ⟨?_, ?_⟩
    · rw [f29 43 (by decide)]; rfl
    · rw [kr 3 (by decide)]; rfl
  · unfold pads
    rw [f29 37 (by decide), f29 38 (by decide), kr 4 (by decide), kr 0 (by decide)]
    exact ⟨0, by decide, rfl, rfl, fun j _ => rfl, fun j _ => ⟨⟨Int.le_refl 0, (by decide : (0 : Int) ≤ 65535)⟩, Int.le_refl 0, (by decide : (0 : Int) ≤ 65535)⟩, Int.le_refl 0, (by decide : (0 : Int) ≤ 30)⟩
