/-! fits(): its first loop, whole -/
section FIL
variable {G : PW} {n x L : Nat} {ps : Nat → Nat}
/-- a match, as fits() reads it -/
theorem CI_FT (h : CI G n x L) (hf : fin (tz n) x n (rlive (G 14) (G 15)) (pm_rows G 3) ps) {m : Nat} (hm : m < tF (tz n)) : FT (G 16 (2 * m)) (G 16 (2 * m + 1)) (G 17 m) (bw (pm_rows G 3) m) (bl (pm_rows G 3) m) := by
  have n16 := h.1.2
  have r : G 17 m = 0 ∨ G 17 m = 1 ∨ G 17 m = 2 ∨ G 17 m = 3 := t_rng hf hm
  have d0 : G 16 (2 * m) = -6 ∨ G 16 (2 * m) = 16 ∨ (0 ≤ G 16 (2 * m) ∧ G 16 (2 * m) < (n : Int)) := t_jD hf (show 2 * m < 2 * tF (tz n) by omega)
  have d1 : G 16 (2 * m + 1) = -6 ∨ G 16 (2 * m + 1) = 16 ∨ (0 ≤ G 16 (2 * m + 1) ∧ G 16 (2 * m + 1) < (n : Int)) := t_jD hf (show 2 * m + 1 < 2 * tF (tz n) by omega)
  have by' : G 16 (2 * m) ≠ -6 → G 16 (2 * m + 1) ≠ -6 → ((G 16 (2 * m) = 16 ∨ G 16 (2 * m + 1) = 16) ↔ G 17 m = 1) := fun k0 k1 => t_bye hf hm k0 k1
  by_cases c : G 17 m = 0
  · obtain ⟨e1, e2⟩ := t_no (B := pm_rows G 3) (m := m) c
    refine Or.inl ⟨c, e1, e2, ?_⟩
    by_cases a0 : G 16 (2 * m) = -6
    · exact Or.inl a0
    · by_cases b0 : G 16 (2 * m + 1) = -6
      · exact Or.inr (Or.inl ⟨by omega, b0⟩)
      · have nb := by' a0 b0
        exact Or.inr (Or.inr ⟨by omega, by omega, fun y => by have := nb.mp (Or.inl y); omega, fun y => by have := nb.mp (Or.inr y); omega⟩)
  · have sd : G 16 (2 * m) ≠ -6 ∧ G 16 (2 * m + 1) ≠ -6 := t_sides hf hm c
    have nb := by' sd.1 sd.2
    have wl : (G 18 m = 0 ∧ bw (pm_rows G 3) m = G 16 (2 * m) ∧ bl (pm_rows G 3) m = G 16 (2 * m + 1)) ∨ (G 18 m = 1 ∧ bw (pm_rows G 3) m = G 16 (2 * m + 1) ∧ bl (pm_rows G 3) m = G 16 (2 * m)) := t_wl hf hm c
    have wl' : (bw (pm_rows G 3) m = G 16 (2 * m) ∧ bl (pm_rows G 3) m = G 16 (2 * m + 1)) ∨ (bw (pm_rows G 3) m = G 16 (2 * m + 1) ∧ bl (pm_rows G 3) m = G 16 (2 * m)) := wl.elim (fun y => Or.inl y.2) (fun y => Or.inr y.2)
    right
    by_cases c1 : G 17 m = 1
    · exact Or.inl ⟨c1, by omega, by omega, nb.mpr c1, wl'⟩
    · exact Or.inr ⟨by omega, by omega, by omega, fun y => c1 (nb.mp (Or.inl y)), fun y => c1 (nb.mp (Or.inr y)), wl'⟩
theorem gon_player {F p : Nat} (hp : p < n) : (if 0 ≤ (p : Int) ∧ (p : Int) < (n : Int) then cplayer G F (p : Int) 3 else -1) = if G 15 p = 1 then 1 else 0 := by
  rw [if_pos ⟨by omega, by omega⟩]
  rfl
set_option maxHeartbeats 4000000 in
theorem fits_step (h : CI G n x L) (hf : fin (tz n) x n (rlive (G 14) (G 15)) (pm_rows G 3) ps) {i : Nat} (hi : i < tF (tz n)) {r : PR} (nx : pm_dn pm_sF 86 24 [some (.inr (.inr 0)), some (.inl (n : Int)), some (.inr (.inr 47)), some (.inr (.inr 48)), some (.inr (.inr 49)), some (.inr (.inr 50)), some (.inl ((i + 1 : Nat) : Int)), none, none, none, none, none, none] [] (fmem G (fw (pm_rows G 3) (i + 1)) (fl (pm_rows G 3) (i + 1)) (fx (pm_rows G 3) (i + 1)) (fy (pm_rows G 3) (i + 1))) = some r) : pm_dn pm_sF 86 24 [some (.inr (.inr 0)), some (.inl (n : Int)), some (.inr (.inr 47)), some (.inr (.inr 48)), some (.inr (.inr 49)), some (.inr (.inr 50)), some (.inl (i : Int)), none, none, none, none, none, none] [] (fmem G (fw (pm_rows G 3) i) (fl (pm_rows G 3) i) (fx (pm_rows G 3) i) (fy (pm_rows G 3) i)) = some r := by
  obtain ⟨hc, g1, g2, g3, g4, g5⟩ := tz_facts h.1 h.2.1
  have hl := CI_ok h
  have n16 := h.1.2
  have FTi := CI_FT h hf hi
  have rg : G 17 i = 0 ∨ G 17 i = 1 ∨ G 17 i = 2 ∨ G 17 i = 3 := t_rng hf hi
  have d0 : G 16 (2 * i) = -6 ∨ G 16 (2 * i) = 16 ∨ (0 ≤ G 16 (2 * i) ∧ G 16 (2 * i) < (n : Int)) := t_jD hf (show 2 * i < 2 * tF (tz n) by omega)
  have d1 : G 16 (2 * i + 1) = -6 ∨ G 16 (2 * i + 1) = 16 ∨ (0 ≤ G 16 (2 * i + 1) ∧ G 16 (2 * i + 1) < (n : Int)) := t_jD hf (show 2 * i + 1 < 2 * tF (tz n) by omega)
  have pt := CI_part h hi
  have tw := fun q : 0 ≤ tWS (tz n) i => fun c : G 17 i ≠ 0 => t_wseat hf hi c q
  have tl := fun q : 0 ≤ tLS (tz n) x i => fun c : G 17 i ≠ 0 => t_lseat hf hi c q
  have free := fun k0 k1 c => t_free hf hi k0 k1 c
  have walk := fun c => t_walk hf hi c
  have real := fun c c1 => t_real hf hi c c1
  have wlx := fun c => t_wl hf hi c
  -- the calls
  have mt : ∀ (a b c d : Nat → Int) (m w : Int), 0 ≤ m → m < (tF (tz n) : Int) → pm_ca pm_sF 57 [.inr (.inr 0), .inl m, .inl w] (fmem G a b c d) = some (some (.inl (cmatch G m.toNat w)), fmem G a b c d) := fun a b c d m w q1 q2 => by
    have := fm_match (a := a) (b := b) (c := c) (d := d) (m := m) (w := w) hl
    rw [if_pos ⟨q1, q2⟩] at this
    exact this
  have mi : ∀ (a b c d : Nat → Int) (w : Int), pm_ca pm_sF 57 [.inr (.inr 0), .inl (i : Int), .inl w] (fmem G a b c d) = some (some (.inl (cmatch G i w)), fmem G a b c d) := fun a b c d w => by
    have := mt a b c d (i : Int) w (by omega) (by omega)
    rw [Int.toNat_natCast] at this
    exact this
  have pl3 : ∀ (a b c d : Nat → Int) (p : Int), 0 ≤ p → p < (n : Int) → pm_ca pm_sF 58 [.inr (.inr 0), .inl p, .inl 3] (fmem G a b c d) = some (some (.inl (if G 15 p.toNat = 1 then 1 else 0)), fmem G a b c d) := fun a b c d p q1 q2 => by
    have := fm_player (a := a) (b := b) (c := c) (d := d) (m := p) (w := 3) hl
    obtain ⟨k, rfl⟩ : ∃ k : Nat, p = (k : Int) := ⟨p.toNat, by omega⟩
    rw [gon_player (by omega)] at this
    rw [Int.toNat_natCast]
    exact this
  have cnt2 : ∀ (a b c d : Nat → Int), pm_ca pm_sF 60 [.inr (.inr 0), .inl 2] (fmem G a b c d) = some (some (.inl (tF (tz n) : Int)), fmem G a b c d) := fun a b c d => by
    have := fm_count (a := a) (b := b) (c := c) (d := d) (w := 2) hl
    rw [show ccount G (tF (tz n)) n 2 = G 4 4 from rfl, hl.2.2.1] at this
    exact this
  have mk : ∀ (w v : Int), cmatch G i w = v → ∀ a b c d : Nat → Int, pm_ca pm_sF 57 [.inr (.inr 0), .inl (i : Int), .inl w] (fmem G a b c d) = some (some (.inl v), fmem G a b c d) := fun w v e a b c d => by rw [mi, e]
  have mi0 := mk 0 (G 16 (2 * i)) rfl
  have mi1 := mk 1 (G 16 (2 * i + 1)) rfl
  have mi2 := mk 2 (bw (pm_rows G 3) i) rfl
  have mi3 := mk 3 (bl (pm_rows G 3) i) rfl
  have mi4 := mk 4 (G 17 i) rfl
  have mi8 := mk 8 (mseat (tWS (tz n) i)) (by rw [← pt.2.1]; rfl)
  have mi10 := mk 10 (sseat (tWS (tz n) i)) (by rw [← pt.2.1]; rfl)
  have mi9 := mk 9 (mseat (tLS (tz n) x i)) (by rw [← pt.2.2]; rfl)
  have mi11 := mk 11 (sseat (tLS (tz n) x i)) (by rw [← pt.2.2]; rfl)
  rw [ft_A (F := (tF (tz n) : Int)) (h := G 17 i) rfl (by omega) (by omega) (by omega) (by have := fy_rg (pm_rows G 3) i (G 17 i).toNat; omega) (cnt2 _ _ _ _) (mi0 _ _ _ _) (mi1 _ _ _ _) (mi4 _ _ _ _) (mi2 _ _ _ _) (mi3 _ _ _ _)]
  rw [ft_B FTi]
  rw [ft_C FTi (fun q a0 b0 => ?_) (fun q => ?_)]
  rotate_left
  · have nb := (t_bye hf hi (show G 16 (2 * i) ≠ -6 by omega) (show G 16 (2 * i + 1) ≠ -6 by omega))
    have n0 : ¬ G 16 (2 * i) = 16 := fun y => by have : G 17 i = 1 := nb.mp (Or.inl y); omega
    have n1 : ¬ G 16 (2 * i + 1) = 16 := fun y => by have : G 17 i = 1 := nb.mp (Or.inr y); omega
    obtain ⟨u0, u1⟩ := free (show G 16 (2 * i) ≠ -6 by omega) (show G 16 (2 * i + 1) ≠ -6 by omega) q
    have u0 : ¬ gon (G 15) (G 16 (2 * i)) := u0
    have u1 : ¬ gon (G 15) (G 16 (2 * i + 1)) := u1
    have v0 := pl3 (fw (pm_rows G 3) i) (fl (pm_rows G 3) i) (fx (pm_rows G 3) i) (fup (fy (pm_rows G 3) i) (G 17 i).toNat (fy (pm_rows G 3) i (G 17 i).toNat + 1)) (G 16 (2 * i)) (by omega) (by omega)
    have v1 := pl3 (fw (pm_rows G 3) i) (fl (pm_rows G 3) i) (fx (pm_rows G 3) i) (fup (fy (pm_rows G 3) i) (G 17 i).toNat (fy (pm_rows G 3) i (G 17 i).toNat + 1)) (G 16 (2 * i + 1)) (by omega) (by omega)
    rw [if_neg (fun y => u0 ⟨by omega, by omega, y⟩)] at v0
    rw [if_neg (fun y => u1 ⟨by omega, by omega, y⟩)] at v1
    exact ⟨v0, v1⟩
  · have gl : gon (G 15) (bl (pm_rows G 3) i) := walk q
    have re := real (show G 17 i ≠ 0 by omega) (show G 17 i ≠ 1 by omega)
    have re : (0 ≤ G 16 (2 * i) ∧ G 16 (2 * i) < (n : Int)) ∧ (0 ≤ G 16 (2 * i + 1) ∧ G 16 (2 * i + 1) < (n : Int)) := re
    have bn : bl (pm_rows G 3) i < (n : Int) := by
      rcases wlx (show G 17 i ≠ 0 by omega) with ⟨-, -, y⟩ | ⟨-, -, y⟩
      · rw [y]; exact re.2.2
      · rw [y]; exact re.1.2
    have v0 := pl3 (fw (pm_rows G 3) i) (fl (pm_rows G 3) i) (fx (pm_rows G 3) i) (fup (fy (pm_rows G 3) i) (G 17 i).toNat (fy (pm_rows G 3) i (G 17 i).toNat + 1)) (bl (pm_rows G 3) i) gl.1 bn
    rw [if_pos gl.2.2] at v0
    exact v0
  rw [ft_D (by omega) (mi8 _ _ _ _) (mi10 _ _ _ _) (mi9 _ _ _ _) (mi11 _ _ _ _) (fun q0 q => ?_) (fun q0 q => ?_)]
  rotate_left
  · unfold mseat at q
    by_cases c : tWS (tz n) i < 0
    · rw [if_pos c] at q; omega
    · obtain ⟨e, e2⟩ := tw (by omega) (by omega)
      have e : G 16 (tWS (tz n) i).toNat = bw (pm_rows G 3) i := e
      unfold mseat sseat
      rw [if_neg c, if_neg c]
      have m1 := mt (fw (pm_rows G 3) i) (fl (pm_rows G 3) i) (fx (pm_rows G 3) i) (fup (fy (pm_rows G 3) i) (G 17 i).toNat (fy (pm_rows G 3) i (G 17 i).toNat + 1)) (tWS (tz n) i / 2) (tWS (tz n) i % 2) (by omega) (by omega)
      rw [m1]
      have e3 : cmatch G (tWS (tz n) i / 2).toNat (tWS (tz n) i % 2) = G 16 (tWS (tz n) i).toNat := by
        rcases (show tWS (tz n) i % 2 = 0 ∨ tWS (tz n) i % 2 = 1 by omega) with c2 | c2
        · rw [c2]
          show G 16 (2 * (tWS (tz n) i / 2).toNat) = _
          rw [show 2 * (tWS (tz n) i / 2).toNat = (tWS (tz n) i).toNat by omega]
        · rw [c2]
          show G 16 (2 * (tWS (tz n) i / 2).toNat + 1) = _
          rw [show 2 * (tWS (tz n) i / 2).toNat + 1 = (tWS (tz n) i).toNat by omega]
      rw [e3, e]
  · unfold mseat at q
    by_cases c : tLS (tz n) x i < 0
    · rw [if_pos c] at q; omega
    · obtain ⟨e, e2⟩ := tl (by omega) (by omega)
      have e : G 16 (tLS (tz n) x i).toNat = bl (pm_rows G 3) i := e
      unfold mseat sseat
      rw [if_neg c, if_neg c]
      have m1 := mt (fw (pm_rows G 3) i) (fl (pm_rows G 3) i) (fx (pm_rows G 3) i) (fup (fy (pm_rows G 3) i) (G 17 i).toNat (fy (pm_rows G 3) i (G 17 i).toNat + 1)) (tLS (tz n) x i / 2) (tLS (tz n) x i % 2) (by omega) (by omega)
      rw [m1]
      have e3 : cmatch G (tLS (tz n) x i / 2).toNat (tLS (tz n) x i % 2) = G 16 (tLS (tz n) x i).toNat := by
        rcases (show tLS (tz n) x i % 2 = 0 ∨ tLS (tz n) x i % 2 = 1 by omega) with c2 | c2
        · rw [c2]
          show G 16 (2 * (tLS (tz n) x i / 2).toNat) = _
          rw [show 2 * (tLS (tz n) x i / 2).toNat = (tLS (tz n) x i).toNat by omega]
        · rw [c2]
          show G 16 (2 * (tLS (tz n) x i / 2).toNat + 1) = _
          rw [show 2 * (tLS (tz n) x i / 2).toNat + 1 = (tLS (tz n) x i).toNat by omega]
      rw [e3, e]
  rw [ft_E (fun q => ?_) (fun j => ⟨by have := fw_rg (pm_rows G 3) i j; omega, by have := fl_rg (pm_rows G 3) i j; omega⟩)]
  rotate_left
  · have re := real (show G 17 i ≠ 0 by omega) (show G 17 i ≠ 1 by omega)
    have re : (0 ≤ G 16 (2 * i) ∧ G 16 (2 * i) < (n : Int)) ∧ (0 ≤ G 16 (2 * i + 1) ∧ G 16 (2 * i + 1) < (n : Int)) := re
    rcases wlx (show G 17 i ≠ 0 by omega) with ⟨-, y1, y2⟩ | ⟨-, y1, y2⟩
    · have y1 : bw (pm_rows G 3) i = G 16 (2 * i) := y1
      have y2 : bl (pm_rows G 3) i = G 16 (2 * i + 1) := y2
      omega
    · have y1 : bw (pm_rows G 3) i = G 16 (2 * i + 1) := y1
      have y2 : bl (pm_rows G 3) i = G 16 (2 * i) := y2
      omega
  rw [ft_F (by omega) (by omega) (by omega)]
  exact pm_dn_mono (pl_s (pl_s (pl_s (pl_s (pl_s (pl_s (pl_s (pl_n (pl_n (pl_n (pl_n (pl_n (pl_n pl_nil))))))))))))) nx
end FIL
