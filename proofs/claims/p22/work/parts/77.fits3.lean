/-! fits(): its first loop, whole -/
section FIL
variable {G : PW} {n x L : Nat} {ps : Nat → Nat}
/-- a match, as fits() reads it -/
theorem CI_FT (h : CI G n x L) (hf : fin (tz n) x n (rlive (G 14) (G 15)) (pm_rows G 3) ps) {m : Nat} (hm : m < tF (tz n)) : FT (G 16 (2 * m)) (G 16 (2 * m + 1)) (G 17 m) (bw (pm_rows G 3) m) (bl (pm_rows G 3) m) := by
  have n16 := h.1.2
  have r : G 17 m = 0 ∨ G 17 m = 1 ∨ G 17 m = 2 ∨ G 17 m = 3 := t_rng hf hm
  have d0 : G 16 (2 * m) = -6 ∨ G 16 (2 * m) = 16 ∨ (0 ≤ G 16 (2 * m) ∧ G 16 (2 * m) < (n : Int)) := t_jD hf (show 2 * m < 2 * tF (tz n) by omega)
  have d1 : G 16 (2 * m + 1) = -6 ∨ G 16 (2 * m + 1) = 16 ∨ (0 ≤ G 16 (2 * m + 1) ∧ G 16 (2 * m + 1) < (n : Int)) := t_jD hf (show 2 * m + 1 < 2 * tF (tz n) by omega)
  have by' : G 16 (2 * m) ≠ -6 → G 16 (2 * m + 1) ≠ -6 → ((G 16 (2 * m) = 16 ∨ G 16 (2 * m + 1) = 16) ↔ G 17 m = 1) := fun k0 k1 => t_bye hf hm k0 k1
  by_cases c : G 17 m = 0
  · obtain ⟨e1, e2⟩ := t_no (B := pm_rows G 3) (m := m) c
    refine Or.inl ⟨c, e1, e2, ?_⟩
    by_cases a0 : G 16 (2 * m) = -6
    · exact Or.inl a0
    · by_cases b0 : G 16 (2 * m + 1) = -6
      · exact Or.inr (Or.inl ⟨by omega, b0⟩)
      · have nb := by' a0 b0
        exact Or.inr (Or.inr ⟨by omega, by omega, fun y => by have := nb.mp (Or.inl y); omega, fun y => by have := nb.mp (Or.inr y); omega⟩)
  · have sd : G 16 (2 * m) ≠ -6 ∧ G 16 (2 * m + 1) ≠ -6 := t_sides hf hm c
    have nb := by' sd.1 sd.2
    have wl : (G 18 m = 0 ∧ bw (pm_rows G 3) m = G 16 (2 * m) ∧ bl (pm_rows G 3) m = G 16 (2 * m + 1)) ∨ (G 18 m = 1 ∧ bw (pm_rows G 3) m = G 16 (2 * m + 1) ∧ bl (pm_rows G 3) m = G 16 (2 * m)) := t_wl hf hm c
    have wl' : (bw (pm_rows G 3) m = G 16 (2 * m) ∧ bl (pm_rows G 3) m = G 16 (2 * m + 1)) ∨ (bw (pm_rows G 3) m = G 16 (2 * m + 1) ∧ bl (pm_rows G 3) m = G 16 (2 * m)) := wl.elim (fun y => Or.inl y.2) (fun y => Or.inr y.2)
    right
    by_cases c1 : G 17 m = 1
    · exact Or.inl ⟨c1, by omega, by omega, nb.mpr c1, wl'⟩
    · exact Or.inr ⟨by omega, by omega, by omega, fun y => c1 (nb.mp (Or.inl y)), fun y => c1 (nb.mp (Or.inr y)), wl'⟩
theorem gon_player {F p : Nat} (hp : p < n) : (if 0 ≤ (p : Int) ∧ (p : Int) < (n : Int) then cplayer G F (p : Int) 3 else -1) = if G 15 p = 1 then 1 else 0 := by
  rw [if_pos ⟨by omega, by omega⟩]
  rfl
theorem CI_d (h : CI G n x L) (hf : fin (tz n) x n (rlive (G 14) (G 15)) (pm_rows G 3) ps) {s : Nat} (hs : s < 2 * tF (tz n)) : G 16 s = -6 ∨ (0 ≤ G 16 s ∧ G 16 s < 17) := by
  have n16 := h.1.2
  have d0 : G 16 s = -6 ∨ G 16 s = 16 ∨ (0 ≤ G 16 s ∧ G 16 s < (n : Int)) := t_jD hf hs
  omega
theorem CI_mt (h : CI G n x L) (a b c d : Nat → Int) {m w : Int} (q1 : 0 ≤ m) (q2 : m < (tF (tz n) : Int)) : pm_ca pm_sF 57 [.inr (.inr 0), .inl m, .inl w] (fmem G a b c d) = some (some (.inl (cmatch G m.toNat w)), fmem G a b c d) := by
  have := fm_match (a := a) (b := b) (c := c) (d := d) (m := m) (w := w) (CI_ok h)
  rw [if_pos ⟨q1, q2⟩] at this
  exact this
theorem CI_mi (h : CI G n x L) (a b c d : Nat → Int) {i : Nat} {w v : Int} (hi : i < tF (tz n)) (e : cmatch G i w = v) : pm_ca pm_sF 57 [.inr (.inr 0), .inl (i : Int), .inl w] (fmem G a b c d) = some (some (.inl v), fmem G a b c d) := by
  have := CI_mt h a b c d (m := (i : Int)) (w := w) (by omega) (by omega)
  rw [Int.toNat_natCast, e] at this
  exact this
theorem CI_p3 (h : CI G n x L) (a b c d : Nat → Int) {p : Int} (q1 : 0 ≤ p) (q2 : p < (n : Int)) : pm_ca pm_sF 58 [.inr (.inr 0), .inl p, .inl 3] (fmem G a b c d) = some (some (.inl (if G 15 p.toNat = 1 then 1 else 0)), fmem G a b c d) := by
  have := fm_player (a := a) (b := b) (c := c) (d := d) (m := p) (w := 3) (CI_ok h)
  obtain ⟨k, rfl⟩ : ∃ k : Nat, p = (k : Int) := ⟨p.toNat, by omega⟩
  rw [gon_player (by omega)] at this
  rw [Int.toNat_natCast]
  exact this
theorem CI_c2 (h : CI G n x L) (a b c d : Nat → Int) : pm_ca pm_sF 60 [.inr (.inr 0), .inl 2] (fmem G a b c d) = some (some (.inl (tF (tz n) : Int)), fmem G a b c d) := by
  have := fm_count (a := a) (b := b) (c := c) (d := d) (w := 2) (CI_ok h)
  rw [show ccount G (tF (tz n)) n 2 = G 4 4 from rfl, (CI_ok h).2.2.1] at this
  exact this
theorem fs_A (h : CI G n x L) (hf : fin (tz n) x n (rlive (G 14) (G 15)) (pm_rows G 3) ps) {i : Nat} (hi : i < tF (tz n)) (a b c : Nat → Int) : pm_dn pm_sF 86 24 [some (.inr (.inr 0)), some (.inl (n : Int)), some (.inr (.inr 47)), some (.inr (.inr 48)), some (.inr (.inr 49)), some (.inr (.inr 50)), some (.inl (i : Int)), none, none, none, none, none, none] [] (fmem G a b c (fy (pm_rows G 3) i)) = pm_dn pm_sF 86 88 [some (.inr (.inr 0)), some (.inl (n : Int)), some (.inr (.inr 47)), some (.inr (.inr 48)), some (.inr (.inr 49)), some (.inr (.inr 50)), some (.inl (i : Int)), some (.inl (G 16 (2 * i))), some (.inl (G 16 (2 * i + 1))), some (.inl (G 17 i)), some (.inl (bw (pm_rows G 3) i)), some (.inl (bl (pm_rows G 3) i)), none] [] (fmem G a b c (fy (pm_rows G 3) (i + 1))) := by
  obtain ⟨hc, g1, g2, g3, g4, g5⟩ := tz_facts h.1 h.2.1
  have rg : G 17 i = 0 ∨ G 17 i = 1 ∨ G 17 i = 2 ∨ G 17 i = 3 := t_rng hf hi
  have r1 : 0 ≤ G 17 i ∧ G 17 i < 4 := by omega
  have r2 := fy_rg (pm_rows G 3) i (G 17 i).toNat
  exact ft_A (F := (tF (tz n) : Int)) (h := G 17 i) rfl (by omega) (by omega) r1 ⟨r2.1, by omega⟩ (CI_c2 h _ _ _ _) (CI_mi h _ _ _ _ hi rfl) (CI_mi h _ _ _ _ hi rfl) (CI_mi h _ _ _ _ hi rfl) (CI_mi h _ _ _ _ hi rfl) (CI_mi h _ _ _ _ hi rfl)
theorem fs_C (h : CI G n x L) (hf : fin (tz n) x n (rlive (G 14) (G 15)) (pm_rows G 3) ps) {i : Nat} (hi : i < tF (tz n)) (a b c d : Nat → Int) : pm_dn pm_sF 86 88 [some (.inr (.inr 0)), some (.inl (n : Int)), some (.inr (.inr 47)), some (.inr (.inr 48)), some (.inr (.inr 49)), some (.inr (.inr 50)), some (.inl (i : Int)), some (.inl (G 16 (2 * i))), some (.inl (G 16 (2 * i + 1))), some (.inl (G 17 i)), some (.inl (bw (pm_rows G 3) i)), some (.inl (bl (pm_rows G 3) i)), none] [] (fmem G a b c d) = pm_dn pm_sF 86 284 [some (.inr (.inr 0)), some (.inl (n : Int)), some (.inr (.inr 47)), some (.inr (.inr 48)), some (.inr (.inr 49)), some (.inr (.inr 50)), some (.inl (i : Int)), some (.inl (G 16 (2 * i))), some (.inl (G 16 (2 * i + 1))), some (.inl (G 17 i)), some (.inl (bw (pm_rows G 3) i)), some (.inl (bl (pm_rows G 3) i)), some (.inl (kn (G 16 (2 * i)) (G 16 (2 * i + 1))))] [] (fmem G a b c d) := by
  have n16 := h.1.2
  have FTi := CI_FT h hf hi
  rw [ft_B FTi]
  refine ft_C FTi (fun q a0 b0 => ?_) (fun q => ?_)
  · have nb : (G 16 (2 * i) = 16 ∨ G 16 (2 * i + 1) = 16) ↔ G 17 i = 1 := t_bye hf hi (show G 16 (2 * i) ≠ -6 by omega) (show G 16 (2 * i + 1) ≠ -6 by omega)
    have d0 : G 16 (2 * i) = -6 ∨ G 16 (2 * i) = 16 ∨ (0 ≤ G 16 (2 * i) ∧ G 16 (2 * i) < (n : Int)) := t_jD hf (show 2 * i < 2 * tF (tz n) by omega)
    have d1 : G 16 (2 * i + 1) = -6 ∨ G 16 (2 * i + 1) = 16 ∨ (0 ≤ G 16 (2 * i + 1) ∧ G 16 (2 * i + 1) < (n : Int)) := t_jD hf (show 2 * i + 1 < 2 * tF (tz n) by omega)
    have n0 : ¬ G 16 (2 * i) = 16 := fun y => by have := nb.mp (Or.inl y); omega
    have n1 : ¬ G 16 (2 * i + 1) = 16 := fun y => by have := nb.mp (Or.inr y); omega
    obtain ⟨u0, u1⟩ := t_free hf hi (show G 16 (2 * i) ≠ -6 by omega) (show G 16 (2 * i + 1) ≠ -6 by omega) q
    have u0 : ¬ gon (G 15) (G 16 (2 * i)) := u0
    have u1 : ¬ gon (G 15) (G 16 (2 * i + 1)) := u1
    have v0 := CI_p3 h a b c d (p := G 16 (2 * i)) a0 (by omega)
    have v1 := CI_p3 h a b c d (p := G 16 (2 * i + 1)) b0 (by omega)
    rw [if_neg (fun y => u0 ⟨a0, by omega, y⟩)] at v0
    rw [if_neg (fun y => u1 ⟨b0, by omega, y⟩)] at v1
    exact ⟨v0, v1⟩
  · have gl : gon (G 15) (bl (pm_rows G 3) i) := t_walk hf hi q
    have c0 : (pm_rows G 3).2.1 i ≠ 0 := by show G 17 i ≠ 0; omega
    have c1 : (pm_rows G 3).2.1 i ≠ 1 := by show G 17 i ≠ 1; omega
    have re := t_real hf hi c0 c1
    have bn : bl (pm_rows G 3) i < (n : Int) := by
      rcases t_wl hf hi c0 with ⟨-, -, y⟩ | ⟨-, -, y⟩
      · rw [y]; exact re.2.2
      · rw [y]; exact re.1.2
    have v0 := CI_p3 h a b c d (p := bl (pm_rows G 3) i) gl.1 bn
    rw [if_pos gl.2.2] at v0
    exact v0
theorem cm_seat {t : Int} (h0 : 0 ≤ t) : cmatch G (t / 2).toNat (t % 2) = G 16 t.toNat := by
  rcases (show t % 2 = 0 ∨ t % 2 = 1 by omega) with c2 | c2
  · rw [c2]
    show G 16 (2 * (t / 2).toNat) = _
    rw [show 2 * (t / 2).toNat = t.toNat by omega]
  · rw [c2]
    show G 16 (2 * (t / 2).toNat + 1) = _
    rw [show 2 * (t / 2).toNat + 1 = t.toNat by omega]
theorem CI_go (h : CI G n x L) (a b c d : Nat → Int) {t v : Int} (q : 0 ≤ mseat t) (ht : t < 2 * (tF (tz n) : Int)) (e : 0 ≤ t → G 16 t.toNat = v) : pm_ca pm_sF 57 [.inr (.inr 0), .inl (mseat t), .inl (sseat t)] (fmem G a b c d) = some (some (.inl v), fmem G a b c d) := by
  unfold mseat at q
  by_cases c0 : t < 0
  · rw [if_pos c0] at q; omega
  · unfold mseat sseat
    rw [if_neg c0, if_neg c0]
    have m1 := CI_mt h a b c d (m := t / 2) (w := t % 2) (by omega) (by omega)
    rw [cm_seat (by omega), e (by omega)] at m1
    exact m1
theorem fs_D (h : CI G n x L) (hf : fin (tz n) x n (rlive (G 14) (G 15)) (pm_rows G 3) ps) {i : Nat} (hi : i < tF (tz n)) (a b c d : Nat → Int) (k : Int) : pm_dn pm_sF 86 284 [some (.inr (.inr 0)), some (.inl (n : Int)), some (.inr (.inr 47)), some (.inr (.inr 48)), some (.inr (.inr 49)), some (.inr (.inr 50)), some (.inl (i : Int)), some (.inl (G 16 (2 * i))), some (.inl (G 16 (2 * i + 1))), some (.inl (G 17 i)), some (.inl (bw (pm_rows G 3) i)), some (.inl (bl (pm_rows G 3) i)), some (.inl k)] [] (fmem G a b c d) = pm_dn pm_sF 86 368 [some (.inr (.inr 0)), some (.inl (n : Int)), some (.inr (.inr 47)), some (.inr (.inr 48)), some (.inr (.inr 49)), some (.inr (.inr 50)), some (.inl (i : Int)), some (.inl (G 16 (2 * i))), some (.inl (G 16 (2 * i + 1))), some (.inl (G 17 i)), some (.inl (bw (pm_rows G 3) i)), some (.inl (bl (pm_rows G 3) i)), some (.inl k)] [] (fmem G a b c d) := by
  have rg : G 17 i = 0 ∨ G 17 i = 1 ∨ G 17 i = 2 ∨ G 17 i = 3 := t_rng hf hi
  have r1 : G 17 i = 0 ∨ 0 < G 17 i := by omega
  obtain ⟨pt1, pt2, pt3⟩ := CI_part h hi
  refine ft_D r1 (CI_mi h _ _ _ _ (v := mseat (tWS (tz n) i)) hi (by rw [← pt2]; rfl)) (CI_mi h _ _ _ _ (v := sseat (tWS (tz n) i)) hi (by rw [← pt2]; rfl)) (CI_mi h _ _ _ _ (v := mseat (tLS (tz n) x i)) hi (by rw [← pt3]; rfl)) (CI_mi h _ _ _ _ (v := sseat (tLS (tz n) x i)) hi (by rw [← pt3]; rfl)) (fun q0 q => ?_) (fun q0 q => ?_)
  · have c0 : (pm_rows G 3).2.1 i ≠ 0 := by show G 17 i ≠ 0; omega
    by_cases c1 : 0 ≤ tWS (tz n) i
    · exact CI_go h a b c d q (t_wseat hf hi c0 c1).2 (fun y => (t_wseat hf hi c0 y).1)
    · unfold mseat at q
      rw [if_pos (by omega)] at q
      omega
  · have c0 : (pm_rows G 3).2.1 i ≠ 0 := by show G 17 i ≠ 0; omega
    by_cases c1 : 0 ≤ tLS (tz n) x i
    · exact CI_go h a b c d q (t_lseat hf hi c0 c1).2 (fun y => (t_lseat hf hi c0 y).1)
    · unfold mseat at q
      rw [if_pos (by omega)] at q
      omega
theorem fs_E (h : CI G n x L) (hf : fin (tz n) x n (rlive (G 14) (G 15)) (pm_rows G 3) ps) {i : Nat} (hi : i < tF (tz n)) (d : Nat → Int) (k : Int) : pm_dn pm_sF 86 368 [some (.inr (.inr 0)), some (.inl (n : Int)), some (.inr (.inr 47)), some (.inr (.inr 48)), some (.inr (.inr 49)), some (.inr (.inr 50)), some (.inl (i : Int)), some (.inl (G 16 (2 * i))), some (.inl (G 16 (2 * i + 1))), some (.inl (G 17 i)), some (.inl (bw (pm_rows G 3) i)), some (.inl (bl (pm_rows G 3) i)), some (.inl k)] [] (fmem G (fw (pm_rows G 3) i) (fl (pm_rows G 3) i) (fx (pm_rows G 3) i) d) = pm_dn pm_sF 86 24 [some (.inr (.inr 0)), some (.inl (n : Int)), some (.inr (.inr 47)), some (.inr (.inr 48)), some (.inr (.inr 49)), some (.inr (.inr 50)), some (.inl ((i + 1 : Nat) : Int)), some (.inl (G 16 (2 * i))), some (.inl (G 16 (2 * i + 1))), some (.inl (G 17 i)), some (.inl (bw (pm_rows G 3) i)), some (.inl (bl (pm_rows G 3) i)), some (.inl k)] [] (fmem G (fw (pm_rows G 3) (i + 1)) (fl (pm_rows G 3) (i + 1)) (fx (pm_rows G 3) (i + 1)) d) := by
  obtain ⟨hc, g1, g2, g3, g4, g5⟩ := tz_facts h.1 h.2.1
  have n16 := h.1.2
  have E := ft_E (G := G) (r1 := fw (pm_rows G 3) i) (r2 := fl (pm_rows G 3) i) (r3 := fx (pm_rows G 3) i) (r4 := d) (n := (n : Int)) (a := G 16 (2 * i)) (b := G 16 (2 * i + 1)) (h := G 17 i) (w := bw (pm_rows G 3) i) (l := bl (pm_rows G 3) i) (i := i) (k := k) (fun q => by
    have c0 : (pm_rows G 3).2.1 i ≠ 0 := by show G 17 i ≠ 0; omega
    have c1 : (pm_rows G 3).2.1 i ≠ 1 := by show G 17 i ≠ 1; omega
    have re := t_real hf hi c0 c1
    rcases t_wl hf hi c0 with ⟨-, y1, y2⟩ | ⟨-, y1, y2⟩
    · rw [y1, y2]; omega
    · rw [y1, y2]; omega) (fun j => by
    have u1 := fw_rg (pm_rows G 3) i j
    have u2 := fl_rg (pm_rows G 3) i j
    omega)
  rw [E]
  exact ft_F (by omega) (CI_d h hf (by omega)) (CI_d h hf (by omega))
theorem fits_step (h : CI G n x L) (hf : fin (tz n) x n (rlive (G 14) (G 15)) (pm_rows G 3) ps) {i : Nat} (hi : i < tF (tz n)) {r : PR} (nx : pm_dn pm_sF 86 24 [some (.inr (.inr 0)), some (.inl (n : Int)), some (.inr (.inr 47)), some (.inr (.inr 48)), some (.inr (.inr 49)), some (.inr (.inr 50)), some (.inl ((i + 1 : Nat) : Int)), none, none, none, none, none, none] [] (fmem G (fw (pm_rows G 3) (i + 1)) (fl (pm_rows G 3) (i + 1)) (fx (pm_rows G 3) (i + 1)) (fy (pm_rows G 3) (i + 1))) = some r) : pm_dn pm_sF 86 24 [some (.inr (.inr 0)), some (.inl (n : Int)), some (.inr (.inr 47)), some (.inr (.inr 48)), some (.inr (.inr 49)), some (.inr (.inr 50)), some (.inl (i : Int)), none, none, none, none, none, none] [] (fmem G (fw (pm_rows G 3) i) (fl (pm_rows G 3) i) (fx (pm_rows G 3) i) (fy (pm_rows G 3) i)) = some r := by
  rw [fs_A h hf hi, fs_C h hf hi, fs_D h hf hi, fs_E h hf hi]
  exact pm_dn_mono (pl_s (pl_s (pl_s (pl_s (pl_s (pl_s (pl_s (pl_n (pl_n (pl_n (pl_n (pl_n (pl_n pl_nil))))))))))))) nx
end FIL
