/-! a bracket by a rule that decides no less -/
section EXT
variable {z x n : Nat} {rl rl' : RUL} {B B' : BB}
theorem gS_ext (hc : cfg z x) (hr : rlok rl) (h : gS z x n rl (tF z) B) (h' : gS z x n rl' (tF z) B') (hag : ∀ m, m < tF z → B.2.1 m ≠ 0 → rl' m (B.1 (2 * m)) (B.1 (2 * m + 1)) = rl m (B.1 (2 * m)) (B.1 (2 * m + 1))) : ∀ m, m < tF z → (∀ i : Nat, i = 0 ∨ i = 1 → B.1 (2 * m + i) ≠ -6 → B'.1 (2 * m + i) = B.1 (2 * m + i)) ∧ (B.2.1 m ≠ 0 → B'.2.1 m = B.2.1 m ∧ B'.2.2 m = B.2.2 m) := by
  obtain ⟨f1, f2, f3, f4⟩ := cfg_F hc
  obtain ⟨h1, h2, h3, h4, h5, h6⟩ := h
  obtain ⟨g1, g2, g3, g4, g5, g6⟩ := h'
  intro m
  induction m using Nat.strongRecOn with
  | _ m ih =>
    intro hm
    have S : ∀ i : Nat, i = 0 ∨ i = 1 → B.1 (2 * m + i) ≠ -6 → B'.1 (2 * m + i) = B.1 (2 * m + i) := fun i hi hk => by
      by_cases c : 2 * m + i < z
      · rw [h1 _ c, g1 _ c]
      · by_cases c2 : 2 * m + i < 2 * tF z - 2
        · obtain ⟨k, hk1, hks, hq⟩ := tb_src hc (2 * m + i) c2 (by omega)
          obtain ⟨E, e23⟩ := ih k (by omega) (by omega)
          have a := h2 k hk1
          have b := g2 k hk1
          have nz : B.2.1 k ≠ 0 := fun y => by
            rcases hq with hq | hq
            · have := (a.1 y).1
              rw [hq, Int.toNat_natCast] at this
              exact hk this
            · have := (a.1 y).2 (by omega)
              rw [hq, Int.toNat_natCast] at this
              exact hk this
          obtain ⟨e2, e3⟩ := e23 nz
          have w := won01 hr f3 h4 (show k < tF z by omega) nz
          obtain ⟨s0, s1, -, -⟩ := h4 k (by omega) nz
          have sd : ∀ j : Nat, j = 0 ∨ j = 1 → B'.1 (2 * k + j) = B.1 (2 * k + j) := fun j hj => E j hj (by rcases hj with rfl | rfl; exact s0; exact s1)
          have a := a.2 nz
          have b := b.2 (by rw [e2]; exact nz)
          rw [e3] at b
          rcases hq with hq | hq
          · have a := a.1
            have b := b.1
            rw [hq, Int.toNat_natCast] at a b
            rw [a, b, sd _ (by omega)]
          · have a := a.2 (by omega)
            have b := b.2 (by omega)
            rw [hq, Int.toNat_natCast] at a b
            rw [a, b, sd _ (by omega)]
        · obtain ⟨E, e23⟩ := ih (tF z - 2) (by omega) (by omega)
          have hi2 : 2 * m + i = 2 * tF z - 2 ∨ 2 * m + i = 2 * tF z - 1 := by omega
          by_cases c3 : B.2.1 (tF z - 2) ≠ 0 ∧ B.2.2 (tF z - 2) = 1
          · obtain ⟨e2, e3⟩ := e23 c3.1
            obtain ⟨s0, s1, -, -⟩ := h4 (tF z - 2) (by omega) c3.1
            have a := h3.1 c3
            have b := g3.1 ⟨by rw [e2]; exact c3.1, by rw [e3]; exact c3.2⟩
            have E0 := E 0 (Or.inl rfl) s0
            have E1 := E 1 (Or.inr rfl) s1
            rw [show 2 * (tF z - 2) + 0 = 2 * tF z - 4 by omega] at E0
            rw [show 2 * (tF z - 2) + 1 = 2 * tF z - 3 by omega] at E1
            rcases hi2 with hi2 | hi2
            · rw [hi2, a.1, b.1, E0]
            · rw [hi2, a.2, b.2, E1]
          · have a := h3.2 c3
            rcases hi2 with hi2 | hi2
            · rw [hi2] at hk
              exact absurd a.1 hk
            · rw [hi2] at hk
              exact absurd a.2 hk
    refine ⟨S, fun nz => ?_⟩
    obtain ⟨b0, b1, b2, b3⟩ := h4 m hm nz
    have s0 : B'.1 (2 * m) = B.1 (2 * m) := S 0 (Or.inl rfl) b0
    have s1 : B'.1 (2 * m + 1) = B.1 (2 * m + 1) := S 1 (Or.inr rfl) b1
    have ag := hag m hm nz
    have nz' : B'.2.1 m ≠ 0 := fun y => by
      have := g5 m hm (by rw [s0]; exact b0) (by rw [s1]; exact b1) y
      rw [s0, s1, ag, ← b3] at this
      exact nz this
    obtain ⟨d0, d1, d2, d3⟩ := g4 m hm nz'
    rw [d2, d3, s0, s1, ag, ← b2, ← b3]
    exact ⟨rfl, rfl⟩
end EXT
section RES
variable {z x n : Nat} {R g : Nat → Int} {B B' : BB} {ps ps' : Nat → Nat}
/-- a result entered: its match is decided by it, its sides stay; what was decided stays -/
theorem res_ext {m : Nat} {sd : Int} (hm : m < tF z) (hs : sd = 0 ∨ sd = 1) (h : fin z x n (rlive R g) B ps) (h' : fin z x n (rlive (fup R m sd) g) B' ps') (hp : bplay n B m = true) : (B'.1 (2 * m) = B.1 (2 * m) ∧ B'.1 (2 * m + 1) = B.1 (2 * m + 1)) ∧ (B'.2.1 m = 3 ∧ B'.2.2 m = sd) ∧ ∀ k, k < tF z → B.2.1 k ≠ 0 → B'.2.1 k = B.2.1 k ∧ B'.2.2 k = B.2.2 k := by
  obtain ⟨f1, f2, f3, f4⟩ := cfg_F h.1
  have n16 : n ≤ 16 := by have := h.2.2.1; omega
  obtain ⟨p0, p1, p2⟩ := bplay_iff.mp hp
  have ex := gS_ext h.1 h.2.1 h.2.2.2.1 h'.2.2.2.1 (fun k hk nz => by
    have e : fup R m sd k = R k := fup_ne (fun y => nz (by rw [y]; exact p0))
    unfold rlive
    rw [e])
  obtain ⟨E, -⟩ := ex m hm
  have s0 : B'.1 (2 * m) = B.1 (2 * m) := E 0 (Or.inl rfl) (by show B.1 (2 * m) ≠ -6; omega)
  have s1 : B'.1 (2 * m + 1) = B.1 (2 * m + 1) := E 1 (Or.inr rfl) (by omega)
  have rr : rlive (fup R m sd) g m (B'.1 (2 * m)) (B'.1 (2 * m + 1)) = (sd, 3) := by
    unfold rlive
    rw [if_neg (by rw [s0, s1]; omega), fup_eq, if_pos (by omega)]
  have nz' : B'.2.1 m ≠ 0 := fun y => by
    have := h'.2.2.2.1.2.2.2.2.1 m hm (by rw [s0]; omega) (by rw [s1]; omega) y
    rw [rr] at this
    exact absurd (show (3 : Int) = 0 from this) (by decide)
  obtain ⟨-, -, d2, d3⟩ := h'.2.2.2.1.2.2.2.1 m hm nz'
  rw [rr] at d2 d3
  exact ⟨⟨s0, s1⟩, ⟨d3, d2⟩, fun k hk => (ex k hk).2⟩
end RES
/-- a trial of a tournament that is over tells its champion -/
theorem bch_ext {z x n : Nat} {rl rl' : RUL} {B B' : BB} (hc : cfg z x) (hr : rlok rl) (h : gS z x n rl (tF z) B) (h' : gS z x n rl' (tF z) B') (hag : ∀ m, m < tF z → B.2.1 m ≠ 0 → rl' m (B.1 (2 * m)) (B.1 (2 * m + 1)) = rl m (B.1 (2 * m)) (B.1 (2 * m + 1))) (q : bch (tF z) B ≠ -6) : bch (tF z) B' = bch (tF z) B := by
  obtain ⟨f1, f2, f3, f4⟩ := cfg_F hc
  have ex := gS_ext hc hr h h' hag
  have bwE : ∀ m, m < tF z → B.2.1 m ≠ 0 → bw B' m = bw B m := fun m hm nz => by
    obtain ⟨E, e⟩ := ex m hm
    obtain ⟨e2, e3⟩ := e nz
    obtain ⟨s0, s1, -, -⟩ := h.2.2.2.1 m hm nz
    have w := won01 hr f3 h.2.2.2.1 hm nz
    unfold bw
    rw [e2, e3, if_neg nz, if_neg nz]
    rcases w with w | w
    · rw [w]; exact E 0 (Or.inl rfl) s0
    · rw [w]; exact E 1 (Or.inr rfl) s1
  have w6 : ∀ (B : BB) m, B.2.1 m = 0 → bw B m = -6 := fun B m y => by unfold bw; rw [if_pos y]
  have wn : ∀ m, m < tF z → B.2.1 m ≠ 0 → bw B m ≠ -6 := fun m hm nz => by
    obtain ⟨s0, s1, -, -⟩ := h.2.2.2.1 m hm nz
    have w := won01 hr f3 h.2.2.2.1 hm nz
    unfold bw
    rw [if_neg nz]
    rcases w with w | w
    · rw [w]; exact s0
    · rw [w]; exact s1
  unfold bch at q ⊢
  by_cases c : B.2.1 (tF z - 1) = 0
  · rw [w6 B _ c, if_pos rfl] at q
    rw [w6 B _ c, if_pos rfl]
    by_cases d : B.2.2 (tF z - 2) = 0
    · rw [if_pos d] at q ⊢
      have nz : B.2.1 (tF z - 2) ≠ 0 := fun y => q (w6 B _ y)
      obtain ⟨E, e⟩ := ex (tF z - 2) (by omega)
      obtain ⟨e2, e3⟩ := e nz
      -- the second final has no sides there either
      have c' : B'.2.1 (tF z - 1) = 0 := Decidable.byContradiction (fun y => by
        obtain ⟨s0, s1, -, -⟩ := h'.2.2.2.1 (tF z - 1) (by omega) y
        have a := h'.2.2.1.2 (fun w => by rw [e3, d] at w; exact absurd w.2 (by decide))
        exact s0 (by rw [show 2 * (tF z - 1) = 2 * tF z - 2 by omega]; exact a.1))
      rw [w6 B' _ c', if_pos rfl, e3, if_pos d]
      exact bwE _ (by omega) nz
    · rw [if_neg d] at q
      exact absurd rfl q
  · rw [bwE _ (by omega) c, if_neg (wn _ (by omega) c), if_neg (wn _ (by omega) c)]
theorem rlive_ext {R R' g g' : Nat → Int} {m : Nat} {a b : Int} (hR : R m = R' m) (hg : ∀ p, p < 16 → g p = g' p) : rlive R g m a b = rlive R' g' m a b := by
  have ga := gon_ext (p := a) hg
  have gb := gon_ext (p := b) hg
  unfold rlive
  rw [hR]
  by_cases c : a = 16 ∨ b = 16
  · rw [if_pos c, if_pos c]
  · rw [if_neg c, if_neg c]
    by_cases c2 : R' m ≠ -6
    · rw [if_pos c2, if_pos c2]
    · rw [if_neg c2, if_neg c2]
      by_cases c3 : gon g a ∨ gon g b
      · rw [if_pos c3, if_pos (c3.elim (fun y => Or.inl (ga.mp y)) (fun y => Or.inr (gb.mp y)))]
        by_cases c4 : gon g b
        · rw [if_pos c4, if_pos (gb.mp c4)]
        · rw [if_neg c4, if_neg (fun y => c4 (gb.mpr y))]
      · rw [if_neg c3, if_neg (fun y => c3 (y.elim (fun y => Or.inl (ga.mpr y)) (fun y => Or.inr (gb.mpr y))))]
section FOC
variable {G : PW} {n x L : Nat}
/-- the forecast of a tournament that is over, and what it leaves -/
theorem c_forecast' (h : CI G n x L) (q : bch (tF (tz n)) (pm_rows G 3) ≠ -6) : ∃ G', pm_ca pm_sC 61 [.inr (.inr 0)] G = some (some (.inl (bch (tF (tz n)) (pm_rows G 3))), G') ∧ CI G' n x L ∧ ∀ r, r < 30 ∨ 34 < r → G' r = G r := by
  obtain ⟨to, hR, p20, B0, b1, b2⟩ := CI_tri h
  obtain ⟨ps, hf⟩ := CI_fin h
  have cf := c_forecast to
  have c1 := h.1
  obtain ⟨hc, h1, h2, h3, h4, h5⟩ := tz_facts h.1 h.2.1
  have hR0 := CI_R h
  -- the trial's course
  obtain ⟨ps0, hf0⟩ := fin_run hc (rl_ok (R := taken G 30) (g := taken G 31) hR) ⟨c1.1, h1⟩ b1
  have gS := hf0.2.2.2.1
  have hD := hf0.2.2.2.2.2.2.2.1
  rw [← b2] at gS hD
  have te : tend G (tF (tz n)) n (-6) = trun (tWS (tz n)) (tLS (tz n) x) (tF (tz n)) (taken G 31) n (G 1) (-6) (pm_rows (trial0 G) 19, taken G 30, 0) (tF (tz n)) := by
    unfold tend
    have e30 : trial0 G 30 = taken G 30 := trial0_30
    have e31 : trial0 G 31 = taken G 31 := by
      unfold trial0
      exact setl_ne_T (by decide) (by decide) (by decide)
    rw [e30, e31, trial0_ne (r := 1) (by decide)]
    exact trun_ext (N := tF (tz n)) (fun m hm => ⟨(p20.2.1 m hm).2.2.2.1, (p20.2.1 m hm).2.2.2.2⟩) (fun _ _ => rfl) _ (Nat.le_refl _)
  have tg := (trun_grun (R := taken G 30) (g := taken G 31) (rat := G 1) (hero := -6) (s := (pm_rows (trial0 G) 19, taken G 30, 0)) hc c1.2 hR hD (fun _ => rfl) (tF (tz n)) (Nat.le_refl _)).1
  have gs' := gS_run hc (rt_ok (rat := G 1) (hero := -6) hR) (gS_tri (rat := G 1) (hero := -6) gS) (tF (tz n)) (Nat.le_refl _)
  have e : bch (tF (tz n)) (tend G (tF (tz n)) n (-6)).1 = bch (tF (tz n)) (pm_rows G 3) := by
    rw [te, tg]
    refine bch_ext hc (rl_ok hR0) hf.2.2.2.1 gs' (fun m hm nz => ?_) q
    obtain ⟨s0, s1, d2, d3⟩ := hf.2.2.2.1.2.2.2.1 m hm nz
    have er : rlive (taken G 30) (taken G 31) m ((pm_rows G 3).1 (2 * m)) ((pm_rows G 3).1 (2 * m + 1)) = rlive (G 14) (G 15) m ((pm_rows G 3).1 (2 * m)) ((pm_rows G 3).1 (2 * m + 1)) := by
      exact rlive_ext (taken_30 (show m < 31 by omega)) (fun p hp => taken_31 hp)
    show (if (rlive (taken G 30) (taken G 31) m _ _).2 ≠ 0 then rlive (taken G 30) (taken G 31) m _ _ else _) = _
    rw [er, if_pos (by rw [← d3]; exact nz)]
  rw [e] at cf
  have fr : ∀ r, r < 30 ∨ 34 < r → tmem (trial0 G) (tend G (tF (tz n)) n (-6)).1 (tend G (tF (tz n)) n (-6)).2.1 r = G r := fun r hr => by
    rw [tmem_ne (by omega) (by omega) (by omega) (by omega), trial0_ne hr]
  exact ⟨_, cf, CI_same h (fun r hr => fr r (by omega)), fr⟩
end FOC
