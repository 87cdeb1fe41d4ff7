/-! the law's run, whole -/
section LW
variable {xs : Nat → Int32} {Ls : Nat} {G : PW} {n x L : Nat} {f : Nat} {a0 a1 a2 a3 : Option PV} {acts res lst mst aw k : Int}
theorem lc (h : CI G n x L) : ∀ w, lwX xs Ls 60 [.inr (.inr 0), .inl w] G = some ((some (.inl (ccount G (tF (tz n)) n w)), G), 0) := fun w => lx_of (by decide) (by decide) (by decide) (by decide) (c_count (CI_ok h))
theorem lc_rg (h : CI G n x L) : (0 ≤ ccount G (tF (tz n)) n 4 ∧ ccount G (tF (tz n)) n 4 ≤ 31) ∧ (0 ≤ ccount G (tF (tz n)) n 5 ∧ ccount G (tF (tz n)) n 5 ≤ 31) ∧ (0 ≤ ccount G (tF (tz n)) n 6 ∧ ccount G (tF (tz n)) n 6 ≤ 31) ∧ (0 ≤ ccount G (tF (tz n)) n 7 ∧ ccount G (tF (tz n)) n 7 ≤ 31) := by
  obtain ⟨hc, g1, g2, g3, g4, g5⟩ := tz_facts h.1 h.2.1
  have e : ∀ p, 0 ≤ cnt p (tF (tz n)) ∧ cnt p (tF (tz n)) ≤ 31 := fun p => by
    have := cnt_rg p (tF (tz n))
    omega
  exact ⟨e (fun m => decide (G 17 m = 3)), e (fun m => decide (G 17 m = 2)), e (fun m => decide (G 17 m = 1)), e (bplay (G 4 0) (pm_rows G 3))⟩
theorem lc_10 (h : CI G n x L) : -1000 ≤ ccount G (tF (tz n)) n 10 ∧ ccount G (tF (tz n)) n 10 ≤ 1000 := by
  obtain ⟨hc, g1, g2, g3, g4, g5⟩ := tz_facts h.1 h.2.1
  have n16 := h.1
  have s := sm_rg (f := blif (G 15) (pm_rows G 3) (tF (tz n))) (a := -29) (b := 2) (by decide) (by decide) n (fun p hp => by
    have b := cnt_rg (fun m => decide ((pm_rows G 3).2.1 m ≠ 1 ∧ bl (pm_rows G 3) m = (p : Int))) (tF (tz n))
    have b : 0 ≤ blos (pm_rows G 3) (tF (tz n)) p ∧ blos (pm_rows G 3) (tF (tz n)) p ≤ ((tF (tz n) : Nat) : Int) := b
    unfold blif
    cases briv (G 15) (pm_rows G 3) (tF (tz n)) p with
    | true => show -29 ≤ 2 - blos (pm_rows G 3) (tF (tz n)) p ∧ 2 - blos (pm_rows G 3) (tF (tz n)) p ≤ 2; omega
    | false => show -29 ≤ (0 : Int) ∧ (0 : Int) ≤ 2; exact ⟨by decide, by decide⟩)
  show -1000 ≤ cres G (tF (tz n)) n 0 ∧ cres G (tF (tz n)) n 0 ≤ 1000
  unfold cres
  split
  · omega
  · split <;> omega
/-- all is undone -/
theorem lw_undo (hl : lst = 2 * (n : Int) - 2) : ∀ (j : Nat) (G : PW), CI G n x j → ∃ G', pl_dn (lwX xs Ls) 88 514 [some (.inr (.inr 60)), some (.inr (.inr 0)), some (.inl n), some (.inl x), some (.inl (acts)), some (.inl (res)), some (.inl (lst)), some (.inl (mst)), some (.inl (aw)), some (.inl ((j : Int))), a0, a1, a2, a3] [] G f = some ((some (.inl 1), G'), f + 1) := by
  intro j
  induction j with
  | zero =>
    intro G h
    have u := c_undo (CI_L h) (CI_47 h) (fun j hj => (h.2.2.1 j hj).1) (CI_ok h).1
    rw [if_pos rfl] at u
    obtain ⟨-, -, r17⟩ := CI_0 h
    refine ⟨G, lr_true (c := ccount G (tF (tz n)) n) (lx_of (by decide) (by decide) (by decide) (by decide) u) (lc h) (lx_fits h) ?_ ?_ (by rw [hl]; exact (cres_0 h).1)⟩
    · exact cnt_zero _ (fun m hm => decide_eq_false (by have := r17 m hm; omega))
    · exact cnt_zero _ (fun m hm => decide_eq_false (by have := r17 m hm; omega))
  | succ j ih =>
    intro G h
    have u := c_undo (CI_L h) (CI_47 h) (fun j hj => (h.2.2.1 j hj).1) (CI_ok h).1
    rw [if_neg (by omega)] at u
    have j47 := CI_47 h
    rw [lr_undo (k := ((j + 1 : Nat) : Int)) (by omega) (lx_of (by decide) (by decide) (by decide) (by decide) u), show ((j + 1 : Nat) : Int) + -1 = (j : Int) by omega]
    exact ih _ (CI_undo h)
theorem champ_0 (h : CI G n x L) (q : cchamp G (tF (tz n)) ≠ -6) : 0 ≤ cchamp G (tF (tz n)) := by
  obtain ⟨ps, hf⟩ := CI_fin h
  obtain ⟨a, -, -, -, -, e, -⟩ := over_fin h hf q
  omega
/-- it is over -/
theorem lw_over (h : CI G n x L) (q : cchamp G (tF (tz n)) ≠ -6) (ha : ¬ aw = 0 ∨ (aw = 0 ∧ NG G n ∧ res = (L : Int))) (hl : lst = 2 * (n : Int) - 2) (hm : mst = 2 * (n : Int) - 1) : ∃ G', pl_dn (lwX xs Ls) 88 87 [some (.inr (.inr 60)), some (.inr (.inr 0)), some (.inl n), some (.inl x), some (.inl ((L : Int))), some (.inl (res)), some (.inl (lst)), some (.inl (mst)), some (.inl (aw)), some (.inl (k)), a0, a1, a2, a3] [] G f = some ((some (.inl 1), G'), f + 3) := by
  obtain ⟨G1, e3, h1, sm⟩ := c_forecast' h q
  have er : pm_rows G1 3 = pm_rows G 3 := by
    unfold pm_rows
    rw [sm (3 + 13) (by decide), sm (3 + 14) (by decide), sm (3 + 15) (by decide)]
  have e8 : ccount G1 (tF (tz n)) n 8 = bch (tF (tz n)) (pm_rows G 3) := by
    show bch (tF (tz n)) (pm_rows G1 3) = _
    rw [er]
  have e4 := lc (xs := xs) (Ls := Ls) h1 8
  rw [e8] at e4
  have oc := over_cnt h q
  have ha : ¬ aw = 0 ∨ (aw = 0 ∧ ¬ res < lst ∧ res ≤ mst) := by
    rcases ha with ha | ⟨ha, ng, hr⟩
    · exact Or.inl ha
    · have := NG_end h ng q
      exact Or.inr ⟨ha, by omega, by omega⟩
  rw [lr_over (c := ccount G (tF (tz n)) n) (lc h) (champ_0 h q), lr_end (c := ccount G (tF (tz n)) n) (lc h) (lx_fits h) (lx_pl h q) oc.1 oc.2 (lx_of (by decide) (by decide) (by decide) (by decide) e3) e4 ha]
  exact lw_undo hl L G1 h1
/-- a round's withdrawal -/
theorem lw_A {k' : Nat} (h : CI G n x L) (q : cchamp G (tF (tz n)) = -6) (hk : k' ≤ 50) (haw : aw = 0 ∨ aw = 1) (ng : aw = 0 → NG G n ∧ res = (L : Int)) :
    ∃ (G1 : PW) (L1 : Nat) (aw1 : Int) (b0 b1 b2 b3 : Option PV), CI G1 n x L1 ∧ L ≤ L1 ∧ (L1 = L → cchamp G1 (tF (tz n)) = -6) ∧ (aw1 = 0 ∨ aw1 = 1) ∧ (aw1 = 0 → NG G1 n ∧ res = (L1 : Int)) ∧
      pl_dn (lwX xs Ls) 88 87 [some (.inr (.inr 60)), some (.inr (.inr 0)), some (.inl n), some (.inl x), some (.inl ((L : Int))), some (.inl (res)), some (.inl (lst)), some (.inl (mst)), some (.inl (aw)), some (.inl ((k' : Int))), a0, a1, a2, a3] [] G f = pl_dn (lwX xs Ls) 88 250 [some (.inr (.inr 60)), some (.inr (.inr 0)), some (.inl n), some (.inl x), some (.inl ((L1 : Int))), some (.inl (res)), some (.inl (lst)), some (.inl (mst)), some (.inl (aw1)), some (.inl ((k' : Int))), b0, b1, b2, b3] [] G1 f := by
  have n16 := h.1
  have L47 := CI_47 h
  have hl := CI_ok h
  have e1 := lx_cell (xs := xs) (Ls := Ls) (G := G) (a := 2 * (k' : Int) + 2) (b := 11) (by omega) (by omega)
  have hd := lr_head (f := f) (n := (n : Int)) (x := (x : Int)) (acts := (L : Int)) (res := res) (lst := lst) (mst := mst) (aw := aw) (a0 := a0) (a1 := a1) (a2 := a2) (a3 := a3) (c := ccount G (tF (tz n)) n) (k := (k' : Int)) (by omega) (lc h) (by show ¬ 0 ≤ cchamp G (tF (tz n)); omega) e1
  by_cases q0 : cev xs Ls (2 * (k' : Int) + 2) 11 = 0
  · rw [if_pos q0] at hd
    rw [hd]
    have e2 := lx_cell (xs := xs) (Ls := Ls) (G := G) (a := 2 * (k' : Int) + 3) (b := (n : Int)) (by omega) (by omega)
    have r2 := cev_rg (xs := xs) (L := Ls) (a := 2 * (k' : Int) + 3) (b := (n : Int)) (by omega) (by omega)
    generalize cev xs Ls (2 * (k' : Int) + 3) (n : Int) = p at e2 r2
    obtain ⟨pn, rfl⟩ : ∃ m : Nat, p = (m : Int) := ⟨p.toNat, by omega⟩
    have hp : pn < n := by omega
    have cp : ∀ w, lwX xs Ls 58 [.inr (.inr 0), .inl (pn : Int), .inl w] G = some ((some (.inl (cplayer G (tF (tz n)) (pn : Int) w)), G), 0) := fun w => by
      have u := c_player (x := (pn : Int)) (w := w) hl
      rw [if_pos ⟨by omega, by omega⟩] at u
      exact lx_of (by decide) (by decide) (by decide) (by decide) u
    have wd := c_withdraw (x := (pn : Int)) hl.2.2.1 hl.2.2.2.2.2.1 hl.1 (by rw [hl.2.2.2.1]; omega) (CI_L h) (fun _ _ y => by
      have := CI_47 (wd_ge h hp q (by rw [Int.toNat_natCast] at y; exact y)).1
      omega)
    rw [if_pos (by rw [hl.2.2.2.1]; omega), Int.toNat_natCast] at wd
    have p3 : cplayer G (tF (tz n)) (pn : Int) 3 = if G 15 pn = 1 then 1 else 0 := rfl
    have p6 : cplayer G (tF (tz n)) (pn : Int) 6 = cplace G (tF (tz n)) 10 (pn : Int) := rfl
    obtain ⟨ps, hf⟩ := CI_fin h
    obtain ⟨r4, r5, r6, -⟩ := lc_rg h
    have refused : ∀ (y1 : G 15 pn = 1 ∨ cnext G (tF (tz n)) (pn : Int) = -6), (¬ cplayer G (tF (tz n)) (pn : Int) 3 = 0 ∨ (cplayer G (tF (tz n)) (pn : Int) 3 = 0 ∧ 0 ≤ cplayer G (tF (tz n)) (pn : Int) 6)) → _ := fun y1 y2 => by
      have wd := wd
      rw [if_pos (show G 15 pn = 1 ∨ ffrom (bnext (pm_rows G 3) (pn : Int)) (tF (tz n)) 0 = -6 from y1)] at wd
      exact lr_no (f := f) (n := (n : Int)) (x := (x : Int)) (acts := (L : Int)) (res := res) (lst := lst) (mst := mst) (aw := aw) (a0 := a0) (a1 := a1) (a2 := a2) (a3 := a3) (c := ccount G (tF (tz n)) n) (k := (k' : Int)) (by omega) (by omega) haw r4 r5 r6 e2 (lc h) (cp 3) (cp 6) y2 (lx_of (by decide) (by decide) (by decide) (by decide) wd)
    by_cases hg : G 15 pn = 1
    · rw [refused (Or.inl hg) (Or.inl (by rw [p3, if_pos hg]; decide))]
      exact ⟨G, L, aw, _, _, _, _, h, Nat.le_refl _, fun _ => q, haw, ng, rfl⟩
    · rw [if_neg hg] at p3
      rcases CI_pl h hf hp with c | c | c
      · -- taken
        have cn : ¬ (G 15 pn = 1 ∨ ffrom (bnext (pm_rows G 3) (pn : Int)) (tF (tz n)) 0 = -6) := fun y => by
          rcases y with y | y
          · exact hg y
          · have y : cnext G (tF (tz n)) (pn : Int) = -6 := y
            omega
        rw [if_neg cn] at wd
        obtain ⟨h', ge⟩ := wd_ge h hp q hg
        obtain ⟨s4, s5, s6, -⟩ := lc_rg h'
        have t := cnt4 h
        have t' := cnt4 h'
        rw [← t, ← t'] at wd ge
        have cp3 := cp 3
        rw [p3] at cp3
        have y := lr_yes (f := f) (n := (n : Int)) (x := (x : Int)) (acts := (L : Int)) (res := res) (lst := lst) (mst := mst) (aw := aw) (a0 := a0) (a1 := a1) (a2 := a2) (a3 := a3) (c := ccount G (tF (tz n)) n) (c' := ccount (acted G L (62 + (pn : Int))) (tF (tz n)) n) (k := (k' : Int)) (by omega) (by omega) haw r4 r5 r6 s4 s5 s6 e2 (lc h) cp3 (cp 6) (by rw [p6]; omega) (lx_of (by decide) (by decide) (by decide) (by decide) wd) (by omega) (lc h')
        rw [y]
        have aw1 : aw + 1 - aw * 1 = 1 := by omega
        rw [aw1]
        exact ⟨_, L + 1, 1, _, _, _, _, h', Nat.le_succ _, fun y => absurd y (by omega), Or.inr rfl, fun y => absurd y (by decide), rfl⟩
      · have := CI_best h (m := (ps pn - 64) / 2) (by omega) c.2.2.2.1
        rw [refused (Or.inr c.2.1) (Or.inr ⟨p3, by rw [p6, c.2.2.2.2.1]; omega⟩)]
        exact ⟨G, L, aw, _, _, _, _, h, Nat.le_refl _, fun _ => q, haw, ng, rfl⟩
      · exact absurd q c.2.2.2.1
  · rw [if_neg q0] at hd
    rw [hd]
    exact ⟨G, L, aw, _, _, _, _, h, Nat.le_refl _, fun _ => q, haw, ng, rfl⟩
/-- a round's result -/
theorem lw_B {k' : Nat} (h : CI G n x L) (hk : k' ≤ 50) (hr : 0 ≤ res ∧ res ≤ 100) (ng : aw = 0 → NG G n ∧ res = (L : Int)) :
    ∃ (G1 : PW) (L1 : Nat) (res1 : Int) (b0 b1 b2 b3 : Option PV), CI G1 n x L1 ∧ L ≤ L1 ∧ (L < L1 ∨ ccount G (tF (tz n)) n 7 ≤ 0) ∧ (0 ≤ res1 ∧ res1 ≤ res + ((L1 : Int) - (L : Int))) ∧ (aw = 0 → NG G1 n ∧ res1 = (L1 : Int)) ∧
      pl_dn (lwX xs Ls) 88 250 [some (.inr (.inr 60)), some (.inr (.inr 0)), some (.inl n), some (.inl x), some (.inl ((L : Int))), some (.inl (res)), some (.inl (lst)), some (.inl (mst)), some (.inl (aw)), some (.inl ((k' : Int))), a0, a1, a2, a3] [] G f = pl_dn (lwX xs Ls) 88 361 [some (.inr (.inr 60)), some (.inr (.inr 0)), some (.inl n), some (.inl x), some (.inl ((L1 : Int))), some (.inl (res1)), some (.inl (lst)), some (.inl (mst)), some (.inl (aw)), some (.inl ((k' : Int))), b0, b1, b2, b3] [] G1 f := by
  have n16 := h.1
  have L47 := CI_47 h
  have hl := CI_ok h
  obtain ⟨hc, g1, g2, g3, g4, g5⟩ := tz_facts h.1 h.2.1
  by_cases c7 : ccount G (tF (tz n)) n 7 ≤ 0
  · rw [lr_none (f := f) (n := (n : Int)) (x := (x : Int)) (acts := (L : Int)) (res := res) (lst := lst) (mst := mst) (aw := aw) (a0 := a0) (a1 := a1) (a2 := a2) (a3 := a3) (c := ccount G (tF (tz n)) n) (k := (k' : Int)) (lc h) c7]
    exact ⟨G, L, res, _, _, _, _, h, Nat.le_refl _, Or.inr c7, by omega, ng, rfl⟩
  · obtain ⟨-, -, -, r7⟩ := lc_rg h
    have e1 := lx_cell (xs := xs) (Ls := Ls) (G := G) (a := 2 * (k' : Int) + 4) (b := ccount G (tF (tz n)) n 7) (by omega) (by omega)
    have q1 := cev_rg (xs := xs) (L := Ls) (a := 2 * (k' : Int) + 4) (b := ccount G (tF (tz n)) n 7) (by omega) (by omega)
    have e3 := lx_cell (xs := xs) (Ls := Ls) (G := G) (a := 2 * (k' : Int) + 5) (b := 2) (by omega) (by omega)
    have q3 := cev_rg (xs := xs) (L := Ls) (a := 2 * (k' : Int) + 5) (b := 2) (by omega) (by omega)
    generalize cev xs Ls (2 * (k' : Int) + 4) (ccount G (tF (tz n)) n 7) = i at e1 q1
    generalize cev xs Ls (2 * (k' : Int) + 5) 2 = sd at e3 q3
    obtain ⟨sn, rfl⟩ : ∃ m : Nat, sd = (m : Int) := ⟨sd.toNat, by omega⟩
    obtain ⟨m, hm, hb, hff⟩ := open_ok (p := bplay (G 4 0) (pm_rows G 3)) (F := tF (tz n)) q1.1 q1.2
    have op := c_open (x := i) hl.2.2.1 hl.2.2.2.2.2.1
    rw [if_neg (by omega), hff] at op
    have mt : ∀ (G1 : PW) (L1 : Nat) (h1 : CI G1 n x L1) (w : Int), lwX xs Ls 57 [.inr (.inr 0), .inl (m : Int), .inl w] G1 = some ((some (.inl (cmatch G1 m w)), G1), 0) := fun G1 L1 h1 w => by
      have u := c_match (m := (m : Int)) (w := w) (CI_ok h1)
      rw [if_pos ⟨by omega, by omega⟩, Int.toNat_natCast] at u
      exact lx_of (by decide) (by decide) (by decide) (by decide) u
    have hb' : bplay (n : Int) (pm_rows G 3) m = true := by rw [← hl.2.2.2.1]; exact hb
    obtain ⟨ps, hf⟩ := CI_fin h
    obtain ⟨p0, p1, p2⟩ := bplay_iff.mp hb'
    have free : G 14 m = -6 := by
      have y := hf.2.2.2.1.2.2.2.2.1 m hm (by omega) (by omega) p0
      rcases rl_case (G 14) (G 15) m ((pm_rows G 3).1 (2 * m)) ((pm_rows G 3).1 (2 * m + 1)) with c | c | c | c | c
      · omega
      · rw [c.2.2] at y
        exact absurd (show (3 : Int) = 0 from y) (by decide)
      · exact c.2.1
      · exact c.2.1
      · exact c.2.1
    obtain ⟨h', a14, a15⟩ := CI_act (a := 2 * (m : Int) + (sn : Int)) h (by omega) (fun _ => by rw [show ((2 * (m : Int) + (sn : Int)) / 2).toNat = m by omega]; exact free) (fun y => by omega)
    rw [if_pos (by omega), show ((2 * (m : Int) + (sn : Int)) / 2).toNat = m by omega, show (2 * (m : Int) + (sn : Int)) % 2 = (sn : Int) by omega] at a14
    rw [if_pos (by omega)] at a15
    have rs := c_result (m := (m : Int)) (s := (sn : Int)) hl.2.2.1 hl.2.2.2.2.2.1 hl.1 (CI_L h) (fun _ _ _ => by have := CI_47 h'; omega)
    rw [if_pos (by omega), if_pos (by omega), Int.toNat_natCast, Int.toNat_natCast, if_pos hb] at rs
    obtain ⟨ps', hf'⟩ := CI_fin h'
    have hf2 := hf'
    rw [a14, a15] at hf2
    obtain ⟨⟨x0, x1⟩, ⟨x2, x3⟩, x4⟩ := res_ext hm (by omega) hf hf2 hb'
    have hl' := CI_ok h'
    have rs2 := c_result (m := (m : Int)) (s := (sn : Int)) hl'.2.2.1 hl'.2.2.2.2.2.1 hl'.1 (CI_L h') (fun _ _ y => by
      rw [Int.toNat_natCast] at y
      have := (bplay_iff.mp y).1
      omega)
    rw [if_pos (by omega), if_pos (by omega), if_neg (by
      rw [Int.toNat_natCast]
      intro y
      have := (bplay_iff.mp y).1
      omega)] at rs2
    have s01 : sn = 0 ∨ sn = 1 := by omega
    have w1 : cmatch G m (sn : Int) = G 16 (2 * m + sn) := by
      rcases s01 with rfl | rfl <;> rfl
    have w2 : cmatch (acted G L (2 * (m : Int) + (sn : Int))) m 2 = G 16 (2 * m + sn) := by
      show bw (pm_rows (acted G L (2 * (m : Int) + (sn : Int))) 3) m = _
      unfold bw
      rw [if_neg (by omega), x3, Int.toNat_natCast]
      rcases s01 with rfl | rfl
      · exact x0
      · exact x1
    have w3 : cmatch (acted G L (2 * (m : Int) + (sn : Int))) m 4 = 3 := x2
    have t1 := mt G L h (sn : Int)
    have t2 := mt _ _ h' 2
    have t3 := mt _ _ h' 4
    rw [w1] at t1
    rw [w2] at t2
    rw [w3] at t3
    have r := lr_res (f := f) (n := (n : Int)) (x := (x : Int)) (acts := (L : Int)) (res := res) (lst := lst) (mst := mst) (aw := aw) (a0 := a0) (a1 := a1) (a2 := a2) (a3 := a3) (c := ccount G (tF (tz n)) n) (k := (k' : Int)) (by omega) (by omega) hr (lc h) c7 e1 (lx_of (by decide) (by decide) (by decide) (by decide) op) e3 t1 (lx_of (by decide) (by decide) (by decide) (by decide) rs) t2 t3 (lx_of (by decide) (by decide) (by decide) (by decide) rs2)
    rw [r]
    refine ⟨_, L + 1, res + 1, _, _, _, _, h', Nat.le_succ _, Or.inl (Nat.lt_succ_self _), by omega, fun y => ?_, rfl⟩
    obtain ⟨⟨n1, n2⟩, n3⟩ := ng y
    refine ⟨⟨fun p hp => by rw [a15]; exact n1 p hp, fun m1 hm1 y1 => ?_⟩, by omega⟩
    rw [a14] at y1
    by_cases e : m1 = m
    · rw [e]
      exact ⟨hm, x2⟩
    · rw [fup_ne e] at y1
      obtain ⟨z1, z2⟩ := n2 m1 hm1 y1
      exact ⟨z1, (x4 m1 z1 (by show G 17 m1 ≠ 0; omega)).1.trans z2⟩
/-- what is asked after it -/
theorem lw_C {k' : Nat} (h : CI G n x L) (hk : k' ≤ 50) : ∃ d : Nat, d ≤ 1 ∧ pl_dn (lwX xs Ls) 88 361 [some (.inr (.inr 60)), some (.inr (.inr 0)), some (.inl n), some (.inl x), some (.inl ((L : Int))), some (.inl (res)), some (.inl (lst)), some (.inl (mst)), some (.inl (aw)), some (.inl ((k' : Int))), a0, a1, a2, a3] [] G f = pl_dn (lwX xs Ls) 88 87 [some (.inr (.inr 60)), some (.inr (.inr 0)), some (.inl n), some (.inl x), some (.inl ((L : Int))), some (.inl (res)), some (.inl (lst)), some (.inl (mst)), some (.inl (aw)), some (.inl (((k' + 1 : Nat) : Int))), a0, a1, a2, a3] [] G (f + d) := by
  have hl := CI_ok h
  obtain ⟨-, -, -, r7⟩ := lc_rg h
  have op := c_open (x := ccount G (tF (tz n)) n 7) hl.2.2.1 hl.2.2.2.2.2.1
  rw [if_neg (by omega), open_no (p := bplay (G 4 0) (pm_rows G 3)) (F := tF (tz n)) (i := ccount G (tF (tz n)) n 7) (Int.le_refl _)] at op
  have cl := cres_le h
  exact lr_chk (c := ccount G (tF (tz n)) n) (k := (k' : Int)) (by omega) (lc h) (lx_fits h) (lx_of (by decide) (by decide) (by decide) (by decide) op) (show G 35 1 = _ from CI_L h) (by omega) (by omega) (lc_10 h)
/-- the loop -/
theorem lw_loop (hl : lst = 2 * (n : Int) - 2) (hm : mst = 2 * (n : Int) - 1) : ∀ (D : Nat) (G : PW) (L k' : Nat) (res aw : Int) (f : Nat) (a0 a1 a2 a3 : Option PV), CI G n x L → 48 ≤ L + D → k' ≤ L → 0 ≤ res ∧ res ≤ (L : Int) → (aw = 0 ∨ aw = 1) → (aw = 0 → NG G n ∧ res = (L : Int)) →
    ∃ (G' : PW) (f' : Nat), f' ≤ f + D + 3 ∧ pl_dn (lwX xs Ls) 88 87 [some (.inr (.inr 60)), some (.inr (.inr 0)), some (.inl n), some (.inl x), some (.inl ((L : Int))), some (.inl (res)), some (.inl (lst)), some (.inl (mst)), some (.inl (aw)), some (.inl ((k' : Int))), a0, a1, a2, a3] [] G f = some ((some (.inl 1), G'), f') := by
  intro D
  induction D with
  | zero =>
    intro G L k' res aw f a0 a1 a2 a3 h e
    have := CI_47 h
    omega
  | succ D ih =>
    intro G L k' res aw f a0 a1 a2 a3 h e hk hr haw ng
    have L47 := CI_47 h
    by_cases q : cchamp G (tF (tz n)) = -6
    · obtain ⟨G1, L1, aw1, b0, b1, b2, b3, h1, l1, s1, haw1, ng1, eA⟩ := lw_A (xs := xs) (Ls := Ls) (f := f) (lst := lst) (mst := mst) (a0 := a0) (a1 := a1) (a2 := a2) (a3 := a3) (res := res) h q (show k' ≤ 50 by omega) haw ng
      have L47' := CI_47 h1
      obtain ⟨G2, L2, res2, c0, c1, c2, c3, h2, l2, s2, hr2, ng2, eB⟩ := lw_B (xs := xs) (Ls := Ls) (f := f) (lst := lst) (mst := mst) (aw := aw1) (a0 := b0) (a1 := b1) (a2 := b2) (a3 := b3) (res := res) h1 (show k' ≤ 50 by omega) (by omega) ng1
      obtain ⟨d, hd, eC⟩ := lw_C (xs := xs) (Ls := Ls) (f := f) (lst := lst) (mst := mst) (aw := aw1) (a0 := c0) (a1 := c1) (a2 := c2) (a3 := c3) (res := res2) h2 (show k' ≤ 50 by omega)
      have up : L < L2 := by
        rcases s2 with y | y
        · omega
        · rcases Nat.lt_or_ge L L1 with z | z
          · omega
          · have := not_over h1 (s1 (by omega))
            omega
      obtain ⟨G', f', hf', r⟩ := ih G2 L2 (k' + 1) res2 aw1 (f + d) c0 c1 c2 c3 h2 (by omega) (by omega) (by omega) haw1 ng2
      exact ⟨G', f', by omega, by rw [eA, eB, eC]; exact r⟩
    · obtain ⟨G', r⟩ := lw_over (xs := xs) (Ls := Ls) (f := f) (lst := lst) (mst := mst) (aw := aw) (k := (k' : Int)) (a0 := a0) (a1 := a1) (a2 := a2) (a3 := a3) (res := res) h q (by
        rcases haw with y | y
        · exact Or.inr ⟨y, ng y⟩
        · exact Or.inl (by omega)) hl hm
      exact ⟨G', f + 3, by omega, r⟩
end LW
/-- THE LAW'S RUN, after the tournament is made -/
theorem law_run (xs : Nat → Int32) (Ls : Nat) : ∃ (G' : PW) (f' : Nat), f' ≤ 60 ∧ pl_dn (lwX xs Ls) 88 8 [some (.inr (.inr 60)), some (.inr (.inr 0)), none, none, none, none, none, none, none, none, none, none, none, none] [] startG 0 = some ((some (.inl 1), G'), f') := by
  have e0 := lx_cell (xs := xs) (Ls := Ls) (G := startG) (a := 0) (b := 15) (by omega) (by omega)
  have r0 := cev_rg (xs := xs) (L := Ls) (a := 0) (b := 15) (by omega) (by omega)
  have e1 := lx_cell (xs := xs) (Ls := Ls) (G := startG) (a := 1) (b := 2) (by omega) (by omega)
  have r1 := cev_rg (xs := xs) (L := Ls) (a := 1) (b := 2) (by omega) (by omega)
  generalize cev xs Ls 0 15 = v0 at e0 r0
  generalize cev xs Ls 1 2 = v1 at e1 r1
  obtain ⟨n', rfl⟩ : ∃ m : Nat, v0 = (m : Int) := ⟨v0.toNat, by omega⟩
  obtain ⟨x, rfl⟩ : ∃ m : Nat, v1 = (m : Int) := ⟨v1.toNat, by omega⟩
  have hn : 2 ≤ 2 + n' ∧ 2 + n' ≤ 16 := by omega
  have hx : x = 0 ∨ x = 1 := by omega
  obtain ⟨v, su⟩ := c_setUp' hn hx
  have h := CI_set hn hx
  have cr := cres_0 h
  have b := lr_begin (f := 0) (n := ((2 + n' : Nat) : Int)) (x := (x : Int)) (c := ccount (setG (2 + n') x) (tF (tz (2 + n'))) (2 + n')) e0 (by omega) (by omega) e1 (lx_of (by decide) (by decide) (by decide) (by decide) su) (lx_of (by decide) (by decide) (by decide) (by decide) (c_isPlanned h)) (lx_of (by decide) (by decide) (by decide) (by decide) (c_isSeeded h)) (lx_fits h) (lc h)
  rw [cr.1, cr.2] at b
  obtain ⟨G', f', hf', r⟩ := lw_loop (xs := xs) (Ls := Ls) (n := 2 + n') (x := x) rfl rfl 48 (setG (2 + n') x) 0 0 0 0 (0 + 1) none none none none h (by omega) (Nat.le_refl _) ⟨Int.le_refl _, Int.le_refl _⟩ (Or.inl rfl) (fun _ => ⟨NG_0 h, rfl⟩)
  exact ⟨G', f', by omega, by rw [b]; exact r⟩
