/-! both sides: forecasts -/
section FOR
variable {G K : PW} {n x L : Nat}
/-- settling the trial bracket: the course of the rule -/
theorem setl_runT (h : 2 ≤ n ∧ n ≤ 16) (hx : x = 0 ∨ x = 1) (hp : planC G 20 (tz n) x n) : gbeg (tz n) n (bbeg_T G) ∧ pm_rows (setl_T G) 19 = grun (tz n) x (rlive (G 30) (G 31)) (bbeg_T G) (tF (tz n)) := by
  obtain ⟨hc, h1, h2, h3, h4, h5⟩ := tz_facts h hx
  refine ⟨⟨fun s hs => ?_, fun m hm => ⟨?_, ?_⟩⟩, ?_⟩
  · show mixf 62 (inir_T G) (G 32) s = _
    unfold mixf
    rw [if_pos (by omega)]
    unfold inir_T
    rw [hp.1.2.2.1]
    by_cases c : s < tz n
    · rw [if_pos (show (s : Int) < (tz n : Int) by omega), if_pos c, atv_in lenC_28 (by omega) (by omega), Int.toNat_natCast, hp.1.1]
      have e : G 28 s = tSD (tz n) s := hp.2.2.1 s c
      rw [e]
      rfl
    · rw [if_neg (show ¬ (s : Int) < (tz n : Int) by omega), if_neg c]
  · show mixf 31 (fun _ => 0) (G 33) m = 0
    unfold mixf
    rw [if_pos (by omega)]
  · show mixf 31 (fun _ => -6) (G 34) m = -6
    unfold mixf
    rw [if_pos (by omega)]
  · have e : pm_rows (setl_T G) 19 = bruns (G 24) (G 25) (2 * G 20 2 - 1).toNat (G 30) (G 31) (bbeg_T G) (2 * G 20 2 - 1).toNat := by
      unfold setl_T
      exact pm_rows_b3
    have f : (2 * G 20 2 - 1).toNat = tF (tz n) := by
      rw [hp.1.2.2.1]
      omega
    rw [e, f, ← bruns_grun]
    exact bruns_ext (N := tF (tz n)) (fun m hm => ⟨(hp.2.1 m hm).2.2.2.1, (hp.2.1 m hm).2.2.2.2, rfl⟩) (fun _ _ => rfl) _ (Nat.le_refl _)
theorem taken_ne {r : Nat} (h : r ≠ 30) (h1 : r ≠ 31) : taken G r = G r := by
  unfold taken
  rw [row_ne h1, row_ne h]
theorem taken_30 {m : Nat} (hm : m < 31) : taken G 30 m = G 14 m := by
  unfold taken
  rw [row_ne (by decide), row_eq]
  unfold mixf
  rw [if_pos hm]
theorem taken_31 {p : Nat} (hp : p < 16) : taken G 31 p = G 15 p := by
  unfold taken
  rw [row_eq]
  unfold mixf
  rw [if_pos hp]
theorem trial0_ne {r : Nat} (h : r < 30 ∨ 34 < r) : trial0 G r = G r := by
  unfold trial0
  rw [setl_ne_T (by omega) (by omega) (by omega), taken_ne (by omega) (by omega)]
/-- what the trials of both sides begin with -/
theorem tri_of (t : tour n x L (G 1) (G 36) (K 1)) (l : livs G n x L) : tri_ok G (tF (tz n)) n ∧ res3 (taken G 30) ∧ planC (trial0 G) 20 (tz n) x n ∧ knows K n (taken G 30) (taken G 31) ∧ ∃ B0, gbeg (tz n) n B0 ∧ pm_rows (trial0 G) 19 = grun (tz n) x (rlive (taken G 30) (taken G 31)) B0 (tF (tz n)) := by
  obtain ⟨hc, h1, h2, h3, h4, h5⟩ := tz_facts t.1 t.2.1
  have hR : res3 (taken G 30) := fun m hm => by
    rw [taken_30 hm]
    exact livs_R t.2.2.1 l.2.2.2.1 m hm
  have p20 : planC (taken G) 20 (tz n) x n := planC_same l.2.1 (fun r a b => taken_ne (by omega) (by omega))
  obtain ⟨s1, s2⟩ := setl_runT t.1 t.2.1 p20
  have so : sok_T (taken G) := by
    refine ⟨hR, ?_, ?_⟩
    · rw [p20.1.2.2.1]
      rcases hc.1 with e | e | e
      · exact Or.inl (by rw [e]; rfl)
      · exact Or.inr (Or.inl (by rw [e]; rfl))
      · exact Or.inr (Or.inr (by rw [e]; rfl))
    · rw [p20.1.2.2.1, p20.1.2.2.2.2, h3]
      omega
  refine ⟨⟨so, l.2.1.1.2.2.2.2, ?_, l.2.1.1.1, t.1.2, fun p hp => ?_⟩, hR, planC_same l.2.1 (fun r a b => trial0_ne (by omega)), ⟨t.2.2.2.2.1.1, fun m hm => ?_, fun p hp => ?_⟩, _, s1, s2⟩
  · rw [l.2.1.1.2.2.1, h3]
    omega
  · have := t.2.2.2.1 p hp
    omega
  · rw [taken_30 hm, t.2.2.2.2.2.2.1 m hm]
    exact (l.2.2.2.1 m hm).symm
  · rw [taken_31 hp, t.2.2.2.2.2.2.2.1 p hp]
    exact (l.2.2.2.2.1 p hp).symm
/-- a trial of both sides -/
theorem tri_both {hero : Int} (t : tour n x L (G 1) (G 36) (K 1)) (l : livs G n x L) : ∃ Z ps, vw (laid (wayed K n x) (tz n) 1 hero) (tz n) x n (rtri (taken G 30) (taken G 31) (G 1) hero) Z ps ∧ bch (tF (tz n)) (tend G (tF (tz n)) n hero).1 = bch (tF (tz n)) Z ∧ (tend G (tF (tz n)) n hero).2.2 = cnt (bups (taken G 30) (G 1) hero Z) (tF (tz n)) := by
  obtain ⟨hc, h1, h2, h3, h4, h5⟩ := tz_facts t.1 t.2.1
  obtain ⟨to, hR, p20, kn, B0, b1, b2⟩ := tri_of t l
  have k0 := t.2.2.2.2.1.1
  have k1 := t.2.2.2.2.1.2.1
  have w1 := wayed_1 k0 k1
  have w := wayed_plan (G := K) t.1 t.2.1
  obtain ⟨ps, v⟩ := tri_vw (W := wayed K n x) (R := taken G 30) (g := taken G 31) (rat := G 1) (hero := hero) hc w ⟨t.1.1, h1⟩ ⟨by rw [w1]; exact kn.1, fun m hm => by rw [w1]; exact kn.2.1 m hm, fun p hp => by rw [w1]; exact kn.2.2 p hp⟩ (fun p hp => by rw [w1]; exact t.2.2.2.2.2.1 p hp) hR b1
  obtain ⟨ps0, hf⟩ := fin_run hc (rl_ok (R := taken G 30) (g := taken G 31) hR) ⟨t.1.1, h1⟩ b1
  have gS := hf.2.2.2.1
  have hD := hf.2.2.2.2.2.2.2.1
  rw [← b2] at gS hD
  have sm := tri_same (rat := G 1) (hero := hero) hc hR gS b1
  have te : tend G (tF (tz n)) n hero = trun (tWS (tz n)) (tLS (tz n) x) (tF (tz n)) (taken G 31) n (G 1) hero (pm_rows (trial0 G) 19, taken G 30, 0) (tF (tz n)) := by
    unfold tend
    have e30 : trial0 G 30 = taken G 30 := trial0_30
    have e31 : trial0 G 31 = taken G 31 := by
      unfold trial0
      exact setl_ne_T (by decide) (by decide) (by decide)
    rw [e30, e31, trial0_ne (r := 1) (by decide)]
    exact trun_ext (N := tF (tz n)) (fun m hm => ⟨(p20.2.1 m hm).2.2.2.1, (p20.2.1 m hm).2.2.2.2⟩) (fun _ _ => rfl) _ (Nat.le_refl _)
  have tg := (trun_grun (R := taken G 30) (g := taken G 31) (rat := G 1) (hero := hero) (s := (pm_rows (trial0 G) 19, taken G 30, 0)) hc t.1.2 hR hD (fun _ => rfl) (tF (tz n)) (Nat.le_refl _)).1
  have gs' := gS_run hc (rt_ok hR) (gS_tri (rat := G 1) (hero := hero) gS) (tF (tz n)) (Nat.le_refl _)
  have w' := gS_w01 hc (rt_ok hR) gs'
  refine ⟨_, ps, v, ?_, ?_⟩
  · rw [te, tg]
    exact sam_bch sm w' h4
  · have hE : jE (tz n) n (grun (tz n) x (rtri (taken G 30) (taken G 31) (G 1) hero) (pm_rows (trial0 G) 19) (tF (tz n))) → True := fun _ => trivial
    have jE' : jE (tz n) n (grun (tz n) x (rtri (taken G 30) (taken G 31) (G 1) hero) (pm_rows (trial0 G) 19) (tF (tz n))) := fun m hm => by
      rw [(sm m hm).1.1, (sm m hm).1.2]
      exact v.1.2.2.2.2.2.2.2.2.1 m hm
    rw [te, tri_ups hc t.1.2 hR gS hD jE' (tF (tz n)) (Nat.le_refl _)]
    exact cnt_congr _ (fun m hm => sam_bups sm w' hm)
/-- what a trial leaves of the class' memory -/
theorem REL_tri (h : REL G K) {B : BB} {R : Nat → Int} : REL (tmem (trial0 G) B R) K := by
  have e : ∀ r, (r < 30 ∨ 34 < r) → tmem (trial0 G) B R r = G r := fun r hr => by
    rw [tmem_ne (by omega) (by omega) (by omega) (by omega), trial0_ne hr]
  exact REL_C h (fun r _ b _ => e r b) (by rw [e 37 (by decide)]) (by
    rw [e 37 (by decide)]
    obtain ⟨N, -, -, -, -, -, q⟩ := h.2.2.2.2
    exact q)
theorem b_forecast (h : REL G K) : both 78 150 [] G K := by
  obtain ⟨n, x, L, t, l⟩ := h.1
  obtain ⟨hc, h1, h2, h3, h4, h5⟩ := tz_facts t.1 t.2.1
  have k0 := t.2.2.2.2.1.1
  have k1 := t.2.2.2.2.1.2.1
  obtain ⟨Z, ps, v, e1, -⟩ := tri_both (hero := -6) t l
  obtain ⟨r1, -⟩ := lkd_r (K := K) (n := n) (x := x) (a := 1) (b := -6) k0 k1
  have cr := c_forecast (tri_of t l).1
  have mr := m_forecast (F := tF (tz n)) (n := n) (m_laid (a := 1) (b := -6) t.1 t.2.1 k0 k1 (tour_R t)) ⟨v.2.2.1, h4, by rw [r1]; exact k0, t.1.2⟩
  rw [(v_champ v).1, ← e1] at mr
  exact ⟨_, _, _, cr, mr, REL_lkd (REL_tri h) k0 k1⟩
theorem b_upsets (h : REL G K) {a : Int} : both 79 151 [.inl a] G K := by
  obtain ⟨n, x, L, t, l⟩ := h.1
  obtain ⟨lk, se, pl, ps0, v0⟩ := REL_look t l
  have lo := livs_ok t l
  obtain ⟨hc, h1, h2, h3, h4, h5⟩ := tz_facts t.1 t.2.1
  have k0 := t.2.2.2.2.1.1
  have k1 := t.2.2.2.2.1.2.1
  obtain ⟨r1, -⟩ := lkd_r (K := K) (n := n) (x := x) (a := 0) (b := -6) k0 k1
  have r1 : lkd K n x 1 = K 1 := r1
  have n16 := t.1.2
  have rl := REL_lk h k0 k1
  have t' : tour n x L (G 1) (G 36) (lkd K n x 1) := by
    rw [r1]
    exact t
  have k0' : lkd K n x 1 0 = (n : Int) := by rw [r1]; exact k0
  have k1' : lkd K n x 1 1 = (x : Int) := by rw [r1]; exact k1
  obtain ⟨Z, ps, v, -, e2⟩ := tri_both (K := lkd K n x) (hero := a) t' l
  obtain ⟨q1, -⟩ := lkd_r (K := lkd K n x) (n := n) (x := x) (a := 1) (b := a) k0' k1'
  have cr := c_upsets (x := a) lo (tri_of t l).1
  -- a match played in the trial has players
  have pl3 : ∀ m, m < tF (tz n) → laid (wayed (lkd K n x) n x) (tz n) 1 a 20 m = 3 → 0 ≤ laid (wayed (lkd K n x) n x) (tz n) 1 a 19 m ∧ laid (wayed (lkd K n x) n x) (tz n) 1 a 19 m < 16 := fun m hm q => by
    obtain ⟨a1, a2, a3, -⟩ := v_how v hm
    rw [a1] at q
    rw [a3]
    obtain ⟨b0, b1, b2, b3⟩ := v.1.2.2.2.1.2.2.2.1 m hm (by rw [q]; decide)
    have d0 := v.1.2.2.2.2.2.2.2.1 (2 * m) (by omega)
    have d1 := v.1.2.2.2.2.2.2.2.1 (2 * m + 1) (by omega)
    have w := f_won v.1 hm (by rw [q]; decide)
    have nb : ¬ (Z.1 (2 * m) = 16 ∨ Z.1 (2 * m + 1) = 16) := fun y => by
      have := (v.1.2.1 m (Z.1 (2 * m)) (Z.1 (2 * m + 1)) (by omega)).2.1 y
      rw [this] at b3
      rw [q] at b3
      exact absurd (show (3 : Int) = 1 from b3) (by decide)
    unfold bl
    rw [if_neg (by rw [q]; decide)]
    rcases w with w | w
    · rw [w]
      show 0 ≤ Z.1 (2 * m + 1) ∧ Z.1 (2 * m + 1) < 16
      omega
    · rw [w]
      show 0 ≤ Z.1 (2 * m) ∧ Z.1 (2 * m) < 16
      omega
  have mr := m_upsets (x := a) (F2 := tF (tz n)) (n2 := n) k0 lk se (m_laid (a := 1) (b := a) t.1 t.2.1 k0' k1' (by rw [r1]; exact tour_R t)) ⟨v.2.2.1, h4, by rw [q1]; exact k0', t.1.2⟩ pl3
  by_cases c0 : 0 ≤ a ∧ a < (n : Int)
  · rw [if_pos c0] at cr mr
    obtain ⟨p, rfl⟩ : ∃ p : Nat, a = (p : Int) := ⟨a.toNat, by omega⟩
    have hp : p < n := by omega
    obtain ⟨x1, x2⟩ := nx_of v0.1 hp
    have hsp := v_has v0 hp
    have gg : lkd K n x 1 (50 + p) = G 15 p := by
      rw [r1, t.2.2.2.2.2.2.2.1 p (by omega)]
      exact (l.2.2.2.2.1 p (by omega)).symm
    rw [Int.toNat_natCast, gg, (v_champ v0).1] at mr
    rw [Int.toNat_natCast] at cr
    have en : cnext G (tF (tz n)) (p : Int) = ffrom (bnext (pm_rows G 3) (p : Int)) (tF (tz n)) 0 := rfl
    have ec : cchamp G (tF (tz n)) = bch (tF (tz n)) (pm_rows G 3) := rfl
    rw [en, ec] at cr
    have hh : mhas (lkd K n x) (tF (tz n)) (p : Int) = true ↔ ffrom (bnext (pm_rows G 3) (p : Int)) (tF (tz n)) 0 = -6 := by
      rw [hsp]
      constructor
      · exact x2
      · intro y
        exact Decidable.byContradiction (fun w => by have := (x1 (by omega)).1; omega)
    by_cases c1 : G 15 p = 1 ∨ (ffrom (bnext (pm_rows G 3) (p : Int)) (tF (tz n)) 0 = -6 ∧ ¬ bch (tF (tz n)) (pm_rows G 3) = (p : Int))
    · rw [if_pos c1] at cr
      rw [if_pos (c1.elim Or.inl (fun y => Or.inr ⟨hh.mpr y.1, y.2⟩))] at mr
      exact ⟨_, _, _, cr, mr, rl⟩
    · rw [if_neg c1] at cr
      rw [if_neg (fun y => c1 (y.elim Or.inl (fun y => Or.inr ⟨hh.mp y.1, y.2⟩)))] at mr
      have e3 : cnt (mups (laid (wayed (lkd K n x) n x) (tz n) 1 (p : Int)) (p : Int)) (tF (tz n)) = cnt (bups (taken G 30) (G 1) (p : Int) Z) (tF (tz n)) := cnt_congr _ (fun m hm => by
        obtain ⟨a1, a2, a3, -⟩ := v_how v hm
        have T : laid (wayed (lkd K n x) n x) (tz n) 1 (p : Int) 21 m = taken G 30 m := by
          rw [laid_21 (by omega), wayed_1 k0' k1', r1, taken_30 (by omega), t.2.2.2.2.2.2.1 m (by omega)]
          exact (l.2.2.2.1 m (by omega)).symm
        have i1 := mups_iff (K := laid (wayed (lkd K n x) n x) (tz n) 1 (p : Int)) (x := (p : Int)) (m := m)
        have i2 := bups_iff (R := taken G 30) (rat := G 1) (hero := (p : Int)) (Z := Z) (m := m)
        rw [a1, a2, T] at i1
        have i3 : Z.2.1 m = 3 → mbet (fun q => laid (wayed (lkd K n x) n x) (tz n) 1 (p : Int) 1 (3 + q)) (laid (wayed (lkd K n x) n x) (tz n) 1 (p : Int) 19 m) (p : Int) = mbet (G 1) (bl Z m) (p : Int) := fun q => by
          have b := pl3 m hm (by rw [a1]; exact q)
          rw [a3] at b ⊢
          exact mbet_same (fun q hq => by rw [q1, r1]; exact t.2.2.2.2.2.1 q hq) b (by omega)
        by_cases c : bups (taken G 30) (G 1) (p : Int) Z m = true
        · rw [c]
          obtain ⟨y1, y2, y3⟩ := i2.mp c
          exact i1.mpr ⟨y1, y2, by rw [i3 y1.1]; exact y3⟩
        · rw [bfalse Iff.rfl c]
          exact bfalse i1 (fun y => c (i2.mpr ⟨y.1, y.2.1, by rw [← i3 y.1.1]; exact y.2.2⟩)))
      rw [e3, ← e2] at mr
      exact ⟨_, _, _, cr, mr, REL_lkd (REL_tri rl) k0' k1'⟩
  · rw [if_neg c0] at cr mr
    exact ⟨_, _, _, cr, mr, h⟩
end FOR
