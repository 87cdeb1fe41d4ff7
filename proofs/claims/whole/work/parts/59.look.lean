/-! looking: the reference's matches, the class' bracket; as things stand, and in a trial -/
theorem bdec_ext {WS LS WS' LS' : Nat → Int} {F m : Nat} {sd kd : Int} {B : BB} (h1 : WS m = WS' m) (h2 : LS m = LS' m) : bdec WS LS F m sd kd B = bdec WS' LS' F m sd kd B := by
  unfold bdec
  rw [h1, h2]
theorem gon_ext {g g' : Nat → Int} {p : Int} (h : ∀ p, p < 16 → g p = g' p) : gon g p ↔ gon g' p := by
  constructor
  · rintro ⟨a, b, c⟩
    exact ⟨a, b, by rw [← h _ (by omega)]; exact c⟩
  · rintro ⟨a, b, c⟩
    exact ⟨a, b, by rw [h _ (by omega)]; exact c⟩
theorem bstep_ext {WS LS WS' LS' R R' g g' : Nat → Int} {F m : Nat} {B : BB} (h1 : WS m = WS' m) (h2 : LS m = LS' m) (h3 : R m = R' m) (h4 : ∀ p, p < 16 → g p = g' p) : bstep WS LS F R g m B = bstep WS' LS' F R' g' m B := by
  unfold bstep
  rw [h3, bdec_ext h1 h2, bdec_ext h1 h2, bdec_ext h1 h2]
  by_cases c0 : B.2.1 m ≠ 0 ∨ B.1 (2 * m) = -6 ∨ B.1 (2 * m + 1) = -6
  · rw [if_pos c0, if_pos c0]
  · rw [if_neg c0, if_neg c0]
    by_cases c1 : B.1 (2 * m) = 16 ∨ B.1 (2 * m + 1) = 16
    · rw [if_pos c1, if_pos c1]
    · rw [if_neg c1, if_neg c1]
      by_cases c2 : R' m ≠ -6
      · rw [if_pos c2, if_pos c2]
      · rw [if_neg c2, if_neg c2]
        have e0 := gon_ext (p := B.1 (2 * m)) h4
        have e1 := gon_ext (p := B.1 (2 * m + 1)) h4
        by_cases c3 : gon g' (B.1 (2 * m)) ∨ gon g' (B.1 (2 * m + 1))
        · rw [if_pos c3, if_pos (c3.elim (fun y => Or.inl (e0.mpr y)) (fun y => Or.inr (e1.mpr y)))]
          by_cases c4 : gon g' (B.1 (2 * m + 1))
          · rw [if_pos c4, if_pos (e1.mpr c4)]
          · rw [if_neg c4, if_neg (fun y => c4 (e1.mp y))]
        · rw [if_neg c3, if_neg (fun y => c3 (y.elim (fun y => Or.inl (e0.mp y)) (fun y => Or.inr (e1.mp y))))]
theorem bruns_ext {WS LS WS' LS' R R' g g' : Nat → Int} {F : Nat} {B : BB} {N : Nat} (h : ∀ m, m < N → WS m = WS' m ∧ LS m = LS' m ∧ R m = R' m) (h4 : ∀ p, p < 16 → g p = g' p) : ∀ k, k ≤ N → bruns WS LS F R g B k = bruns WS' LS' F R' g' B k := by
  intro k
  induction k with
  | zero => intro _; rfl
  | succ k ih =>
    intro hk
    obtain ⟨a, b, c⟩ := h k (by omega)
    show bstep _ _ _ _ _ k _ = bstep _ _ _ _ _ k _
    rw [ih (by omega), bstep_ext a b c h4]
theorem tstp_ext {WS LS WS' LS' g g' : Nat → Int} {F m : Nat} {n : Int} {rat : Nat → Int} {hero : Int} {s : BB × (Nat → Int) × Int} (h1 : WS m = WS' m) (h2 : LS m = LS' m) (h4 : ∀ p, p < 16 → g p = g' p) : tstp WS LS F g n rat hero m s = tstp WS' LS' F g' n rat hero m s := by
  have e : ∀ R B, bstep WS LS F R g m B = bstep WS' LS' F R g' m B := fun R B => bstep_ext h1 h2 rfl h4
  unfold tstp
  rw [e]
  by_cases c : bplay n (bstep WS' LS' F s.2.1 g' m s.1) m = true
  · rw [if_pos c, if_pos c, e]
  · rw [if_neg c, if_neg c]
theorem favs_ext {rat rat' : Nat → Int} (h : ∀ p, p < 16 → rat p = rat' p) {a b : Int} (ha : a < 16) (hb : b < 16) : favs rat a b = favs rat' a b := by
  unfold favs
  rw [h a.toNat (by omega), h b.toNat (by omega)]
theorem trun_ext {WS LS WS' LS' g g' : Nat → Int} {F N : Nat} {n : Int} {rat : Nat → Int} {hero : Int} {s : BB × (Nat → Int) × Int} (h : ∀ m, m < N → WS m = WS' m ∧ LS m = LS' m) (h4 : ∀ p, p < 16 → g p = g' p) : ∀ k, k ≤ N → trun WS LS F g n rat hero s k = trun WS' LS' F g' n rat hero s k := by
  intro k
  induction k with
  | zero => intro _; rfl
  | succ k ih =>
    intro hk
    obtain ⟨a, b⟩ := h k (by omega)
    show tstp _ _ _ _ _ _ _ k _ = tstp _ _ _ _ _ _ _ k _
    rw [ih (by omega), tstp_ext a b h4]
/-- the ways as the reference holds them -/
def planM (W : PW) (z x : Nat) : Prop := (W 0 5 = (z : Int) ∧ W 0 6 = (tR z : Int) ∧ W 0 7 = (tF z : Int)) ∧ (∀ m, m < tF z → (W 5 m = tPT z m ∧ W 6 m = tr (tz_round z) m ∧ W 7 m = tr (tz_index z) m) ∧ (W 8 m = tr (tz_wt z) m ∧ W 9 m = tr (tz_wd z) m) ∧ W 10 m = tr (tz_lt z x) m ∧ W 11 m = tr (tz_ld z x) m) ∧ ∀ s, s < z → W 15 s = tSD z s
/-- what the reference knows of a tournament -/
def knows (W : PW) (n : Nat) (R g : Nat → Int) : Prop := W 1 0 = (n : Int) ∧ (∀ m, m < 31 → W 1 (19 + m) = R m) ∧ ∀ p, p < 16 → W 1 (50 + p) = g p
section LOOK
variable {W : PW} {z x n : Nat} {R g rat : Nat → Int} {hero : Int} {B0 : BB}
theorem plan_ways (hc : cfg z x) (hp : planM W z x) : ∀ m, m < tF z → (won (tF z) (W 8) (W 9) m ∧ won (tF z) (W 10) (W 11) m) ∧ wsx (W 8) (W 9) m = tWS z m ∧ wsx (W 10) (W 11) m = tLS z x m := fun m hm => by
  obtain ⟨⟨t1, t2⟩, t3, t4⟩ := tb_ways hc m hm
  obtain ⟨-, ⟨e8, e9⟩, e10, e11⟩ := hp.2.1 m hm
  unfold won wsx at *
  rw [e8, e9, e10, e11, t2, t4]
  exact ⟨⟨t1, t3⟩, rfl, rfl⟩
theorem mcF_plan (hc : cfg z x) (hp : planM W z x) : mcF W (tF z) := ⟨hp.1.2.2, (cfg_F hc).2.2.1⟩
/-- with the results tried, or what stands there -/
theorem ok_plan (hc : cfg z x) (hp : planM W z x) (hT : ∀ m, m < tF z → W 21 m = -6 ∨ W 21 m = 0 ∨ W 21 m = 1) : all_ok W (tF z) z := by
  obtain ⟨f1, f2, f3, f4⟩ := cfg_F hc
  have z16 : z ≤ 16 := by omega
  refine ⟨⟨mcF_plan hc hp, fun m hm => ⟨?_, hT m hm⟩, by omega⟩, hp.1.1, z16, fun k hk => ?_⟩
  · obtain ⟨⟨w1, w2⟩, -, -⟩ := plan_ways hc hp m hm
    unfold won at w1 w2
    unfold wok
    exact ⟨by omega, by omega⟩
  · rw [hp.2.2 k hk]
    have := (tb_seed hc k hk).1
    omega
/-- before the first match, both sides the same -/
theorem rel_beg (hc : cfg z x) (hp : planM W z x) (hn : W 1 0 = (n : Int)) (h0 : gbeg z n B0) : rel (tF z) 0 B0 (rbeg W (tF z) z) := by
  obtain ⟨f1, f2, f3, f4⟩ := cfg_F hc
  refine ⟨fun s hs => ?_, fun m hm => absurd hm (Nat.not_lt_zero m), fun m _ hm => (h0.2 m hm).1, fun m hm => absurd hm (Nat.not_lt_zero m)⟩
  rw [h0.1 s hs]
  show mixf z (inim W) (mixf (2 * tF z) (fun _ => -6) (W 17)) s = _
  unfold mixf
  by_cases c : s < z
  · rw [if_pos c, if_pos c]
    unfold inim tini
    rw [hp.2.2 s c, hn]
  · rw [if_neg c, if_neg c, if_pos hs]
/-- the matches as they stand -/
theorem rel_look (hc : cfg z x) (hp : planM W z x) (hn2 : 1 ≤ n ∧ n ≤ z) (hn : W 1 0 = (n : Int)) (hg : ∀ p, p < 16 → W 1 (50 + p) = g p) (hR : res3 R) (hT : ∀ m, m < tF z → W 21 m = R m) (h0 : gbeg z n B0) {fav : Int} : rel (tF z) (tF z) (grun z x (rlive R g) B0 (tF z)) (tried0 W (tF z) z 0 fav) := by
  obtain ⟨f1, f2, f3, f4⟩ := cfg_F hc
  have pw := plan_ways hc hp
  have hT3 : ∀ m, m < tF z → W 21 m = -6 ∨ W 21 m = 0 ∨ W 21 m = 1 := fun m hm => by rw [hT m hm]; exact hR m (by omega)
  have ex : ∀ k, k ≤ tF z → bruns (wsx (W 8) (W 9)) (wsx (W 10) (W 11)) (tF z) R g B0 k = grun z x (rlive R g) B0 k := fun k hk => by
    rw [← bruns_grun]
    exact bruns_ext (N := tF z) (fun m hm => ⟨(pw m hm).2.1, (pw m hm).2.2, rfl⟩) (fun _ _ => rfl) k hk
  have rr := rel_runs (R := R) (g := g) (T := W 21) (gm := fun p => W 1 (50 + p)) (Rt := fun p => W 1 (3 + p)) (fav := fav) f3 (rel_beg hc hp hn h0) (fun m hm => (pw m hm).1) (fun m hm => ⟨hT m hm, hR m (by omega)⟩) hg (sall_rbeg (ok_plan hc hp hT3)) (fun k hk => by
    rw [ex k (by omega)]
    obtain ⟨ps, hj⟩ := jJ_run (rl := rlive R g) hc (rl_ok hR) hn2.2 h0 k (by omega)
    exact (g_side hc (rl_ok hR) hn2.1 (by omega) (gS_run hc (rl_ok hR) (gS_beg hc h0) k (by omega)) hj).2.2.1 hk) (tF z) (Nat.le_refl _)
  rw [ex _ (Nat.le_refl _)] at rr
  exact rr
/-- the matches of a trial -/
theorem rel_tri (hc : cfg z x) (hp : planM W z x) (hn2 : 1 ≤ n ∧ n ≤ z) (hn : W 1 0 = (n : Int)) (hg : ∀ p, p < 16 → W 1 (50 + p) = g p) (hr : ∀ p, p < 16 → W 1 (3 + p) = rat p) (hR : res3 R) (hT : ∀ m, m < tF z → W 21 m = R m) (h0 : gbeg z n B0) : rel (tF z) (tF z) (grun z x (rtri R g rat hero) B0 (tF z)) (tried0 W (tF z) z 1 hero) := by
  obtain ⟨f1, f2, f3, f4⟩ := cfg_F hc
  have pw := plan_ways hc hp
  have z16 : z ≤ 16 := by omega
  have D0 : jD z n B0 := by
    obtain ⟨ps, hj⟩ := jJ_beg hc hn2.2 h0
    exact hj.2.2.2.1
  have ex : ∀ k, k ≤ tF z → (trun (wsx (W 8) (W 9)) (wsx (W 10) (W 11)) (tF z) g n rat hero (B0, R, 0) k).1 = grun z x (rtri R g rat hero) B0 k := fun k hk => by
    rw [trun_ext (WS' := tWS z) (LS' := tLS z x) (g' := g) (N := tF z) (fun m hm => ⟨(pw m hm).2.1, (pw m hm).2.2⟩) (fun _ _ => rfl) k hk]
    exact (trun_grun (s := (B0, R, 0)) hc (by omega) hR D0 (fun _ => rfl) k hk).1
  have rr := rel_trun (n := n) (s := (B0, R, 0)) (hero := hero) (g := g) (rat := rat) (T := W 21) (gm := fun p => W 1 (50 + p)) (Rt := fun p => W 1 (3 + p)) f3 (rel_beg hc hp hn h0) (fun m hm => (pw m hm).1) (fun m hm => ⟨hT m hm, hR m (by omega)⟩) hg hr (by omega) (fun k hk => by
    rw [ex k (by omega)]
    obtain ⟨ps, hj⟩ := jJ_run (rl := rtri R g rat hero) hc (rt_ok hR) hn2.2 h0 k (by omega)
    exact g_side hc (rt_ok hR) hn2.1 hk (gS_run hc (rt_ok hR) (gS_beg hc h0) k (by omega)) hj) (tF z) (Nat.le_refl _)
  rw [ex _ (Nat.le_refl _)] at rr
  exact rr
/-- the course of a rule hangs together, and everyone has a place to sit -/
theorem fin_run {rl : RUL} (hc : cfg z x) (hr : rlok rl) (hn : 2 ≤ n ∧ n ≤ z) (h0 : gbeg z n B0) : ∃ ps, fin z x n rl (grun z x rl B0 (tF z)) ps := by
  obtain ⟨ps, hj⟩ := jJ_run (rl := rl) hc hr hn.2 h0 (tF z) (Nat.le_refl _)
  exact ⟨ps, hc, hr, hn, gS_run hc hr (gS_beg hc h0) _ (Nat.le_refl _), hj⟩
/-- the reference's memory behind the laying of all matches -/
def laid (W : PW) (z : Nat) (a b : Int) : PW := r4 (moded (noted W) a b) (tried0 (noted W) (tF z) z a b)
theorem laid_ne {a b : Int} {r : Nat} (h0 : r ≠ 0) (h1 : r ≠ 17) (h2 : r ≠ 18) (h3 : r ≠ 19) (h4 : r ≠ 20) (h5 : r ≠ 21) : laid W z a b r = W r := by
  unfold laid
  rw [r4_ne h1 h4 h2 h3]
  unfold moded noted
  rw [upd_ne h0, upd_ne h0, row_ne h5]
theorem laid_0 {a b : Int} {j : Nat} (h1 : j ≠ 25) (h2 : j ≠ 26) : laid W z a b 0 j = W 0 j := by
  show pm_upd (pm_upd (noted W) 0 25 a) 0 26 b 0 j = _
  rw [pm_upd_eq, if_neg (fun y => h2 y.2), pm_upd_eq, if_neg (fun y => h1 y.2)]
  rfl
theorem laid_21 {a b : Int} {m : Nat} (hm : m < 31) : laid W z a b 21 m = W 1 (19 + m) := by
  show noted W 21 m = _
  unfold noted
  rw [row_eq]
  unfold mixf
  rw [if_pos hm]
theorem nted_ne {r : Nat} (h : r ≠ 21) : noted W r = W r := by
  unfold noted
  exact row_ne h
theorem nted_21 {m : Nat} (hm : m < 31) : noted W 21 m = W 1 (19 + m) := by
  unfold noted
  rw [row_eq]
  unfold mixf
  rw [if_pos hm]
theorem plan_same {W' : PW} (h : planM W z x) (h0 : ∀ j, j = 5 ∨ j = 6 ∨ j = 7 → W' 0 j = W 0 j) (h1 : ∀ r, 5 ≤ r ∧ r ≤ 11 ∨ r = 15 → W' r = W r) : planM W' z x := by
  obtain ⟨⟨a1, a2, a3⟩, b, c⟩ := h
  refine ⟨⟨by rw [h0 5 (by omega)]; exact a1, by rw [h0 6 (by omega)]; exact a2, by rw [h0 7 (by omega)]; exact a3⟩, fun m hm => ?_, fun s hs => by rw [h1 15 (by omega)]; exact c s hs⟩
  rw [h1 5 (by omega), h1 6 (by omega), h1 7 (by omega), h1 8 (by omega), h1 9 (by omega), h1 10 (by omega), h1 11 (by omega)]
  exact b m hm
theorem laid_plan {a b : Int} (h : planM W z x) : planM (laid W z a b) z x := plan_same h (fun j hj => laid_0 (by omega) (by omega)) (fun r hr => laid_ne (by omega) (by omega) (by omega) (by omega) (by omega) (by omega))
theorem noted_plan (h : planM W z x) : planM (noted W) z x := plan_same h (fun j hj => by rw [nted_ne (by decide)]) (fun r hr => nted_ne (by omega))
theorem laid_look {a b : Int} {F : Nat} (hF : F = tF z) : looked W F z = laid W z 0 (-6) := by
  subst hF
  rfl
/-- what is laid by a rule, as the class tells it -/
theorem vw_laid {rl : RUL} {B : BB} {ps : Nat → Nat} {a b : Int} (hp : planM W z x) (hf : fin z x n rl B ps) (hr : rel (tF z) (tF z) B (tried0 (noted W) (tF z) z a b)) : vw (laid W z a b) z x n rl B ps := by
  have lp := laid_plan (a := a) (b := b) hp
  exact ⟨hf, hr, mcF_plan hf.1 lp, fun m hm => ⟨(lp.2.1 m hm).1.1, (lp.2.1 m hm).1.2.1⟩⟩
theorem look_vw (hc : cfg z x) (hp : planM W z x) (hn2 : 2 ≤ n ∧ n ≤ z) (hk : knows W n R g) (hR : res3 R) (h0 : gbeg z n B0) : ∃ ps, vw (laid W z 0 (-6)) z x n (rlive R g) (grun z x (rlive R g) B0 (tF z)) ps := by
  obtain ⟨f1, f2, f3, f4⟩ := cfg_F hc
  obtain ⟨ps, hf⟩ := fin_run hc (rl_ok (g := g) hR) hn2 h0
  have n1 : noted W 1 = W 1 := nted_ne (by decide)
  exact ⟨ps, vw_laid hp hf (rel_look hc (noted_plan hp) ⟨by omega, hn2.2⟩ (by rw [n1]; exact hk.1) (fun p q => by rw [n1]; exact hk.2.2 p q) hR (fun m hm => by rw [nted_21 (by omega)]; exact hk.2.1 m (by omega)) h0)⟩
theorem tri_vw (hc : cfg z x) (hp : planM W z x) (hn2 : 2 ≤ n ∧ n ≤ z) (hk : knows W n R g) (hr : ∀ p, p < 16 → W 1 (3 + p) = rat p) (hR : res3 R) (h0 : gbeg z n B0) : ∃ ps, vw (laid W z 1 hero) z x n (rtri R g rat hero) (grun z x (rtri R g rat hero) B0 (tF z)) ps := by
  obtain ⟨f1, f2, f3, f4⟩ := cfg_F hc
  obtain ⟨ps, hf⟩ := fin_run hc (rt_ok (g := g) (rat := rat) (hero := hero) hR) hn2 h0
  have n1 : noted W 1 = W 1 := nted_ne (by decide)
  exact ⟨ps, vw_laid hp hf (rel_tri hc (noted_plan hp) ⟨by omega, hn2.2⟩ (by rw [n1]; exact hk.1) (fun p q => by rw [n1]; exact hk.2.2 p q) (fun p q => by rw [n1]; exact hr p q) hR (fun m hm => by rw [nted_21 (by omega)]; exact hk.2.1 m (by omega)) h0)⟩
end LOOK
