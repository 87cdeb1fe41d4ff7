/-! both sides: a player, ratings -/
section PL3
variable {G K : PW} {n x L : Nat}
theorem way_of {K : PW} {z x : Nat} (hc : cfg z x) (hp : planM K z x) : way_ok K (tF z) := by
  obtain ⟨f1, f2, f3, f4⟩ := cfg_F hc
  refine ⟨mcF_plan hc hp, f2, fun m hm => ?_⟩
  obtain ⟨⟨w1, w2⟩, e1, e2⟩ := plan_ways hc hp m (by omega)
  have tw := tb_win hc m hm
  have r := (tb_round hc m (by omega)).1
  rw [(hp.2.1 m (by omega)).1.2.1]
  unfold won at w1 w2
  have n8 : K 8 m ≠ -6 := fun y => by
    unfold wsx at e1
    rw [if_pos y] at e1
    omega
  have w1 := w1.resolve_left n8
  unfold wok
  exact ⟨⟨by omega, by omega⟩, by omega, r⟩
theorem tR_rg {z x : Nat} (h : cfg z x) : 2 ≤ tR z ∧ tR z ≤ 4 := by
  rcases h.1 with e | e | e
  · subst e
    decide
  · subst e
    decide
  · subst e
    decide
theorem b_player (h : REL G K) {a w : Int} : both 75 142 [.inl a, .inl w] G K := by
  obtain ⟨n, x, L, t, l⟩ := h.1
  obtain ⟨lk, se, pl, ps, v⟩ := REL_look t l
  have lo := livs_ok t l
  obtain ⟨hc, g1, g2, g3, g4, g5⟩ := tz_facts t.1 t.2.1
  have k0 := t.2.2.2.2.1.1
  have k1 := t.2.2.2.2.1.2.1
  obtain ⟨r1, r2, r3, r4, r5⟩ := lkd_r (K := K) (n := n) (x := x) (a := 0) (b := -6) k0 k1
  have r1 : lkd K n x 1 = K 1 := r1
  have R2 := tR_rg hc
  have n16 := t.1.2
  have outs : 0 ≤ a ∧ a < (n : Int) → mout (lkd K n x) (tF (tz n)) a = -6 ∨ (1 ≤ mout (lkd K n x) (tF (tz n)) a ∧ mout (lkd K n x) (tF (tz n)) a ≤ 2 * (tR (tz n) : Int) - 2) := fun ha => by
    obtain ⟨p, rfl⟩ : ∃ p : Nat, a = (p : Int) := ⟨a.toNat, by omega⟩
    rw [v_out v (show p < n by omega)]
    by_cases c : 64 ≤ ps p ∧ (ps p - 64) / 2 < tF (tz n) - 2
    · rw [if_pos c]
      exact Or.inr (f_end v.1 (show p < n by omega) c).2
    · rw [if_neg c]
      exact Or.inl rfl
  have nxt : 0 ≤ a ∧ a < (n : Int) → ¬ mhas (lkd K n x) (tF (tz n)) a = true → ¬ mnx (lkd K n x) (tF (tz n)) a = -6 := fun ha hh => by
    obtain ⟨p, rfl⟩ : ∃ p : Nat, a = (p : Int) := ⟨a.toNat, by omega⟩
    have hp : p < n := by omega
    have q : ps p < 64 := Decidable.byContradiction (fun y => hh ((v_has v hp).mpr (by omega)))
    rw [v_next v, ((nx_of v.1 hp).1 q).1]
    omega
  have mp := m_player (x := a) (w := w) (sz := tz n) (R := tR (tz n)) k0 lk se (way_of hc pl) pl.1.1 g2 pl.1.2.1 R2 outs nxt
  have cp := c_player (x := a) (w := w) lo
  by_cases c : 0 ≤ a ∧ a < (n : Int)
  · rw [if_pos c] at mp cp
    refine ⟨_, _, mplayerM (lkd K n x) (tF (tz n)) (tz n) a w, cp, ?_, ?_⟩
    · rw [mp]
      obtain ⟨p, rfl⟩ : ∃ p : Nat, a = (p : Int) := ⟨a.toNat, by omega⟩
      have hp : p < n := by omega
      obtain ⟨x1, x2⟩ := nx_of v.1 hp
      have hsp := v_has v hp
      obtain ⟨ch1, ch2⟩ := f_champ v.1 hp
      have gg : lkd K n x 1 (50 + p) = G 15 p := by
        rw [r1, t.2.2.2.2.2.2.2.1 p (by omega)]
        exact (l.2.2.2.2.1 p (by omega)).symm
      have g01 : G 15 p = 0 ∨ G 15 p = 1 := by
        rw [l.2.2.2.2.1 p (by omega)]
        exact (eR_rg t.2.2.1 L (Nat.le_refl _)).2 p
      have ra : lkd K n x 1 (3 + p) = G 1 p := by
        rw [r1]
        exact t.2.2.2.2.2.1 p (by omega)
      have e17 : G 17 = (pm_rows G 3).2.1 := rfl
      have en : cnext G (tF (tz n)) (p : Int) = ffrom (bnext (pm_rows G 3) (p : Int)) (tF (tz n)) 0 := rfl
      have ec : cchamp G (tF (tz n)) = bch (tF (tz n)) (pm_rows G 3) := rfl
      have eo : couts G (tF (tz n)) (p : Int) = if 64 ≤ ps p ∧ (ps p - 64) / 2 < tF (tz n) - 2 then (((ps p - 64) / 2 : Nat) : Int) else -6 := by
        rw [← f_out v.1 hp]
        refine ffrom_congr _ _ (fun m _ hm => ?_)
        have e5 : G 5 m = tPT (tz n) m := (l.1.2.1 m (by omega)).1
        rw [e5]
      have nx : mnx (lkd K n x) (tF (tz n)) (p : Int) = ffrom (bnext (pm_rows G 3) (p : Int)) (tF (tz n)) 0 := v_next v
      have hro := v_out v hp
      -- where the player has ended, if it has
      have pl6 : mplace (lkd K n x) (tF (tz n)) (tz n) (tR (tz n)) (p : Int) 0 = cplace G (tF (tz n)) 10 (p : Int) ∧ mplace (lkd K n x) (tF (tz n)) (tz n) (tR (tz n)) (p : Int) 1 = cplace G (tF (tz n)) 11 (p : Int) := by
        unfold mplace cplace
        rw [(v_champ v).1, (v_champ v).2, en, ec, eo, hro]
        by_cases d : ps p < 64
        · have n1 : ¬ bch (tF (tz n)) (pm_rows G 3) = (p : Int) := fun y => by have := (ch1.mp y).1; omega
          have n2 : ¬ bsec (tF (tz n)) (pm_rows G 3) = (p : Int) := fun y => by have := (ch2.mp y).1; omega
          obtain ⟨x3, x4⟩ := x1 d
          rw [if_neg n1, if_neg n2, if_neg (show ¬ (64 ≤ ps p ∧ (ps p - 64) / 2 < tF (tz n) - 2) by omega), if_pos rfl, x3, if_neg (by omega), if_neg n1, if_neg n2, if_pos rfl, if_neg (by omega)]
          exact ⟨rfl, rfl⟩
        · have x3 := x2 (by omega)
          by_cases d2 : (ps p - 64) / 2 < tF (tz n) - 2
          · have n1 : ¬ bch (tF (tz n)) (pm_rows G 3) = (p : Int) := fun y => by have := (ch1.mp y).1; omega
            have n2 : ¬ bsec (tF (tz n)) (pm_rows G 3) = (p : Int) := fun y => by have := (ch2.mp y).1; omega
            have d3 : 64 ≤ ps p ∧ (ps p - 64) / 2 < tF (tz n) - 2 := ⟨by omega, d2⟩
            obtain ⟨e1, e2, e3⟩ := f_end v.1 hp d3
            obtain ⟨r, hr⟩ : ∃ r : Nat, tr (tz_round (tz n)) ((ps p - 64) / 2) = (r : Int) := ⟨(tr (tz_round (tz n)) ((ps p - 64) / 2)).toNat, by omega⟩
            obtain ⟨b1, b2⟩ := l.1.2.2.2 ((ps p - 64) / 2) r (by omega) e1 hr
            have b1 : G 10 ((ps p - 64) / 2) = _ := b1
            have b2 : G 11 ((ps p - 64) / 2) = _ := b2
            have sm : psm (pairs (lkd K n x) (tF (tz n)) (tz n)).2 (2 * tR (tz n) - 2 - r) (r + 1) = psm (nbk (tz n) x n) (2 * tR (tz n) - 2 - r) (r + 1) := psm_same _ _ (fun j j1 j2 => pairs_nbk hc pl (by rw [r1]; exact k0) (by omega) (by omega))
            have sr := pairs_nbk hc pl (n := n) (by rw [r1]; exact k0) (k := r) (by omega) (by omega)
            rw [if_neg n1, if_neg n2, if_pos d3, hr, if_neg (by omega), if_pos rfl, x3, if_pos rfl, if_pos d3, if_neg (by omega), Int.toNat_natCast, Int.toNat_natCast, b1, b2, sm, sr, if_neg n1, if_neg n2, if_neg (by omega), if_neg (by decide), if_pos rfl, if_neg (by omega)]
            exact ⟨rfl, rfl⟩
          · have d3 : ¬ (64 ≤ ps p ∧ (ps p - 64) / 2 < tF (tz n) - 2) := fun y => d2 y.2
            by_cases d4 : bch (tF (tz n)) (pm_rows G 3) = (p : Int)
            · rw [if_pos d4, x3, if_pos rfl, if_neg d3, if_pos rfl, if_pos d4, if_pos d4, if_pos rfl, if_pos rfl]
              exact ⟨rfl, rfl⟩
            · have d5 : bsec (tF (tz n)) (pm_rows G 3) = (p : Int) := ch2.mpr ⟨by omega, fun y => d4 (ch1.mpr ⟨by omega, y⟩)⟩
              rw [if_neg d4, if_pos d5, x3, if_pos rfl, if_neg d3, if_pos rfl, if_neg d4, if_neg d4, if_pos d5, if_pos rfl, if_pos rfl]
              exact ⟨rfl, rfl⟩
      have w4 : (if mhas (lkd K n x) (tF (tz n)) (p : Int) = true then (3 : Int) else lkd K n x 5 (mnx (lkd K n x) (tF (tz n)) (p : Int)).toNat) = if cnext G (tF (tz n)) (p : Int) = -6 then 3 else pm_atv pm_sC G 5 (cnext G (tF (tz n)) (p : Int)) := by
        rw [nx, en]
        by_cases d : ps p < 64
        · obtain ⟨x3, x4⟩ := x1 d
          have e5 : G 5 (ps p / 2) = tPT (tz n) (ps p / 2) := (l.1.2.1 _ x4).1
          rw [if_neg (fun y => by have := hsp.mp y; omega), x3, if_neg (by omega), atv_in lenC_5 (by omega) (by omega), Int.toNat_natCast, e5]
          exact (v.2.2.2 _ x4).1
        · rw [if_pos (hsp.mpr (by omega)), x2 (by omega), if_pos rfl]
      have w5 : (if mhas (lkd K n x) (tF (tz n)) (p : Int) = true then (-6 : Int) else mnx (lkd K n x) (tF (tz n)) (p : Int)) = cnext G (tF (tz n)) (p : Int) := by
        rw [nx, en]
        by_cases d : ps p < 64
        · rw [if_neg (fun y => by have := hsp.mp y; omega)]
        · rw [if_pos (hsp.mpr (by omega)), x2 (by omega)]
      have w3 : (if G 15 p = 1 then (1 : Int) else 0) = G 15 p := by
        rcases g01 with q | q
        · rw [q]; rfl
        · rw [q]; rfl
      have w2 : cnt (fun m => decide (G 17 m ≠ 1 ∧ bl (pm_rows G 3) m = (p : Int))) (tF (tz n)) = cnt (mlost (lkd K n x) (p : Int)) (tF (tz n)) := (v_lost v (show p < 16 by omega)).symm
      have w1 : cnt (fun m => decide (G 17 m ≠ 1 ∧ bw (pm_rows G 3) m = (p : Int))) (tF (tz n)) = cnt (mwon (lkd K n x) (p : Int)) (tF (tz n)) := (v_wins v).symm
      have w8 : cnt (fun m => bin (pm_rows G 3) (p : Int) m && decide (G 17 m = 3)) (tF (tz n)) = cnt (mplay (lkd K n x) (p : Int)) (tF (tz n)) := (v_play v).symm
      unfold mplayer cplayer
      rw [Int.toNat_natCast, ra, gg, w4, w5, w3, w2, w1, w8, pl6.1, pl6.2]
    · have rl := REL_lk h k0 k1
      unfold mplayerM
      by_cases d : w = 6 ∨ w = 7
      · rw [if_pos d]
        unfold mplaceM
        by_cases d2 : mchamp (lkd K n x) (tF (tz n)) = a ∨ msecond (lkd K n x) (tF (tz n)) = a ∨ mout (lkd K n x) (tF (tz n)) a = -6
        · rw [if_pos d2]
          exact rl
        · rw [if_neg d2]
          exact REL_M rl (p2_ne (by decide) (by decide)) (p2_ne (by decide) (by decide)) (p2_ne (by decide) (by decide)) (p2_ne (by decide) (by decide)) (by rw [p2_ne (by decide) (by decide)])
      · rw [if_neg d]
        exact rl
  · rw [if_neg c] at mp cp
    exact ⟨_, _, _, cp, mp, h⟩
theorem b_rate (h : REL G K) {a r : Int} : both 71 135 [.inl a, .inl r] G K := by
  obtain ⟨n, x, L, t, l⟩ := h.1
  have k0 := t.2.2.2.2.1.1
  have n16 := t.1.2
  have mr := m_rate (x := a) (r := r) (G := K) (by omega)
  have cr := c_rate (x := a) (r := r) (G := G)
  rw [k0] at mr
  rw [l.1.1.1] at cr
  by_cases c : 0 ≤ a ∧ a < (n : Int)
  · rw [if_pos c] at mr cr
    by_cases c1 : 0 ≤ r ∧ r ≤ 9999
    · rw [if_pos c1] at mr cr
      have e : K 1 (3 + a.toNat) = pm_atv pm_sC G 1 a := by
        rw [atv_in lenC_1 (by omega) (by omega)]
        exact t.2.2.2.2.2.1 a.toNat (by omega)
      rw [e] at mr
      refine ⟨_, _, _, cr, mr, ?_⟩
      have sg : pm_stv pm_sC G 1 a r 1 = fup (G 1) a.toNat r := by
        rw [stv_eq, lenC_1, stf_in (by omega) (by omega)]
      have sn : ∀ q, q ≠ 1 → pm_stv pm_sC G 1 a r q = G q := fun q hq => stv_ne hq
      have kn : ∀ q, q ≠ 1 → pm_upd K 1 (3 + a.toNat) r q = K q := fun q hq => upd_ne hq
      have k1 : pm_upd K 1 (3 + a.toNat) r 1 = fup (K 1) (3 + a.toNat) r := upd_eq
      obtain ⟨t1, t2, t3, t4, t5, t6, t7, t8, t9⟩ := t
      obtain ⟨p1, p2, hL, hR, hg, hb, B0, b1, b2⟩ := l
      obtain ⟨-, ⟨y1, y2⟩, s0, s1, N, m1, m2, m3, m4, m5, m6⟩ := h
      have r3 : pm_rows (pm_stv pm_sC G 1 a r) 3 = pm_rows G 3 := by
        unfold pm_rows
        rw [sn 16 (by decide), sn 17 (by decide), sn 18 (by decide)]
      refine ⟨⟨n, x, L, ⟨t1, t2, ?_, fun p hp => ?_, ?_, fun p hp => ?_, fun m hm => ?_, fun p hp => ?_, fun j hj => ?_⟩, planC_same p1 (fun r a b => sn r (by omega)), planC_same p2 (fun r a b => sn r (by omega)), ?_, fun m hm => ?_, fun p hp => ?_, ?_, B0, b1, ?_⟩, ⟨?_, ?_⟩, ?_, ?_, N, m1, ?_, ?_, fun j hj => ?_, fun j hj => ?_, ?_⟩
      · rw [sn 36 (by decide)]; exact t3
      · rw [sg]
        unfold fup
        by_cases e : p = a.toNat
        · rw [if_pos e]; exact c1
        · rw [if_neg e]; exact t4 p hp
      · rw [k1, fup_ne (by omega), fup_ne (by omega), fup_ne (by omega)]; exact t5
      · rw [k1, sg]
        unfold fup
        by_cases e : p = a.toNat
        · rw [if_pos e, if_pos (by omega)]
        · rw [if_neg e, if_neg (by omega)]; exact t6 p hp
      · rw [k1, fup_ne (by omega), sn 36 (by decide)]; exact t7 m hm
      · rw [k1, fup_ne (by omega), sn 36 (by decide)]; exact t8 p hp
      · rw [k1, fup_ne (by omega), sn 36 (by decide)]; exact t9 j hj
      · rw [sn 35 (by decide)]; exact hL
      · rw [sn 14 (by decide), sn 36 (by decide)]; exact hR m hm
      · rw [sn 15 (by decide), sn 36 (by decide)]; exact hg p hp
      · rw [r3]; exact hb
      · rw [r3, sn 14 (by decide), sn 15 (by decide)]; exact b2
      · rw [sn 13 (by decide)]; exact y1
      · rw [sn 29 (by decide)]; exact y2
      · unfold slo at s0 ⊢
        rw [sn 39 (by decide), sn (39 + 1) (by decide), sn (39 + 2) (by decide), sn (39 + 3) (by decide), kn 3 (by decide), kn 2 (by decide)]
        exact s0
      · unfold slo at s1 ⊢
        rw [sn 43 (by decide), sn (43 + 1) (by decide), sn (43 + 2) (by decide), sn (43 + 3) (by decide), kn 3 (by decide), kn 2 (by decide)]
        exact s1
      · rw [sn 37 (by decide)]; exact m2
      · rw [kn 0 (by decide)]; exact m3
      · rw [sn 38 (by decide), kn 4 (by decide)]; exact m4 j hj
      · rw [sn 38 (by decide), kn 4 (by decide)]; exact m5 j hj
      · rw [sn 37 (by decide)]; exact m6
    · rw [if_neg c1] at mr cr
      exact ⟨_, _, _, cr, mr, h⟩
  · rw [if_neg c] at mr cr
    exact ⟨_, _, _, cr, mr, h⟩
end PL3
