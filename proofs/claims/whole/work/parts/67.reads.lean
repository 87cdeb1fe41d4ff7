/-! both sides of the calls that tell -/
section TR
variable {G G' K K' : PW} {n x L : Nat}
theorem REL_M (h : REL G K) (h1 : K' 1 = K 1) (h2 : K' 2 = K 2) (h3 : K' 3 = K 3) (h4 : K' 4 = K 4) (h0 : K' 0 4 = K 0 4) : REL G K' := by
  obtain ⟨a, b, c, d, e⟩ := h
  unfold REL slo pads at *
  rw [h1, h2, h3, h4, h0]
  exact ⟨a, b, c, d, e⟩
theorem livs_same (h : livs G n x L) (he : ∀ r, r ≠ 2 → (r < 30 ∨ 34 < r) → r ≠ 37 → G' r = G r) : livs G' n x L := by
  obtain ⟨p1, p2, hL, hR, hg, hb, B0, b1, b2⟩ := h
  have r3 : pm_rows G' 3 = pm_rows G 3 := by
    unfold pm_rows
    rw [he 16 (by decide) (by decide) (by decide), he 17 (by decide) (by decide) (by decide), he 18 (by decide) (by decide) (by decide)]
  refine ⟨planC_same p1 (fun r a b => he r (by omega) (by omega) (by omega)), planC_same p2 (fun r a b => he r (by omega) (by omega) (by omega)), ?_, fun m hm => ?_, fun p hp => ?_, ?_, B0, b1, ?_⟩
  · rw [he 35 (by decide) (by decide) (by decide)]; exact hL
  · rw [he 14 (by decide) (by decide) (by decide), he 36 (by decide) (by decide) (by decide)]; exact hR m hm
  · rw [he 15 (by decide) (by decide) (by decide), he 36 (by decide) (by decide) (by decide)]; exact hg p hp
  · rw [r3]; exact hb
  · rw [r3, he 14 (by decide) (by decide) (by decide), he 15 (by decide) (by decide) (by decide)]; exact b2
theorem slo_same {a s : Nat} (h : slo G K a s) (he : ∀ r, a ≤ r → r ≤ a + 3 → G' r = G r) : slo G' K a s := by
  unfold slo at *
  rw [he a (by omega) (by omega), he (a + 1) (by omega) (by omega), he (a + 2) (by omega) (by omega), he (a + 3) (by omega) (by omega)]
  exact h
/-- what only the trials and the reader use may change -/
theorem REL_C (h : REL G K) (he : ∀ r, r ≠ 2 → (r < 30 ∨ 34 < r) → r ≠ 37 → G' r = G r) (h1 : G' 37 1 = G 37 1) (h3 : 0 ≤ G' 37 3 ∧ G' 37 3 ≤ 30) : REL G' K := by
  obtain ⟨⟨n, x, L, t, l⟩, ⟨y1, y2⟩, s0, s1, N, n1, n2, n3, n4, n5, n6⟩ := h
  refine ⟨⟨n, x, L, ?_, livs_same l he⟩, ⟨?_, ?_⟩, slo_same s0 (fun r a b => he r (by omega) (by omega) (by omega)), slo_same s1 (fun r a b => he r (by omega) (by omega) (by omega)), N, n1, ?_, n3, fun j hj => ?_, fun j hj => ?_, h3⟩
  · rw [he 1 (by decide) (by decide) (by decide), he 36 (by decide) (by decide) (by decide)]; exact t
  · rw [he 13 (by decide) (by decide) (by decide)]; exact y1
  · rw [he 29 (by decide) (by decide) (by decide)]; exact y2
  · rw [h1]; exact n2
  · rw [he 38 (by decide) (by decide) (by decide)]; exact n4 j hj
  · rw [he 38 (by decide) (by decide) (by decide)]; exact n5 j hj
/-- the reference has looked -/
def lkd (K : PW) (n x : Nat) : PW := laid (wayed K n x) (tz n) 0 (-6)
theorem lkd_r {a b : Int} (h0 : K 1 0 = (n : Int)) (h1 : K 1 1 = (x : Int)) : laid (wayed K n x) (tz n) a b 1 = K 1 ∧ laid (wayed K n x) (tz n) a b 2 = K 2 ∧ laid (wayed K n x) (tz n) a b 3 = K 3 ∧ laid (wayed K n x) (tz n) a b 4 = K 4 ∧ laid (wayed K n x) (tz n) a b 0 4 = K 0 4 := by
  refine ⟨?_, ?_, ?_, ?_, ?_⟩
  · rw [laid_ne (by decide) (by decide) (by decide) (by decide) (by decide) (by decide), wayed_1 h0 h1]
  · rw [laid_ne (by decide) (by decide) (by decide) (by decide) (by decide) (by decide), wayed_r (by decide)]
  · rw [laid_ne (by decide) (by decide) (by decide) (by decide) (by decide) (by decide), wayed_r (by decide)]
  · rw [laid_ne (by decide) (by decide) (by decide) (by decide) (by decide) (by decide), wayed_r (by decide)]
  · rw [laid_0 (by decide) (by decide), wayed_0 (by decide)]
theorem REL_lkd (h : REL G K) (h0 : K 1 0 = (n : Int)) (h1 : K 1 1 = (x : Int)) {a b : Int} : REL G (laid (wayed K n x) (tz n) a b) := by
  obtain ⟨a1, a2, a3, a4, a5⟩ := lkd_r (a := a) (b := b) h0 h1
  exact REL_M h a1 a2 a3 a4 a5
theorem REL_lk (h : REL G K) (h0 : K 1 0 = (n : Int)) (h1 : K 1 1 = (x : Int)) : REL G (lkd K n x) := REL_lkd h h0 h1
theorem m_laid (h : 2 ≤ n ∧ n ≤ 16) (hx : x = 0 ∨ x = 1) (h0 : K 1 0 = (n : Int)) (h1 : K 1 1 = (x : Int)) (hR : ∀ m, m < 31 → K 1 (19 + m) = -6 ∨ K 1 (19 + m) = 0 ∨ K 1 (19 + m) = 1) {a b : Int} : pm_ca pm_sM 123 [.inr (.inr 0), .inl a, .inl b] K = some (none, laid (wayed K n x) (tz n) a b) := by
  obtain ⟨hc, g1, g2, g3, g4, g5⟩ := tz_facts h hx
  have w := wayed_plan (G := K) h hx
  have q := m_lay (F := tF (tz n)) (sz := tz n) (a := a) (b := b) (m_layWays h hx h0 h1) (ok_plan hc (noted_plan w) (fun m hm => by
    rw [nted_21 (by omega), wayed_1 h0 h1]
    exact hR m (by omega)))
  exact q
theorem m_lookd (h : 2 ≤ n ∧ n ≤ 16) (hx : x = 0 ∨ x = 1) (h0 : K 1 0 = (n : Int)) (h1 : K 1 1 = (x : Int)) (hR : ∀ m, m < 31 → K 1 (19 + m) = -6 ∨ K 1 (19 + m) = 0 ∨ K 1 (19 + m) = 1) : pm_ca pm_sM 124 [.inr (.inr 0)] K = some (none, lkd K n x) := by
  obtain ⟨hc, g1, g2, g3, g4, g5⟩ := tz_facts h hx
  have w := wayed_plan (G := K) h hx
  have q := m_look (F := tF (tz n)) (sz := tz n) (m_layWays h hx h0 h1) (ok_plan hc (noted_plan w) (fun m hm => by
    rw [nted_21 (by omega), wayed_1 h0 h1]
    exact hR m (by omega)))
  exact q
theorem tour_R {rat A : Nat → Int} (t : tour n x L rat A (K 1)) : ∀ m, m < 31 → K 1 (19 + m) = -6 ∨ K 1 (19 + m) = 0 ∨ K 1 (19 + m) = 1 := fun m hm => by
  rw [t.2.2.2.2.2.2.1 m hm]
  exact (eR_rg t.2.2.1 L (Nat.le_refl _)).1 m
/-- what the reference sees is what the class keeps -/
theorem REL_look (t : tour n x L (G 1) (G 36) (K 1)) (l : livs G n x L) : pm_ca pm_sM 124 [.inr (.inr 0)] K = some (none, lkd K n x) ∧ seen (lkd K n x) (tF (tz n)) n ∧ planM (lkd K n x) (tz n) x ∧ ∃ ps, vw (lkd K n x) (tz n) x n (rlive (G 14) (G 15)) (pm_rows G 3) ps := by
  obtain ⟨hc, g1, g2, g3, g4, g5⟩ := tz_facts t.1 t.2.1
  have k0 := t.2.2.2.2.1.1
  have k1 := t.2.2.2.2.1.2.1
  have w := wayed_plan (G := K) t.1 t.2.1
  have lp := laid_plan (a := 0) (b := -6) w
  obtain ⟨B0, b1, b2⟩ := l.2.2.2.2.2.2
  have w1 := wayed_1 k0 k1
  refine ⟨m_lookd t.1 t.2.1 k0 k1 (tour_R t), ⟨mcF_plan hc lp, g4, ?_, t.1.2⟩, lp, ?_⟩
  · show laid (wayed K n x) (tz n) 0 (-6) 1 0 = _
    rw [(lkd_r k0 k1).1]
    exact k0
  · have q := look_vw (W := wayed K n x) (R := G 14) (g := G 15) hc w ⟨t.1.1, g1⟩ ⟨by rw [w1]; exact k0, fun m hm => by rw [w1, t.2.2.2.2.2.2.1 m hm]; exact (l.2.2.2.1 m hm).symm, fun p hp => by rw [w1, t.2.2.2.2.2.2.2.1 p hp]; exact (l.2.2.2.2.1 p hp).symm⟩ (livs_R t.2.2.1 l.2.2.2.1) b1
    rw [← b2] at q
    exact q
/-- a call: the same answer, and the same tournament behind it -/
def both (kc km : Nat) (as : List PV) (G K : PW) : Prop := ∃ v G' K', pm_ca pm_sC kc (.inr (.inr 0) :: as) G = some (some (.inl v), G') ∧ pm_ca pm_sM km (.inr (.inr 0) :: as) K = some (some (.inl v), K') ∧ REL G' K'
theorem b_open (h : REL G K) {i : Int} (hi : i ≤ 2147483647) : both 76 144 [.inl i] G K := by
  obtain ⟨n, x, L, t, l⟩ := h.1
  obtain ⟨lk, se, pl, ps, v⟩ := REL_look t l
  have lo := livs_ok t l
  refine ⟨_, _, _, c_open (x := i) lo.2.2.1 lo.2.2.2.2.2.1, ?_, REL_lk h t.2.2.2.2.1.1 t.2.2.2.2.1.2.1⟩
  rw [m_open lk se hi]
  have e : ffrom (fun m => mopen (lkd K n x 17) (lkd K n x 20) m && decide (cnt (mopen (lkd K n x 17) (lkd K n x 20)) m = i)) (tF (tz n)) 0 = ffrom (fun m => bplay (G 4 0) (pm_rows G 3) m && decide (cnt (bplay (G 4 0) (pm_rows G 3)) m = i)) (tF (tz n)) 0 := ffrom_congr _ _ (fun m _ hm => by
    rw [lo.2.2.2.1, v_open v (by omega), cnt_congr m (fun j hj => v_open v (show j < tF (tz n) by omega))])
  rw [e]
theorem b_match (h : REL G K) {m w : Int} : both 74 139 [.inl m, .inl w] G K := by
  obtain ⟨n, x, L, t, l⟩ := h.1
  obtain ⟨lk, se, pl, ps, v⟩ := REL_look t l
  have lo := livs_ok t l
  obtain ⟨hc, g1, g2, g3, g4, g5⟩ := tz_facts t.1 t.2.1
  refine ⟨_, _, _, c_match (m := m) (w := w) lo, ?_, REL_lk h t.2.2.2.2.1.1 t.2.2.2.2.1.2.1⟩
  rw [m_match lk se]
  by_cases c : 0 ≤ m ∧ m < (tF (tz n) : Int)
  · rw [if_pos c, if_pos c]
    have hm : m.toNat < tF (tz n) := by omega
    obtain ⟨a1, a2, a3, a4, a5⟩ := v_how v hm
    obtain ⟨⟨p5, p6, p7⟩, ⟨p8, p9⟩, p10, p11⟩ := pl.2.1 _ hm
    obtain ⟨q5, q6, q7, q8, q9⟩ := l.1.2.1 _ hm
    obtain ⟨⟨t1, t2⟩, t3, t4⟩ := tb_ways hc _ hm
    have e5 : G 5 m.toNat = tPT (tz n) m.toNat := q5
    have e6 : G 6 m.toNat = tr (tz_round (tz n)) m.toNat := q6
    have e7 : G 7 m.toNat = tr (tz_index (tz n)) m.toNat := q7
    have e8 : G 8 m.toNat = tWS (tz n) m.toNat := q8
    have e9 : G 9 m.toNat = tLS (tz n) x m.toNat := q9
    have sp : ∀ (T D : Nat → Int) (S : Int), (T m.toNat = -6 → D m.toNat = -6) → won (tF (tz n)) T D m.toNat → S = wsx T D m.toNat → mseat S = T m.toNat ∧ sseat S = D m.toNat := fun T D S h0 h1 h2 => by
      unfold wsx at h2
      unfold won at h1
      unfold mseat sseat
      by_cases c : T m.toNat = -6
      · rw [if_pos c] at h2
        rw [h2, if_pos (by decide), if_pos (by decide), c, h0 c]
        exact ⟨rfl, rfl⟩
      · rw [if_neg c] at h2
        have h1 := h1.resolve_left c
        rw [h2, if_neg (by omega), if_neg (by omega)]
        omega
    have n1 : tr (tz_wt (tz n)) m.toNat = -6 → tr (tz_wd (tz n)) m.toNat = -6 := by
      have d : ∀ z, (z = 4 ∨ z = 8 ∨ z = 16) → ∀ k, k < tF z → (tr (tz_wt z) k = -6 → tr (tz_wd z) k = -6) := by
        have e : ∀ z, (List.range (tF z)).all (fun k => decide (tr (tz_wt z) k = -6 → tr (tz_wd z) k = -6)) = true → ∀ k, k < tF z → (tr (tz_wt z) k = -6 → tr (tz_wd z) k = -6) := fun z h k hk => of_decide_eq_true (all_lt h k hk)
        rintro z (q | q | q)
        · subst q; exact e 4 (by decide +kernel)
        · subst q; exact e 8 (by decide +kernel)
        · subst q; exact e 16 (by decide +kernel)
      exact d _ hc.1 _ hm
    have n2 : tr (tz_lt (tz n) x) m.toNat = -6 → tr (tz_ld (tz n) x) m.toNat = -6 := by
      have e : ∀ z x, (List.range (tF z)).all (fun k => decide (tr (tz_lt z x) k = -6 → tr (tz_ld z x) k = -6)) = true → ∀ k, k < tF z → (tr (tz_lt z x) k = -6 → tr (tz_ld z x) k = -6) := fun z x h k hk => of_decide_eq_true (all_lt h k hk)
      exact cfg_ind (P := fun z x => ∀ k, k < tF z → (tr (tz_lt z x) k = -6 → tr (tz_ld z x) k = -6)) ⟨e _ _ (by decide +kernel), e _ _ (by decide +kernel), e _ _ (by decide +kernel), e _ _ (by decide +kernel), e _ _ (by decide +kernel), e _ _ (by decide +kernel)⟩ hc _ hm
    obtain ⟨w1, w2⟩ := sp _ _ _ n1 t1 t2
    obtain ⟨l1, l2⟩ := sp _ _ _ n2 t3 t4
    have e16 : G 16 = (pm_rows G 3).1 := rfl
    have e17 : G 17 = (pm_rows G 3).2.1 := rfl
    unfold mmatch cmatch
    rw [a1, a2, a3, a4, a5, p5, p6, p7, p8, p9, p10, p11, e5, e6, e7, e8, e9, w1, w2, l1, l2, e16, e17]
  · rw [if_neg c, if_neg c]
theorem b_count (h : REL G K) {w : Int} : both 77 149 [.inl w] G K := by
  obtain ⟨n, x, L, t, l⟩ := h.1
  obtain ⟨lk, se, pl, ps, v⟩ := REL_look t l
  have lo := livs_ok t l
  obtain ⟨hc, g1, g2, g3, g4, g5⟩ := tz_facts t.1 t.2.1
  obtain ⟨a1, a2, a3, a4, a5⟩ := lkd_r (K := K) (n := n) (x := x) (a := 0) (b := -6) t.2.2.2.2.1.1 t.2.2.2.2.1.2.1
  have a1 : lkd K n x 1 = K 1 := a1
  have a5 : lkd K n x 0 4 = K 0 4 := a5
  refine ⟨_, _, _, c_count (w := w) lo, ?_, REL_lk h t.2.2.2.2.1.1 t.2.2.2.2.1.2.1⟩
  rw [m_count lk se]
  obtain ⟨N, n1, n2, n3, -⟩ := h.2.2.2.2
  have gg : ∀ p, p < 16 → lkd K n x 1 (50 + p) = G 15 p := fun p hp => by
    rw [a1, t.2.2.2.2.2.2.2.1 p hp]
    exact (l.2.2.2.2.1 p hp).symm
  have o1 : cnt (mopen (lkd K n x 17) (lkd K n x 20)) (tF (tz n)) = cnt (bplay (G 4 0) (pm_rows G 3)) (tF (tz n)) := cnt_congr _ (fun m hm => by
    rw [lo.2.2.2.1]
    exact v_open v hm)
  have o2 : cnt (fun p => mhas (lkd K n x) (tF (tz n)) (p : Int)) n = cnt (bplc (pm_rows G 3) (tF (tz n))) n := cnt_congr _ (fun p hp => v_hasp v hp)
  have o3 : mchamp (lkd K n x) (tF (tz n)) = cchamp G (tF (tz n)) := (v_champ v).1
  have o4 : ∀ mo : Int, mo = 0 ∨ mo = 1 → nval (lkd K n x) (tF (tz n)) n mo = cres G (tF (tz n)) n mo := fun mo hmo => v_need v gg t.1.2 hmo
  have o5 : ∀ w : Int, cnt (fun m => decide (lkd K n x 20 m = w)) (tF (tz n)) = cnt (fun m => decide (G 17 m = w)) (tF (tz n)) := fun w => v_by v
  unfold mcount ccount
  rw [o1, o2, o3, o4 0 (Or.inl rfl), o4 1 (Or.inr rfl), o5 3, o5 2, o5 1, a1, a5, pl.1.1, pl.1.2.2, t.2.2.2.2.1.1, t.2.2.2.2.1.2.1, t.2.2.2.2.1.2.2, n2, n3, l.2.2.1, l.1.1.1, l.1.1.2.1, l.1.1.2.2.1, l.1.1.2.2.2.2]
end TR
