/-! both sides: a tournament set up, saved, restored -/
theorem tour_congr {n x L : Nat} {rat rat' A A' at1 at2 : Nat → Int} (t : tour n x L rat A at1) (h1 : ∀ p, p < 16 → rat' p = rat p) (h2 : ∀ j, j < L → A' j = A j) (h3 : ∀ j, j < 113 → at2 j = at1 j) : tour n x L rat' A' at2 := by
  obtain ⟨t1, t2, t3, t4, t5, t6, t7, t8, t9⟩ := t
  have L47 := alegal_47 t3
  obtain ⟨e1, e2⟩ := eR_same (A := A') (A' := A) L h2
  refine ⟨t1, t2, alegal_same t3 (fun j hj => (h2 j hj).symm), fun p hp => ?_, ⟨?_, ?_, ?_⟩, fun p hp => ?_, fun m hm => ?_, fun p hp => ?_, fun j hj => ?_⟩
  · rw [h1 p hp]; exact t4 p hp
  · rw [h3 0 (by decide)]; exact t5.1
  · rw [h3 1 (by decide)]; exact t5.2.1
  · rw [h3 2 (by decide)]; exact t5.2.2
  · rw [h3 _ (by omega), h1 p hp]; exact t6 p hp
  · rw [h3 _ (by omega), e1]; exact t7 m hm
  · rw [h3 _ (by omega), e2]; exact t8 p hp
  · rw [h3 _ (by omega), h2 j hj]; exact t9 j hj
section SLO
variable {G K : PW} {n x L : Nat}
theorem livs_of {G' : PW} (h : livs G n x L) (he : ∀ r, (4 ≤ r ∧ r ≤ 28) ∨ r = 35 ∨ r = 36 → G' r = G r) : livs G' n x L := by
  obtain ⟨p1, p2, hL, hR, hg, hb, B0, b1, b2⟩ := h
  have r3 : pm_rows G' 3 = pm_rows G 3 := by
    unfold pm_rows
    rw [he 16 (by decide), he 17 (by decide), he 18 (by decide)]
  refine ⟨planC_same p1 (fun r a b => he r (by omega)), planC_same p2 (fun r a b => he r (by omega)), ?_, fun m hm => ?_, fun p hp => ?_, ?_, B0, b1, ?_⟩
  · rw [he 35 (by decide)]; exact hL
  · rw [he 14 (by decide), he 36 (by decide)]; exact hR m hm
  · rw [he 15 (by decide), he 36 (by decide)]; exact hg p hp
  · rw [r3]; exact hb
  · rw [r3, he 14 (by decide), he 15 (by decide)]; exact b2
/-- the memory behind begin -/
def bgp (G : PW) (n x : Nat) : PW := wiped_L (lyd_T (lyd_L G n x) n x)
def bgn (G : PW) (n x : Nat) : PW := setl_L (bgp G n x)
theorem bgp_ne {r : Nat} (h : (r < 4 ∨ 15 < r) ∧ (r < 20 ∨ 29 < r)) : bgp G n x r = G r := by
  unfold bgp
  rw [wiped_ne (by omega) (by omega), lyd_ne_T (by omega), lyd_ne_L (by omega)]
theorem bgn_ne {r : Nat} (h : (r < 4 ∨ 18 < r) ∧ (r < 20 ∨ 29 < r)) : bgn G n x r = G r := by
  unfold bgn
  rw [setl_ne_L (by omega) (by omega) (by omega), bgp_ne (by omega)]
theorem bgp_plan (h : 2 ≤ n ∧ n ≤ 16) (hx : x = 0 ∨ x = 1) : planC (bgp G n x) 4 (tz n) x n ∧ planC (bgp G n x) 20 (tz n) x n ∧ (∀ m, m < 31 → bgp G n x 14 m = -6) ∧ ∀ p, p < 16 → bgp G n x 15 p = 0 := by
  have p1 := lyd_plan_L (G := G) h hx
  have p2 := lyd_plan_T (G := lyd_L G n x) h hx
  refine ⟨planC_same p1 (fun r a b => ?_), planC_same p2 (fun r a b => ?_), fun m hm => ?_, fun p hp => ?_⟩
  · unfold bgp
    rw [wiped_ne (by omega) (by omega), lyd_ne_T (by omega)]
  · unfold bgp
    rw [wiped_ne (by omega) (by omega)]
  · unfold bgp
    rw [wiped_14]
    unfold mixf
    rw [if_pos hm]
  · unfold bgp
    rw [wiped_15]
    unfold mixf
    rw [if_pos hp]
theorem bgn_01 (hY : y01 (G 13)) (hY2 : y01 (G 29)) : y01 (bgn G n x 13) ∧ y01 (bgn G n x 29) := by
  have e1 : bgn G n x 13 = lyd_L G n x 13 := by
    unfold bgn bgp
    rw [setl_ne_L (by decide) (by decide) (by decide), wiped_ne (by decide) (by decide), lyd_ne_T (by decide)]
  have e2 : bgn G n x 29 = lyd_T (lyd_L G n x) n x 29 := by
    unfold bgn bgp
    rw [setl_ne_L (by decide) (by decide) (by decide), wiped_ne (by decide) (by decide)]
  rw [e1, e2]
  exact ⟨lyd_01_L hY, lyd_01_T (by rw [lyd_ne_L (by decide)]; exact hY2)⟩
theorem c_bgn (h : 2 ≤ n ∧ n ≤ 16) (hx : x = 0 ∨ x = 1) (hY : y01 (G 13)) (hY2 : y01 (G 29)) : pm_ca pm_sC 89 [.inr (.inr 0), .inl (n : Int), .inl (x : Int)] G = some (none, bgn G n x) ∧ sok_L (bgn G n x) := by
  obtain ⟨p1, p2, w14, w15⟩ := bgp_plan (G := G) h hx
  have so : sok_L (bgp G n x) := sok_of h hx p1 (fun m hm => Or.inl (w14 m hm))
  exact ⟨c_begin (c_lay_L h hx hY) (c_lay_T h hx (by rw [lyd_ne_L (by decide)]; exact hY2)) so, sok_setl so⟩
/-- a begun tournament, when its rows but the bracket's are set otherwise -/
theorem livs_begun {M : PW} (h : 2 ≤ n ∧ n ≤ 16) (hx : x = 0 ∨ x = 1) (he : ∀ r, 3 ≤ r → r ≤ 29 → M r = bgn G n x r) (hL : M 35 1 = 0) : livs M n x 0 := by
  obtain ⟨p1, p2, w14, w15⟩ := bgp_plan (G := G) h hx
  have so : sok_L (bgp G n x) := sok_of h hx p1 (fun m hm => Or.inl (w14 m hm))
  obtain ⟨s1, s2⟩ := setl_run (G := bgp G n x) h hx p1
  have ne : ∀ r, r ≠ 16 → r ≠ 17 → r ≠ 18 → bgn G n x r = bgp G n x r := fun r a b c => setl_ne_L a b c
  have r3 : pm_rows M 3 = pm_rows (setl_L (bgp G n x)) 3 := by
    unfold pm_rows
    rw [he 16 (by decide) (by decide), he 17 (by decide) (by decide), he 18 (by decide) (by decide)]
    rfl
  refine ⟨planC_same p1 (fun r a b => by rw [he r (by omega) (by omega), ne r (by omega) (by omega) (by omega)]), planC_same p2 (fun r a b => by rw [he r (by omega) (by omega), ne r (by omega) (by omega) (by omega)]), hL, fun m hm => ?_, fun p hp => ?_, ?_, bbeg_L (bgp G n x), s1, ?_⟩
  · rw [he 14 (by decide) (by decide), ne 14 (by decide) (by decide) (by decide)]; exact w14 m hm
  · rw [he 15 (by decide) (by decide), ne 15 (by decide) (by decide) (by decide)]; exact w15 p hp
  · rw [r3]; exact bok_setl_L so
  · rw [r3, he 14 (by decide) (by decide), he 15 (by decide) (by decide), ne 14 (by decide) (by decide) (by decide), ne 15 (by decide) (by decide) (by decide)]; exact s2
theorem tour_new {at' : Nat → Int} {rat A : Nat → Int} (h : 2 ≤ n ∧ n ≤ 16) (hx : x = 0 ∨ x = 1) (h0 : at' 0 = (n : Int) ∧ at' 1 = (x : Int) ∧ at' 2 = 0) (hr : ∀ p, p < 16 → rat p = 1500 - 10 * (p : Int) ∧ at' (3 + p) = 1500 - 10 * (p : Int)) (h19 : ∀ m, m < 31 → at' (19 + m) = -6) (h50 : ∀ p, p < 16 → at' (50 + p) = 0) : tour n x 0 rat A at' :=
  ⟨h, hx, fun j hj => absurd hj (Nat.not_lt_zero j), fun p hp => by rw [(hr p hp).1]; omega, h0, fun p hp => by rw [(hr p hp).1, (hr p hp).2], h19, h50, fun j hj => absurd hj (Nat.not_lt_zero j)⟩
theorem mbeg_row {N c : Int} {j : Nat} : mbeg K N c 16 31 1 j = if j = 0 then N else if j = 1 then c else if j = 2 then 0 else if 3 ≤ j ∧ j < 3 + 16 then 1500 - 10 * ((j : Int) - 3) else if 50 ≤ j ∧ j < 50 + 16 then 0 else if 19 ≤ j ∧ j < 19 + 31 then -6 else K 1 j := rfl
theorem mbeg_ne {N c : Int} {r : Nat} (h : r ≠ 1) : mbeg K N c 16 31 r = K r := row_ne h
theorem tour_mbeg {rat A : Nat → Int} (h : 2 ≤ n ∧ n ≤ 16) (hx : x = 0 ∨ x = 1) (hr : ∀ p, p < 16 → rat p = 1500 - 10 * (p : Int)) : tour n x 0 rat A (mbeg K (n : Int) (x : Int) 16 31 1) := by
  refine tour_new h hx ⟨rfl, rfl, rfl⟩ (fun p hp => ⟨hr p hp, ?_⟩) (fun m hm => ?_) (fun p hp => ?_)
  · rw [mbeg_row, if_neg (by omega), if_neg (by omega), if_neg (by omega), if_pos (by omega)]
    omega
  · rw [mbeg_row, if_neg (by omega), if_neg (by omega), if_neg (by omega), if_neg (by omega), if_neg (by omega), if_pos (by omega)]
  · rw [mbeg_row, if_neg (by omega), if_neg (by omega), if_neg (by omega), if_neg (by omega), if_pos (by omega)]
theorem b_setUp (h : REL G K) {a c : Int} : both 70 133 [.inl a, .inl c] G K := by
  by_cases q : 2 ≤ a ∧ a ≤ 16 ∧ 0 ≤ c ∧ c ≤ 1
  · obtain ⟨n, rfl⟩ : ∃ n : Nat, a = (n : Int) := ⟨a.toNat, by omega⟩
    obtain ⟨x, rfl⟩ : ∃ x : Nat, c = (x : Int) := ⟨c.toNat, by omega⟩
    have hn : 2 ≤ n ∧ n ≤ 16 := by omega
    have hx : x = 0 ∨ x = 1 := by omega
    obtain ⟨b1, so⟩ := c_bgn hn hx h.2.1.1 h.2.1.2
    have cr := c_setUp q b1
    have k0 : mbeg K (n : Int) (x : Int) 16 31 1 0 = (n : Int) := rfl
    have k1 : mbeg K (n : Int) (x : Int) 16 31 1 1 = (x : Int) := rfl
    have mr := m_setUp (m_layWays (G := mbeg K (n : Int) (x : Int) 16 31) hn hx k0 k1) q
    have e : wayed (mbeg K (n : Int) (x : Int) 16 31) n x 0 7 = bgn G n x 4 4 := by
      have p1 := (bgp_plan (G := G) hn hx).1.1.2.2.2.2
      rw [(wayed_plan hn hx).1.2.2]
      unfold bgn
      rw [setl_ne_L (by decide) (by decide) (by decide)]
      exact p1.symm
    rw [e] at mr
    refine ⟨_, _, _, cr, mr, ?_⟩
    have fr : ∀ r, r ≠ 1 → r ≠ 35 → fresh (bgn G n x) r = bgn G n x r := fun r a b => by
      unfold fresh rated0
      rw [upd_ne b, row_ne a]
    have f1 : ∀ p, p < 16 → fresh (bgn G n x) 1 p = 1500 - 10 * (p : Int) := fun p hp => by
      unfold fresh rated0
      rw [upd_ne (by decide), row_eq]
      unfold mixf
      rw [if_pos hp]
    have f35 : fresh (bgn G n x) 35 1 = 0 := by
      unfold fresh
      rw [upd_eq, fup_eq]
    have w1 : wayed (mbeg K (n : Int) (x : Int) 16 31) n x 1 = mbeg K (n : Int) (x : Int) 16 31 1 := wayed_1 k0 k1
    have wr : ∀ r, r = 2 ∨ r = 3 ∨ r = 4 → wayed (mbeg K (n : Int) (x : Int) 16 31) n x r = K r := fun r hr => by
      rw [wayed_r (by omega), mbeg_ne (by omega)]
    have w0 : wayed (mbeg K (n : Int) (x : Int) 16 31) n x 0 4 = K 0 4 := by
      rw [wayed_0 (by decide), mbeg_ne (by decide)]
    have y := bgn_01 (n := n) (x := x) h.2.1.1 h.2.1.2
    refine ⟨⟨n, x, 0, ?_, livs_begun (G := G) hn hx (fun r a b => fr r (by omega) (by omega)) f35⟩, ⟨?_, ?_⟩, ?_, ?_, ?_⟩
    · rw [w1]
      exact tour_mbeg hn hx f1
    · rw [fr 13 (by decide) (by decide)]; exact y.1
    · rw [fr 29 (by decide) (by decide)]; exact y.2
    · have s := slo_same (G' := fresh (bgn G n x)) h.2.2.1 (fun r q1 q2 => by rw [fr r (by omega) (by omega), bgn_ne (by omega)])
      unfold slo at s ⊢
      rw [wr 3 (by decide), wr 2 (by decide)]
      exact s
    · have s := slo_same (G' := fresh (bgn G n x)) h.2.2.2.1 (fun r q1 q2 => by rw [fr r (by omega) (by omega), bgn_ne (by omega)])
      unfold slo at s ⊢
      rw [wr 3 (by decide), wr 2 (by decide)]
      exact s
    · have s := h.2.2.2.2
      unfold pads at s ⊢
      rw [fr 37 (by decide) (by decide), fr 38 (by decide) (by decide), bgn_ne (r := 37) (by decide), bgn_ne (r := 38) (by decide), w0, wr 4 (by decide)]
      exact s
  · exact ⟨_, _, _, c_setUpNo q, m_setUpNo q, h⟩
theorem mslot_in {s : Nat} {j : Nat} (hj : j < 113) : mslot K s 113 2 (113 * s + j) = K 1 j := by
  unfold mslot
  rw [row_eq, if_pos (by omega), show 113 * s + j - 113 * s = j by omega]
theorem mslot_out {s s' : Nat} {j : Nat} (hj : j < 113) (hs : s ≠ s') : mslot K s 113 2 (113 * s' + j) = K 2 (113 * s' + j) := by
  unfold mslot
  rw [row_eq, if_neg (by omega)]
/-- what save does to the class' slot -/
theorem saved_rel {G' K' : PW} {s a : Nat} (h : REL G K) (t : tour n x L (G 1) (G 36) (K 1)) (l : livs G n x L) (hs : (s = 0 ∧ a = 39) ∨ (s = 1 ∧ a = 43)) (hne : ∀ r, (r < a ∨ a + 3 < r) → G' r = G r) (h0 : G' a 0 = 1 ∧ G' a 1 = G 4 0 ∧ G' a 2 = G 4 1) (h1 : ∀ p, p < 16 → G' (a + 1) p = G 1 p) (h2 : G' (a + 2) 1 = G 35 1) (h3 : ∀ j, j < 47 → G' (a + 3) j = G 36 j) (k1 : K' 1 = K 1) (k4 : K' 4 = K 4) (k0 : K' 0 4 = K 0 4) (k3 : K' 3 = fup (K 3) s 1) (k2 : K' 2 = mslot K s 113 2) : REL G' K' := by
  have L47 := alegal_47 t.2.2.1
  have own : slo G' K' a s := by
    refine Or.inr ⟨h0.1, by rw [k3, fup_eq], n, x, L, ?_, ?_, ?_, ?_⟩
    · rw [h0.2.1]; exact l.1.1.1
    · rw [h0.2.2]; exact l.1.1.2.1
    · rw [h2]; exact l.2.2.1
    · exact tour_congr t h1 (fun j hj => h3 j (by omega)) (fun j hj => by rw [k2]; exact mslot_in hj)
  have oth : ∀ a' s' : Nat, s ≠ s' → slo G K a' s' → (∀ r, a' ≤ r → r ≤ a' + 3 → r < a ∨ a + 3 < r) → slo G' K' a' s' := fun a' s' q1 q2 q3 => by
    have q := slo_same (G' := G') q2 (fun r u v => hne r (q3 r u v))
    unfold slo at q ⊢
    rw [k3, fup_ne (fun y => q1 y.symm)]
    rcases q with q | ⟨u1, u2, n', x', L', v1, v2, v3, v4⟩
    · exact Or.inl q
    · exact Or.inr ⟨u1, u2, n', x', L', v1, v2, v3, tour_congr v4 (fun _ _ => rfl) (fun _ _ => rfl) (fun j hj => by rw [k2]; exact mslot_out hj q1)⟩
  have pd := h.2.2.2.2
  refine ⟨⟨n, x, L, ?_, livs_of l (fun r q => hne r (by omega))⟩, ⟨?_, ?_⟩, ?_, ?_, ?_⟩
  · rw [hne 1 (by omega), hne 36 (by omega), k1]; exact t
  · rw [hne 13 (by omega)]; exact h.2.1.1
  · rw [hne 29 (by omega)]; exact h.2.1.2
  · rcases hs with ⟨e1, e2⟩ | ⟨e1, e2⟩
    · rw [e1, e2] at own; exact own
    · exact oth 39 0 (by omega) h.2.2.1 (fun r u v => by omega)
  · rcases hs with ⟨e1, e2⟩ | ⟨e1, e2⟩
    · exact oth 43 1 (by omega) h.2.2.2.1 (fun r u v => by omega)
    · rw [e1, e2] at own; exact own
  · unfold pads at pd ⊢
    rw [hne 37 (by omega), hne 38 (by omega), k0, k4]
    exact pd
theorem saved0_facts : (∀ r, (r < 39 ∨ 42 < r) → saved0 G r = G r) ∧ (saved0 G 39 0 = 1 ∧ saved0 G 39 1 = G 4 0 ∧ saved0 G 39 2 = G 4 1) ∧ (∀ p, p < 16 → saved0 G 40 p = G 1 p) ∧ saved0 G 41 1 = G 35 1 ∧ ∀ j, j < 47 → saved0 G 42 j = G 36 j := by
  refine ⟨fun r hr => ?_, ⟨rfl, rfl, rfl⟩, fun p hp => ?_, rfl, fun j hj => ?_⟩
  · unfold saved0
    rw [upd_ne (by omega), row_ne (by omega), row_ne (by omega), upd_ne (by omega), upd_ne (by omega), upd_ne (by omega)]
  · show mixf 16 (G 1) (G 40) p = _
    unfold mixf
    rw [if_pos hp]
  · show mixf 47 (G 36) (G 42) j = _
    unfold mixf
    rw [if_pos hj]
theorem saved1_facts : (∀ r, (r < 43 ∨ 46 < r) → saved1 G r = G r) ∧ (saved1 G 43 0 = 1 ∧ saved1 G 43 1 = G 4 0 ∧ saved1 G 43 2 = G 4 1) ∧ (∀ p, p < 16 → saved1 G 44 p = G 1 p) ∧ saved1 G 45 1 = G 35 1 ∧ ∀ j, j < 47 → saved1 G 46 j = G 36 j := by
  refine ⟨fun r hr => ?_, ⟨rfl, rfl, rfl⟩, fun p hp => ?_, rfl, fun j hj => ?_⟩
  · unfold saved1
    rw [upd_ne (by omega), row_ne (by omega), row_ne (by omega), upd_ne (by omega), upd_ne (by omega), upd_ne (by omega)]
  · show mixf 16 (G 1) (G 44) p = _
    unfold mixf
    rw [if_pos hp]
  · show mixf 47 (G 36) (G 46) j = _
    unfold mixf
    rw [if_pos hj]
theorem b_save (h : REL G K) {s : Int} : both 87 164 [.inl s] G K := by
  obtain ⟨n, x, L, t, l⟩ := h.1
  have lo := livs_ok t l
  have cr := c_save (s := s) lo.2.2.1 lo.2.2.2.2.2.1
  by_cases q : s = 0 ∨ s = 1
  · -- what both hold then
    have fin : ∀ (i a : Nat) (G' : PW), s = (i : Int) → ((i = 0 ∧ a = 39) ∨ (i = 1 ∧ a = 43)) → ((∀ r, (r < a ∨ a + 3 < r) → G' r = G r) ∧ (G' a 0 = 1 ∧ G' a 1 = G 4 0 ∧ G' a 2 = G 4 1) ∧ (∀ p, p < 16 → G' (a + 1) p = G 1 p) ∧ G' (a + 2) 1 = G 35 1 ∧ ∀ j, j < 47 → G' (a + 3) j = G 36 j) → pm_ca pm_sC 87 [.inr (.inr 0), .inl s] G = some (some (.inl (cnt (fun m => decide (G 17 m = 3)) (tF (tz n)))), G') → both 87 164 [.inl s] G K := fun i a G' ei hi f c => by
      obtain ⟨f1, f2, f3, f4, f5⟩ := f
      have m1 : pm_upd (mslot K i 113) 3 i 1 1 = K 1 := rfl
      have m4 : pm_upd (mslot K i 113) 3 i 1 4 = K 4 := rfl
      have m0 : pm_upd (mslot K i 113) 3 i 1 0 4 = K 0 4 := rfl
      have m3 : pm_upd (mslot K i 113) 3 i 1 3 = fup (K 3) i 1 := by
        rw [upd_eq]
        rfl
      have m2 : pm_upd (mslot K i 113) 3 i 1 2 = mslot K i 113 2 := upd_ne (by decide)
      have r := saved_rel (s := i) (a := a) h t l hi f1 f2 f3 f4 f5 m1 m4 m0 m3 m2
      have l' : livs G' n x L := livs_of l (fun r q => f1 r (by omega))
      have t' : tour n x L (G' 1) (G' 36) (pm_upd (mslot K i 113) 3 i 1 1) := by
        rw [f1 1 (by omega), f1 36 (by omega), m1]
        exact t
      obtain ⟨lk, se, pl, ps, v⟩ := REL_look t' l'
      have mr := m_save (s := s) (G := K) q (by rw [ei, Int.toNat_natCast]; exact lk) se
      rw [v_by v] at mr
      have e : (pm_rows G' 3).2.1 = G 17 := f1 17 (by omega)
      rw [e] at mr
      exact ⟨_, _, _, c, mr, REL_lk r t'.2.2.2.2.1.1 t'.2.2.2.2.1.2.1⟩
    rcases q with q | q
    · rw [if_pos q] at cr
      exact fin 0 39 (saved0 G) q (Or.inl ⟨rfl, rfl⟩) saved0_facts cr
    · rw [if_neg (by omega), if_pos q] at cr
      exact fin 1 43 (saved1 G) q (Or.inr ⟨rfl, rfl⟩) saved1_facts cr
  · rw [if_neg (fun y => q (Or.inl y)), if_neg (fun y => q (Or.inr y))] at cr
    exact ⟨_, _, _, cr, m_saveNo q, h⟩
/-- a slot taken back by the reference -/
theorem mback_in {s j : Nat} (hj : j < 113) : mback K s 1 j = K 2 (113 * s + j) := by
  unfold mback
  rw [row_eq]
  unfold mixf
  rw [if_pos hj]
theorem restore_rel {M K' : PW} {A rat at' : Nat → Int} (h : REL G K) (t : tour n x L rat A at') (hB : ∀ r, (3 ≤ r ∧ r ≤ 29) → M r = bgn G n x r) (hO : ∀ r, (29 < r ∨ r = 2) → r ≠ 35 → r ≠ 36 → M r = G r) (h1 : ∀ p, p < 16 → M 1 p = rat p) (h35 : M 35 1 = (L : Int)) (h36 : ∀ j, j < 47 → M 36 j = A j) (k1 : ∀ j, j < 113 → K' 1 j = at' j) (k2 : K' 2 = K 2) (k3 : K' 3 = K 3) (k4 : K' 4 = K 4) (k0 : K' 0 4 = K 0 4) : REL (replayed M L) K' ∧ tour n x L (replayed M L 1) (replayed M L 36) (K' 1) ∧ livs (replayed M L) n x L := by
  obtain ⟨p1, p2, -, -⟩ := bgp_plan (G := G) t.1 t.2.1
  have L47 := alegal_47 t.2.2.1
  have ne : ∀ r, r ≠ 16 → r ≠ 17 → r ≠ 18 → bgn G n x r = bgp G n x r := fun r a b c => setl_ne_L a b c
  have lv : livs (replayed M L) n x L := livs_replayed t.1 t.2.1 (planC_same p1 (fun r a b => by rw [hB r (by omega), ne r (by omega) (by omega) (by omega)])) (planC_same p2 (fun r a b => by rw [hB r (by omega), ne r (by omega) (by omega) (by omega)])) h35 (alegal_same t.2.2.1 (fun j hj => (h36 j (by omega)).symm))
  have rn : ∀ r, (r < 14 ∨ 18 < r) → replayed M L r = M r := fun r q => replayed_ne q
  have tt : tour n x L (replayed M L 1) (replayed M L 36) (K' 1) := by
    rw [rn 1 (by decide), rn 36 (by decide)]
    exact tour_congr t h1 (fun j hj => h36 j (by omega)) k1
  have y := bgn_01 (n := n) (x := x) h.2.1.1 h.2.1.2
  refine ⟨⟨⟨n, x, L, tt, lv⟩, ⟨?_, ?_⟩, ?_, ?_, ?_⟩, tt, lv⟩
  · rw [rn 13 (by decide), hB 13 (by decide)]; exact y.1
  · rw [rn 29 (by decide), hB 29 (by decide)]; exact y.2
  · have s := slo_same (G' := replayed M L) h.2.2.1 (fun r q1 q2 => by rw [rn r (by omega), hO r (by omega) (by omega) (by omega)])
    unfold slo at s ⊢
    rw [k3, k2]
    exact s
  · have s := slo_same (G' := replayed M L) h.2.2.2.1 (fun r q1 q2 => by rw [rn r (by omega), hO r (by omega) (by omega) (by omega)])
    unfold slo at s ⊢
    rw [k3, k2]
    exact s
  · have s := h.2.2.2.2
    unfold pads at s ⊢
    rw [rn 37 (by decide), rn 38 (by decide), hO 37 (by decide) (by decide) (by decide), hO 38 (by decide) (by decide) (by decide), k4, k0]
    exact s
theorem b_restore (h : REL G K) {s : Int} : both 88 165 [.inl s] G K := by
  by_cases q : s = 0 ∨ s = 1
  · rcases q with q | q
    · subst q
      rcases h.2.2.1 with ⟨u1, u2⟩ | ⟨u1, u2, n, x, L, v1, v2, v3, v4⟩
      · exact ⟨_, _, _, c_restoreNo (Or.inr (Or.inl ⟨rfl, u1⟩)), m_restoreNo (Or.inr ⟨Or.inl rfl, u2⟩), h⟩
      · obtain ⟨b1, so⟩ := c_bgn v4.1 v4.2.1 h.2.1.1 h.2.1.2
        rw [← v1, ← v2] at b1
        have L47 := alegal_47 v4.2.2.1
        have bn : ∀ r, 29 < r → bgn G n x r = G r := fun r q => bgn_ne (by omega)
        have F4 : bgn G n x 4 4 = (tF (tz n) : Int) := by
          unfold bgn
          rw [setl_ne_L (by decide) (by decide) (by decide)]
          exact (bgp_plan (G := G) v4.1 v4.2.1).1.1.2.2.2.2
        have cr := c_restore0 u1 b1 (by rw [bn 41 (by decide)]; exact v3) L47 (fun j hj => by rw [bn 42 (by decide)]; exact (v4.2.2.1 j hj).1) so F4 (tz_facts v4.1 v4.2.1).2.2.2.2.2
        obtain ⟨r, t', l'⟩ := restore_rel (M := back0 (bgn G n x)) (K' := mback K 0) h v4 (fun r q => by unfold back0; rw [upd_ne (by omega), row_ne (by omega), row_ne (by omega)]) (fun r q1 q2 q3 => by unfold back0; rw [upd_ne q2, row_ne q3, row_ne (by omega), bgn_ne (by omega)]) (fun p hp => by
          show mixf 16 (bgn G n x 40) (bgn G n x 1) p = _
          unfold mixf
          rw [if_pos hp, bn 40 (by decide)]) (by
          show bgn G n x 41 1 = _
          rw [bn 41 (by decide)]
          exact v3) (fun j hj => by
          show mixf 47 (bgn G n x 42) (bgn G n x 36) j = _
          unfold mixf
          rw [if_pos hj, bn 42 (by decide)]) (fun j hj => mback_in (s := 0) hj) rfl rfl rfl rfl
        obtain ⟨lk, se, pl, ps, v⟩ := REL_look t' l'
        have mr := m_restore (s := 0) (G := K) (Or.inl rfl) u2 lk se
        rw [v_by v] at mr
        exact ⟨_, _, _, cr, mr, REL_lk r t'.2.2.2.2.1.1 t'.2.2.2.2.1.2.1⟩
    · subst q
      rcases h.2.2.2.1 with ⟨u1, u2⟩ | ⟨u1, u2, n, x, L, v1, v2, v3, v4⟩
      · exact ⟨_, _, _, c_restoreNo (Or.inr (Or.inr ⟨rfl, u1⟩)), m_restoreNo (Or.inr ⟨Or.inr rfl, u2⟩), h⟩
      · obtain ⟨b1, so⟩ := c_bgn v4.1 v4.2.1 h.2.1.1 h.2.1.2
        rw [← v1, ← v2] at b1
        have L47 := alegal_47 v4.2.2.1
        have bn : ∀ r, 29 < r → bgn G n x r = G r := fun r q => bgn_ne (by omega)
        have F4 : bgn G n x 4 4 = (tF (tz n) : Int) := by
          unfold bgn
          rw [setl_ne_L (by decide) (by decide) (by decide)]
          exact (bgp_plan (G := G) v4.1 v4.2.1).1.1.2.2.2.2
        have cr := c_restore1 u1 b1 (by rw [bn 45 (by decide)]; exact v3) L47 (fun j hj => by rw [bn 46 (by decide)]; exact (v4.2.2.1 j hj).1) so F4 (tz_facts v4.1 v4.2.1).2.2.2.2.2
        obtain ⟨r, t', l'⟩ := restore_rel (M := back1 (bgn G n x)) (K' := mback K 1) h v4 (fun r q => by unfold back1; rw [upd_ne (by omega), row_ne (by omega), row_ne (by omega)]) (fun r q1 q2 q3 => by unfold back1; rw [upd_ne q2, row_ne q3, row_ne (by omega), bgn_ne (by omega)]) (fun p hp => by
          show mixf 16 (bgn G n x 44) (bgn G n x 1) p = _
          unfold mixf
          rw [if_pos hp, bn 44 (by decide)]) (by
          show bgn G n x 45 1 = _
          rw [bn 45 (by decide)]
          exact v3) (fun j hj => by
          show mixf 47 (bgn G n x 46) (bgn G n x 36) j = _
          unfold mixf
          rw [if_pos hj, bn 46 (by decide)]) (fun j hj => mback_in (s := 1) hj) rfl rfl rfl rfl
        obtain ⟨lk, se, pl, ps, v⟩ := REL_look t' l'
        have mr := m_restore (s := 1) (G := K) (Or.inr rfl) u2 lk se
        rw [v_by v] at mr
        exact ⟨_, _, _, cr, mr, REL_lk r t'.2.2.2.2.1.1 t'.2.2.2.2.1.2.1⟩
  · exact ⟨_, _, _, c_restoreNo (Or.inl q), m_restoreNo (Or.inl q), h⟩
end SLO
