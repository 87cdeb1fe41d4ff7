/-! both sides: results, withdrawals, undoing -/
theorem eR_s {A : Nat → Int} {L : Nat} {a : Int} : eR (fup A L a) (L + 1) = (if a < 62 then fup (eR A L) (a / 2).toNat (a % 2) else eR A L) ∧ eG (fup A L a) (L + 1) = (if a < 62 then eG A L else fup (eG A L) (a - 62).toNat 1) := by
  obtain ⟨e1, e2⟩ := eR_same (A := fup A L a) (A' := A) L (fun j hj => fup_ne (by omega))
  constructor
  · show (if fup A L a L < 62 then fup (eR (fup A L a) L) (fup A L a L / 2).toNat (fup A L a L % 2) else eR (fup A L a) L) = _
    rw [e1, fup_eq]
  · show (if fup A L a L < 62 then eG (fup A L a) L else fup (eG (fup A L a) L) (fup A L a L - 62).toNat 1) = _
    rw [e2, fup_eq]
/-- the cell that an act sets in the reference's row, and to what -/
def acell (a : Int) : Nat := if a < 62 then 19 + (a / 2).toNat else 50 + (a - 62).toNat
def aval (a : Int) : Int := if a < 62 then a % 2 else 1
def arow (at' : Nat → Int) (L : Nat) (a : Int) : Nat → Int := fup (fup (fup at' (acell a) (aval a)) (66 + L) (acode a)) 2 ((L : Int) + 1)
theorem tour_act {n x L : Nat} {rat A at' : Nat → Int} {a : Int} (t : tour n x L rat A at') (h0 : 0 ≤ a ∧ a < 78) (h1 : a < 62 → eR A L (a / 2).toNat = -6) (h2 : 62 ≤ a → eG A L (a - 62).toNat = 0) : tour n x (L + 1) rat (fup A L a) (arow at' L a) := by
  obtain ⟨t1, t2, t3, t4, t5, t6, t7, t8, t9⟩ := t
  have c1 : 19 ≤ acell a ∧ acell a < 66 := by
    unfold acell
    by_cases c : a < 62
    · rw [if_pos c]; omega
    · rw [if_neg c]; omega
  have cl : acell a = if a < 62 then 19 + (a / 2).toNat else 50 + (a - 62).toNat := rfl
  have va : aval a = if a < 62 then a % 2 else 1 := rfl
  obtain ⟨s1, s2⟩ := eR_s (A := A) (L := L) (a := a)
  unfold arow
  refine ⟨t1, t2, alegal_s t3 h0 h1 h2, t4, ⟨?_, ?_, ?_⟩, fun p hp => ?_, fun m hm => ?_, fun p hp => ?_, fun j hj => ?_⟩
  · rw [fup_ne (by omega), fup_ne (by omega), fup_ne (by omega)]; exact t5.1
  · rw [fup_ne (by omega), fup_ne (by omega), fup_ne (by omega)]; exact t5.2.1
  · rw [fup_eq]; omega
  · rw [fup_ne (by omega), fup_ne (by omega), fup_ne (by omega)]; exact t6 p hp
  · rw [fup_ne (by omega), fup_ne (by omega), s1]
    by_cases c : a < 62
    · rw [if_pos c]
      rw [if_pos c] at cl va
      by_cases e : m = (a / 2).toNat
      · rw [e, fup_eq, cl, fup_eq, va]
      · rw [fup_ne e, fup_ne (by omega)]; exact t7 m hm
    · rw [if_neg c]
      rw [if_neg c] at cl
      rw [fup_ne (by omega)]; exact t7 m hm
  · rw [fup_ne (by omega), fup_ne (by omega), s2]
    by_cases c : a < 62
    · rw [if_pos c]
      rw [if_pos c] at cl
      rw [fup_ne (by omega)]; exact t8 p hp
    · rw [if_neg c]
      rw [if_neg c] at cl va
      by_cases e : p = (a - 62).toNat
      · rw [e, fup_eq, cl, fup_eq, va]
      · rw [fup_ne e, fup_ne (by omega)]; exact t8 p hp
  · rw [fup_ne (by omega)]
    by_cases e : j = L
    · rw [e, fup_eq, fup_eq]
    · rw [fup_ne (by omega), fup_ne (by omega), fup_ne e]; exact t9 j (by omega)
section ACT
variable {G K : PW} {n x L : Nat}
theorem entered_in {M : PW} {a : Int} (h0 : 0 ≤ a ∧ a < 78) : entered M a 14 = (if a < 62 then fup (M 14) (a / 2).toNat (a % 2) else M 14) ∧ entered M a 15 = (if a < 62 then M 15 else fup (M 15) (a - 62).toNat 1) := by
  unfold entered
  by_cases c : a < 62
  · rw [if_pos c, if_pos c, if_pos c, stv_eq, lenC_14, stf_in (by omega) (by omega), stv_ne (by decide)]
    exact ⟨rfl, rfl⟩
  · rw [if_neg c, if_neg c, if_neg c, stv_eq, lenC_15, stf_in (by omega) (by omega), stv_ne (by decide)]
    exact ⟨rfl, rfl⟩
/-- an act, on both sides -/
theorem REL_act {a : Int} {K' : PW} (h : REL G K) (t : tour n x L (G 1) (G 36) (K 1)) (l : livs G n x L) (h0 : 0 ≤ a ∧ a < 78) (h1 : a < 62 → G 14 (a / 2).toNat = -6) (h2 : 62 ≤ a → ¬ G 15 (a - 62).toNat = 1) (k1 : K' 1 = arow (K 1) L a) (k2 : K' 2 = K 2) (k3 : K' 3 = K 3) (k4 : K' 4 = K 4) (k0 : K' 0 4 = K 0 4) : REL (acted G L a) K' ∧ tour n x (L + 1) (acted G L a 1) (acted G L a 36) (K' 1) ∧ livs (acted G L a) n x (L + 1) := by
  have hA := t.2.2.1
  have h1' : a < 62 → eR (G 36) L (a / 2).toNat = -6 := fun c => by
    rw [← l.2.2.2.1 _ (by omega)]
    exact h1 c
  have h2' : 62 ≤ a → eG (G 36) L (a - 62).toNat = 0 := fun c => by
    have q := (eR_rg hA L (Nat.le_refl _)).2 (a - 62).toNat
    have w := h2 c
    rw [l.2.2.2.2.1 _ (by omega)] at w
    exact q.resolve_right w
  have L47 : L < 47 := by
    by_cases c : a < 62
    · exact alegal_R hA (by omega) (h1' c)
    · exact alegal_G hA (p := (a - 62).toNat) (by omega) (by rw [h2' (by omega)]; decide)
  have ta := tour_act t h0 h1' h2'
  -- the memory before it is settled
  have ne0 : ∀ r, r ≠ 35 → r ≠ 36 → pm_upd (pm_stv pm_sC G 36 (L : Int) a) 35 1 ((L : Int) + 1) r = G r := fun r q1 q2 => by rw [upd_ne q1, stv_ne q2]
  have n36 : pm_upd (pm_stv pm_sC G 36 (L : Int) a) 35 1 ((L : Int) + 1) 36 = fup (G 36) L a := by
    rw [upd_ne (by decide), stv_eq, lenC_36, stf_in (by omega) (by omega), Int.toNat_natCast]
  have n35 : pm_upd (pm_stv pm_sC G 36 (L : Int) a) 35 1 ((L : Int) + 1) 35 1 = ((L + 1 : Nat) : Int) := by
    rw [upd_eq, fup_eq]
    omega
  obtain ⟨i1, i2⟩ := entered_in (M := pm_upd (pm_stv pm_sC G 36 (L : Int) a) 35 1 ((L : Int) + 1)) h0
  rw [ne0 14 (by decide) (by decide)] at i1
  rw [ne0 15 (by decide) (by decide)] at i2
  have ne1 : ∀ r, r ≠ 14 → r ≠ 15 → entered (pm_upd (pm_stv pm_sC G 36 (L : Int) a) 35 1 ((L : Int) + 1)) a r = pm_upd (pm_stv pm_sC G 36 (L : Int) a) 35 1 ((L : Int) + 1) r := fun r q1 q2 => entered_ne q1 q2
  obtain ⟨s1, s2⟩ := eR_s (A := G 36) (L := L) (a := a)
  have lv : livs (acted G L a) n x (L + 1) := by
    refine livs_setl t.1 t.2.1 (planC_same l.1 (fun r q1 q2 => by rw [ne1 r (by omega) (by omega), ne0 r (by omega) (by omega)])) (planC_same l.2.1 (fun r q1 q2 => by rw [ne1 r (by omega) (by omega), ne0 r (by omega) (by omega)])) ?_ ?_ (fun m hm => ?_) (fun p hp => ?_)
    · rw [ne1 35 (by decide) (by decide)]
      exact n35
    · rw [ne1 36 (by decide) (by decide), n36]
      exact ta.2.2.1
    · rw [i1, ne1 36 (by decide) (by decide), n36, s1]
      by_cases c : a < 62
      · rw [if_pos c, if_pos c]
        unfold fup
        by_cases e : m = (a / 2).toNat
        · rw [if_pos e, if_pos e]
        · rw [if_neg e, if_neg e]
          exact l.2.2.2.1 m hm
      · rw [if_neg c, if_neg c]
        exact l.2.2.2.1 m hm
    · rw [i2, ne1 36 (by decide) (by decide), n36, s2]
      by_cases c : a < 62
      · rw [if_pos c, if_pos c]
        exact l.2.2.2.2.1 p hp
      · rw [if_neg c, if_neg c]
        unfold fup
        by_cases e : p = (a - 62).toNat
        · rw [if_pos e, if_pos e]
        · rw [if_neg e, if_neg e]
          exact l.2.2.2.2.1 p hp
  have an : ∀ r, (r < 14 ∨ 18 < r) → r ≠ 35 → r ≠ 36 → acted G L a r = G r := fun r q1 q2 q3 => by
    unfold acted
    rw [setl_ne_L (by omega) (by omega) (by omega), ne1 r (by omega) (by omega), ne0 r q2 q3]
  have a36 : acted G L a 36 = fup (G 36) L a := by
    unfold acted
    rw [setl_ne_L (by decide) (by decide) (by decide), ne1 36 (by decide) (by decide), n36]
  have ta' : tour n x (L + 1) (acted G L a 1) (acted G L a 36) (K' 1) := by
    rw [an 1 (by decide) (by decide) (by decide), a36, k1]
    exact ta
  refine ⟨⟨⟨n, x, L + 1, ta', lv⟩, ⟨?_, ?_⟩, ?_, ?_, ?_⟩, ta', lv⟩
  · rw [an 13 (by decide) (by decide) (by decide)]; exact h.2.1.1
  · rw [an 29 (by decide) (by decide) (by decide)]; exact h.2.1.2
  · have s := slo_same (G' := acted G L a) h.2.2.1 (fun r q1 q2 => an r (by omega) (by omega) (by omega))
    unfold slo at s ⊢
    rw [k3, k2]
    exact s
  · have s := slo_same (G' := acted G L a) h.2.2.2.1 (fun r q1 q2 => an r (by omega) (by omega) (by omega))
    unfold slo at s ⊢
    rw [k3, k2]
    exact s
  · have s := h.2.2.2.2
    unfold pads at s ⊢
    rw [an 37 (by decide) (by decide) (by decide), an 38 (by decide) (by decide) (by decide), k4, k0]
    exact s
/-- what a call that acts leaves as it was: the pads, and what the reference has read -/
def frm (G K G' K' : PW) : Prop := (G' 37 = G 37 ∧ G' 38 = G 38) ∧ (K' 24 = K 24 ∧ K' 25 = K 25 ∧ K' 0 33 = K 0 33) ∧ K' 4 = K 4 ∧ K' 0 4 = K 0 4
def bothF (kc km : Nat) (as : List PV) (G K : PW) : Prop := ∃ v G' K', pm_ca pm_sC kc (.inr (.inr 0) :: as) G = some (some (.inl v), G') ∧ pm_ca pm_sM km (.inr (.inr 0) :: as) K = some (some (.inl v), K') ∧ REL G' K' ∧ frm G K G' K'
theorem both_of {kc km : Nat} {as : List PV} (h : bothF kc km as G K) : both kc km as G K := by
  obtain ⟨v, G', K', a, b, c, -⟩ := h
  exact ⟨v, G', K', a, b, c⟩
theorem frm_rf : frm G K G K := ⟨⟨rfl, rfl⟩, ⟨rfl, rfl, rfl⟩, rfl, rfl⟩
theorem frm_lk (h0 : K 1 0 = (n : Int)) (h1 : K 1 1 = (x : Int)) : frm G K G (lkd K n x) := by
  obtain ⟨-, -, -, a4, a5⟩ := lkd_r (a := 0) (b := -6) h0 h1
  refine ⟨⟨rfl, rfl⟩, ⟨?_, ?_, ?_⟩, a4, a5⟩
  · unfold lkd
    rw [laid_ne (by decide) (by decide) (by decide) (by decide) (by decide) (by decide), wayed_r (by decide)]
  · unfold lkd
    rw [laid_ne (by decide) (by decide) (by decide) (by decide) (by decide) (by decide), wayed_r (by decide)]
  · unfold lkd
    rw [laid_0 (by decide) (by decide), wayed_0 (by decide)]
theorem acted_ne {a : Int} {r : Nat} (h : r < 14 ∨ 18 < r) (h1 : r ≠ 35) (h2 : r ≠ 36) : acted G L a r = G r := by
  unfold acted
  rw [setl_ne_L (by omega) (by omega) (by omega), entered_ne (by omega) (by omega), upd_ne h1, stv_ne h2]
theorem frm_tr {G1 K1 G2 K2 : PW} (h1 : frm G K G1 K1) (h2 : frm G1 K1 G2 K2) : frm G K G2 K2 := by
  obtain ⟨⟨a1, a2⟩, ⟨a3, a4, a5⟩, a6, a7⟩ := h1
  obtain ⟨⟨b1, b2⟩, ⟨b3, b4, b5⟩, b6, b7⟩ := h2
  exact ⟨⟨b1.trans a1, b2.trans a2⟩, ⟨b3.trans a3, b4.trans a4, b5.trans a5⟩, b6.trans a6, b7.trans a7⟩
theorem frm_act {a : Int} {K' : PW} (h : frm G K G K') : frm G K (acted G L a) K' := ⟨⟨acted_ne (by decide) (by decide) (by decide), acted_ne (by decide) (by decide) (by decide)⟩, h.2⟩
theorem bF_result (h : REL G K) {m s : Int} : bothF 72 137 [.inl m, .inl s] G K := by
  obtain ⟨n, x, L, t, l⟩ := h.1
  obtain ⟨lk, se, pl, ps, v⟩ := REL_look t l
  have lo := livs_ok t l
  obtain ⟨hc, g1, g2, g3, g4, g5⟩ := tz_facts t.1 t.2.1
  have k0 := t.2.2.2.2.1.1
  have k1 := t.2.2.2.2.1.2.1
  obtain ⟨r1, r2, r3, r4, r5⟩ := lkd_r (K := K) (n := n) (x := x) (a := 0) (b := -6) k0 k1
  have r1 : lkd K n x 1 = K 1 := r1
  have hA := t.2.2.1
  -- an open match has no result
  have nw : 0 ≤ m → m < (tF (tz n) : Int) → bplay (n : Int) (pm_rows G 3) m.toNat = true → G 14 m.toNat = -6 := fun q1 q2 q => (rl0 (f_rule v.1 (show m.toNat < tF (tz n) by omega) q)).1
  have L47 : 0 ≤ m → m < (tF (tz n) : Int) → bplay (n : Int) (pm_rows G 3) m.toNat = true → L < 47 := fun q1 q2 q => alegal_R hA (m := m.toNat) (by omega) (by rw [← l.2.2.2.1 _ (by omega)]; exact nw q1 q2 q)
  have cr := c_result (m := m) (s := s) lo.2.2.1 lo.2.2.2.2.2.1 lo.1 l.2.2.1 (by rw [lo.2.2.2.1]; exact L47)
  rw [lo.2.2.2.1] at cr
  have mr := m_result (m := m) (s := s) lk se (show lkd K n x 1 2 = (L : Int) by rw [r1]; exact t.2.2.2.2.1.2.2) (fun q1 q2 q => L47 q1 q2 (by rw [← v_open v (by omega)]; exact q))
  have rl := REL_lk h k0 k1
  have fl : frm G K G (lkd K n x) := frm_lk k0 k1
  by_cases c0 : 0 ≤ m ∧ m < (tF (tz n) : Int)
  · rw [if_pos c0] at cr mr
    by_cases c1 : 0 ≤ s ∧ s ≤ 1
    · rw [if_pos c1] at cr mr
      rw [v_open v (by omega)] at mr
      by_cases c2 : bplay (n : Int) (pm_rows G 3) m.toNat = true
      · rw [if_pos c2] at cr mr
        obtain ⟨a1, a2, a3, a4, a5⟩ := v_how v (show m.toNat < tF (tz n) by omega)
        have e : lkd K n x 17 (2 * m.toNat + s.toNat) = G 16 (2 * m.toNat + s.toNat) := by
          have s01 : s.toNat = 0 ∨ s.toNat = 1 := by omega
          rcases s01 with q | q
          · rw [q]; exact a4
          · rw [q]; exact a5
        rw [e] at mr
        have ha : (2 * m + s) / 2 = m := by omega
        have hb : (2 * m + s) % 2 = s := by omega
        refine ⟨_, _, _, cr, mr, (REL_act (a := 2 * m + s) rl (by rw [r1]; exact t) l (by omega) (fun _ => by rw [ha]; exact nw c0.1 c0.2 c2) (fun y => by omega) ?_ ?_ ?_ ?_ ?_).1, frm_act fl⟩
        · unfold mresd arow acell aval acode
          rw [upd_eq, upd_eq, upd_eq, if_pos (by omega), if_pos (by omega), if_pos (by omega), ha, hb, Int.toNat_of_nonneg c0.1]
        · exact rfl
        · exact rfl
        · exact rfl
        · exact rfl
      · rw [if_neg c2] at cr mr
        exact ⟨_, _, _, cr, mr, rl, fl⟩
    · rw [if_neg c1] at cr mr
      exact ⟨_, _, _, cr, mr, rl, fl⟩
  · rw [if_neg c0] at cr mr
    exact ⟨_, _, _, cr, mr, rl, fl⟩
theorem bF_withdraw (h : REL G K) {a : Int} : bothF 73 138 [.inl a] G K := by
  obtain ⟨n, x, L, t, l⟩ := h.1
  obtain ⟨lk, se, pl, ps, v⟩ := REL_look t l
  have lo := livs_ok t l
  obtain ⟨hc, g1, g2, g3, g4, g5⟩ := tz_facts t.1 t.2.1
  have k0 := t.2.2.2.2.1.1
  have k1 := t.2.2.2.2.1.2.1
  obtain ⟨r1, r2, r3, r4, r5⟩ := lkd_r (K := K) (n := n) (x := x) (a := 0) (b := -6) k0 k1
  have r1 : lkd K n x 1 = K 1 := r1
  have hA := t.2.2.1
  have n16 := t.1.2
  have gg : ∀ p, p < 16 → lkd K n x 1 (50 + p) = G 15 p := fun p hp => by
    rw [r1, t.2.2.2.2.2.2.2.1 p hp]
    exact (l.2.2.2.2.1 p hp).symm
  have L47 : 0 ≤ a → a < (n : Int) → ¬ G 15 a.toNat = 1 → L < 47 := fun q1 q2 q => alegal_G hA (p := a.toNat) (by omega) (by rw [← l.2.2.2.2.1 _ (by omega)]; exact q)
  have rl := REL_lk h k0 k1
  have fl : frm G K G (lkd K n x) := frm_lk k0 k1
  -- what stands behind it
  have act : 0 ≤ a → a < (n : Int) → ¬ G 15 a.toNat = 1 → REL (acted G L (62 + a)) (mgoned (lkd K n x) L a.toNat) ∧ tour n x (L + 1) (acted G L (62 + a) 1) (acted G L (62 + a) 36) (mgoned (lkd K n x) L a.toNat 1) ∧ livs (acted G L (62 + a)) n x (L + 1) := fun q1 q2 q => by
    refine REL_act (a := 62 + a) rl (by rw [r1]; exact t) l (by omega) (fun y => by omega) (fun _ => by rw [show 62 + a - 62 = a by omega]; exact q) ?_ rfl rfl rfl rfl
    unfold mgoned arow acell aval acode
    rw [upd_eq, upd_eq, upd_eq, if_neg (by omega), if_neg (by omega), if_neg (by omega), show 62 + a - 62 = a by omega, show 62 + a + 38 = 100 + a by omega, Int.toNat_of_nonneg q1]
  have cr := c_withdraw (x := a) lo.2.2.1 lo.2.2.2.2.2.1 lo.1 (by rw [lo.2.2.2.1]; omega) l.2.2.1 (by rw [lo.2.2.2.1]; exact L47)
  rw [lo.2.2.2.1] at cr
  have mr := m_withdraw (x := a) (F2 := tF (tz n)) (K2 := lkd (mgoned (lkd K n x) L a.toNat) n x) lk k0 se (show lkd K n x 1 2 = (L : Int) by rw [r1]; exact t.2.2.2.2.1.2.2) (fun q1 q2 q => L47 q1 q2 (by rw [← gg a.toNat (by omega)]; exact q)) (fun q1 q2 q _ => by
    obtain ⟨-, t2, l2⟩ := act q1 q2 (by rw [← gg a.toNat (by omega)]; exact q)
    exact (REL_look t2 l2).1) (mcF_plan hc (laid_plan (wayed_plan t.1 t.2.1)))
  by_cases c0 : 0 ≤ a ∧ a < (n : Int)
  · rw [if_pos c0] at cr mr
    rw [gg a.toNat (by omega)] at mr
    obtain ⟨p, rfl⟩ : ∃ p : Nat, a = (p : Int) := ⟨a.toNat, by omega⟩
    have hp : p < n := by omega
    obtain ⟨x1, x2⟩ := nx_of v.1 hp
    have hsp := v_has v hp
    by_cases c1 : G 15 (p : Int).toNat = 1 ∨ ffrom (bnext (pm_rows G 3) (p : Int)) (tF (tz n)) 0 = -6
    · rw [if_pos c1] at cr
      rw [if_pos (c1.elim Or.inl (fun y => Or.inr (hsp.mpr (Decidable.byContradiction (fun w => by have := (x1 (by omega)).1; omega)))))] at mr
      exact ⟨_, _, _, cr, mr, rl, fl⟩
    · rw [if_neg c1] at cr
      rw [if_neg (fun y => c1 (y.elim Or.inl (fun y => Or.inr (x2 (hsp.mp y)))))] at mr
      obtain ⟨rr, t2, l2⟩ := act c0.1 c0.2 (fun y => c1 (Or.inl y))
      obtain ⟨lk2, se2, pl2, ps2, v2⟩ := REL_look t2 l2
      have e1 := v_dec v
      have e2 := v_dec v2
      have d1 : decs G = (tF (tz n) : Int) - cnt (fun m => decide ((pm_rows G 3).2.1 m = 0)) (tF (tz n)) := by
        unfold decs
        rw [lo.2.2.1, Int.toNat_natCast]
        rfl
      have d2 : decs (acted G L (62 + (p : Int))) = (tF (tz n) : Int) - cnt (fun m => decide ((pm_rows (acted G L (62 + (p : Int))) 3).2.1 m = 0)) (tF (tz n)) := by
        unfold decs
        rw [(livs_ok t2 l2).2.2.1, Int.toNat_natCast]
        rfl
      rw [e1, e2, ← d1, ← d2] at mr
      have fm : frm G K (acted G L (62 + (p : Int))) (mgoned (lkd K n x) L (p : Int).toNat) := frm_act fl
      exact ⟨_, _, _, cr, mr, REL_lk rr t2.2.2.2.2.1.1 t2.2.2.2.2.1.2.1, frm_tr fm (frm_lk t2.2.2.2.2.1.1 t2.2.2.2.2.1.2.1)⟩
  · rw [if_neg c0] at cr mr
    exact ⟨_, _, _, cr, mr, h, frm_rf⟩
theorem b_result (h : REL G K) {m s : Int} : both 72 137 [.inl m, .inl s] G K := both_of (bF_result h)
theorem b_withdraw (h : REL G K) {a : Int} : both 73 138 [.inl a] G K := both_of (bF_withdraw h)
end ACT
