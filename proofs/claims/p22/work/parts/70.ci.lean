/-! the class' memory between calls -/
def CI (G : PW) (n x L : Nat) : Prop := (2 ≤ n ∧ n ≤ 16) ∧ (x = 0 ∨ x = 1) ∧ alegal (G 36) L ∧ (∀ p, p < 16 → 0 ≤ G 1 p ∧ G 1 p ≤ 9999) ∧ livs G n x L
section CIS
variable {G : PW} {n x L : Nat}
theorem CI_R (h : CI G n x L) : res3 (G 14) := livs_R h.2.2.1 h.2.2.2.2.2.2.2.1
theorem CI_ok (h : CI G n x L) : live_ok G (tF (tz n)) n := by
  obtain ⟨h1, h2, hA, h4, l⟩ := h
  obtain ⟨hc, g1, g2, g3, g4, g5⟩ := tz_facts h1 h2
  have so := sok_of h1 h2 l.1 (livs_R hA l.2.2.2.1)
  refine ⟨so, l.2.2.2.2.2.1, l.1.1.2.2.2.2, l.1.1.1, h1.2, g5, ?_⟩
  rw [← l.1.1.2.2.2.2]
  exact so.2.2
theorem CI_fin (h : CI G n x L) : ∃ ps, fin (tz n) x n (rlive (G 14) (G 15)) (pm_rows G 3) ps := by
  have hR := CI_R h
  obtain ⟨h1, h2, h3, h4, l⟩ := h
  obtain ⟨hc, g1, g2, g3, g4, g5⟩ := tz_facts h1 h2
  obtain ⟨B0, b1, b2⟩ := l.2.2.2.2.2.2
  obtain ⟨ps, hf⟩ := fin_run hc (rl_ok (R := G 14) (g := G 15) hR) ⟨h1.1, g1⟩ b1
  rw [← b2] at hf
  exact ⟨ps, hf⟩
theorem CI_47 (h : CI G n x L) : L ≤ 47 := alegal_47 h.2.2.1
theorem CI_L (h : CI G n x L) : G 35 1 = (L : Int) := h.2.2.2.2.2.2.1
theorem CI_g (h : CI G n x L) : ∀ p, p < 16 → G 15 p = 0 ∨ G 15 p = 1 := fun p hp => by
  rw [h.2.2.2.2.2.2.2.2.1 p hp]
  exact (eR_rg h.2.2.1 L (Nat.le_refl _)).2 p
/-- an act -/
theorem CI_act {a : Int} (h : CI G n x L) (h0 : 0 ≤ a ∧ a < 78) (h1 : a < 62 → G 14 (a / 2).toNat = -6) (h2 : 62 ≤ a → ¬ G 15 (a - 62).toNat = 1) : CI (acted G L a) n x (L + 1) ∧ acted G L a 14 = (if a < 62 then fup (G 14) (a / 2).toNat (a % 2) else G 14) ∧ acted G L a 15 = (if a < 62 then G 15 else fup (G 15) (a - 62).toNat 1) := by
  obtain ⟨c1, c2, hA, c4, l⟩ := h
  have h1' : a < 62 → eR (G 36) L (a / 2).toNat = -6 := fun c => by
    rw [← l.2.2.2.1 _ (by omega)]
    exact h1 c
  have h2' : 62 ≤ a → eG (G 36) L (a - 62).toNat = 0 := fun c => by
    have q := (eR_rg hA L (Nat.le_refl _)).2 (a - 62).toNat
    have w := h2 c
    rw [l.2.2.2.2.1 _ (by omega)] at w
    exact q.resolve_right w
  have L47 : L < 47 := by
    by_cases c : a < 62
    · exact alegal_R hA (by omega) (h1' c)
    · exact alegal_G hA (p := (a - 62).toNat) (by omega) (by rw [h2' (by omega)]; decide)
  have ta := alegal_s hA h0 h1' h2'
  have ne0 : ∀ r, r ≠ 35 → r ≠ 36 → pm_upd (pm_stv pm_sC G 36 (L : Int) a) 35 1 ((L : Int) + 1) r = G r := fun r q1 q2 => by rw [upd_ne q1, stv_ne q2]
  have n36 : pm_upd (pm_stv pm_sC G 36 (L : Int) a) 35 1 ((L : Int) + 1) 36 = fup (G 36) L a := by
    rw [upd_ne (by decide), stv_eq, lenC_36, stf_in (by omega) (by omega), Int.toNat_natCast]
  have n35 : pm_upd (pm_stv pm_sC G 36 (L : Int) a) 35 1 ((L : Int) + 1) 35 1 = ((L + 1 : Nat) : Int) := by
    rw [upd_eq, fup_eq]
    omega
  obtain ⟨i1, i2⟩ := entered_in (M := pm_upd (pm_stv pm_sC G 36 (L : Int) a) 35 1 ((L : Int) + 1)) h0
  rw [ne0 14 (by decide) (by decide)] at i1
  rw [ne0 15 (by decide) (by decide)] at i2
  have ne1 : ∀ r, r ≠ 14 → r ≠ 15 → entered (pm_upd (pm_stv pm_sC G 36 (L : Int) a) 35 1 ((L : Int) + 1)) a r = pm_upd (pm_stv pm_sC G 36 (L : Int) a) 35 1 ((L : Int) + 1) r := fun r q1 q2 => entered_ne q1 q2
  obtain ⟨s1, s2⟩ := eR_s (A := G 36) (L := L) (a := a)
  have lv : livs (acted G L a) n x (L + 1) := by
    refine livs_setl c1 c2 (planC_same l.1 (fun r q1 q2 => by rw [ne1 r (by omega) (by omega), ne0 r (by omega) (by omega)])) (planC_same l.2.1 (fun r q1 q2 => by rw [ne1 r (by omega) (by omega), ne0 r (by omega) (by omega)])) ?_ ?_ (fun m hm => ?_) (fun p hp => ?_)
    · rw [ne1 35 (by decide) (by decide)]
      exact n35
    · rw [ne1 36 (by decide) (by decide), n36]
      exact ta
    · rw [i1, ne1 36 (by decide) (by decide), n36, s1]
      by_cases c : a < 62
      · rw [if_pos c, if_pos c]
        unfold fup
        by_cases e : m = (a / 2).toNat
        · rw [if_pos e, if_pos e]
        · rw [if_neg e, if_neg e]
          exact l.2.2.2.1 m hm
      · rw [if_neg c, if_neg c]
        exact l.2.2.2.1 m hm
    · rw [i2, ne1 36 (by decide) (by decide), n36, s2]
      by_cases c : a < 62
      · rw [if_pos c, if_pos c]
        exact l.2.2.2.2.1 p hp
      · rw [if_neg c, if_neg c]
        unfold fup
        by_cases e : p = (a - 62).toNat
        · rw [if_pos e, if_pos e]
        · rw [if_neg e, if_neg e]
          exact l.2.2.2.2.1 p hp
  have a36 : acted G L a 36 = fup (G 36) L a := by
    unfold acted
    rw [setl_ne_L (by decide) (by decide) (by decide), ne1 36 (by decide) (by decide), n36]
  refine ⟨⟨c1, c2, ?_, ?_, lv⟩, ?_, ?_⟩
  · rw [a36]; exact ta
  · rw [acted_ne (by decide) (by decide) (by decide)]; exact c4
  · unfold acted
    rw [setl_ne_L (by decide) (by decide) (by decide), i1]
  · unfold acted
    rw [setl_ne_L (by decide) (by decide) (by decide), i2]
/-- an act taken back -/
theorem CI_undo {j : Nat} (h : CI G n x (j + 1)) : CI (replayed (pm_upd G 35 1 (((j + 1 : Nat) : Int) - 1)) j) n x j := by
  obtain ⟨c1, c2, hA, c4, l⟩ := h
  have n0 : ∀ r, r ≠ 35 → pm_upd G 35 1 (((j + 1 : Nat) : Int) - 1) r = G r := fun r q => upd_ne q
  have n35 : pm_upd G 35 1 (((j + 1 : Nat) : Int) - 1) 35 1 = (j : Int) := by
    rw [upd_eq, fup_eq]
    omega
  have hA' := alegal_le hA (show j ≤ j + 1 by omega)
  have lv : livs (replayed (pm_upd G 35 1 (((j + 1 : Nat) : Int) - 1)) j) n x j := livs_replayed c1 c2 (planC_same l.1 (fun r a b => n0 r (by omega))) (planC_same l.2.1 (fun r a b => n0 r (by omega))) n35 (by rw [n0 36 (by decide)]; exact hA')
  have rn : ∀ r, (r < 14 ∨ 18 < r) → r ≠ 35 → replayed (pm_upd G 35 1 (((j + 1 : Nat) : Int) - 1)) j r = G r := fun r a b => by rw [replayed_ne a, n0 r b]
  refine ⟨c1, c2, ?_, ?_, lv⟩
  · rw [rn 36 (by decide) (by decide)]; exact hA'
  · rw [rn 1 (by decide) (by decide)]; exact c4
/-- what the trials may change -/
theorem CI_same {G' : PW} (h : CI G n x L) (he : ∀ r, r < 30 ∨ r = 35 ∨ r = 36 → G' r = G r) : CI G' n x L := by
  obtain ⟨c1, c2, hA, c4, l⟩ := h
  refine ⟨c1, c2, by rw [he 36 (by omega)]; exact hA, by rw [he 1 (by omega)]; exact c4, livs_of l (fun r hr => he r (by omega))⟩
/-- a tournament begun -/
theorem CI_begun (hn : 2 ≤ n ∧ n ≤ 16) (hx : x = 0 ∨ x = 1) : CI (fresh (bgn G n x)) n x 0 := by
  have e1 : fresh (bgn G n x) 1 = rated0 (bgn G n x) 1 := upd_ne (by decide)
  have er : ∀ r, r ≠ 1 → r ≠ 35 → fresh (bgn G n x) r = bgn G n x r := fun r a b => by
    unfold fresh rated0
    rw [upd_ne b, row_ne a]
  refine ⟨hn, hx, fun j hj => absurd hj (Nat.not_lt_zero j), fun p hp => ?_, livs_begun (G := G) hn hx (fun r a b => er r (by omega) (by omega)) ?_⟩
  · rw [e1]
    unfold rated0
    rw [row_eq]
    unfold mixf
    rw [if_pos hp]
    show 0 ≤ 1500 - 10 * (p : Int) ∧ 1500 - 10 * (p : Int) ≤ 9999
    omega
  · unfold fresh
    rw [upd_eq, fup_eq]
theorem start_01 : y01 (startG 13) ∧ y01 (startG 29) := by
  have fr : ∀ r, r ≠ 1 → startG r = bgn zG 8 0 r := fun r a => by
    unfold startG rated0
    rw [row_ne a]
  have y := bgn_01 (G := zG) (n := 8) (x := 0) (fun _ _ => Or.inl rfl) (fun _ _ => Or.inl rfl)
  exact ⟨by rw [fr 13 (by decide)]; exact y.1, by rw [fr 29 (by decide)]; exact y.2⟩
/-- setting up, behind the constructor -/
def setG (n x : Nat) : PW := fresh (bgn startG n x)
theorem c_setUp' (hn : 2 ≤ n ∧ n ≤ 16) (hx : x = 0 ∨ x = 1) : ∃ v, pm_ca pm_sC 54 [.inr (.inr 0), .inl (n : Int), .inl (x : Int)] startG = some (some (.inl v), setG n x) :=
  ⟨_, c_setUp ⟨by omega, by omega, by omega, by omega⟩ (c_bgn hn hx start_01.1 start_01.2).1⟩
theorem CI_set (hn : 2 ≤ n ∧ n ≤ 16) (hx : x = 0 ∨ x = 1) : CI (setG n x) n x 0 := CI_begun hn hx
/-- trials -/
theorem CI_tri (h : CI G n x L) : tri_ok G (tF (tz n)) n ∧ res3 (taken G 30) ∧ planC (trial0 G) 20 (tz n) x n ∧ ∃ B0, gbeg (tz n) n B0 ∧ pm_rows (trial0 G) 19 = grun (tz n) x (rlive (taken G 30) (taken G 31)) B0 (tF (tz n)) := by
  obtain ⟨c1, c2, hA, c4, l⟩ := h
  obtain ⟨hc, h1, h2, h3, h4, h5⟩ := tz_facts c1 c2
  have hR : res3 (taken G 30) := fun m hm => by
    rw [taken_30 hm]
    exact livs_R hA l.2.2.2.1 m hm
  have p20 : planC (taken G) 20 (tz n) x n := planC_same l.2.1 (fun r a b => taken_ne (by omega) (by omega))
  obtain ⟨s1, s2⟩ := setl_runT c1 c2 p20
  have so : sok_T (taken G) := by
    refine ⟨hR, ?_, ?_⟩
    · rw [p20.1.2.2.1]
      rcases hc.1 with e | e | e
      · exact Or.inl (by rw [e]; rfl)
      · exact Or.inr (Or.inl (by rw [e]; rfl))
      · exact Or.inr (Or.inr (by rw [e]; rfl))
    · rw [p20.1.2.2.1, p20.1.2.2.2.2, h3]
      omega
  refine ⟨⟨so, l.2.1.1.2.2.2.2, ?_, l.2.1.1.1, c1.2, fun p hp => ?_⟩, hR, planC_same l.2.1 (fun r a b => trial0_ne (by omega)), _, s1, s2⟩
  · rw [l.2.1.1.2.2.1, h3]
    omega
  · have := c4 p hp
    omega
end CIS
