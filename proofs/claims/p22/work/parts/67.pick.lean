/-! picked out of the rows of the whole claim -/
section
variable {G G' K K' : PW} {n x L : Nat}
theorem livs_same (h : livs G n x L) (he : ∀ r, r ≠ 2 → (r < 30 ∨ 34 < r) → r ≠ 37 → G' r = G r) : livs G' n x L := by
  obtain ⟨p1, p2, hL, hR, hg, hb, B0, b1, b2⟩ := h
  have r3 : pm_rows G' 3 = pm_rows G 3 := by
    unfold pm_rows
    rw [he 16 (by decide) (by decide) (by decide), he 17 (by decide) (by decide) (by decide), he 18 (by decide) (by decide) (by decide)]
  refine ⟨planC_same p1 (fun r a b => he r (by omega) (by omega) (by omega)), planC_same p2 (fun r a b => he r (by omega) (by omega) (by omega)), ?_, fun m hm => ?_, fun p hp => ?_, ?_, B0, b1, ?_⟩
  · rw [he 35 (by decide) (by decide) (by decide)]; exact hL
  · rw [he 14 (by decide) (by decide) (by decide), he 36 (by decide) (by decide) (by decide)]; exact hR m hm
  · rw [he 15 (by decide) (by decide) (by decide), he 36 (by decide) (by decide) (by decide)]; exact hg p hp
  · rw [r3]; exact hb
  · rw [r3, he 14 (by decide) (by decide) (by decide), he 15 (by decide) (by decide) (by decide)]; exact b2
end
theorem eR_s {A : Nat → Int} {L : Nat} {a : Int} : eR (fup A L a) (L + 1) = (if a < 62 then fup (eR A L) (a / 2).toNat (a % 2) else eR A L) ∧ eG (fup A L a) (L + 1) = (if a < 62 then eG A L else fup (eG A L) (a - 62).toNat 1) := by
  obtain ⟨e1, e2⟩ := eR_same (A := fup A L a) (A' := A) L (fun j hj => fup_ne (by omega))
  constructor
  · show (if fup A L a L < 62 then fup (eR (fup A L a) L) (fup A L a L / 2).toNat (fup A L a L % 2) else eR (fup A L a) L) = _
    rw [e1, fup_eq]
  · show (if fup A L a L < 62 then eG (fup A L a) L else fup (eG (fup A L a) L) (fup A L a L - 62).toNat 1) = _
    rw [e2, fup_eq]
section
variable {G K : PW} {n x L : Nat}
theorem entered_in {M : PW} {a : Int} (h0 : 0 ≤ a ∧ a < 78) : entered M a 14 = (if a < 62 then fup (M 14) (a / 2).toNat (a % 2) else M 14) ∧ entered M a 15 = (if a < 62 then M 15 else fup (M 15) (a - 62).toNat 1) := by
  unfold entered
  by_cases c : a < 62
  · rw [if_pos c, if_pos c, if_pos c, stv_eq, lenC_14, stf_in (by omega) (by omega), stv_ne (by decide)]
    exact ⟨rfl, rfl⟩
  · rw [if_neg c, if_neg c, if_neg c, stv_eq, lenC_15, stf_in (by omega) (by omega), stv_ne (by decide)]
    exact ⟨rfl, rfl⟩
end
section
variable {G K : PW} {n x L : Nat}
theorem acted_ne {a : Int} {r : Nat} (h : r < 14 ∨ 18 < r) (h1 : r ≠ 35) (h2 : r ≠ 36) : acted G L a r = G r := by
  unfold acted
  rw [setl_ne_L (by omega) (by omega) (by omega), entered_ne (by omega) (by omega), upd_ne h1, stv_ne h2]
end
section
variable {G K : PW} {n x L : Nat}
theorem entall_eR {A : Nat → Int} {M : PW} (hA : alegal A L) (h14 : ∀ m, m < 31 → M 14 m = -6) (h15 : ∀ p, p < 16 → M 15 p = 0) : ∀ k, k ≤ L → (∀ m, m < 31 → entall A M k 14 m = eR A k m) ∧ ∀ p, p < 16 → entall A M k 15 p = eG A k p := by
  intro k
  induction k with
  | zero => intro _; exact ⟨h14, h15⟩
  | succ k ih =>
    intro hk
    obtain ⟨i1, i2⟩ := ih (by omega)
    obtain ⟨e1, e2⟩ := entered_in (M := entall A M k) (hA k (by omega)).1
    refine ⟨fun m hm => ?_, fun p hp => ?_⟩
    · show entered (entall A M k) (A k) 14 m = (if A k < 62 then fup (eR A k) (A k / 2).toNat (A k % 2) else eR A k) m
      rw [e1]
      by_cases c : A k < 62
      · rw [if_pos c, if_pos c]
        unfold fup
        by_cases e : m = (A k / 2).toNat
        · rw [if_pos e, if_pos e]
        · rw [if_neg e, if_neg e]
          exact i1 m hm
      · rw [if_neg c, if_neg c]
        exact i1 m hm
    · show entered (entall A M k) (A k) 15 p = (if A k < 62 then eG A k else fup (eG A k) (A k - 62).toNat 1) p
      rw [e2]
      by_cases c : A k < 62
      · rw [if_pos c, if_pos c]
        exact i2 p hp
      · rw [if_neg c, if_neg c]
        unfold fup
        by_cases e : p = (A k - 62).toNat
        · rw [if_pos e, if_pos e]
        · rw [if_neg e, if_neg e]
          exact i2 p hp
end
section
variable {G K : PW} {n x L : Nat}
theorem replayed_ne {r : Nat} (h : r < 14 ∨ 18 < r) : replayed G L r = G r := by
  unfold replayed
  rw [setl_ne_L (by omega) (by omega) (by omega), entall_ne (by omega) (by omega), setl_ne_L (by omega) (by omega) (by omega), wiped_ne (by omega) (by omega)]
end
section
variable {G K : PW} {n x L : Nat}
/-- a tournament played again from its acts -/
theorem livs_replayed (h : 2 ≤ n ∧ n ≤ 16) (hx : x = 0 ∨ x = 1) (hp : planC G 4 (tz n) x n) (hp2 : planC G 20 (tz n) x n) (hL : G 35 1 = (L : Int)) (hA : alegal (G 36) L) : livs (replayed G L) n x L := by
  have w14 : ∀ m, m < 31 → setl_L (wiped_L G) 14 m = -6 := fun m hm => by
    rw [setl_ne_L (by decide) (by decide) (by decide), wiped_14]
    unfold mixf
    rw [if_pos hm]
  have w15 : ∀ p, p < 16 → setl_L (wiped_L G) 15 p = 0 := fun p hp => by
    rw [setl_ne_L (by decide) (by decide) (by decide), wiped_15]
    unfold mixf
    rw [if_pos hp]
  obtain ⟨e1, e2⟩ := entall_eR hA w14 w15 L (Nat.le_refl _)
  have ne : ∀ r, (r < 14 ∨ 18 < r) → entall (G 36) (setl_L (wiped_L G)) L r = G r := fun r q => by
    rw [entall_ne (by omega) (by omega), setl_ne_L (by omega) (by omega) (by omega), wiped_ne (by omega) (by omega)]
  have n36 := ne 36 (by decide)
  refine livs_setl h hx (planC_same hp (fun r a b => ne r (by omega))) (planC_same hp2 (fun r a b => ne r (by omega))) ?_ ?_ (fun m hm => ?_) (fun p hp => ?_)
  · rw [ne 35 (by decide)]; exact hL
  · rw [n36]; exact hA
  · rw [n36]; exact e1 m hm
  · rw [n36]; exact e2 p hp
end
section
variable {G K : PW} {n x L : Nat}
theorem livs_of {G' : PW} (h : livs G n x L) (he : ∀ r, (4 ≤ r ∧ r ≤ 28) ∨ r = 35 ∨ r = 36 → G' r = G r) : livs G' n x L := by
  obtain ⟨p1, p2, hL, hR, hg, hb, B0, b1, b2⟩ := h
  have r3 : pm_rows G' 3 = pm_rows G 3 := by
    unfold pm_rows
    rw [he 16 (by decide), he 17 (by decide), he 18 (by decide)]
  refine ⟨planC_same p1 (fun r a b => he r (by omega)), planC_same p2 (fun r a b => he r (by omega)), ?_, fun m hm => ?_, fun p hp => ?_, ?_, B0, b1, ?_⟩
  · rw [he 35 (by decide)]; exact hL
  · rw [he 14 (by decide), he 36 (by decide)]; exact hR m hm
  · rw [he 15 (by decide), he 36 (by decide)]; exact hg p hp
  · rw [r3]; exact hb
  · rw [r3, he 14 (by decide), he 15 (by decide)]; exact b2
end
section
variable {G K : PW} {n x L : Nat}
/-- the memory behind begin -/
def bgp (G : PW) (n x : Nat) : PW := wiped_L (lyd_T (lyd_L G n x) n x)
end
section
variable {G K : PW} {n x L : Nat}
def bgn (G : PW) (n x : Nat) : PW := setl_L (bgp G n x)
end
section
variable {G K : PW} {n x L : Nat}
theorem bgp_ne {r : Nat} (h : (r < 4 ∨ 15 < r) ∧ (r < 20 ∨ 29 < r)) : bgp G n x r = G r := by
  unfold bgp
  rw [wiped_ne (by omega) (by omega), lyd_ne_T (by omega), lyd_ne_L (by omega)]
end
section
variable {G K : PW} {n x L : Nat}
theorem bgn_ne {r : Nat} (h : (r < 4 ∨ 18 < r) ∧ (r < 20 ∨ 29 < r)) : bgn G n x r = G r := by
  unfold bgn
  rw [setl_ne_L (by omega) (by omega) (by omega), bgp_ne (by omega)]
end
section
variable {G K : PW} {n x L : Nat}
theorem bgp_plan (h : 2 ≤ n ∧ n ≤ 16) (hx : x = 0 ∨ x = 1) : planC (bgp G n x) 4 (tz n) x n ∧ planC (bgp G n x) 20 (tz n) x n ∧ (∀ m, m < 31 → bgp G n x 14 m = -6) ∧ ∀ p, p < 16 → bgp G n x 15 p = 0 := by
  have p1 := lyd_plan_L (G := G) h hx
  have p2 := lyd_plan_T (G := lyd_L G n x) h hx
  refine ⟨planC_same p1 (fun r a b => ?_), planC_same p2 (fun r a b => ?_), fun m hm => ?_, fun p hp => ?_⟩
  · unfold bgp
    rw [wiped_ne (by omega) (by omega), lyd_ne_T (by omega)]
  · unfold bgp
    rw [wiped_ne (by omega) (by omega)]
  · unfold bgp
    rw [wiped_14]
    unfold mixf
    rw [if_pos hm]
  · unfold bgp
    rw [wiped_15]
    unfold mixf
    rw [if_pos hp]
end
section
variable {G K : PW} {n x L : Nat}
theorem bgn_01 (hY : y01 (G 13)) (hY2 : y01 (G 29)) : y01 (bgn G n x 13) ∧ y01 (bgn G n x 29) := by
  have e1 : bgn G n x 13 = lyd_L G n x 13 := by
    unfold bgn bgp
    rw [setl_ne_L (by decide) (by decide) (by decide), wiped_ne (by decide) (by decide), lyd_ne_T (by decide)]
  have e2 : bgn G n x 29 = lyd_T (lyd_L G n x) n x 29 := by
    unfold bgn bgp
    rw [setl_ne_L (by decide) (by decide) (by decide), wiped_ne (by decide) (by decide)]
  rw [e1, e2]
  exact ⟨lyd_01_L hY, lyd_01_T (by rw [lyd_ne_L (by decide)]; exact hY2)⟩
end
section
variable {G K : PW} {n x L : Nat}
theorem c_bgn (h : 2 ≤ n ∧ n ≤ 16) (hx : x = 0 ∨ x = 1) (hY : y01 (G 13)) (hY2 : y01 (G 29)) : pm_ca pm_sC 63 [.inr (.inr 0), .inl (n : Int), .inl (x : Int)] G = some (none, bgn G n x) ∧ sok_L (bgn G n x) := by
  obtain ⟨p1, p2, w14, w15⟩ := bgp_plan (G := G) h hx
  have so : sok_L (bgp G n x) := sok_of h hx p1 (fun m hm => Or.inl (w14 m hm))
  exact ⟨c_begin (c_lay_L h hx hY) (c_lay_T h hx (by rw [lyd_ne_L (by decide)]; exact hY2)) so, sok_setl so⟩
end
section
variable {G K : PW} {n x L : Nat}
/-- a begun tournament, when its rows but the bracket's are set otherwise -/
theorem livs_begun {M : PW} (h : 2 ≤ n ∧ n ≤ 16) (hx : x = 0 ∨ x = 1) (he : ∀ r, 3 ≤ r → r ≤ 29 → M r = bgn G n x r) (hL : M 35 1 = 0) : livs M n x 0 := by
  obtain ⟨p1, p2, w14, w15⟩ := bgp_plan (G := G) h hx
  have so : sok_L (bgp G n x) := sok_of h hx p1 (fun m hm => Or.inl (w14 m hm))
  obtain ⟨s1, s2⟩ := setl_run (G := bgp G n x) h hx p1
  have ne : ∀ r, r ≠ 16 → r ≠ 17 → r ≠ 18 → bgn G n x r = bgp G n x r := fun r a b c => setl_ne_L a b c
  have r3 : pm_rows M 3 = pm_rows (setl_L (bgp G n x)) 3 := by
    unfold pm_rows
    rw [he 16 (by decide) (by decide), he 17 (by decide) (by decide), he 18 (by decide) (by decide)]
    rfl
  refine ⟨planC_same p1 (fun r a b => by rw [he r (by omega) (by omega), ne r (by omega) (by omega) (by omega)]), planC_same p2 (fun r a b => by rw [he r (by omega) (by omega), ne r (by omega) (by omega) (by omega)]), hL, fun m hm => ?_, fun p hp => ?_, ?_, bbeg_L (bgp G n x), s1, ?_⟩
  · rw [he 14 (by decide) (by decide), ne 14 (by decide) (by decide) (by decide)]; exact w14 m hm
  · rw [he 15 (by decide) (by decide), ne 15 (by decide) (by decide) (by decide)]; exact w15 p hp
  · rw [r3]; exact bok_setl_L so
  · rw [r3, he 14 (by decide) (by decide), he 15 (by decide) (by decide), ne 14 (by decide) (by decide) (by decide), ne 15 (by decide) (by decide) (by decide)]; exact s2
end
section
variable {G K : PW} {n x L : Nat}
/-- settling the trial bracket: the course of the rule -/
theorem setl_runT (h : 2 ≤ n ∧ n ≤ 16) (hx : x = 0 ∨ x = 1) (hp : planC G 20 (tz n) x n) : gbeg (tz n) n (bbeg_T G) ∧ pm_rows (setl_T G) 19 = grun (tz n) x (rlive (G 30) (G 31)) (bbeg_T G) (tF (tz n)) := by
  obtain ⟨hc, h1, h2, h3, h4, h5⟩ := tz_facts h hx
  refine ⟨⟨fun s hs => ?_, fun m hm => ⟨?_, ?_⟩⟩, ?_⟩
  · show mixf 62 (inir_T G) (G 32) s = _
    unfold mixf
    rw [if_pos (by omega)]
    unfold inir_T
    rw [hp.1.2.2.1]
    by_cases c : s < tz n
    · rw [if_pos (show (s : Int) < (tz n : Int) by omega), if_pos c, atv_in lenC_28 (by omega) (by omega), Int.toNat_natCast, hp.1.1]
      have e : G 28 s = tSD (tz n) s := hp.2.2.1 s c
      rw [e]
      rfl
    · rw [if_neg (show ¬ (s : Int) < (tz n : Int) by omega), if_neg c]
  · show mixf 31 (fun _ => 0) (G 33) m = 0
    unfold mixf
    rw [if_pos (by omega)]
  · show mixf 31 (fun _ => -6) (G 34) m = -6
    unfold mixf
    rw [if_pos (by omega)]
  · have e : pm_rows (setl_T G) 19 = bruns (G 24) (G 25) (2 * G 20 2 - 1).toNat (G 30) (G 31) (bbeg_T G) (2 * G 20 2 - 1).toNat := by
      unfold setl_T
      exact pm_rows_b3
    have f : (2 * G 20 2 - 1).toNat = tF (tz n) := by
      rw [hp.1.2.2.1]
      omega
    rw [e, f, ← bruns_grun]
    exact bruns_ext (N := tF (tz n)) (fun m hm => ⟨(hp.2.1 m hm).2.2.2.1, (hp.2.1 m hm).2.2.2.2, rfl⟩) (fun _ _ => rfl) _ (Nat.le_refl _)
end
section
variable {G K : PW} {n x L : Nat}
theorem taken_ne {r : Nat} (h : r ≠ 30) (h1 : r ≠ 31) : taken G r = G r := by
  unfold taken
  rw [row_ne h1, row_ne h]
end
section
variable {G K : PW} {n x L : Nat}
theorem taken_30 {m : Nat} (hm : m < 31) : taken G 30 m = G 14 m := by
  unfold taken
  rw [row_ne (by decide), row_eq]
  unfold mixf
  rw [if_pos hm]
end
section
variable {G K : PW} {n x L : Nat}
theorem taken_31 {p : Nat} (hp : p < 16) : taken G 31 p = G 15 p := by
  unfold taken
  rw [row_eq]
  unfold mixf
  rw [if_pos hp]
end
section
variable {G K : PW} {n x L : Nat}
theorem trial0_ne {r : Nat} (h : r < 30 ∨ 34 < r) : trial0 G r = G r := by
  unfold trial0
  rw [setl_ne_T (by omega) (by omega) (by omega), taken_ne (by omega) (by omega)]
end
def zG : PW := fun _ _ => 0
/-- the class' memory behind its constructor, and the reference's -/
def startG : PW := rated0 (bgn zG 8 0)
theorem start_begin : pm_ca pm_sC 63 [.inr (.inr 0), .inl 8, .inl 0] zG = some (none, bgn zG 8 0) :=
  (c_bgn (G := zG) (n := 8) (x := 0) ⟨by decide, by decide⟩ (Or.inl rfl) (fun _ _ => Or.inl rfl) (fun _ _ => Or.inl rfl)).1
theorem start_rate : pm_ca pm_sC 73 [.inr (.inr 0)] (bgn zG 8 0) = some (none, startG) := c_rateAsAtFirst
