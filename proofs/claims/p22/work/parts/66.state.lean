/-! both memories: the same tournament -/
def eR (A : Nat → Int) : Nat → Nat → Int
  | 0 => fun _ => -6
  | k + 1 => if A k < 62 then fup (eR A k) (A k / 2).toNat (A k % 2) else eR A k
def eG (A : Nat → Int) : Nat → Nat → Int
  | 0 => fun _ => 0
  | k + 1 => if A k < 62 then eG A k else fup (eG A k) (A k - 62).toNat 1
/-- acts, each of which was new -/
def alegal (A : Nat → Int) (L : Nat) : Prop := ∀ j, j < L → (0 ≤ A j ∧ A j < 78) ∧ (A j < 62 → eR A j (A j / 2).toNat = -6) ∧ (62 ≤ A j → eG A j (A j - 62).toNat = 0)
/-- an act as the reference writes it -/
def acode (a : Int) : Int := if a < 62 then a / 2 else a + 38
def tour (n x L : Nat) (rat A at' : Nat → Int) : Prop := (2 ≤ n ∧ n ≤ 16) ∧ (x = 0 ∨ x = 1) ∧ alegal A L ∧ (∀ p, p < 16 → 0 ≤ rat p ∧ rat p ≤ 9999) ∧ (at' 0 = (n : Int) ∧ at' 1 = (x : Int) ∧ at' 2 = (L : Int)) ∧ (∀ p, p < 16 → at' (3 + p) = rat p) ∧ (∀ m, m < 31 → at' (19 + m) = eR A L m) ∧ (∀ p, p < 16 → at' (50 + p) = eG A L p) ∧ ∀ j, j < L → at' (66 + j) = acode (A j)
def slo (G K : PW) (a s : Nat) : Prop := (G a 0 = 0 ∧ K 3 s = 0) ∨ (G a 0 = 1 ∧ K 3 s = 1 ∧ ∃ n x L : Nat, G a 1 = (n : Int) ∧ G a 2 = (x : Int) ∧ G (a + 2) 1 = (L : Int) ∧ tour n x L (G (a + 1)) (G (a + 3)) (fun j => K 2 (113 * s + j)))
def livs (G : PW) (n x L : Nat) : Prop := planC G 4 (tz n) x n ∧ planC G 20 (tz n) x n ∧ G 35 1 = (L : Int) ∧ (∀ m, m < 31 → G 14 m = eR (G 36) L m) ∧ (∀ p, p < 16 → G 15 p = eG (G 36) L p) ∧ bok (pm_rows G 3) ∧ ∃ B0, gbeg (tz n) n B0 ∧ pm_rows G 3 = grun (tz n) x (rlive (G 14) (G 15)) B0 (tF (tz n))
def pads (G K : PW) : Prop := ∃ N : Nat, N ≤ 60 ∧ G 37 1 = (N : Int) ∧ K 0 4 = (N : Int) ∧ (∀ j, j < N → G 38 j = K 4 j) ∧ (∀ j, j < 60 → (0 ≤ G 38 j ∧ G 38 j ≤ 65535) ∧ 0 ≤ K 4 j ∧ K 4 j ≤ 65535) ∧ 0 ≤ G 37 3 ∧ G 37 3 ≤ 30
def REL (G K : PW) : Prop := (∃ n x L, tour n x L (G 1) (G 36) (K 1) ∧ livs G n x L) ∧ (y01 (G 13) ∧ y01 (G 29)) ∧ slo G K 39 0 ∧ slo G K 43 1 ∧ pads G K
theorem eR_same {A A' : Nat → Int} : ∀ k : Nat, (∀ j, j < k → A j = A' j) → eR A k = eR A' k ∧ eG A k = eG A' k := by
  intro k
  induction k with
  | zero => intro _; exact ⟨rfl, rfl⟩
  | succ k ih =>
    intro h
    obtain ⟨i1, i2⟩ := ih (fun j hj => h j (by omega))
    have e := h k (by omega)
    unfold eR eG
    rw [i1, i2, e]
    exact ⟨rfl, rfl⟩
theorem eR_rg {A : Nat → Int} {L : Nat} (h : alegal A L) : ∀ k, k ≤ L → (∀ m, eR A k m = -6 ∨ eR A k m = 0 ∨ eR A k m = 1) ∧ ∀ p, eG A k p = 0 ∨ eG A k p = 1 := by
  intro k
  induction k with
  | zero => intro _; exact ⟨fun _ => Or.inl rfl, fun _ => Or.inl rfl⟩
  | succ k ih =>
    intro hk
    obtain ⟨i1, i2⟩ := ih (by omega)
    have a := (h k (by omega)).1
    unfold eR eG
    by_cases c : A k < 62
    · rw [if_pos c, if_pos c]
      refine ⟨fun m => ?_, i2⟩
      unfold fup
      by_cases e : m = (A k / 2).toNat
      · rw [if_pos e]; omega
      · rw [if_neg e]; exact i1 m
    · rw [if_neg c, if_neg c]
      refine ⟨i1, fun p => ?_⟩
      unfold fup
      by_cases e : p = (A k - 62).toNat
      · rw [if_pos e]; exact Or.inr rfl
      · rw [if_neg e]; exact i2 p
theorem alegal_le {A : Nat → Int} {L k : Nat} (h : alegal A L) (hk : k ≤ L) : alegal A k := fun j hj => h j (by omega)
theorem alegal_same {A A' : Nat → Int} {L : Nat} (h : alegal A L) (he : ∀ j, j < L → A j = A' j) : alegal A' L := fun j hj => by
  obtain ⟨e1, e2⟩ := eR_same j (fun i hi => he i (by omega))
  rw [← e1, ← e2, ← he j hj]
  exact h j hj
/-- as many cells are set as there were acts -/
theorem alegal_cnt {A : Nat → Int} {L : Nat} (h : alegal A L) : ∀ k, k ≤ L → cnt (fun m => decide (eR A k m ≠ -6)) 31 + cnt (fun p => decide (eG A k p = 1)) 16 = (k : Int) := by
  intro k
  induction k with
  | zero =>
    intro _
    have z1 : cnt (fun m => decide (eR A 0 m ≠ -6)) 31 = 0 := cnt_zero 31 (fun m _ => decide_eq_false (fun y => y rfl))
    have z2 : cnt (fun p => decide (eG A 0 p = 1)) 16 = 0 := cnt_zero 16 (fun p _ => decide_eq_false (show ¬ (0 : Int) = 1 by decide))
    rw [z1, z2]
    rfl
  | succ k ih =>
    intro hk
    have i := ih (by omega)
    obtain ⟨a, a1, a2⟩ := h k (by omega)
    by_cases c : A k < 62
    · have e1 : eR A (k + 1) = fup (eR A k) (A k / 2).toNat (A k % 2) := by
        show (if A k < 62 then _ else _) = _
        rw [if_pos c]
      have e2 : eG A (k + 1) = eG A k := by
        show (if A k < 62 then _ else _) = _
        rw [if_pos c]
      rw [e1, e2, cnt_one (p := fun m => decide (eR A k m ≠ -6)) (q := fun m => decide (fup (eR A k) (A k / 2).toNat (A k % 2) m ≠ -6)) (k := (A k / 2).toNat) 31 (by omega) (fun m _ q => by rw [fup_ne q]) (decide_eq_false (fun y => y (a1 c))), fup_eq, decide_eq_true (show A k % 2 ≠ -6 by omega)]
      show _ + 1 + _ = _
      omega
    · have e1 : eR A (k + 1) = eR A k := by
        show (if A k < 62 then _ else _) = _
        rw [if_neg c]
      have e2 : eG A (k + 1) = fup (eG A k) (A k - 62).toNat 1 := by
        show (if A k < 62 then _ else _) = _
        rw [if_neg c]
      rw [e1, e2, cnt_one (p := fun p => decide (eG A k p = 1)) (q := fun p => decide (fup (eG A k) (A k - 62).toNat 1 p = 1)) (k := (A k - 62).toNat) 16 (by omega) (fun m _ q => by rw [fup_ne q]) (decide_eq_false (by rw [a2 (by omega)]; decide)), fup_eq, decide_eq_true (rfl : (1 : Int) = 1)]
      show _ + (_ + 1) = _
      omega
theorem cnt_le {p : Nat → Bool} {k : Nat} : ∀ N : Nat, k < N → p k = false → cnt p N ≤ (N : Int) - 1 := by
  intro N
  induction N with
  | zero => intro h; omega
  | succ N ih =>
    intro h h1
    show cnt p N + _ ≤ _
    by_cases e : k = N
    · subst e
      have := (cnt_rg p k).2
      rw [h1]
      show _ + 0 ≤ _
      omega
    · have := ih (by omega) h1
      cases p N
      · show _ + 0 ≤ _
        omega
      · show _ + 1 ≤ _
        omega
theorem alegal_47 {A : Nat → Int} {L : Nat} (h : alegal A L) : L ≤ 47 := by
  have a := alegal_cnt h L (Nat.le_refl _)
  have b := (cnt_rg (fun m => decide (eR A L m ≠ -6)) 31).2
  have c := (cnt_rg (fun p => decide (eG A L p = 1)) 16).2
  omega
theorem alegal_R {A : Nat → Int} {L m : Nat} (h : alegal A L) (hm : m < 31) (q : eR A L m = -6) : L < 47 := by
  have a := alegal_cnt h L (Nat.le_refl _)
  have b := cnt_le (p := fun m => decide (eR A L m ≠ -6)) 31 hm (decide_eq_false (fun y => y q))
  have c := (cnt_rg (fun p => decide (eG A L p = 1)) 16).2
  omega
theorem alegal_G {A : Nat → Int} {L p : Nat} (h : alegal A L) (hp : p < 16) (q : ¬ eG A L p = 1) : L < 47 := by
  have a := alegal_cnt h L (Nat.le_refl _)
  have b := (cnt_rg (fun m => decide (eR A L m ≠ -6)) 31).2
  have c := cnt_le (p := fun p => decide (eG A L p = 1)) 16 hp (decide_eq_false q)
  omega
/-- another act -/
theorem alegal_s {A : Nat → Int} {L : Nat} {a : Int} (h : alegal A L) (h0 : 0 ≤ a ∧ a < 78) (h1 : a < 62 → eR A L (a / 2).toNat = -6) (h2 : 62 ≤ a → eG A L (a - 62).toNat = 0) : alegal (fup A L a) (L + 1) := fun j hj => by
  have E : ∀ k, k ≤ L → eR (fup A L a) k = eR A k ∧ eG (fup A L a) k = eG A k := fun k hk => eR_same k (fun i hi => fup_ne (by omega))
  by_cases e : j = L
  · subst e
    obtain ⟨e1, e2⟩ := E j (Nat.le_refl _)
    rw [e1, e2, fup_eq]
    exact ⟨h0, h1, h2⟩
  · obtain ⟨e1, e2⟩ := E j (by omega)
    rw [e1, e2, fup_ne e]
    exact h j (by omega)
theorem tz_facts {n x : Nat} (h : 2 ≤ n ∧ n ≤ 16) (hx : x = 0 ∨ x = 1) : cfg (tz n) x ∧ n ≤ tz n ∧ tz n ≤ 16 ∧ tF (tz n) = 2 * tz n - 1 ∧ 7 ≤ tF (tz n) ∧ tF (tz n) ≤ 31 := by
  obtain ⟨hc, hn⟩ := tz_cfg h hx
  obtain ⟨f1, f2, f3, f4⟩ := cfg_F hc
  exact ⟨hc, hn, by omega, f1, f2, f3⟩
section LIV
variable {G K : PW} {n x L : Nat}
theorem sok_of (h : 2 ≤ n ∧ n ≤ 16) (hx : x = 0 ∨ x = 1) (hp : planC G 4 (tz n) x n) (hR : res3 (G 14)) : sok_L G := by
  obtain ⟨hc, h1, h2, h3, h4, h5⟩ := tz_facts h hx
  refine ⟨hR, ?_, ?_⟩
  · rw [hp.1.2.2.1]
    rcases hc.1 with e | e | e
    · exact Or.inl (by rw [e]; rfl)
    · exact Or.inr (Or.inl (by rw [e]; rfl))
    · exact Or.inr (Or.inr (by rw [e]; rfl))
  · rw [hp.1.2.2.1, hp.1.2.2.2.2, h3]
    omega
theorem livs_R (ht : alegal (G 36) L) (hl : ∀ m, m < 31 → G 14 m = eR (G 36) L m) : res3 (G 14) := fun m hm => by
  rw [hl m hm]
  exact (eR_rg ht L (Nat.le_refl _)).1 m
theorem livs_ok (ht : tour n x L (G 1) (G 36) (K 1)) (hl : livs G n x L) : live_ok G (tF (tz n)) n := by
  obtain ⟨hc, h1, h2, h3, h4, h5⟩ := tz_facts ht.1 ht.2.1
  have so := sok_of ht.1 ht.2.1 hl.1 (livs_R ht.2.2.1 hl.2.2.2.1)
  refine ⟨so, hl.2.2.2.2.2.1, hl.1.1.2.2.2.2, hl.1.1.1, ht.1.2, h5, ?_⟩
  rw [← hl.1.1.2.2.2.2]
  exact so.2.2
/-- settling: the class' bracket is the course of the rule -/
theorem setl_run (h : 2 ≤ n ∧ n ≤ 16) (hx : x = 0 ∨ x = 1) (hp : planC G 4 (tz n) x n) : gbeg (tz n) n (bbeg_L G) ∧ pm_rows (setl_L G) 3 = grun (tz n) x (rlive (G 14) (G 15)) (bbeg_L G) (tF (tz n)) := by
  obtain ⟨hc, h1, h2, h3, h4, h5⟩ := tz_facts h hx
  refine ⟨⟨fun s hs => ?_, fun m hm => ⟨?_, ?_⟩⟩, ?_⟩
  · show mixf 62 (inir_L G) (G 16) s = _
    unfold mixf
    rw [if_pos (by omega)]
    unfold inir_L
    rw [hp.1.2.2.1]
    by_cases c : s < tz n
    · rw [if_pos (show (s : Int) < (tz n : Int) by omega), if_pos c, atv_in lenC_12 (by omega) (by omega), Int.toNat_natCast, hp.1.1]
      have e : G 12 s = tSD (tz n) s := hp.2.2.1 s c
      rw [e]
      rfl
    · rw [if_neg (show ¬ (s : Int) < (tz n : Int) by omega), if_neg c]
  · show mixf 31 (fun _ => 0) (G 17) m = 0
    unfold mixf
    rw [if_pos (by omega)]
  · show mixf 31 (fun _ => -6) (G 18) m = -6
    unfold mixf
    rw [if_pos (by omega)]
  · have e : pm_rows (setl_L G) 3 = bruns (G 8) (G 9) (2 * G 4 2 - 1).toNat (G 14) (G 15) (bbeg_L G) (2 * G 4 2 - 1).toNat := by
      unfold setl_L
      exact pm_rows_b3
    have f : (2 * G 4 2 - 1).toNat = tF (tz n) := by
      rw [hp.1.2.2.1]
      omega
    rw [e, f, ← bruns_grun]
    exact bruns_ext (N := tF (tz n)) (fun m hm => ⟨(hp.2.1 m hm).2.2.2.1, (hp.2.1 m hm).2.2.2.2, rfl⟩) (fun _ _ => rfl) _ (Nat.le_refl _)
theorem planC_same {G' : PW} {p z : Nat} (hp : planC G p z x n) (h : ∀ r, p ≤ r → r ≤ p + 8 → G' r = G r) : planC G' p z x n := by
  obtain ⟨a, b, c, d⟩ := hp
  refine ⟨?_, fun m hm => ?_, fun s hs => ?_, fun m r hm q1 q2 => ?_⟩
  · rw [h p (by omega) (by omega)]; exact a
  · rw [h (p + 1) (by omega) (by omega), h (p + 2) (by omega) (by omega), h (p + 3) (by omega) (by omega), h (p + 4) (by omega) (by omega), h (p + 5) (by omega) (by omega)]
    exact b m hm
  · rw [h (p + 8) (by omega) (by omega)]; exact c s hs
  · rw [h (p + 6) (by omega) (by omega), h (p + 7) (by omega) (by omega)]
    exact d m r hm q1 q2
/-- a settled memory: results and withdrawals are those of the acts -/
theorem livs_setl (h : 2 ≤ n ∧ n ≤ 16) (hx : x = 0 ∨ x = 1) (hp : planC G 4 (tz n) x n) (hp2 : planC G 20 (tz n) x n) (hL : G 35 1 = (L : Int)) (hA : alegal (G 36) L) (hR : ∀ m, m < 31 → G 14 m = eR (G 36) L m) (hg : ∀ p, p < 16 → G 15 p = eG (G 36) L p) : livs (setl_L G) n x L := by
  have so := sok_of h hx hp (livs_R hA hR)
  obtain ⟨s1, s2⟩ := setl_run h hx hp
  have ne : ∀ r, r ≠ 16 → r ≠ 17 → r ≠ 18 → setl_L G r = G r := fun r a b c => setl_ne_L a b c
  refine ⟨planC_same hp (fun r a b => ne r (by omega) (by omega) (by omega)), planC_same hp2 (fun r a b => ne r (by omega) (by omega) (by omega)), ?_, fun m hm => ?_, fun p hp => ?_, bok_setl_L so, bbeg_L G, s1, ?_⟩
  · rw [ne 35 (by decide) (by decide) (by decide)]; exact hL
  · rw [ne 14 (by decide) (by decide) (by decide), ne 36 (by decide) (by decide) (by decide)]; exact hR m hm
  · rw [ne 15 (by decide) (by decide) (by decide), ne 36 (by decide) (by decide) (by decide)]; exact hg p hp
  · rw [ne 14 (by decide) (by decide) (by decide), ne 15 (by decide) (by decide) (by decide)]; exact s2
end LIV
