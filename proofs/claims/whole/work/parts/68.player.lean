/-! both sides: players, where they meet, ratings -/
theorem cmm_ext {up up' : Int → Int} {F : Int} (h : ∀ c : Int, c = -6 ∨ (0 ≤ c ∧ c < F) → up c = up' c ∧ (up c = -6 ∨ (0 ≤ up c ∧ up c < F))) : ∀ (f : Nat) (a b : Int), (a = -6 ∨ (0 ≤ a ∧ a < F)) → (b = -6 ∨ (0 ≤ b ∧ b < F)) → cmm up f a b = cmm up' f a b := by
  intro f
  induction f with
  | zero => intro a b _ _; rfl
  | succ f ih =>
    intro a b ha hb
    show (if a = b then a else if a < b then cmm up f (up a) b else cmm up f a (up b)) = (if a = b then a else if a < b then cmm up' f (up' a) b else cmm up' f a (up' b))
    obtain ⟨a1, a2⟩ := h a ha
    obtain ⟨b1, b2⟩ := h b hb
    rw [ih (up a) b a2 hb, ih a (up b) ha b2, a1, b1]
theorem mfi_ext {W W' : Nat → Int} {F : Nat} (h : ∀ m, m < F → W m = W' m ∧ (W m = -6 ∨ (0 ≤ W m ∧ W m < (F : Int)))) : ∀ (f : Nat) (a b : Int), (b = -6 ∨ (0 ≤ b ∧ b < (F : Int))) → mfi W f a b = mfi W' f a b := by
  intro f
  induction f with
  | zero => intro a b _; rfl
  | succ f ih =>
    intro a b hb
    show (if b = -6 then false else if a = b then true else mfi W f a (W b.toNat)) = (if b = -6 then false else if a = b then true else mfi W' f a (W' b.toNat))
    by_cases c : b = -6
    · rw [if_pos c, if_pos c]
    · obtain ⟨b1, b2⟩ := h b.toNat (by omega)
      rw [ih a (W b.toNat) b2, b1]
theorem mfo_ext {W W' : Nat → Int} {F : Nat} (h : ∀ m, m < F → W m = W' m ∧ (W m = -6 ∨ (0 ≤ W m ∧ W m < (F : Int)))) {b : Int} (hb : b = -6 ∨ (0 ≤ b ∧ b < (F : Int))) : ∀ (f : Nat) (a : Int), (a = -6 ∨ (0 ≤ a ∧ a < (F : Int))) → mfo W b f a = mfo W' b f a := by
  intro f
  induction f with
  | zero => intro a _; rfl
  | succ f ih =>
    intro a ha
    show (if a = -6 then -6 else if mfi W 32 a b = true then a else mfo W b f (W a.toNat)) = (if a = -6 then -6 else if mfi W' 32 a b = true then a else mfo W' b f (W' a.toNat))
    by_cases c : a = -6
    · rw [if_pos c, if_pos c]
    · obtain ⟨a1, a2⟩ := h a.toNat (by omega)
      rw [ih (W a.toNat) a2, mfi_ext h 32 a b hb, a1]
/-- the tables' ways of winners -/
def tup (z : Nat) (c : Int) : Int := if 0 ≤ c ∧ c < (tF z : Int) then tr (tz_wt z) c.toNat else -6
theorem tb_wt {z x : Nat} (h : cfg z x) : ∀ m, m < tF z → tr (tz_wt z) m = -6 ∨ ((m : Int) < tr (tz_wt z) m ∧ tr (tz_wt z) m < (tF z : Int)) := fun m hm => by
  have q := (tb_ways h m hm).1.1
  unfold won at q
  omega
/-- both ways of finding where two meet -/
theorem tb_meet {z x : Nat} (h : cfg z x) : ∀ a, a < tF z → ∀ b, b < tF z → (a = tF z - 1 ↔ b = tF z - 1) → cmm (tup z) 62 (a : Int) (b : Int) = mfo (tr (tz_wt z)) (b : Int) 31 (a : Int) := by
  have e : ∀ z, (List.range (tF z)).all (fun a => (List.range (tF z)).all (fun b => decide ((a = tF z - 1 ↔ b = tF z - 1) → cmm (tup z) 62 (a : Int) (b : Int) = mfo (tr (tz_wt z)) (b : Int) 31 (a : Int)))) = true → ∀ a, a < tF z → ∀ b, b < tF z → (a = tF z - 1 ↔ b = tF z - 1) → cmm (tup z) 62 (a : Int) (b : Int) = mfo (tr (tz_wt z)) (b : Int) 31 (a : Int) := fun z h a ha b hb => of_decide_eq_true (all_lt (all_lt h a ha) b hb)
  have e4 := e 4 (by decide +kernel)
  have e8 := e 8 (by decide +kernel)
  have e16 := e 16 (by decide +kernel)
  rcases h.1 with q | q | q
  · rw [q]; exact e4
  · rw [q]; exact e8
  · rw [q]; exact e16
section PL2
variable {G K : PW} {n x L : Nat}
theorem nx_of {z : Nat} {rl : RUL} {B : BB} {ps : Nat → Nat} (h : fin z x n rl B ps) {p : Nat} (hp : p < n) : (ps p < 64 → ffrom (bnext B (p : Int)) (tF z) 0 = ((ps p / 2 : Nat) : Int) ∧ ps p / 2 < tF z) ∧ (64 ≤ ps p → ffrom (bnext B (p : Int)) (tF z) 0 = -6) := by
  have e := f_next h hp
  refine ⟨fun q => ?_, fun q => ?_⟩
  · rw [if_pos q] at e
    have := (f_pend h hp q).1
    exact ⟨e, by omega⟩
  · rw [if_neg (by omega)] at e
    exact e
theorem b_meet (h : REL G K) {a b : Int} : both 81 154 [.inl a, .inl b] G K := by
  obtain ⟨n, x, L, t, l⟩ := h.1
  obtain ⟨lk, se, pl, ps, v⟩ := REL_look t l
  have lo := livs_ok t l
  obtain ⟨hc, g1, g2, g3, g4, g5⟩ := tz_facts t.1 t.2.1
  have a1 : lkd K n x 1 = K 1 := (lkd_r t.2.2.2.2.1.1 t.2.2.2.2.1.2.1).1
  have W8 : ∀ m, m < tF (tz n) → lkd K n x 8 m = tr (tz_wt (tz n)) m := fun m hm => (pl.2.1 m hm).2.1.1
  have wt := tb_wt hc
  have hup : wup (tF (tz n)) (lkd K n x 8) := fun m hm => by
    rw [W8 m hm]
    exact wt m hm
  have mm := m_meet (x := a) (y := b) t.2.2.2.2.1.1 lk se hup
  have cm := c_meet (x := a) (y := b) lo
  by_cases c : (0 ≤ a ∧ a < (n : Int)) ∧ (0 ≤ b ∧ b < (n : Int))
  · rw [if_pos c] at mm cm
    by_cases c1 : a = b
    · rw [if_pos c1] at mm cm
      exact ⟨_, _, _, cm, mm, h⟩
    · rw [if_neg c1] at mm cm
      refine ⟨_, _, _, cm, ?_, REL_lk h t.2.2.2.2.1.1 t.2.2.2.2.1.2.1⟩
      rw [mm]
      obtain ⟨p, ep⟩ : ∃ p : Nat, a = (p : Int) := ⟨a.toNat, by omega⟩
      obtain ⟨q, eq⟩ : ∃ q : Nat, b = (q : Int) := ⟨b.toNat, by omega⟩
      subst ep
      subst eq
      have hp : p < n := by omega
      have hq : q < n := by omega
      have n16 := t.1.2
      have gg : ∀ p, p < 16 → lkd K n x 1 (50 + p) = G 15 p := fun p hp => by
        rw [a1, t.2.2.2.2.2.2.2.1 p hp]
        exact (l.2.2.2.2.1 p hp).symm
      rw [Int.toNat_natCast, Int.toNat_natCast, gg p (by omega), gg q (by omega)]
      obtain ⟨x1, x2⟩ := nx_of v.1 hp
      obtain ⟨y1, y2⟩ := nx_of v.1 hq
      have hsp := v_has v hp
      have hsq := v_has v hq
      have ex : cnext G (tF (tz n)) (p : Int) = ffrom (bnext (pm_rows G 3) (p : Int)) (tF (tz n)) 0 := rfl
      have ey : cnext G (tF (tz n)) (q : Int) = ffrom (bnext (pm_rows G 3) (q : Int)) (tF (tz n)) 0 := rfl
      rw [ex, ey, v_next v, v_next v]
      by_cases d : G 15 p = 1 ∨ G 15 q = 1
      · rw [if_pos (Or.inl d), if_pos (Or.inl d)]
      · by_cases d1 : ps p < 64
        · by_cases d2 : ps q < 64
          · obtain ⟨x3, x4⟩ := x1 d1
            obtain ⟨y3, y4⟩ := y1 d2
            rw [x3, y3]
            rw [if_neg (fun y => y.elim d (fun y => y.elim (fun y => by have := hsp.mp y; omega) (fun y => by have := hsq.mp y; omega)))]
            rw [if_neg (fun y => y.elim d (fun y => y.elim (fun y => by omega) (fun y => by omega)))]
            have up : ∀ c : Int, c = -6 ∨ (0 ≤ c ∧ c < (tF (tz n) : Int)) → mseat (pm_atv pm_sC G 8 c) = tup (tz n) c ∧ (mseat (pm_atv pm_sC G 8 c) = -6 ∨ (0 ≤ mseat (pm_atv pm_sC G 8 c) ∧ mseat (pm_atv pm_sC G 8 c) < (tF (tz n) : Int))) := fun c hc' => by
              rcases hc' with hc' | hc'
              · rw [hc']
                have e : pm_atv pm_sC G 8 (-6) = -6 := by
                  unfold pm_atv
                  rw [if_neg (by omega)]
                rw [e]
                unfold tup mseat
                rw [if_pos (by decide), if_neg (by omega)]
                exact ⟨rfl, Or.inl rfl⟩
              · have e8 : G 8 c.toNat = tWS (tz n) c.toNat := (l.1.2.1 c.toNat (by omega)).2.2.2.1
                rw [atv_in lenC_8 (by omega) (by omega), e8, (tb_ways hc c.toNat (by omega)).1.2]
                have w := wt c.toNat (by omega)
                have dd := (tb_ways hc c.toNat (by omega)).1.1
                have e : mseat (wsx (tr (tz_wt (tz n))) (tr (tz_wd (tz n))) c.toNat) = tr (tz_wt (tz n)) c.toNat := by
                  unfold wsx mseat
                  unfold won at dd
                  by_cases c6 : tr (tz_wt (tz n)) c.toNat = -6
                  · rw [if_pos c6, if_pos (by decide), c6]
                  · have dd := dd.resolve_left c6
                    rw [if_neg c6, if_neg (by omega)]
                    omega
                rw [e]
                unfold tup
                rw [if_pos hc']
                exact ⟨rfl, by omega⟩
            rw [cmm_ext up 62 _ _ (Or.inr (by omega)) (Or.inr (by omega))]
            rw [mfo_ext (W' := tr (tz_wt (tz n))) (F := tF (tz n)) (fun m hm => by rw [W8 m hm]; have := wt m hm; exact ⟨rfl, by omega⟩) (Or.inr (by omega)) 31 _ (Or.inr (by omega))]
            rw [tb_meet hc _ x4 _ y4 ⟨fun y => f_last v.1 hp hq d1 y d2, fun y => f_last v.1 hq hp d2 y d1⟩]
          · rw [y2 (by omega), if_pos (Or.inr (Or.inr (hsq.mpr (by omega)))), if_pos (Or.inr (Or.inr rfl))]
        · rw [x2 (by omega), if_pos (Or.inr (Or.inl (hsp.mpr (by omega)))), if_pos (Or.inr (Or.inl rfl))]
  · rw [if_neg c] at mm cm
    exact ⟨_, _, _, cm, mm, h⟩
end PL2
