/-! the rules of the class: as things stand, and of a trial -/
def rlive (R g : Nat → Int) : RUL := fun m a b => if a = 16 ∨ b = 16 then (if b = 16 then 0 else 1, 1) else if R m ≠ -6 then (R m, 3) else if gon g a ∨ gon g b then (if gon g b then 0 else 1, 2) else (0, 0)
/-- the side that wins a trial's match -/
def tside (rat : Nat → Int) (hero a b : Int) : Int := if hero = (if favs rat a b = 0 then b else a) then 1 - favs rat a b else favs rat a b
def rtri (R g rat : Nat → Int) (hero : Int) : RUL := fun m a b => if (rlive R g m a b).2 ≠ 0 then rlive R g m a b else (tside rat hero a b, 3)
theorem rl_ok {R g : Nat → Int} (hR : res3 R) : rlok (rlive R g) := fun m a b hm => by
  have q := hR m hm
  unfold rlive
  by_cases c1 : a = 16 ∨ b = 16
  · rw [if_pos c1]
    exact ⟨ite01, fun _ => rfl, fun y => absurd c1 y, by show (0 : Int) ≤ 1; decide, by show (1 : Int) ≤ 3; decide⟩
  · rw [if_neg c1]
    by_cases c2 : R m ≠ -6
    · rw [if_pos c2]
      exact ⟨q.resolve_left c2, fun y => absurd y c1, fun _ y => absurd (show (3 : Int) = 1 from y) (by decide), by show (0 : Int) ≤ 3; decide, by show (3 : Int) ≤ 3; decide⟩
    · rw [if_neg c2]
      by_cases c3 : gon g a ∨ gon g b
      · rw [if_pos c3]
        exact ⟨ite01, fun y => absurd y c1, fun _ y => absurd (show (2 : Int) = 1 from y) (by decide), by show (0 : Int) ≤ 2; decide, by show (2 : Int) ≤ 3; decide⟩
      · rw [if_neg c3]
        exact ⟨Or.inl rfl, fun y => absurd y c1, fun _ y => absurd (show (0 : Int) = 1 from y) (by decide), by show (0 : Int) ≤ 0; decide, by show (0 : Int) ≤ 3; decide⟩
theorem tside_01 {rat : Nat → Int} {hero a b : Int} : tside rat hero a b = 0 ∨ tside rat hero a b = 1 := by
  have := favs_01 (rat := rat) (a := a) (b := b)
  unfold tside
  by_cases c : hero = (if favs rat a b = 0 then b else a)
  · rw [if_pos c]
    omega
  · rw [if_neg c]
    exact this
theorem rt_ok {R g rat : Nat → Int} {hero : Int} (hR : res3 R) : rlok (rtri R g rat hero) := fun m a b hm => by
  have q := rl_ok (g := g) hR m a b hm
  unfold rtri
  by_cases c1 : (rlive R g m a b).2 ≠ 0
  · rw [if_pos c1]
    exact q
  · rw [if_neg c1]
    refine ⟨tside_01, fun y => ?_, fun _ y => absurd (show (3 : Int) = 1 from y) (by decide), by show (0 : Int) ≤ 3; decide, by show (3 : Int) ≤ 3; decide⟩
    exact absurd (by rw [q.2.1 y]; exact (by decide : ¬ (1 : Int) = 0)) c1
section RUL
variable {z x n k : Nat} {R g rat : Nat → Int} {hero : Int} {B : BB}
theorem bstep_gst : bstep (tWS z) (tLS z x) (tF z) R g k B = gst z x (rlive R g) k B := by
  unfold bstep gst rlive
  by_cases c0 : B.2.1 k ≠ 0 ∨ B.1 (2 * k) = -6 ∨ B.1 (2 * k + 1) = -6
  · rw [if_pos c0, if_pos (c0.elim Or.inl (fun y => y.elim (fun y => Or.inr (Or.inl y)) (fun y => Or.inr (Or.inr (Or.inl y)))))]
  · rw [if_neg c0]
    have nc : ∀ p : Prop, ¬ p → ¬ (B.2.1 k ≠ 0 ∨ B.1 (2 * k) = -6 ∨ B.1 (2 * k + 1) = -6 ∨ p) := fun p hp y => by
      rcases y with y | y | y | y
      · exact c0 (Or.inl y)
      · exact c0 (Or.inr (Or.inl y))
      · exact c0 (Or.inr (Or.inr y))
      · exact hp y
    by_cases c1 : B.1 (2 * k) = 16 ∨ B.1 (2 * k + 1) = 16
    · rw [if_pos c1, if_pos c1, if_neg (nc _ (show ¬ (1 : Int) = 0 by decide))]
    · rw [if_neg c1, if_neg c1]
      by_cases c2 : R k ≠ -6
      · rw [if_pos c2, if_pos c2, if_neg (nc _ (show ¬ (3 : Int) = 0 by decide))]
      · rw [if_neg c2, if_neg c2]
        by_cases c3 : gon g (B.1 (2 * k)) ∨ gon g (B.1 (2 * k + 1))
        · rw [if_pos c3, if_pos c3, if_neg (nc _ (show ¬ (2 : Int) = 0 by decide))]
        · rw [if_neg c3, if_neg c3, if_pos (Or.inr (Or.inr (Or.inr rfl)))]
theorem bruns_grun : ∀ k, bruns (tWS z) (tLS z x) (tF z) R g B k = grun z x (rlive R g) B k := by
  intro k
  induction k with
  | zero => rfl
  | succ k ih =>
    show bstep _ _ _ R g k _ = gst z x _ k _
    rw [ih, bstep_gst]
/-- sides are told: none, a bye, a player -/
theorem jD_gst {rl : RUL} (hc : cfg z x) (hr : rlok rl) (hk : k < tF z) (h : jD z n B) : jD z n (gst z x rl k B) := fun s hs => by
  have f3 := (cfg_F hc).2.2.1
  unfold gst
  by_cases c : B.2.1 k ≠ 0 ∨ B.1 (2 * k) = -6 ∨ B.1 (2 * k + 1) = -6 ∨ (rl k (B.1 (2 * k)) (B.1 (2 * k + 1))).2 = 0
  · rw [if_pos c]
    exact h s hs
  · rw [if_neg c]
    rcases bd_new (B := B) (kd := (rl k (B.1 (2 * k)) (B.1 (2 * k + 1))).2) hc hk (hr k (B.1 (2 * k)) (B.1 (2 * k + 1)) (by omega)).1 s with o | ⟨i, hi, t1, t2, t3⟩
    · rw [o]; exact h s hs
    · rw [t3]; exact h i (by omega)
/-- what is done stays done -/
theorem gst_lo {rl : RUL} (hc : cfg z x) (hk : k < tF z) {m : Nat} (hm : m < k) : (gst z x rl k B).2.1 m = B.2.1 m ∧ (gst z x rl k B).2.2 m = B.2.2 m ∧ (gst z x rl k B).1 (2 * m) = B.1 (2 * m) ∧ (gst z x rl k B).1 (2 * m + 1) = B.1 (2 * m + 1) := by
  unfold gst
  by_cases c : B.2.1 k ≠ 0 ∨ B.1 (2 * k) = -6 ∨ B.1 (2 * k + 1) = -6 ∨ (rl k (B.1 (2 * k)) (B.1 (2 * k + 1))).2 = 0
  · rw [if_pos c]
    exact ⟨rfl, rfl, rfl, rfl⟩
  · rw [if_neg c, bd_how, bd_won, if_neg (by omega), if_neg (by omega), bd_lo hc hk (by omega), bd_lo hc hk (by omega)]
    exact ⟨rfl, rfl, rfl, rfl⟩
theorem gst_how {rl : RUL} {m : Nat} (hm : m ≠ k) : (gst z x rl k B).2.1 m = B.2.1 m := by
  unfold gst
  by_cases c : B.2.1 k ≠ 0 ∨ B.1 (2 * k) = -6 ∨ B.1 (2 * k + 1) = -6 ∨ (rl k (B.1 (2 * k)) (B.1 (2 * k + 1))).2 = 0
  · rw [if_pos c]
  · rw [if_neg c, bd_how, if_neg hm]
/-- the sides of match k stay in its own step -/
theorem gst_own {rl : RUL} (hc : cfg z x) (hk : k < tF z) {s : Nat} (hs : s < 2 * k + 2) : (gst z x rl k B).1 s = B.1 s := by
  unfold gst
  by_cases c : B.2.1 k ≠ 0 ∨ B.1 (2 * k) = -6 ∨ B.1 (2 * k + 1) = -6 ∨ (rl k (B.1 (2 * k)) (B.1 (2 * k + 1))).2 = 0
  · rw [if_pos c]
  · rw [if_neg c]
    exact bd_lo hc hk hs
/-- the sides of a match as the class tells the unfavoured one -/
theorem unfav {a b : Int} {f : Nat → Int} (ha : f (2 * k) = a) (hb : f (2 * k + 1) = b) : f (2 * k + (1 - favs rat a b).toNat) = if favs rat a b = 0 then b else a := by
  rcases favs_01 (rat := rat) (a := a) (b := b) with q | q
  · rw [q, if_pos rfl]
    exact hb
  · rw [q, if_neg (by decide)]
    exact ha
/-- a match is played in a trial -/
def tfr (n : Int) (R g : Nat → Int) (z x k : Nat) (B : BB) : Prop := bplay n (gst z x (rlive R g) k B) k = true
theorem tfr_iff (hc : cfg z x) (hk : k < tF z) (hn : n ≤ 16) (hD : jD z n B) : tfr n R g z x k B ↔ B.2.1 k = 0 ∧ B.1 (2 * k) ≠ -6 ∧ B.1 (2 * k + 1) ≠ -6 ∧ (rlive R g k (B.1 (2 * k)) (B.1 (2 * k + 1))).2 = 0 := by
  unfold tfr gst
  by_cases c : B.2.1 k ≠ 0 ∨ B.1 (2 * k) = -6 ∨ B.1 (2 * k + 1) = -6 ∨ (rlive R g k (B.1 (2 * k)) (B.1 (2 * k + 1))).2 = 0
  · rw [if_pos c, bplay_iff]
    constructor
    · rintro ⟨a0, a1, a2⟩
      refine ⟨a0, by omega, by omega, ?_⟩
      rcases c with c | c | c | c
      · exact absurd a0 c
      · omega
      · omega
      · exact c
    · rintro ⟨a0, a1, a2, a3⟩
      have nb : ¬ (B.1 (2 * k) = 16 ∨ B.1 (2 * k + 1) = 16) := fun y => by
        unfold rlive at a3
        rw [if_pos y] at a3
        exact absurd (show (1 : Int) = 0 from a3) (by decide)
      have d0 := hD (2 * k) (by omega)
      have d1 := hD (2 * k + 1) (by omega)
      omega
  · rw [if_neg c, bplay_iff]
    constructor
    · rintro ⟨a0, -⟩
      rw [bd_how, if_pos rfl] at a0
      exact absurd (Or.inr (Or.inr (Or.inr a0))) c
    · rintro ⟨a0, a1, a2, a3⟩
      exact absurd (Or.inr (Or.inr (Or.inr a3))) c
theorem tstp_gst (hc : cfg z x) (hk : k < tF z) (hn : n ≤ 16) {s : BB × (Nat → Int) × Int} (hD : jD z n s.1) (hR : s.2.1 k = R k) : (tstp (tWS z) (tLS z x) (tF z) g n rat hero k s).1 = gst z x (rtri R g rat hero) k s.1 ∧ (tstp (tWS z) (tLS z x) (tF z) g n rat hero k s).2.2 = s.2.2 + if (s.1.2.1 k = 0 ∧ s.1.1 (2 * k) ≠ -6 ∧ s.1.1 (2 * k + 1) ≠ -6 ∧ (rlive R g k (s.1.1 (2 * k)) (s.1.1 (2 * k + 1))).2 = 0) ∧ hero = (if favs rat (s.1.1 (2 * k)) (s.1.1 (2 * k + 1)) = 0 then s.1.1 (2 * k + 1) else s.1.1 (2 * k)) then 1 else 0 := by
  obtain ⟨B, R', u⟩ := s
  dsimp only at hD hR ⊢
  have eR : bstep (tWS z) (tLS z x) (tF z) R' g k B = gst z x (rlive R g) k B := by
    rw [bstep_gst]
    unfold gst
    have e : rlive R' g k (B.1 (2 * k)) (B.1 (2 * k + 1)) = rlive R g k (B.1 (2 * k)) (B.1 (2 * k + 1)) := by
      unfold rlive
      rw [hR]
    rw [e]
  have T := tfr_iff (R := R) (g := g) hc hk hn hD
  unfold tstp
  dsimp only
  rw [eR]
  by_cases c : bplay n (gst z x (rlive R g) k B) k = true
  · obtain ⟨a0, a1, a2, a3⟩ := T.mp c
    have eB : gst z x (rlive R g) k B = B := by
      unfold gst
      rw [if_pos (Or.inr (Or.inr (Or.inr a3)))]
    rw [if_pos c, eB]
    dsimp only
    rw [unfav (f := B.1) (k := k) (rat := rat) rfl rfl]
    have et : (if hero = (if favs rat (B.1 (2 * k)) (B.1 (2 * k + 1)) = 0 then B.1 (2 * k + 1) else B.1 (2 * k)) then 1 - favs rat (B.1 (2 * k)) (B.1 (2 * k + 1)) else favs rat (B.1 (2 * k)) (B.1 (2 * k + 1))) = tside rat hero (B.1 (2 * k)) (B.1 (2 * k + 1)) := rfl
    rw [et]
    have t01 := tside_01 (rat := rat) (hero := hero) (a := B.1 (2 * k)) (b := B.1 (2 * k + 1))
    have nb : ¬ (B.1 (2 * k) = 16 ∨ B.1 (2 * k + 1) = 16) := fun y => by
      unfold rlive at a3
      rw [if_pos y] at a3
      exact absurd (show (1 : Int) = 0 from a3) (by decide)
    refine ⟨?_, ?_⟩
    · rw [bstep_gst]
      have e2 : rlive (fup R' k (tside rat hero (B.1 (2 * k)) (B.1 (2 * k + 1)))) g k (B.1 (2 * k)) (B.1 (2 * k + 1)) = (tside rat hero (B.1 (2 * k)) (B.1 (2 * k + 1)), 3) := by
        unfold rlive
        rw [if_neg nb, fup_eq, if_pos (by omega)]
      have e3 : rtri R g rat hero k (B.1 (2 * k)) (B.1 (2 * k + 1)) = (tside rat hero (B.1 (2 * k)) (B.1 (2 * k + 1)), 3) := by
        unfold rtri
        rw [if_neg (fun y => y a3)]
      unfold gst
      rw [e2, e3]
    · by_cases c2 : hero = (if favs rat (B.1 (2 * k)) (B.1 (2 * k + 1)) = 0 then B.1 (2 * k + 1) else B.1 (2 * k))
      · rw [if_pos c2, if_pos ⟨⟨a0, a1, a2, a3⟩, c2⟩]
      · rw [if_neg c2, if_neg (fun y => c2 y.2)]
  · rw [if_neg c]
    dsimp only
    have nT := fun y => c (T.mpr y)
    refine ⟨?_, ?_⟩
    · unfold gst
      by_cases c1 : (rlive R g k (B.1 (2 * k)) (B.1 (2 * k + 1))).2 = 0
      · rw [if_pos (Or.inr (Or.inr (Or.inr c1)))]
        by_cases c2 : B.2.1 k ≠ 0 ∨ B.1 (2 * k) = -6 ∨ B.1 (2 * k + 1) = -6
        · rw [if_pos (c2.elim Or.inl (fun y => y.elim (fun y => Or.inr (Or.inl y)) (fun y => Or.inr (Or.inr (Or.inl y)))))]
        · exact absurd ⟨Decidable.not_not.mp (fun y => c2 (Or.inl y)), fun y => c2 (Or.inr (Or.inl y)), fun y => c2 (Or.inr (Or.inr y)), c1⟩ nT
      · have e : rtri R g rat hero k (B.1 (2 * k)) (B.1 (2 * k + 1)) = rlive R g k (B.1 (2 * k)) (B.1 (2 * k + 1)) := by
          unfold rtri
          rw [if_pos c1]
        rw [e]
    · rw [if_neg (fun y => nT y.1), Int.add_zero]
theorem trun_grun (hc : cfg z x) (hn : n ≤ 16) (hR : res3 R) {s : BB × (Nat → Int) × Int} (hD : jD z n s.1) (hs : ∀ m, s.2.1 m = R m) : ∀ k, k ≤ tF z → (trun (tWS z) (tLS z x) (tF z) g n rat hero s k).1 = grun z x (rtri R g rat hero) s.1 k ∧ jD z n (grun z x (rtri R g rat hero) s.1 k) := by
  intro k
  induction k with
  | zero => intro _; exact ⟨rfl, hD⟩
  | succ k ih =>
    intro hk
    obtain ⟨i1, i2⟩ := ih (by omega)
    have eR := trun_R (WS := tWS z) (LS := tLS z x) (F := tF z) (g := g) (n := n) (rat := rat) (hero := hero) (s := s) k k (Nat.le_refl _)
    have t := (tstp_gst (R := R) (g := g) (rat := rat) (hero := hero) (s := trun (tWS z) (tLS z x) (tF z) g n rat hero s k) hc (show k < tF z by omega) hn (by rw [i1]; exact i2) (by rw [eR, hs])).1
    refine ⟨?_, jD_gst hc (rt_ok hR) (by omega) i2⟩
    show (tstp _ _ _ g n rat hero k _).1 = gst z x _ k _
    rw [t, i1]
end RUL
