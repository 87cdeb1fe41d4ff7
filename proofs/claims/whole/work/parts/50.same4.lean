/-! a whole trial: the class' and the reference's -/
theorem tstp_R {WS LS : Nat → Int} {F : Nat} {g : Nat → Int} {n : Int} {rat : Nat → Int} {hero : Int} {k m : Nat} {s : BB × (Nat → Int) × Int} (h : m ≠ k) : (tstp WS LS F g n rat hero k s).2.1 m = s.2.1 m := by
  unfold tstp
  by_cases c : bplay n (bstep WS LS F s.2.1 g k s.1) k = true
  · rw [if_pos c]
    exact fup_ne h
  · rw [if_neg c]
theorem trun_R {WS LS : Nat → Int} {F : Nat} {g : Nat → Int} {n : Int} {rat : Nat → Int} {hero : Int} {s : BB × (Nat → Int) × Int} : ∀ k m : Nat, k ≤ m → (trun WS LS F g n rat hero s k).2.1 m = s.2.1 m := by
  intro k
  induction k with
  | zero => intro m _; rfl
  | succ k ih =>
    intro m hm
    show (tstp WS LS F g n rat hero k _).2.1 m = _
    rw [tstp_R (by omega), ih m (by omega)]
/-- what each match of a trial needs: its sides are none, a bye or players, and not the same player twice -/
def side_ok (n : Int) (F k : Nat) (B : BB) : Prop := (B.1 (2 * k) = -6 ∨ B.1 (2 * k) = 16 ∨ (0 ≤ B.1 (2 * k) ∧ B.1 (2 * k) < n)) ∧ (B.1 (2 * k + 1) = -6 ∨ B.1 (2 * k + 1) = 16 ∨ (0 ≤ B.1 (2 * k + 1) ∧ B.1 (2 * k + 1) < n)) ∧ (k + 2 = F → ¬ B.1 (2 * k) = -6 → B.1 (2 * k) ≠ B.1 (2 * k + 1)) ∧ (0 ≤ B.1 (2 * k) ∧ B.1 (2 * k) < n → B.1 (2 * k) ≠ B.1 (2 * k + 1))
theorem rel_trun {F : Nat} {WT WD LT LD g T gm Rt rat : Nat → Int} {hero n : Int} {s : BB × (Nat → Int) × Int} {C : R4} (hF : F ≤ 31) (h : rel F 0 s.1 C) (hW : ∀ m, m < F → won F WT WD m ∧ won F LT LD m) (hT : ∀ m, m < F → T m = s.2.1 m ∧ (s.2.1 m = -6 ∨ s.2.1 m = 0 ∨ s.2.1 m = 1)) (hg : ∀ p, p < 16 → gm p = g p) (hr : ∀ p, p < 16 → Rt p = rat p) (hn : n ≤ 16) (hs : ∀ k, k < F → side_ok n F k (trun (wsx WT WD) (wsx LT LD) F g n rat hero s k).1) : ∀ k, k ≤ F → rel F k (trun (wsx WT WD) (wsx LT LD) F g n rat hero s k).1 (rruns WT WD LT LD T gm Rt 1 hero F C k) := by
  intro k
  induction k with
  | zero => intro _; exact h
  | succ k ih =>
    intro hk
    obtain ⟨a0, a1, a2, a3⟩ := hs k (by omega)
    have eR := trun_R (WS := wsx WT WD) (LS := wsx LT LD) (F := F) (g := g) (n := n) (rat := rat) (hero := hero) (s := s) k k (Nat.le_refl _)
    have t := hT k (by omega)
    rw [← eR] at t
    exact rel_tstp (ih (by omega)) (by omega) hF (hW k (by omega)).1 (hW k (by omega)).2 t.1 t.2 hg hr a0 a1 hn a2 a3
/-- what the class tells of a match, and what the reference tells -/
theorem rel_win {F : Nat} {B : BB} {C : R4} {m : Nat} (h : rel F F B C) (hm : m < F) : C.2.2.1 m = bw B m ∧ C.2.2.2 m = bl B m := by
  obtain ⟨h1, h2, h3, h4⟩ := h
  obtain ⟨a1, a2, a3⟩ := h2 m hm
  unfold bw bl
  by_cases c : B.2.1 m = 0
  · rw [if_pos c, if_pos c]
    exact a2 c
  · rw [if_neg c, if_neg c]
    exact a3 c
