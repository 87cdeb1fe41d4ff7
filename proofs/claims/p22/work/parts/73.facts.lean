/-! what fits together, match by match and player by player -/
section TFA
variable {z x n : Nat} {R g : Nat → Int} {B : BB} {ps : Nat → Nat}
theorem t_rng (h : fin z x n (rlive R g) B ps) {m : Nat} (hm : m < tF z) : B.2.1 m = 0 ∨ B.2.1 m = 1 ∨ B.2.1 m = 2 ∨ B.2.1 m = 3 := by
  obtain ⟨f1, f2, f3, f4⟩ := cfg_F h.1
  by_cases c : B.2.1 m = 0
  · exact Or.inl c
  · obtain ⟨-, -, -, d⟩ := h.2.2.2.1.2.2.2.1 m hm c
    have r := h.2.1 m (B.1 (2 * m)) (B.1 (2 * m + 1)) (by omega)
    obtain ⟨-, -, -, r1, r2⟩ := r
    rw [← d] at r1 r2
    omega
theorem t_sides (h : fin z x n (rlive R g) B ps) {m : Nat} (hm : m < tF z) (c : B.2.1 m ≠ 0) : B.1 (2 * m) ≠ -6 ∧ B.1 (2 * m + 1) ≠ -6 := by
  obtain ⟨a, b, -, -⟩ := h.2.2.2.1.2.2.2.1 m hm c
  exact ⟨a, b⟩
theorem t_jD (h : fin z x n (rlive R g) B ps) {s : Nat} (hs : s < 2 * tF z) : B.1 s = -6 ∨ B.1 s = 16 ∨ (0 ≤ B.1 s ∧ B.1 s < (n : Int)) := h.2.2.2.2.2.2.2.1 s hs
theorem t_bye (h : fin z x n (rlive R g) B ps) {m : Nat} (hm : m < tF z) (k0 : B.1 (2 * m) ≠ -6) (k1 : B.1 (2 * m + 1) ≠ -6) : (B.1 (2 * m) = 16 ∨ B.1 (2 * m + 1) = 16) ↔ B.2.1 m = 1 := by
  obtain ⟨f1, f2, f3, f4⟩ := cfg_F h.1
  obtain ⟨-, r1, r2, -⟩ := h.2.1 m (B.1 (2 * m)) (B.1 (2 * m + 1)) (by omega)
  constructor
  · intro e
    have r1 := r1 e
    have nz : B.2.1 m ≠ 0 := fun y => by
      have := h.2.2.2.1.2.2.2.2.1 m hm k0 k1 y
      rw [r1] at this
      exact absurd (show (1 : Int) = 0 from this) (by decide)
    obtain ⟨-, -, -, d⟩ := h.2.2.2.1.2.2.2.1 m hm nz
    rw [d, r1]
  · intro y
    have nz : B.2.1 m ≠ 0 := by rw [y]; decide
    obtain ⟨-, -, -, d⟩ := h.2.2.2.1.2.2.2.1 m hm nz
    exact Decidable.byContradiction (fun w => r2 w (by rw [← d]; exact y))
theorem t_free (h : fin z x n (rlive R g) B ps) {m : Nat} (hm : m < tF z) (k0 : B.1 (2 * m) ≠ -6) (k1 : B.1 (2 * m + 1) ≠ -6) (c : B.2.1 m = 0) : ¬ gon g (B.1 (2 * m)) ∧ ¬ gon g (B.1 (2 * m + 1)) := by
  obtain ⟨-, -, q⟩ := rl0 (h.2.2.2.1.2.2.2.2.1 m hm k0 k1 c)
  exact ⟨fun y => q (Or.inl y), fun y => q (Or.inr y)⟩
theorem t_won (h : fin z x n (rlive R g) B ps) {m : Nat} (hm : m < tF z) (c : B.2.1 m ≠ 0) : B.2.2 m = 0 ∨ B.2.2 m = 1 := f_won h hm c
theorem t_wl (h : fin z x n (rlive R g) B ps) {m : Nat} (hm : m < tF z) (c : B.2.1 m ≠ 0) : (B.2.2 m = 0 ∧ bw B m = B.1 (2 * m) ∧ bl B m = B.1 (2 * m + 1)) ∨ (B.2.2 m = 1 ∧ bw B m = B.1 (2 * m + 1) ∧ bl B m = B.1 (2 * m)) := by
  unfold bw bl
  rw [if_neg c, if_neg c]
  rcases t_won h hm c with w | w
  · rw [w]; exact Or.inl ⟨rfl, rfl, rfl⟩
  · rw [w]; exact Or.inr ⟨rfl, rfl, rfl⟩
theorem t_no {m : Nat} (c : B.2.1 m = 0) : bw B m = -6 ∧ bl B m = -6 := by
  unfold bw bl
  rw [if_pos c, if_pos c]
  exact ⟨rfl, rfl⟩
/-- players, where no bye decides -/
theorem t_real (h : fin z x n (rlive R g) B ps) {m : Nat} (hm : m < tF z) (c : B.2.1 m ≠ 0) (c1 : B.2.1 m ≠ 1) : (0 ≤ B.1 (2 * m) ∧ B.1 (2 * m) < (n : Int)) ∧ (0 ≤ B.1 (2 * m + 1) ∧ B.1 (2 * m + 1) < (n : Int)) := by
  obtain ⟨k0, k1⟩ := t_sides h hm c
  have nb := fun y => c1 ((t_bye h hm k0 k1).mp y)
  rcases t_jD h (show 2 * m < 2 * tF z by omega) with a | a | a
  · exact absurd a k0
  · exact absurd (Or.inl a) nb
  · rcases t_jD h (show 2 * m + 1 < 2 * tF z by omega) with b | b | b
    · exact absurd b k1
    · exact absurd (Or.inr b) nb
    · exact ⟨a, b⟩
theorem t_walk (h : fin z x n (rlive R g) B ps) {m : Nat} (hm : m < tF z) (c : B.2.1 m = 2) : gon g (bl B m) := by
  have nz : B.2.1 m ≠ 0 := by rw [c]; decide
  obtain ⟨-, -, d1, d2⟩ := h.2.2.2.1.2.2.2.1 m hm nz
  rw [c] at d2
  have wl := t_wl h hm nz
  unfold rlive at d1 d2
  by_cases e1 : B.1 (2 * m) = 16 ∨ B.1 (2 * m + 1) = 16
  · rw [if_pos e1] at d2
    exact absurd (show (2 : Int) = 1 from d2) (by decide)
  · rw [if_neg e1] at d1 d2
    by_cases e2 : R m ≠ -6
    · rw [if_pos e2] at d2
      exact absurd d2 (by decide : ¬ (2 : Int) = 3)
    · rw [if_neg e2] at d1 d2
      by_cases e3 : gon g (B.1 (2 * m)) ∨ gon g (B.1 (2 * m + 1))
      · rw [if_pos e3] at d1
        by_cases e4 : gon g (B.1 (2 * m + 1))
        · rw [if_pos e4] at d1
          have d1 : B.2.2 m = 0 := d1
          rcases wl with ⟨w, -, w2⟩ | ⟨w, -, -⟩
          · rw [w2]; exact e4
          · omega
        · rw [if_neg e4] at d1
          have d1 : B.2.2 m = 1 := d1
          rcases wl with ⟨w, -, -⟩ | ⟨w, -, w2⟩
          · omega
          · rw [w2]; exact e3.resolve_right e4
      · rw [if_neg e3] at d2
        exact absurd d2 (by decide : ¬ (2 : Int) = 0)
theorem t_wseat (h : fin z x n (rlive R g) B ps) {m : Nat} (hm : m < tF z) (c : B.2.1 m ≠ 0) (q : 0 ≤ tWS z m) : B.1 (tWS z m).toNat = bw B m ∧ tWS z m < 2 * (tF z : Int) := by
  obtain ⟨f1, f2, f3, f4⟩ := cfg_F h.1
  have m2 : m < tF z - 2 := Decidable.byContradiction (fun y => by
    have := (bd_end h.1 hm y).1
    omega)
  have a := ((h.2.2.2.1.2.1 m m2).2 c).1
  have b := tb_win h.1 m m2
  unfold bw
  rw [if_neg c]
  exact ⟨a, by omega⟩
theorem t_lseat (h : fin z x n (rlive R g) B ps) {m : Nat} (hm : m < tF z) (c : B.2.1 m ≠ 0) (q : 0 ≤ tLS z x m) : B.1 (tLS z x m).toNat = bl B m ∧ tLS z x m < 2 * (tF z : Int) := by
  obtain ⟨f1, f2, f3, f4⟩ := cfg_F h.1
  have b := (tb_los h.1 m hm).resolve_left (by omega)
  have a := ((h.2.2.2.1.2.1 m b.1).2 c).2 (by omega)
  unfold bl
  rw [if_neg c]
  exact ⟨a, by omega⟩
end TFA
/-! the rows that fits() fills -/
def fw (B : BB) : Nat → Nat → Int
  | 0 => fun _ => 0
  | k + 1 => if 1 < B.2.1 k then fup (fw B k) (bw B k).toNat (fw B k (bw B k).toNat + 1) else fw B k
def fl (B : BB) : Nat → Nat → Int
  | 0 => fun _ => 0
  | k + 1 => if 1 < B.2.1 k then fup (fl B k) (bl B k).toNat (fl B k (bl B k).toNat + 1) else fl B k
def fy (B : BB) : Nat → Nat → Int
  | 0 => fun _ => 0
  | k + 1 => fup (fy B k) (B.2.1 k).toNat (fy B k (B.2.1 k).toNat + 1)
def sxt (a : Int) : Int := if a < 0 then 16 else a
def fx (B : BB) : Nat → Nat → Int
  | 0 => fun _ => 0
  | k + 1 => if B.2.1 k = 0 then fup (fup (fx B k) (sxt (B.1 (2 * k))).toNat (1 + (k : Int))) (sxt (B.1 (2 * k + 1))).toNat (1 + (k : Int)) else fx B k
theorem fw_rg (B : BB) : ∀ k i : Nat, 0 ≤ fw B k i ∧ fw B k i ≤ (k : Int) := by
  intro k
  induction k with
  | zero => intro i; exact ⟨Int.le_refl _, Int.le_refl _⟩
  | succ k ih =>
    intro i
    have a := ih i
    unfold fw
    by_cases c : 1 < B.2.1 k
    · rw [if_pos c]
      unfold fup
      by_cases e : i = (bw B k).toNat
      · rw [if_pos e, ← e]; omega
      · rw [if_neg e]; omega
    · rw [if_neg c]; omega
theorem fl_rg (B : BB) : ∀ k i : Nat, 0 ≤ fl B k i ∧ fl B k i ≤ (k : Int) := by
  intro k
  induction k with
  | zero => intro i; exact ⟨Int.le_refl _, Int.le_refl _⟩
  | succ k ih =>
    intro i
    have a := ih i
    unfold fl
    by_cases c : 1 < B.2.1 k
    · rw [if_pos c]
      unfold fup
      by_cases e : i = (bl B k).toNat
      · rw [if_pos e, ← e]; omega
      · rw [if_neg e]; omega
    · rw [if_neg c]; omega
theorem fy_rg (B : BB) : ∀ k i : Nat, 0 ≤ fy B k i ∧ fy B k i ≤ (k : Int) := by
  intro k
  induction k with
  | zero => intro i; exact ⟨Int.le_refl _, Int.le_refl _⟩
  | succ k ih =>
    intro i
    have a := ih i
    unfold fy fup
    by_cases e : i = (B.2.1 k).toNat
    · rw [if_pos e, ← e]; omega
    · rw [if_neg e]; omega
section TFB
variable {z x n : Nat} {R g : Nat → Int} {B : BB} {ps : Nat → Nat}
theorem cnt_step {p : Nat → Bool} {k : Nat} : cnt p (k + 1) = cnt p k + (if p k = true then 1 else 0) := by
  cases h : p k with
  | true => rw [cnt_t h, if_pos rfl]
  | false => rw [cnt_f h, if_neg (by decide)]
theorem fw_cnt (h : fin z x n (rlive R g) B ps) {p : Nat} : ∀ k, k ≤ tF z → fw B k p = cnt (fun m => decide (B.2.1 m ≠ 1 ∧ bw B m = (p : Int))) k := by
  intro k
  induction k with
  | zero => intro _; rfl
  | succ k ih =>
    intro hk
    have ih := ih (by omega)
    have r := t_rng h (show k < tF z by omega)
    rw [cnt_step, ← ih]
    show (if 1 < B.2.1 k then fup (fw B k) (bw B k).toNat (fw B k (bw B k).toNat + 1) else fw B k) p = _
    by_cases c : 1 < B.2.1 k
    · have re := t_real h (show k < tF z by omega) (by omega) (by omega)
      have wl := t_wl h (show k < tF z by omega) (by omega)
      have b0 : 0 ≤ bw B k := by rcases wl with ⟨-, w, -⟩ | ⟨-, w, -⟩ <;> rw [w] <;> omega
      rw [if_pos c]
      unfold fup
      by_cases e : p = (bw B k).toNat
      · rw [if_pos e, if_pos (decide_eq_true ⟨by omega, by omega⟩), ← e]
      · rw [if_neg e, if_neg (by rw [decide_eq_true_eq]; omega)]
        omega
    · rw [if_neg c, if_neg (by
        rw [decide_eq_true_eq]
        rintro ⟨y1, y2⟩
        have := (t_no (B := B) (m := k) (by omega)).1
        omega)]
      omega
theorem fl_cnt (h : fin z x n (rlive R g) B ps) {p : Nat} : ∀ k, k ≤ tF z → fl B k p = cnt (fun m => decide (B.2.1 m ≠ 1 ∧ bl B m = (p : Int))) k := by
  intro k
  induction k with
  | zero => intro _; rfl
  | succ k ih =>
    intro hk
    have ih := ih (by omega)
    have r := t_rng h (show k < tF z by omega)
    rw [cnt_step, ← ih]
    show (if 1 < B.2.1 k then fup (fl B k) (bl B k).toNat (fl B k (bl B k).toNat + 1) else fl B k) p = _
    by_cases c : 1 < B.2.1 k
    · have re := t_real h (show k < tF z by omega) (by omega) (by omega)
      have wl := t_wl h (show k < tF z by omega) (by omega)
      have b0 : 0 ≤ bl B k := by rcases wl with ⟨-, -, w⟩ | ⟨-, -, w⟩ <;> rw [w] <;> omega
      rw [if_pos c]
      unfold fup
      by_cases e : p = (bl B k).toNat
      · rw [if_pos e, if_pos (decide_eq_true ⟨by omega, by omega⟩), ← e]
      · rw [if_neg e, if_neg (by rw [decide_eq_true_eq]; omega)]
        omega
    · rw [if_neg c, if_neg (by
        rw [decide_eq_true_eq]
        rintro ⟨y1, y2⟩
        have := (t_no (B := B) (m := k) (by omega)).2
        omega)]
      omega
theorem fy_cnt (h : fin z x n (rlive R g) B ps) {w : Nat} : ∀ k, k ≤ tF z → fy B k w = cnt (fun m => decide (B.2.1 m = (w : Int))) k := by
  intro k
  induction k with
  | zero => intro _; rfl
  | succ k ih =>
    intro hk
    have ih := ih (by omega)
    have r := t_rng h (show k < tF z by omega)
    rw [cnt_step, ← ih]
    show fup (fy B k) (B.2.1 k).toNat (fy B k (B.2.1 k).toNat + 1) w = _
    unfold fup
    by_cases e : w = (B.2.1 k).toNat
    · rw [if_pos e, if_pos (decide_eq_true (by omega)), ← e]
    · rw [if_neg e, if_neg (by rw [decide_eq_true_eq]; omega)]
      omega
theorem fx_is (h : fin z x n (rlive R g) B ps) {p : Nat} (hp : p < n) : ∀ k, k ≤ tF z → fx B k p = if ps p < 64 ∧ ps p / 2 < k then ((ps p / 2 : Nat) : Int) + 1 else 0 := by
  obtain ⟨f1, f2, f3, f4⟩ := cfg_F h.1
  have n16 : n ≤ 16 := by have := h.2.2.1; omega
  intro k
  induction k with
  | zero => intro _; rw [if_neg (by omega)]; rfl
  | succ k ih =>
    intro hk
    have ih := ih (by omega)
    have d0 := t_jD h (show 2 * k < 2 * tF z by omega)
    have d1 := t_jD h (show 2 * k + 1 < 2 * tF z by omega)
    have B0 := h.2.2.2.2.2.1 (2 * k) p (by omega) hp
    have B1 := h.2.2.2.2.2.1 (2 * k + 1) p (by omega) hp
    rw [show 2 * k / 2 = k by omega] at B0
    rw [show (2 * k + 1) / 2 = k by omega] at B1
    have A : ps p < 64 → ps p / 2 = k → B.2.1 k = 0 ∧ (B.1 (2 * k) = (p : Int) ∨ B.1 (2 * k + 1) = (p : Int)) := fun q1 q2 => by
      obtain ⟨g1, g2, g3⟩ := f_pend h hp q1
      rw [q2] at g3
      refine ⟨g3, ?_⟩
      by_cases e : ps p % 2 = 0
      · left; rw [show 2 * k = ps p by omega]; exact g2
      · right; rw [show 2 * k + 1 = ps p by omega]; exact g2
    show (if B.2.1 k = 0 then fup (fup (fx B k) (sxt (B.1 (2 * k))).toNat (1 + (k : Int))) (sxt (B.1 (2 * k + 1))).toNat (1 + (k : Int)) else fx B k) p = _
    by_cases c : B.2.1 k = 0
    · rw [if_pos c]
      unfold fup
      by_cases e1 : p = (sxt (B.1 (2 * k + 1))).toNat
      · have y : B.1 (2 * k + 1) = (p : Int) := by
          unfold sxt at e1
          by_cases w : B.1 (2 * k + 1) < 0
          · rw [if_pos w] at e1; omega
          · rw [if_neg w] at e1; omega
        have := (B1 y).1 c
        rw [if_pos e1, if_pos (by omega)]
        omega
      · rw [if_neg e1]
        have n1 : B.1 (2 * k + 1) ≠ (p : Int) := fun y => e1 (by unfold sxt; rw [if_neg (by omega)]; omega)
        by_cases e0 : p = (sxt (B.1 (2 * k))).toNat
        · have y : B.1 (2 * k) = (p : Int) := by
            unfold sxt at e0
            by_cases w : B.1 (2 * k) < 0
            · rw [if_pos w] at e0; omega
            · rw [if_neg w] at e0; omega
          have := (B0 y).1 c
          rw [if_pos e0, if_pos (by omega)]
          omega
        · have n0 : B.1 (2 * k) ≠ (p : Int) := fun y => e0 (by unfold sxt; rw [if_neg (by omega)]; omega)
          rw [if_neg e0, ih]
          by_cases w : ps p < 64 ∧ ps p / 2 = k
          · have := (A w.1 w.2).2
            omega
          · by_cases v : ps p < 64 ∧ ps p / 2 < k
            · rw [if_pos v, if_pos (by omega)]
            · rw [if_neg v, if_neg (by omega)]
    · rw [if_neg c, ih]
      by_cases w : ps p < 64 ∧ ps p / 2 = k
      · exact absurd (A w.1 w.2).1 c
      · by_cases v : ps p < 64 ∧ ps p / 2 < k
        · rw [if_pos v, if_pos (by omega)]
        · rw [if_neg v, if_neg (by omega)]
end TFB
