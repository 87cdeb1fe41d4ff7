/-! what is told of a bracket: the class' and the reference's -/
theorem cnt_congr {p q : Nat → Bool} : ∀ k : Nat, (∀ m, m < k → p m = q m) → cnt p k = cnt q k := by
  intro k
  induction k with
  | zero => intro _; rfl
  | succ k ih =>
    intro h
    show cnt p k + _ = cnt q k + _
    rw [ih (fun m hm => h m (by omega)), h k (by omega)]
theorem ffrom_congr {p q : Nat → Bool} : ∀ f i : Nat, (∀ m, i ≤ m → m < i + f → p m = q m) → ffrom p f i = ffrom q f i := by
  intro f
  induction f with
  | zero => intro i _; rfl
  | succ f ih =>
    intro i h
    have e := h i (Nat.le_refl _) (by omega)
    have r := ih (i + 1) (fun m h1 h2 => h m (by omega) (by omega))
    cases c : q i with
    | true => rw [ffrom_t c, ffrom_t (e.trans c)]
    | false => rw [ffrom_f c, ffrom_f (e.trans c), r]
theorem next_same {F : Nat} {B : BB} {C : R4} {x : Int} (h : rel F F B C) : ffrom (mnext C.1 C.2.1 x) F 0 = ffrom (bnext B x) F 0 := by
  refine ffrom_congr F 0 (fun m _ hm => ?_)
  have e0 := h.1 (2 * m) (by omega)
  have e1 := h.1 (2 * m + 1) (by omega)
  have e2 := (h.2.1 m (by omega)).1
  unfold mnext bnext bin
  rw [e0, e1, e2]
  cases decide (B.2.1 m = 0) <;> cases decide (B.1 (2 * m) = x) <;> cases decide (B.1 (2 * m + 1) = x) <;> rfl
theorem by_same {F : Nat} {B : BB} {C : R4} {w : Int} (h : rel F F B C) : cnt (fun m => decide (C.2.1 m = w)) F = cnt (fun m => decide (B.2.1 m = w)) F := by
  refine cnt_congr F (fun m hm => ?_)
  have e2 := (h.2.1 m (by omega)).1
  rw [e2]
