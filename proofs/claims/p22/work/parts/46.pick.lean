/-! picked out of the rows of the whole claim -/
def psm (P : Nat → Int) : Nat → Nat → Int
  | 0, _ => 0
  | f + 1, k => P k + psm P f (k + 1)
theorem ite10 {c : Prop} [Decidable c] : (if c then (1 : Int) else 0) = 0 ∨ (if c then (1 : Int) else 0) = 1 := by
  by_cases h : c
  · rw [if_pos h]; exact Or.inr rfl
  · rw [if_neg h]; exact Or.inl rfl
theorem bfalse {b : Bool} {p : Prop} (h : b = true ↔ p) (hn : ¬ p) : b = false := by
  cases hb : b with
  | false => rfl
  | true => exact absurd (h.mp hb) hn
theorem cnt_congr {p q : Nat → Bool} : ∀ k : Nat, (∀ m, m < k → p m = q m) → cnt p k = cnt q k := by
  intro k
  induction k with
  | zero => intro _; rfl
  | succ k ih =>
    intro h
    show cnt p k + _ = cnt q k + _
    rw [ih (fun m hm => h m (by omega)), h k (by omega)]
theorem ffrom_congr {p q : Nat → Bool} : ∀ f i : Nat, (∀ m, i ≤ m → m < i + f → p m = q m) → ffrom p f i = ffrom q f i := by
  intro f
  induction f with
  | zero => intro i _; rfl
  | succ f ih =>
    intro i h
    have e := h i (Nat.le_refl _) (by omega)
    have r := ih (i + 1) (fun m h1 h2 => h m (by omega) (by omega))
    cases c : q i with
    | true => rw [ffrom_t c, ffrom_t (e.trans c)]
    | false => rw [ffrom_f c, ffrom_f (e.trans c), r]
theorem bdec_ext {WS LS WS' LS' : Nat → Int} {F m : Nat} {sd kd : Int} {B : BB} (h1 : WS m = WS' m) (h2 : LS m = LS' m) : bdec WS LS F m sd kd B = bdec WS' LS' F m sd kd B := by
  unfold bdec
  rw [h1, h2]
theorem gon_ext {g g' : Nat → Int} {p : Int} (h : ∀ p, p < 16 → g p = g' p) : gon g p ↔ gon g' p := by
  constructor
  · rintro ⟨a, b, c⟩
    exact ⟨a, b, by rw [← h _ (by omega)]; exact c⟩
  · rintro ⟨a, b, c⟩
    exact ⟨a, b, by rw [h _ (by omega)]; exact c⟩
