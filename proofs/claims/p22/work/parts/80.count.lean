/-! counting -/
theorem cnt_uniq {P : Nat → Bool} {k : Nat} : ∀ N : Nat, k < N → P k = true → (∀ j, j < N → P j = true → j = k) → cnt P N = 1 := by
  intro N
  induction N with
  | zero => intro h; omega
  | succ N ih =>
    intro h hk hu
    rw [cnt_step]
    by_cases e : k = N
    · subst e
      rw [if_pos hk, cnt_zero k (fun m hm => by
        cases c : P m with
        | false => rfl
        | true => have := hu m (by omega) c; omega)]
      rfl
    · rw [ih (by omega) hk (fun j hj q => hu j (by omega) q), if_neg (fun y => e ((hu N (by omega) y).symm))]
      rfl
theorem sm_congr {f g : Nat → Int} : ∀ N : Nat, (∀ j, j < N → f j = g j) → sm f N = sm g N := by
  intro N
  induction N with
  | zero => intro _; rfl
  | succ N ih =>
    intro h
    show sm f N + f N = sm g N + g N
    rw [ih (fun j hj => h j (by omega)), h N (by omega)]
theorem sm_add {f g : Nat → Int} : ∀ N : Nat, sm (fun j => f j + g j) N = sm f N + sm g N := by
  intro N
  induction N with
  | zero => rfl
  | succ N ih =>
    show sm (fun j => f j + g j) N + (f N + g N) = sm f N + f N + (sm g N + g N)
    rw [ih]
    omega
theorem sm_0 : ∀ N : Nat, sm (fun _ => 0) N = 0 := by
  intro N
  induction N with
  | zero => rfl
  | succ N ih =>
    show sm (fun _ => 0) N + 0 = 0
    rw [ih]
    rfl
theorem cnt_sm {P : Nat → Bool} : ∀ N : Nat, cnt P N = sm (fun j => if P j = true then 1 else 0) N := by
  intro N
  induction N with
  | zero => rfl
  | succ N ih =>
    rw [cnt_step, ih]
    rfl
/-- counted by rows, or by columns -/
theorem sm_swap {R : Nat → Nat → Bool} (F : Nat) : ∀ n : Nat, sm (fun p => cnt (R p) F) n = sm (fun m => cnt (fun p => R p m) n) F := by
  intro n
  induction n with
  | zero =>
    show 0 = sm (fun _ => 0) F
    rw [sm_0]
  | succ n ih =>
    show sm (fun p => cnt (R p) F) n + cnt (R n) F = _
    rw [ih, cnt_sm F, ← sm_add]
    refine sm_congr F (fun m _ => ?_)
    show _ = cnt (fun p => R p m) (n + 1)
    rw [cnt_step]
/-- as many on both sides of a map that is one to one -/
theorem cnt_bij {P Q : Nat → Bool} {f : Nat → Nat} {n N : Nat} (h1 : ∀ p, p < n → P p = true → f p < N ∧ Q (f p) = true) (h2 : ∀ p q, p < n → q < n → P p = true → P q = true → f p = f q → p = q) (h3 : ∀ m, m < N → Q m = true → ∃ p, p < n ∧ P p = true ∧ f p = m) : cnt P n = cnt Q N := by
  have a : sm (fun p => cnt (fun m => P p && decide (f p = m)) N) n = cnt P n := by
    rw [cnt_sm n]
    refine sm_congr n (fun p hp => ?_)
    show cnt _ N = if P p = true then 1 else 0
    by_cases c : P p = true
    · rw [if_pos c]
      refine cnt_uniq (k := f p) N (h1 p hp c).1 (by rw [c, decide_eq_true rfl]; rfl) (fun j _ q => ?_)
      rw [c, Bool.true_and, decide_eq_true_eq] at q
      exact q.symm
    · rw [if_neg c]
      refine cnt_zero N (fun m _ => ?_)
      cases e : P p with
      | false => rfl
      | true => exact absurd e c
  have b : sm (fun m => cnt (fun p => P p && decide (f p = m)) n) N = cnt Q N := by
    rw [cnt_sm N]
    refine sm_congr N (fun m hm => ?_)
    show cnt _ n = if Q m = true then 1 else 0
    by_cases c : Q m = true
    · rw [if_pos c]
      obtain ⟨p, hp, e1, e2⟩ := h3 m hm c
      refine cnt_uniq (k := p) n hp (by rw [e1, decide_eq_true e2]; rfl) (fun j hj q => ?_)
      rw [Bool.and_eq_true, decide_eq_true_eq] at q
      exact h2 j p hj hp q.1 e1 (by rw [q.2, e2])
    · rw [if_neg c]
      refine cnt_zero n (fun p hp => ?_)
      cases e : P p with
      | false => rfl
      | true =>
        refine Bool.and_eq_false_iff.mpr (Or.inr (decide_eq_false (fun y => ?_)))
        have := (h1 p hp e).2
        rw [y] at this
        exact c this
  rw [← a, ← b]
  exact sm_swap (R := fun p m => P p && decide (f p = m)) N n
/-! a tournament that is over: who stands where -/
section OVR
variable {G : PW} {n x L : Nat} {ps : Nat → Nat}
/-- a match of the lower bracket between two players -/
def lowm (n x m : Nat) : Bool := decide (tPT (tz n) m = 1 ∧ tby n x (2 * m) = 0 ∧ tby n x (2 * m + 1) = 0)
theorem over_dec (h : CI G n x L) (hf : fin (tz n) x n (rlive (G 14) (G 15)) (pm_rows G 3) ps) (q : cchamp G (tF (tz n)) ≠ -6) : ∀ m, m < tF (tz n) - 1 → (pm_rows G 3).2.1 m ≠ 0 := by
  obtain ⟨f1, f2, f3, f4⟩ := cfg_F hf.1
  have nq : ¬ ((pm_rows G 3).2.1 (tF (tz n) - 1) = 0 ∧ (pm_rows G 3).2.2 (tF (tz n) - 2) ≠ 0) := fun y => q ((f_ch6 hf).mpr y)
  have d : (pm_rows G 3).2.1 (tF (tz n) - 2) ≠ 0 := by
    by_cases c : (pm_rows G 3).2.1 (tF (tz n) - 1) = 0
    · exact fun y => nq ⟨c, by rw [hf.2.2.2.1.2.2.2.2.2 (tF (tz n) - 2) (by omega) y]; decide⟩
    · exact (f_s3 hf c).1
  exact f_dec hf d
/-- who is out of a match of the lower bracket: nobody, where there are byes; else just one -/
theorem out_low (h : CI G n x L) (hf : fin (tz n) x n (rlive (G 14) (G 15)) (pm_rows G 3) ps) {p : Nat} (hp : p < n) (c : 64 ≤ ps p) (d : (ps p - 64) / 2 < tF (tz n) - 2) : lowm n x ((ps p - 64) / 2) = true := by
  obtain ⟨f1, f2, f3, f4⟩ := cfg_F hf.1
  obtain ⟨s, s1, s2, s3, s4, s5⟩ := f_term hf hp c
  have e : (ps p - 64) / 2 = s / 2 := by omega
  rw [e] at d ⊢
  have pt : tPT (tz n) (s / 2) = 1 := by
    rcases s5 with s5 | s5 | s5
    · exact s5.2.1
    · omega
    · omega
  have ws : (pm_rows G 3).2.2 (s / 2) ≠ ((s % 2 : Nat) : Int) := by
    rcases s5 with s5 | s5 | s5
    · exact s5.2.2
    · omega
    · omega
  have m1 : s / 2 < tF (tz n) := by omega
  obtain ⟨k0, k1⟩ := t_sides hf m1 s4
  have b0 := t_b16 h.2.1 hf (2 * (s / 2)) (by omega) k0
  have b1 := t_b16 h.2.1 hf (2 * (s / 2) + 1) (by omega) k1
  obtain ⟨y1, y2, y3, y4⟩ := tby_ok h.1 h.2.1
  have v0 := y3 (2 * (s / 2)) (by omega)
  have v1 := y3 (2 * (s / 2) + 1) (by omega)
  have n16 := h.1.2
  have nb : ¬ ((pm_rows G 3).1 (2 * (s / 2)) = 16 ∨ (pm_rows G 3).1 (2 * (s / 2) + 1) = 16) := fun y => by
    have rr := (hf.2.1 (s / 2) ((pm_rows G 3).1 (2 * (s / 2))) ((pm_rows G 3).1 (2 * (s / 2) + 1)) (by omega)).2.1 y
    obtain ⟨-, -, d2, -⟩ := hf.2.2.2.1.2.2.2.1 (s / 2) m1 s4
    rw [rr] at d2
    have d2 : (pm_rows G 3).2.2 (s / 2) = if (pm_rows G 3).1 (2 * (s / 2) + 1) = 16 then 0 else 1 := d2
    by_cases e1 : (pm_rows G 3).1 (2 * (s / 2) + 1) = 16
    · rw [if_pos e1] at d2
      have : s = 2 * (s / 2) + 1 := by omega
      rw [← this, s3] at e1
      omega
    · rw [if_neg e1] at d2
      have : s = 2 * (s / 2) := by omega
      have e0 := y.resolve_right e1
      rw [← this, s3] at e0
      omega
  have n0 : ¬ tby n x (2 * (s / 2)) = 1 := fun y => nb (Or.inl (b0.mpr y))
  have n1 : ¬ tby n x (2 * (s / 2) + 1) = 1 := fun y => nb (Or.inr (b1.mpr y))
  unfold lowm
  exact decide_eq_true ⟨pt, by omega, by omega⟩
theorem out_inj (hf : fin (tz n) x n (rlive (G 14) (G 15)) (pm_rows G 3) ps) {p q : Nat} (hp : p < n) (hq : q < n) (c : 64 ≤ ps p) (c2 : 64 ≤ ps q) (d : (ps p - 64) / 2 < tF (tz n) - 2) (e : (ps p - 64) / 2 = (ps q - 64) / 2) : p = q := by
  obtain ⟨f1, f2, f3, f4⟩ := cfg_F hf.1
  obtain ⟨s, s1, s2, s3, s4, s5⟩ := f_term hf hp c
  obtain ⟨t, t1, t2, t3, t4, t5⟩ := f_term hf hq c2
  have e1 : s / 2 = t / 2 := by omega
  have ws : (pm_rows G 3).2.2 (s / 2) ≠ ((s % 2 : Nat) : Int) := by
    rcases s5 with s5 | s5 | s5
    · exact s5.2.2
    · omega
    · omega
  have wt : (pm_rows G 3).2.2 (t / 2) ≠ ((t % 2 : Nat) : Int) := by
    rcases t5 with s5 | s5 | s5
    · exact s5.2.2
    · omega
    · omega
  rw [← e1] at wt
  have w := f_won hf (show s / 2 < tF (tz n) by omega) s4
  have : s = t := by omega
  rw [this] at s3
  omega
theorem out_sur (h : CI G n x L) (hf : fin (tz n) x n (rlive (G 14) (G 15)) (pm_rows G 3) ps) (q : cchamp G (tF (tz n)) ≠ -6) {m : Nat} (hm : m < tF (tz n) - 2) (hl : lowm n x m = true) : ∃ p, p < n ∧ 64 ≤ ps p ∧ (ps p - 64) / 2 = m := by
  obtain ⟨f1, f2, f3, f4⟩ := cfg_F hf.1
  unfold lowm at hl
  obtain ⟨pt, l0, l1⟩ := of_decide_eq_true hl
  have nz := over_dec h hf q m (by omega)
  have m1 : m < tF (tz n) := by omega
  obtain ⟨k0, k1⟩ := t_sides hf m1 nz
  have b0 := t_b16 h.2.1 hf (2 * m) (by omega) k0
  have b1 := t_b16 h.2.1 hf (2 * m + 1) (by omega) k1
  have j0 := t_jD hf (show 2 * m < 2 * tF (tz n) by omega)
  have j1 := t_jD hf (show 2 * m + 1 < 2 * tF (tz n) by omega)
  have n0 : ¬ (pm_rows G 3).1 (2 * m) = 16 := fun y => by have := b0.mp y; omega
  have n1 : ¬ (pm_rows G 3).1 (2 * m + 1) = 16 := fun y => by have := b1.mp y; omega
  have w := f_won hf m1 nz
  -- the loser's seat
  obtain ⟨s, hs, hw⟩ : ∃ s : Nat, (s = 2 * m ∨ s = 2 * m + 1) ∧ (pm_rows G 3).2.2 m ≠ ((s % 2 : Nat) : Int) := by
    rcases w with w | w
    · exact ⟨2 * m + 1, Or.inr rfl, by omega⟩
    · exact ⟨2 * m, Or.inl rfl, by omega⟩
  obtain ⟨p, hp⟩ : ∃ p : Nat, p < n ∧ (pm_rows G 3).1 s = (p : Int) := by
    rcases hs with rfl | rfl
    · exact ⟨((pm_rows G 3).1 (2 * m)).toNat, by omega, by omega⟩
    · exact ⟨((pm_rows G 3).1 (2 * m + 1)).toNat, by omega, by omega⟩
  have e2 : s / 2 = m := by omega
  have B := (hf.2.2.2.2.2.1 s p (by omega) hp.1 hp.2).2 (by rw [e2]; exact nz) (Or.inl ⟨by omega, by rw [e2]; exact pt, by rw [e2]; exact hw⟩)
  exact ⟨p, hp.1, by omega, by omega⟩
/-- the two of the last final -/
theorem over_fin (h : CI G n x L) (hf : fin (tz n) x n (rlive (G 14) (G 15)) (pm_rows G 3) ps) (q : cchamp G (tF (tz n)) ≠ -6) : ∃ a b : Nat, a < n ∧ b < n ∧ a ≠ b ∧ cchamp G (tF (tz n)) = (a : Int) ∧ (∀ p, p < n → 64 ≤ ps p → tF (tz n) - 2 ≤ (ps p - 64) / 2 → p = a ∨ p = b) ∧ 64 ≤ ps b ∧ tF (tz n) - 2 ≤ (ps b - 64) / 2 := by
  obtain ⟨f1, f2, f3, f4⟩ := cfg_F hf.1
  obtain ⟨y1, y2, y3, y4⟩ := tby_ok h.1 h.2.1
  have n16 := h.1.2
  have nz := over_dec h hf q (tF (tz n) - 2) (by omega)
  have m1 : tF (tz n) - 2 < tF (tz n) := by omega
  obtain ⟨k0, k1⟩ := t_sides hf m1 nz
  rw [show 2 * (tF (tz n) - 2) + 1 = 2 * tF (tz n) - 3 by omega] at k1
  rw [show 2 * (tF (tz n) - 2) = 2 * tF (tz n) - 4 by omega] at k0
  have b1 := t_b16 h.2.1 hf (2 * tF (tz n) - 3) (by omega) k1
  have n0 := f_nb hf
  have n1 : ¬ (pm_rows G 3).1 (2 * tF (tz n) - 3) = 16 := fun y => by have := b1.mp y; omega
  have j0 := t_jD hf (show 2 * tF (tz n) - 4 < 2 * tF (tz n) by omega)
  have j1 := t_jD hf (show 2 * tF (tz n) - 3 < 2 * tF (tz n) by omega)
  have hd := f_hd hf k0
  obtain ⟨u, hu, eu⟩ : ∃ u : Nat, u < n ∧ (pm_rows G 3).1 (2 * tF (tz n) - 4) = (u : Int) := ⟨((pm_rows G 3).1 (2 * tF (tz n) - 4)).toNat, by omega, by omega⟩
  obtain ⟨v, hv, ev⟩ : ∃ v : Nat, v < n ∧ (pm_rows G 3).1 (2 * tF (tz n) - 3) = (v : Int) := ⟨((pm_rows G 3).1 (2 * tF (tz n) - 3)).toNat, by omega, by omega⟩
  have uv : u ≠ v := fun y => hd (by rw [eu, ev, y])
  have w := f_won hf m1 nz
  have g3 := hf.2.2.2.1.2.2.1
  -- whoever ended there is one of the two
  have T : ∀ p, p < n → 64 ≤ ps p → tF (tz n) - 2 ≤ (ps p - 64) / 2 → p = u ∨ p = v := fun p hp c d => by
    obtain ⟨s, s1, s2, s3, s4, s5⟩ := f_term hf hp c
    have hs : s = 2 * tF (tz n) - 4 ∨ s = 2 * tF (tz n) - 3 ∨ s = 2 * tF (tz n) - 2 ∨ s = 2 * tF (tz n) - 1 := by omega
    rcases hs with rfl | rfl | rfl | rfl
    · rw [eu] at s3; left; omega
    · rw [ev] at s3; right; omega
    · have k : (pm_rows G 3).2.1 (tF (tz n) - 2) ≠ 0 ∧ (pm_rows G 3).2.2 (tF (tz n) - 2) = 1 := Decidable.byContradiction (fun y => by
        have := (g3.2 y).1
        omega)
      have := (g3.1 k).1
      rw [eu] at this
      left; omega
    · have k : (pm_rows G 3).2.1 (tF (tz n) - 2) ≠ 0 ∧ (pm_rows G 3).2.2 (tF (tz n) - 2) = 1 := Decidable.byContradiction (fun y => by
        have := (g3.2 y).2
        omega)
      have := (g3.1 k).2
      rw [ev] at this
      right; omega
  have chU := (f_champ hf hu).1
  have chV := (f_champ hf hv).1
  have E : (64 + (2 * tF (tz n) - 4) ≤ ps u ∧ 64 + (2 * tF (tz n) - 4) ≤ ps v) ∧ (((pm_rows G 3).2.2 ((ps u - 64) / 2) = ((ps u % 2 : Nat) : Int) ∧ True) ∨ ((pm_rows G 3).2.2 ((ps v - 64) / 2) = ((ps v % 2 : Nat) : Int) ∧ True)) := by
    rcases w with w | w
    · have pu := (hf.2.2.2.2.2.1 (2 * tF (tz n) - 4) u (by omega) hu eu).2 (by rw [show (2 * tF (tz n) - 4) / 2 = tF (tz n) - 2 by omega]; exact nz) (Or.inr (Or.inl ⟨by omega, w⟩))
      have pv := (hf.2.2.2.2.2.1 (2 * tF (tz n) - 3) v (by omega) hv ev).2 (by rw [show (2 * tF (tz n) - 3) / 2 = tF (tz n) - 2 by omega]; exact nz) (Or.inr (Or.inl ⟨by omega, w⟩))
      refine ⟨⟨by omega, by omega⟩, Or.inl ⟨?_, trivial⟩⟩
      rw [show (ps u - 64) / 2 = tF (tz n) - 2 by omega, w, show ps u % 2 = 0 by omega]
      rfl
    · have g := g3.1 ⟨nz, w⟩
      have nz2 : (pm_rows G 3).2.1 (tF (tz n) - 1) ≠ 0 := fun y => q ((f_ch6 hf).mpr ⟨y, by rw [w]; decide⟩)
      have pu := (hf.2.2.2.2.2.1 (2 * tF (tz n) - 2) u (by omega) hu (by rw [g.1]; exact eu)).2 (by rw [show (2 * tF (tz n) - 2) / 2 = tF (tz n) - 1 by omega]; exact nz2) (Or.inr (Or.inr (by omega)))
      have pv := (hf.2.2.2.2.2.1 (2 * tF (tz n) - 1) v (by omega) hv (by rw [g.2]; exact ev)).2 (by rw [show (2 * tF (tz n) - 1) / 2 = tF (tz n) - 1 by omega]; exact nz2) (Or.inr (Or.inr (by omega)))
      have w2 := f_won hf (show tF (tz n) - 1 < tF (tz n) by omega) nz2
      refine ⟨⟨by omega, by omega⟩, ?_⟩
      rcases w2 with w2 | w2
      · left
        refine ⟨?_, trivial⟩
        rw [show (ps u - 64) / 2 = tF (tz n) - 1 by omega, w2, show ps u % 2 = 0 by omega]
        rfl
      · right
        refine ⟨?_, trivial⟩
        rw [show (ps v - 64) / 2 = tF (tz n) - 1 by omega, w2, show ps v % 2 = 1 by omega]
        rfl
  obtain ⟨⟨eu1, ev1⟩, E⟩ := E
  rcases E with ⟨E, -⟩ | ⟨E, -⟩
  · exact ⟨u, v, hu, hv, uv, chU.mpr ⟨eu1, E⟩, T, by omega, by omega⟩
  · exact ⟨v, u, hv, hu, fun y => uv y.symm, chV.mpr ⟨ev1, E⟩, fun p hp a b => (T p hp a b).symm, by omega, by omega⟩
end OVR
