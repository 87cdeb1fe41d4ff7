/-! what holds of a bracket when all its matches are done as far as can be -/
def fin (z x n : Nat) (rl : RUL) (B : BB) (ps : Nat → Nat) : Prop := cfg z x ∧ rlok rl ∧ (2 ≤ n ∧ n ≤ z) ∧ gS z x n rl (tF z) B ∧ jJ z n (tF z) B ps
theorem ff_at {p : Nat → Bool} {k : Nat} : ∀ f i : Nat, i ≤ k → k < i + f → p k = true → (∀ m, i ≤ m → m < k → p m = false) → ffrom p f i = (k : Int) := by
  intro f
  induction f with
  | zero => intro i h1 h2; omega
  | succ f ih =>
    intro i h1 h2 h3 h4
    by_cases e : i = k
    · subst e
      exact ffrom_t h3
    · rw [ffrom_f (h4 i (Nat.le_refl _) (by omega))]
      exact ih (i + 1) (by omega) (by omega) h3 (fun m q1 q2 => h4 m (by omega) q2)
theorem ff_no {p : Nat → Bool} : ∀ f i : Nat, (∀ m, i ≤ m → m < i + f → p m = false) → ffrom p f i = -6 := by
  intro f
  induction f with
  | zero => intro i _; rfl
  | succ f ih =>
    intro i h
    rw [ffrom_f (h i (Nat.le_refl _) (by omega))]
    exact ih (i + 1) (fun m q1 q2 => h m (by omega) (by omega))
theorem ff_only {p : Nat → Bool} {k F : Nat} (hk : k < F) (h : p k = true) (h1 : ∀ m, m < F → p m = true → m = k) : ffrom p F 0 = (k : Int) := ff_at F 0 (Nat.zero_le _) (by omega) h (fun m _ q => by
  cases e : p m with
  | false => rfl
  | true => exact absurd (h1 m (by omega) e) (by omega))
theorem ff_none {p : Nat → Bool} {F : Nat} (h1 : ∀ m, m < F → ¬ p m = true) : ffrom p F 0 = -6 := ff_no F 0 (fun m _ q => by
  cases e : p m with
  | false => rfl
  | true => exact absurd e (h1 m (by omega)))
/-- the second one -/
def bsec (F : Nat) (B : BB) : Int := if bch F B = -6 then -6 else if B.2.1 (F - 1) ≠ 0 then bl B (F - 1) else bl B (F - 2)
theorem bnext_iff {B : BB} {p : Int} {m : Nat} : bnext B p m = true ↔ (B.1 (2 * m) = p ∨ B.1 (2 * m + 1) = p) ∧ B.2.1 m = 0 := by
  unfold bnext bin
  rw [Bool.and_eq_true, Bool.or_eq_true, decide_eq_true_eq, decide_eq_true_eq, decide_eq_true_eq]
theorem bplay_iff {n : Int} {B : BB} {m : Nat} : bplay n B m = true ↔ B.2.1 m = 0 ∧ (0 ≤ B.1 (2 * m) ∧ B.1 (2 * m) < n) ∧ (0 ≤ B.1 (2 * m + 1) ∧ B.1 (2 * m + 1) < n) := by
  unfold bplay
  rw [decide_eq_true_eq]
section FIN
variable {z x n : Nat} {rl : RUL} {B : BB} {ps : Nat → Nat}
theorem f_pend (h : fin z x n rl B ps) {p : Nat} (hp : p < n) (q : ps p < 64) : ps p < 2 * tF z ∧ B.1 (ps p) = (p : Int) ∧ B.2.1 (ps p / 2) = 0 := by
  rcases h.2.2.2.2.1 p hp with g | ⟨s, -, g, -⟩
  · exact g
  · omega
theorem f_term (h : fin z x n rl B ps) {p : Nat} (hp : p < n) (q : 64 ≤ ps p) : ∃ s, s < 2 * tF z ∧ ps p = 64 + s ∧ B.1 s = (p : Int) ∧ B.2.1 (s / 2) ≠ 0 ∧ term z B s := by
  obtain ⟨f1, f2, f3, f4⟩ := cfg_F h.1
  rcases h.2.2.2.2.1 p hp with ⟨g, -⟩ | g
  · omega
  · exact g
theorem f_won (h : fin z x n rl B ps) {m : Nat} (hm : m < tF z) (q : B.2.1 m ≠ 0) : B.2.2 m = 0 ∨ B.2.2 m = 1 := won01 h.2.1 (cfg_F h.1).2.2.1 h.2.2.2.1.2.2.2.1 hm q
theorem f_next (h : fin z x n rl B ps) {p : Nat} (hp : p < n) : ffrom (bnext B (p : Int)) (tF z) 0 = if ps p < 64 then ((ps p / 2 : Nat) : Int) else -6 := by
  have U : ∀ m, m < tF z → bnext B (p : Int) m = true → ps p = 2 * m ∨ ps p = 2 * m + 1 := fun m hm q => by
    obtain ⟨q1, q2⟩ := bnext_iff.mp q
    rcases q1 with q1 | q1
    · exact Or.inl ((h.2.2.2.2.2.1 (2 * m) p (by omega) hp q1).1 (by rw [show 2 * m / 2 = m by omega]; exact q2))
    · exact Or.inr ((h.2.2.2.2.2.1 (2 * m + 1) p (by omega) hp q1).1 (by rw [show (2 * m + 1) / 2 = m by omega]; exact q2))
  by_cases c : ps p < 64
  · rw [if_pos c]
    obtain ⟨g1, g2, g3⟩ := f_pend h hp c
    refine ff_only (by omega) (bnext_iff.mpr ⟨?_, g3⟩) (fun m hm q => by have := U m hm q; omega)
    by_cases e : ps p % 2 = 0
    · left
      rw [show 2 * (ps p / 2) = ps p by omega]; exact g2
    · right
      rw [show 2 * (ps p / 2) + 1 = ps p by omega]; exact g2
  · rw [if_neg c]
    have f3 := (cfg_F h.1).2.2.1
    exact ff_none (fun m hm q => by have := U m hm q; omega)
theorem f_bl (h : fin z x n rl B ps) {p : Nat} {m : Nat} (hm : m < tF z) (q : bl B m = (p : Int)) : B.2.1 m ≠ 0 ∧ (B.2.2 m = 0 ∨ B.2.2 m = 1) ∧ B.1 (2 * m + (1 - B.2.2 m).toNat) = (p : Int) := by
  unfold bl at q
  by_cases c : B.2.1 m = 0
  · rw [if_pos c] at q
    omega
  · rw [if_neg c] at q
    exact ⟨c, f_won h hm c, q⟩
theorem f_bw (h : fin z x n rl B ps) {p : Nat} {m : Nat} (hm : m < tF z) (q : bw B m = (p : Int)) : B.2.1 m ≠ 0 ∧ (B.2.2 m = 0 ∨ B.2.2 m = 1) ∧ B.1 (2 * m + (B.2.2 m).toNat) = (p : Int) := by
  unfold bw at q
  by_cases c : B.2.1 m = 0
  · rw [if_pos c] at q
    omega
  · rw [if_neg c] at q
    exact ⟨c, f_won h hm c, q⟩
theorem f_out (h : fin z x n rl B ps) {p : Nat} (hp : p < n) : ffrom (fun m => decide (tPT z m = 1) && decide (bl B m = (p : Int))) (tF z) 0 = if 64 ≤ ps p ∧ (ps p - 64) / 2 < tF z - 2 then (((ps p - 64) / 2 : Nat) : Int) else -6 := by
  obtain ⟨f1, f2, f3, f4⟩ := cfg_F h.1
  obtain ⟨-, -, -, -, t5, t6⟩ := tb_fin h.1
  have U : ∀ m, m < tF z → (decide (tPT z m = 1) && decide (bl B m = (p : Int))) = true → m < tF z - 2 ∧ ps p = 64 + (2 * m + (1 - B.2.2 m).toNat) ∧ (B.2.2 m = 0 ∨ B.2.2 m = 1) := fun m hm q => by
    rw [Bool.and_eq_true, decide_eq_true_eq, decide_eq_true_eq] at q
    obtain ⟨q1, q2⟩ := q
    obtain ⟨b1, b2, b3⟩ := f_bl h hm q2
    have m2 : m < tF z - 2 := by
      by_cases e1 : m = tF z - 2
      · rw [e1, t5] at q1
        omega
      · by_cases e2 : m = tF z - 1
        · rw [e2, t6] at q1
          omega
        · omega
    have e : (2 * m + (1 - B.2.2 m).toNat) / 2 = m := by omega
    refine ⟨m2, (h.2.2.2.2.2.1 _ p (by omega) hp b3).2 (by rw [e]; exact b1) (Or.inl ⟨by omega, by rw [e]; exact q1, by rw [e]; omega⟩), b2⟩
  by_cases c : 64 ≤ ps p ∧ (ps p - 64) / 2 < tF z - 2
  · rw [if_pos c]
    obtain ⟨s, g1, g2, g3, g4, g5⟩ := f_term h hp c.1
    have es : ps p - 64 = s := by omega
    rw [es]
    have g5 : tPT z (s / 2) = 1 ∧ B.2.2 (s / 2) ≠ ((s % 2 : Nat) : Int) := by
      rcases g5 with g | g | g
      · exact g.2
      · omega
      · omega
    have w := f_won h (show s / 2 < tF z by omega) g4
    refine ff_only (by omega) ?_ (fun m hm q => by have := U m hm q; omega)
    rw [Bool.and_eq_true, decide_eq_true_eq, decide_eq_true_eq]
    refine ⟨g5.1, ?_⟩
    unfold bl
    rw [if_neg g4, show 2 * (s / 2) + (1 - B.2.2 (s / 2)).toNat = s by omega]
    exact g3
  · rw [if_neg c]
    exact ff_none (fun m hm q => by have := U m hm q; omega)
/-- the first side of the first final is no bye -/
theorem f_up (h : fin z x n rl B ps) {m : Nat} (hm : m < tF z - 2) (q : B.1 (2 * m) ≠ 16) : B.1 (tWS z m).toNat ≠ 16 := by
  obtain ⟨f1, f2, f3, f4⟩ := cfg_F h.1
  obtain ⟨-, g2, -, g4, -, -⟩ := h.2.2.2.1
  by_cases c : B.2.1 m = 0
  · rw [((g2 m hm).1 c).1]
    omega
  · rw [((g2 m hm).2 c).1]
    obtain ⟨b0, b1, b2, b3⟩ := g4 m (by omega) c
    obtain ⟨r1, r2, -⟩ := h.2.1 m (B.1 (2 * m)) (B.1 (2 * m + 1)) (by omega)
    rw [b2]
    by_cases c2 : B.1 (2 * m + 1) = 16
    · rw [r2 (Or.inr c2), if_pos c2]
      exact q
    · rcases r1 with r1 | r1
      · rw [r1]; exact q
      · rw [r1]; exact c2
theorem f_nb (h : fin z x n rl B ps) : B.1 (2 * tF z - 4) ≠ 16 := by
  have hc := h.1
  have h1 := h.2.2.2.1.1
  have hn := h.2.2.1.1
  have b0 : B.1 (2 * 0) ≠ 16 := by
    have z4 := (cfg_F hc).2.2.2
    rw [h1 0 (by omega)]
    have e : tSD z 0 = 0 := by
      rcases hc.1 with rfl | rfl | rfl <;> rfl
    unfold tini
    rw [e, if_pos (by omega)]
    decide
  rcases hc.1 with e | e | e
  · subst e
    have a1 : B.1 (2 * 2) ≠ 16 := f_up (m := 0) h (by decide) b0
    exact f_up (m := 2) h (by decide) a1
  · subst e
    have a1 : B.1 (2 * 4) ≠ 16 := f_up (m := 0) h (by decide) b0
    have a2 : B.1 (2 * 6) ≠ 16 := f_up (m := 4) h (by decide) a1
    exact f_up (m := 6) h (by decide) a2
  · subst e
    have a1 : B.1 (2 * 8) ≠ 16 := f_up (m := 0) h (by decide) b0
    have a2 : B.1 (2 * 12) ≠ 16 := f_up (m := 8) h (by decide) a1
    have a3 : B.1 (2 * 14) ≠ 16 := f_up (m := 12) h (by decide) a2
    exact f_up (m := 14) h (by decide) a3
/-- the sides of a match that are told -/
theorem f_hd (h : fin z x n rl B ps) (q : B.1 (2 * tF z - 4) ≠ -6) : B.1 (2 * tF z - 4) ≠ B.1 (2 * tF z - 3) := by
  obtain ⟨f1, f2, f3, f4⟩ := cfg_F h.1
  have b := f_nb h
  have d := h.2.2.2.2.2.2.2.1 (2 * tF z - 4) (by omega)
  have e := h.2.2.2.2.2.2.2.2.1 (tF z - 2) (by omega)
  rw [show 2 * (tF z - 2) = 2 * tF z - 4 by omega, show 2 * tF z - 4 + 1 = 2 * tF z - 3 by omega] at e
  exact e (by omega) (by omega)
theorem f_mopen (h : fin z x n rl B ps) {m : Nat} (hm : m < tF z) : (B.2.1 m = 0 ∧ B.1 (2 * m) ≠ -6 ∧ B.1 (2 * m + 1) ≠ -6) ↔ bplay n B m = true := by
  obtain ⟨f1, f2, f3, f4⟩ := cfg_F h.1
  rw [bplay_iff]
  constructor
  · rintro ⟨a0, a1, a2⟩
    have d0 := h.2.2.2.2.2.2.2.1 (2 * m) (by omega)
    have d1 := h.2.2.2.2.2.2.2.1 (2 * m + 1) (by omega)
    have g5 := h.2.2.2.1.2.2.2.2.1 m hm a1 a2 a0
    have r2 := (h.2.1 m (B.1 (2 * m)) (B.1 (2 * m + 1)) (by omega)).2.1
    have nb : ¬ (B.1 (2 * m) = 16 ∨ B.1 (2 * m + 1) = 16) := fun y => by
      rw [r2 y] at g5
      exact absurd (show (1 : Int) = 0 from g5) (by decide)
    exact ⟨a0, d0.elim (fun y => absurd y a1) (fun y => y.elim (fun y => absurd (Or.inl y) nb) (fun y => y)), d1.elim (fun y => absurd y a2) (fun y => y.elim (fun y => absurd (Or.inr y) nb) (fun y => y))⟩
  · rintro ⟨a0, a1, a2⟩
    exact ⟨a0, by omega, by omega⟩
/-- an undecided match is no match of the rule's -/
theorem f_rule (h : fin z x n rl B ps) {m : Nat} (hm : m < tF z) (q : bplay n B m = true) : (rl m (B.1 (2 * m)) (B.1 (2 * m + 1))).2 = 0 := by
  obtain ⟨a0, a1, a2⟩ := bplay_iff.mp q
  exact h.2.2.2.1.2.2.2.2.1 m hm (by omega) (by omega) a0
theorem f_bw6 (h : fin z x n rl B ps) {m : Nat} (hm : m < tF z) : bw B m = -6 ↔ B.2.1 m = 0 := by
  unfold bw
  by_cases c : B.2.1 m = 0
  · rw [if_pos c]
    exact ⟨fun _ => c, fun _ => rfl⟩
  · rw [if_neg c]
    obtain ⟨b0, b1, -, -⟩ := h.2.2.2.1.2.2.2.1 m hm c
    have w := f_won h hm c
    refine ⟨fun y => ?_, fun y => absurd y c⟩
    rcases w with w | w
    · rw [w] at y
      exact absurd y b0
    · rw [w] at y
      exact absurd y b1
/-- the second final's sides are known just if side 1 won the first one -/
theorem f_s3 (h : fin z x n rl B ps) (q : B.2.1 (tF z - 1) ≠ 0) : B.2.1 (tF z - 2) ≠ 0 ∧ B.2.2 (tF z - 2) = 1 := by
  obtain ⟨f1, f2, f3, f4⟩ := cfg_F h.1
  obtain ⟨b0, -, -, -⟩ := h.2.2.2.1.2.2.2.1 (tF z - 1) (by omega) q
  refine Decidable.byContradiction (fun y => b0 ?_)
  rw [show 2 * (tF z - 1) = 2 * tF z - 2 by omega]
  exact (h.2.2.2.1.2.2.1.2 y).1
theorem f_ch6 (h : fin z x n rl B ps) : bch (tF z) B = -6 ↔ B.2.1 (tF z - 1) = 0 ∧ B.2.2 (tF z - 2) ≠ 0 := by
  obtain ⟨f1, f2, f3, f4⟩ := cfg_F h.1
  unfold bch
  by_cases c : B.2.1 (tF z - 1) = 0
  · rw [if_pos ((f_bw6 h (by omega)).mpr c)]
    by_cases c2 : B.2.2 (tF z - 2) = 0
    · rw [if_pos c2]
      refine ⟨fun y => ?_, fun y => absurd c2 y.2⟩
      have := (f_bw6 h (by omega)).mp y
      have := h.2.2.2.1.2.2.2.2.2 (tF z - 2) (by omega) this
      omega
    · rw [if_neg c2]
      exact ⟨fun _ => ⟨c, c2⟩, fun _ => rfl⟩
  · have nb : ¬ bw B (tF z - 1) = -6 := fun y => c ((f_bw6 h (by omega)).mp y)
    rw [if_neg nb]
    exact ⟨fun y => absurd y nb, fun y => absurd y.1 c⟩
/-- with the first final decided, all matches before it are -/
theorem f_dec (h : fin z x n rl B ps) (q : B.2.1 (tF z - 2) ≠ 0) : ∀ m, m < tF z - 1 → B.2.1 m ≠ 0 := by
  obtain ⟨f1, f2, f3, f4⟩ := cfg_F h.1
  have d : ∀ d m : Nat, m + d = tF z - 2 → B.2.1 m ≠ 0 := by
    intro d
    induction d using Nat.strongRecOn with
    | _ d ih =>
      intro m hm
      by_cases e : m = tF z - 2
      · rw [e]; exact q
      · have w := tb_win h.1 m (by omega)
        have g := ih (tF z - 2 - (tWS z m).toNat / 2) (by omega) ((tWS z m).toNat / 2) (by omega)
        obtain ⟨b0, b1, -, -⟩ := h.2.2.2.1.2.2.2.1 _ (show (tWS z m).toNat / 2 < tF z by omega) g
        refine fun y => ?_
        have g2 := ((h.2.2.2.1.2.1 m (by omega)).1 y).1
        by_cases e2 : (tWS z m).toNat % 2 = 0
        · rw [show 2 * ((tWS z m).toNat / 2) = (tWS z m).toNat by omega] at b0
          exact b0 g2
        · rw [show 2 * ((tWS z m).toNat / 2) + 1 = (tWS z m).toNat by omega] at b1
          exact b1 g2
  exact fun m hm => d (tF z - 2 - m) m (by omega)
theorem f_all (h : fin z x n rl B ps) (q : bch (tF z) B ≠ -6) : ∀ p, p < n → 64 ≤ ps p := fun p hp => by
  obtain ⟨f1, f2, f3, f4⟩ := cfg_F h.1
  refine Decidable.byContradiction (fun y => ?_)
  obtain ⟨g1, g2, g3⟩ := f_pend h hp (by omega)
  have nq : ¬ (B.2.1 (tF z - 1) = 0 ∧ B.2.2 (tF z - 2) ≠ 0) := fun y => q ((f_ch6 h).mpr y)
  have d : B.2.1 (tF z - 2) ≠ 0 := by
    by_cases c : B.2.1 (tF z - 1) = 0
    · exact fun y => nq ⟨c, by rw [h.2.2.2.1.2.2.2.2.2 (tF z - 2) (by omega) y]; decide⟩
    · exact (f_s3 h c).1
  have e : ps p / 2 = tF z - 1 := by
    by_cases e : ps p / 2 = tF z - 1
    · exact e
    · exact absurd g3 (f_dec h d _ (by omega))
  rw [e] at g3
  have w : B.2.2 (tF z - 2) = 0 := Decidable.byContradiction (fun y => nq ⟨g3, y⟩)
  have s3 := h.2.2.2.1.2.2.1.2 (fun y => by omega)
  by_cases e2 : ps p = 2 * tF z - 2
  · rw [e2, s3.1] at g2
    omega
  · rw [show ps p = 2 * tF z - 1 by omega, s3.2] at g2
    omega
theorem f_openp (h : fin z x n rl B ps) {m : Nat} (hm : m < tF z) (q : bplay n B m = true) : ∃ a b : Nat, a < n ∧ b < n ∧ B.1 (2 * m) = (a : Int) ∧ B.1 (2 * m + 1) = (b : Int) ∧ ps a = 2 * m ∧ ps b = 2 * m + 1 := by
  obtain ⟨a0, a1, a2⟩ := bplay_iff.mp q
  refine ⟨(B.1 (2 * m)).toNat, (B.1 (2 * m + 1)).toNat, by omega, by omega, by omega, by omega, ?_, ?_⟩
  · exact (h.2.2.2.2.2.1 (2 * m) _ (by omega) (by omega) (by omega)).1 (by rw [show 2 * m / 2 = m by omega]; exact a0)
  · exact (h.2.2.2.2.2.1 (2 * m + 1) _ (by omega) (by omega) (by omega)).1 (by rw [show (2 * m + 1) / 2 = m by omega]; exact a0)
theorem f_nopen (h : fin z x n rl B ps) {m : Nat} (hm : m < tF z) (q : bplay n B m = true) : bch (tF z) B = -6 := Decidable.byContradiction (fun y => by
  obtain ⟨f1, f2, f3, f4⟩ := cfg_F h.1
  obtain ⟨a, b, ha, -, -, -, e, -⟩ := f_openp h hm q
  have := f_all h y a ha
  omega)
theorem least {p : Nat → Prop} {k : Nat} (h : p k) : ∃ m, m ≤ k ∧ p m ∧ ∀ j, j < m → ¬ p j := by
  induction k using Nat.strongRecOn with
  | _ k ih =>
    by_cases c : ∃ j, j < k ∧ p j
    · obtain ⟨j, j1, j2⟩ := c
      obtain ⟨m, m1, m2, m3⟩ := ih j j1 j2
      exact ⟨m, by omega, m2, m3⟩
    · exact ⟨k, Nat.le_refl _, h, fun j j1 j2 => c ⟨j, j1, j2⟩⟩
theorem f_open (h : fin z x n rl B ps) (q : bch (tF z) B = -6) : ∃ m, m < tF z ∧ bplay n B m = true := by
  obtain ⟨f1, f2, f3, f4⟩ := cfg_F h.1
  obtain ⟨c1, c2⟩ := (f_ch6 h).mp q
  by_cases c : B.2.1 (tF z - 2) = 0
  · obtain ⟨m, m1, m2, m3⟩ := least (p := fun m => B.2.1 m = 0) c
    refine ⟨m, by omega, (f_mopen h (by omega)).mp ⟨m2, ?_⟩⟩
    have S : ∀ i : Nat, i = 0 ∨ i = 1 → B.1 (2 * m + i) ≠ -6 := fun i hi => by
      by_cases e : 2 * m + i < z
      · rw [h.2.2.2.1.1 _ e]
        have t := (tb_seed h.1 _ e).1
        unfold tini
        by_cases e2 : tSD z (2 * m + i) < (n : Int)
        · rw [if_pos e2]; omega
        · rw [if_neg e2]; decide
      · obtain ⟨k, hk, hks, hq⟩ := tb_src h.1 (2 * m + i) (by omega) (by omega)
        have hd := m3 k (by omega)
        obtain ⟨b0, b1, -, -⟩ := h.2.2.2.1.2.2.2.1 k (by omega) hd
        have w := f_won h (show k < tF z by omega) hd
        have g := (h.2.2.2.1.2.1 k hk).2 hd
        have E : ∀ j : Nat, j = 0 ∨ j = 1 → B.1 (2 * k + j) ≠ -6 := fun j hj => by
          rcases hj with rfl | rfl
          · exact b0
          · exact b1
        rcases hq with hq | hq
        · have g := g.1
          rw [hq, Int.toNat_natCast] at g
          rw [g]
          exact E _ (by omega)
        · have g := g.2 (by omega)
          rw [hq, Int.toNat_natCast] at g
          rw [g]
          exact E _ (by omega)
    exact ⟨S 0 (Or.inl rfl), S 1 (Or.inr rfl)⟩
  · have w := (f_won h (show tF z - 2 < tF z by omega) c).resolve_left c2
    obtain ⟨b0, b1, -, -⟩ := h.2.2.2.1.2.2.2.1 _ (show tF z - 2 < tF z by omega) c
    have s3 := h.2.2.2.1.2.2.1.1 ⟨c, w⟩
    refine ⟨tF z - 1, by omega, (f_mopen h (by omega)).mp ⟨c1, ?_, ?_⟩⟩
    · rw [show 2 * (tF z - 1) = 2 * tF z - 2 by omega, s3.1, show 2 * tF z - 4 = 2 * (tF z - 2) by omega]
      exact b0
    · rw [show 2 * (tF z - 1) + 1 = 2 * tF z - 1 by omega, s3.2, show 2 * tF z - 3 = 2 * (tF z - 2) + 1 by omega]
      exact b1
/-- someone's next match is the second final: so is everyone's -/
theorem f_last (h : fin z x n rl B ps) {p q : Nat} (hp : p < n) (hq : q < n) (p1 : ps p < 64) (p2 : ps p / 2 = tF z - 1) (q1 : ps q < 64) : ps q / 2 = tF z - 1 := by
  obtain ⟨f1, f2, f3, f4⟩ := cfg_F h.1
  obtain ⟨a1, a2, a3⟩ := f_pend h hp p1
  obtain ⟨b1, b2, b3⟩ := f_pend h hq q1
  have d : B.2.1 (tF z - 2) ≠ 0 := fun y => by
    have s3 := h.2.2.2.1.2.2.1.2 (fun w => w.1 y)
    by_cases e2 : ps p = 2 * tF z - 2
    · rw [e2, s3.1] at a2
      omega
    · rw [show ps p = 2 * tF z - 1 by omega, s3.2] at a2
      omega
  by_cases e : ps q / 2 = tF z - 1
  · exact e
  · exact absurd b3 (f_dec h d _ (by omega))
/-- losses -/
theorem f_los (h : fin z x n rl B ps) {p : Nat} (hp : p < n) : (ps p < 64 → blos B (tF z) p = 0 ∨ blos B (tF z) p = 1) ∧ (64 ≤ ps p → (ps p - 64) / 2 < tF z - 2 → blos B (tF z) p = 2) := by
  have c := h.2.2.2.2.2.2.1 p hp
  rw [c]
  refine ⟨fun q => ?_, fun q q2 => ?_⟩
  · rw [plw_lo q]
    unfold tlw
    by_cases c1 : ps p + 4 = 2 * tF z
    · rw [if_pos c1]; exact Or.inl rfl
    · rw [if_neg c1]
      by_cases c2 : ps p + 3 = 2 * tF z
      · rw [if_pos c2]; exact Or.inr rfl
      · rw [if_neg c2]
        by_cases c3 : tPT z (ps p / 2) = 0
        · rw [if_pos c3]; exact Or.inl rfl
        · rw [if_neg c3]; exact Or.inr rfl
  · obtain ⟨s, g1, g2, g3, g4, g5⟩ := f_term h hp q
    have g5 : tPT z (s / 2) = 1 ∧ B.2.2 (s / 2) ≠ ((s % 2 : Nat) : Int) := by
      rcases g5 with g | g | g
      · exact g.2
      · omega
      · omega
    have lw := tb_lw h.1 (s / 2) (by omega)
    have e : tlw z s = 1 := by
      by_cases e2 : s % 2 = 0
      · have := lw.1
        rw [show 2 * (s / 2) = s by omega] at this
        omega
      · have := lw.2.1
        rw [show 2 * (s / 2) + 1 = s by omega] at this
        omega
    rw [g2, plw_hi, e, if_neg g5.2]
    rfl
/-- who is the champion, and who the second one -/
theorem f_champ (h : fin z x n rl B ps) {p : Nat} (hp : p < n) : (bch (tF z) B = (p : Int) ↔ 64 + (2 * tF z - 4) ≤ ps p ∧ B.2.2 ((ps p - 64) / 2) = ((ps p % 2 : Nat) : Int)) ∧ (bsec (tF z) B = (p : Int) ↔ 64 + (2 * tF z - 4) ≤ ps p ∧ B.2.2 ((ps p - 64) / 2) ≠ ((ps p % 2 : Nat) : Int)) := by
  obtain ⟨f1, f2, f3, f4⟩ := cfg_F h.1
  -- where the last match is decided
  have key : ∀ m, (m = tF z - 2 ∨ m = tF z - 1) → B.2.1 m ≠ 0 → (m = tF z - 2 → B.2.2 m = 0) → ((bw B m = (p : Int) ↔ ps p = 64 + (2 * m + (B.2.2 m).toNat)) ∧ (bl B m = (p : Int) ↔ ps p = 64 + (2 * m + (1 - B.2.2 m).toNat))) := fun m hm hd hw => by
    have w := f_won h (show m < tF z by omega) hd
    have T : ∀ i : Nat, i = 0 ∨ i = 1 → (B.1 (2 * m + i) = (p : Int) ↔ ps p = 64 + (2 * m + i)) := fun i hi => by
      have e : (2 * m + i) / 2 = m := by omega
      constructor
      · intro y
        refine (h.2.2.2.2.2.1 (2 * m + i) p (by omega) hp y).2 (by rw [e]; exact hd) ?_
        rcases hm with hm | hm
        · exact Or.inr (Or.inl ⟨by omega, by rw [← hm]; exact hw hm⟩)
        · exact Or.inr (Or.inr (by omega))
      · intro y
        obtain ⟨s, g1, g2, g3, -⟩ := f_term h hp (by omega)
        rw [show 2 * m + i = s by omega]
        exact g3
    unfold bw bl
    rw [if_neg hd, if_neg hd]
    exact ⟨T _ (by omega), T _ (by omega)⟩
  have lst : 64 + (2 * tF z - 4) ≤ ps p → (∃ i : Nat, (i = 0 ∨ i = 1) ∧ ps p = 64 + (2 * (tF z - 1) + i) ∧ B.2.1 (tF z - 1) ≠ 0) ∨ (∃ i : Nat, (i = 0 ∨ i = 1) ∧ ps p = 64 + (2 * (tF z - 2) + i) ∧ B.2.1 (tF z - 2) ≠ 0 ∧ B.2.2 (tF z - 2) = 0) := fun y => by
    obtain ⟨s, g1, g2, g3, g4, g5⟩ := f_term h hp (by omega)
    by_cases e : s / 2 = tF z - 1
    · rw [e] at g4
      exact Or.inl ⟨s % 2, by omega, by omega, g4⟩
    · have e2 : s / 2 = tF z - 2 := by omega
      rw [e2] at g4
      refine Or.inr ⟨s % 2, by omega, by omega, g4, ?_⟩
      rcases g5 with g | g | g
      · omega
      · exact g.2
      · omega
  by_cases c : B.2.1 (tF z - 1) = 0
  · have b6 := (f_bw6 h (show tF z - 1 < tF z by omega)).mpr c
    by_cases c2 : B.2.2 (tF z - 2) = 0
    · have hd : B.2.1 (tF z - 2) ≠ 0 := fun y => by
        have := h.2.2.2.1.2.2.2.2.2 (tF z - 2) (by omega) y
        omega
      have ch : bch (tF z) B = bw B (tF z - 2) := by
        unfold bch
        rw [if_pos b6, if_pos c2]
      have ch6 : ¬ bch (tF z) B = -6 := fun y => ((f_ch6 h).mp y).2 c2
      have se : bsec (tF z) B = bl B (tF z - 2) := by
        unfold bsec
        rw [if_neg ch6, if_neg (fun y => y c)]
      rw [ch, se]
      obtain ⟨k1, k2⟩ := key (tF z - 2) (Or.inl rfl) hd (fun _ => c2)
      rw [k1, k2, c2]
      refine ⟨⟨fun y => ?_, fun y => ?_⟩, ⟨fun y => ?_, fun y => ?_⟩⟩
      · have e : (ps p - 64) / 2 = tF z - 2 := by omega
        rw [e, c2]
        omega
      · rcases lst y.1 with ⟨i, i1, i2, i3⟩ | ⟨i, i1, i2, i3, i4⟩
        · exact absurd c i3
        · have y2 := y.2
          rw [show (ps p - 64) / 2 = tF z - 2 by omega, c2] at y2
          omega
      · have e : (ps p - 64) / 2 = tF z - 2 := by omega
        rw [e, c2]
        omega
      · rcases lst y.1 with ⟨i, i1, i2, i3⟩ | ⟨i, i1, i2, i3, i4⟩
        · exact absurd c i3
        · have y2 := y.2
          rw [show (ps p - 64) / 2 = tF z - 2 by omega, c2] at y2
          omega
    · have ch : bch (tF z) B = -6 := (f_ch6 h).mpr ⟨c, c2⟩
      have se : bsec (tF z) B = -6 := by
        unfold bsec
        rw [if_pos ch]
      rw [ch, se]
      refine ⟨⟨fun y => by omega, fun y => ?_⟩, ⟨fun y => by omega, fun y => ?_⟩⟩
      · rcases lst y.1 with ⟨i, i1, i2, i3⟩ | ⟨i, i1, i2, i3, i4⟩
        · exact absurd c i3
        · exact absurd i4 c2
      · rcases lst y.1 with ⟨i, i1, i2, i3⟩ | ⟨i, i1, i2, i3, i4⟩
        · exact absurd c i3
        · exact absurd i4 c2
  · have b6 : ¬ bw B (tF z - 1) = -6 := fun y => c ((f_bw6 h (show tF z - 1 < tF z by omega)).mp y)
    have ch : bch (tF z) B = bw B (tF z - 1) := by
      unfold bch
      rw [if_neg b6]
    have se : bsec (tF z) B = bl B (tF z - 1) := by
      unfold bsec
      rw [if_neg (by rw [ch]; exact b6), if_pos c]
    have w1 := (f_s3 h c).2
    have w := f_won h (show tF z - 1 < tF z by omega) c
    rw [ch, se]
    obtain ⟨k1, k2⟩ := key (tF z - 1) (Or.inr rfl) c (fun y => by omega)
    rw [k1, k2]
    refine ⟨⟨fun y => ?_, fun y => ?_⟩, ⟨fun y => ?_, fun y => ?_⟩⟩
    · rw [show (ps p - 64) / 2 = tF z - 1 by omega]
      omega
    · rcases lst y.1 with ⟨i, i1, i2, i3⟩ | ⟨i, i1, i2, i3, i4⟩
      · have y2 := y.2
        rw [show (ps p - 64) / 2 = tF z - 1 by omega] at y2
        omega
      · omega
    · rw [show (ps p - 64) / 2 = tF z - 1 by omega]
      omega
    · rcases lst y.1 with ⟨i, i1, i2, i3⟩ | ⟨i, i1, i2, i3, i4⟩
      · have y2 := y.2
        rw [show (ps p - 64) / 2 = tF z - 1 by omega] at y2
        omega
      · omega
end FIN
