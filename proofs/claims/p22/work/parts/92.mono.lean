/-! what a withdrawal changes, and what it does not -/
def slk (g : Nat → Int) (u v : Int) : Prop := v = u ∨ (gon g u ∧ gon g v)
theorem gon16 {g : Nat → Int} {u : Int} (h : gon g u) : 0 ≤ u ∧ u < 16 := ⟨h.1, h.2.1⟩
section MON
variable {z x n : Nat} {R g g' : Nat → Int} {B B' : BB} {ps ps' : Nat → Nat}
theorem slk_16 {u v : Int} (h : slk g u v) : u = 16 ↔ v = 16 := by
  rcases h with h | ⟨h1, h2⟩
  · rw [h]
  · have := gon16 h1
    have := gon16 h2
    omega
theorem slk_g {u v : Int} (h : slk g u v) (q : gon g u) : gon g v := by
  rcases h with h | ⟨h1, h2⟩
  · rw [h]; exact q
  · exact h2
theorem slk_g' {u v : Int} (h : slk g u v) (q : gon g v) : gon g u := by
  rcases h with h | ⟨h1, h2⟩
  · rw [h] at q; exact q
  · exact h1
/-- who wins, where byes do not decide and there is no result -/
theorem rl_case (R g : Nat → Int) (m : Nat) (a b : Int) : ((a = 16 ∨ b = 16) ∧ rlive R g m a b = (if b = 16 then 0 else 1, 1)) ∨ (¬ (a = 16 ∨ b = 16) ∧ R m ≠ -6 ∧ rlive R g m a b = (R m, 3)) ∨ (¬ (a = 16 ∨ b = 16) ∧ R m = -6 ∧ gon g b ∧ rlive R g m a b = (0, 2)) ∨ (¬ (a = 16 ∨ b = 16) ∧ R m = -6 ∧ ¬ gon g b ∧ gon g a ∧ rlive R g m a b = (1, 2)) ∨ (¬ (a = 16 ∨ b = 16) ∧ R m = -6 ∧ ¬ gon g b ∧ ¬ gon g a ∧ rlive R g m a b = (0, 0)) := by
  unfold rlive
  by_cases c : a = 16 ∨ b = 16
  · rw [if_pos c]; exact Or.inl ⟨c, rfl⟩
  · rw [if_neg c]
    right
    by_cases c2 : R m = -6
    · rw [if_neg (fun y => y c2)]
      right
      by_cases c3 : gon g b
      · rw [if_pos (Or.inr c3), if_pos c3]; exact Or.inl ⟨c, c2, c3, rfl⟩
      · right
        by_cases c4 : gon g a
        · rw [if_pos (Or.inl c4), if_neg c3]; exact Or.inl ⟨c, c2, c3, c4, rfl⟩
        · rw [if_neg (fun y => y.elim c4 c3)]; exact Or.inr ⟨c, c2, c3, c4, rfl⟩
    · rw [if_pos c2]; exact Or.inl ⟨c, c2, rfl⟩
theorem gS_mono (h : fin z x n (rlive R g) B ps) (h' : fin z x n (rlive R g') B' ps') (hg : ∀ p, gon g p → gon g' p) (hR : B.2.1 (tF z - 2) ≠ 0 → B.2.2 (tF z - 2) = 1 → R (tF z - 2) ≠ -6) : ∀ m, m < tF z → (∀ i : Nat, i = 0 ∨ i = 1 → B.1 (2 * m + i) ≠ -6 → slk g' (B.1 (2 * m + i)) (B'.1 (2 * m + i))) ∧ (B.2.1 m ≠ 0 → B'.2.1 m ≠ 0 ∧ slk g' (bw B m) (bw B' m) ∧ slk g' (bl B m) (bl B' m)) := by
  obtain ⟨f1, f2, f3, f4⟩ := cfg_F h.1
  have hn16 : n ≤ 16 := by have := h.2.2.1; omega
  intro m
  induction m using Nat.strongRecOn with
  | _ m ih =>
    intro hm
    have S : ∀ i : Nat, i = 0 ∨ i = 1 → B.1 (2 * m + i) ≠ -6 → slk g' (B.1 (2 * m + i)) (B'.1 (2 * m + i)) := fun i hi hk => by
      by_cases c : 2 * m + i < z
      · left
        rw [h.2.2.2.1.1 _ c, h'.2.2.2.1.1 _ c]
      · by_cases c2 : 2 * m + i < 2 * tF z - 2
        · obtain ⟨k, hk1, hks, hq⟩ := tb_src h.1 (2 * m + i) c2 (by omega)
          have a := h.2.2.2.1.2.1 k hk1
          have b := h'.2.2.2.1.2.1 k hk1
          have nz : B.2.1 k ≠ 0 := fun y => by
            rcases hq with hq | hq
            · have := (a.1 y).1
              rw [hq, Int.toNat_natCast] at this
              exact hk this
            · have := (a.1 y).2 (by omega)
              rw [hq, Int.toNat_natCast] at this
              exact hk this
          obtain ⟨nz', sw, sl⟩ := (ih k (by omega) (by omega)).2 nz
          have a := a.2 nz
          have b := b.2 nz'
          unfold bw at sw
          unfold bl at sl
          rw [if_neg nz, if_neg nz'] at sw sl
          rcases hq with hq | hq
          · have a := a.1
            have b := b.1
            rw [hq, Int.toNat_natCast] at a b
            rw [a, b]
            exact sw
          · have a := a.2 (by omega)
            have b := b.2 (by omega)
            rw [hq, Int.toNat_natCast] at a b
            rw [a, b]
            exact sl
        · obtain ⟨E, e2⟩ := ih (tF z - 2) (by omega) (by omega)
          have hi2 : 2 * m + i = 2 * tF z - 2 ∨ 2 * m + i = 2 * tF z - 1 := by omega
          by_cases c3 : B.2.1 (tF z - 2) ≠ 0 ∧ B.2.2 (tF z - 2) = 1
          · obtain ⟨nz', -⟩ := e2 c3.1
            obtain ⟨s0, s1⟩ := t_sides h (show tF z - 2 < tF z by omega) c3.1
            have E0 := E 0 (Or.inl rfl) s0
            have E1 := E 1 (Or.inr rfl) s1
            have E0 : slk g' (B.1 (2 * (tF z - 2))) (B'.1 (2 * (tF z - 2))) := E0
            have r := hR c3.1 c3.2
            obtain ⟨-, -, d2, -⟩ := h.2.2.2.1.2.2.2.1 (tF z - 2) (by omega) c3.1
            obtain ⟨-, -, d2', -⟩ := h'.2.2.2.1.2.2.2.1 (tF z - 2) (by omega) nz'
            have k0 := slk_16 E0
            have k1 := slk_16 E1
            have w' : B'.2.2 (tF z - 2) = 1 := by
              rcases rl_case R g (tF z - 2) (B.1 (2 * (tF z - 2))) (B.1 (2 * (tF z - 2) + 1)) with ⟨q, e⟩ | ⟨q, -, e⟩ | ⟨-, q, -⟩ | ⟨-, q, -⟩ | ⟨-, q, -⟩
              · rw [e] at d2
                have d2 : B.2.2 (tF z - 2) = if B.1 (2 * (tF z - 2) + 1) = 16 then 0 else 1 := d2
                have n1 : ¬ B.1 (2 * (tF z - 2) + 1) = 16 := fun y => by
                  rw [if_pos y] at d2
                  omega
                have := (h'.2.1 (tF z - 2) (B'.1 (2 * (tF z - 2))) (B'.1 (2 * (tF z - 2) + 1)) (by omega)).2.1 (Or.inl (k0.mp (q.resolve_right n1)))
                rw [this] at d2'
                have d2' : B'.2.2 (tF z - 2) = if B'.1 (2 * (tF z - 2) + 1) = 16 then 0 else 1 := d2'
                rw [d2', if_neg (fun y => n1 (k1.mpr y))]
              · rw [e] at d2
                have d2 : B.2.2 (tF z - 2) = R (tF z - 2) := d2
                rcases rl_case R g' (tF z - 2) (B'.1 (2 * (tF z - 2))) (B'.1 (2 * (tF z - 2) + 1)) with ⟨q2, -⟩ | ⟨-, -, e2⟩ | ⟨-, q2, -⟩ | ⟨-, q2, -⟩ | ⟨-, q2, -⟩
                · exact absurd (q2.elim (fun y => Or.inl (k0.mpr y)) (fun y => Or.inr (k1.mpr y))) q
                · rw [e2] at d2'
                  have d2' : B'.2.2 (tF z - 2) = R (tF z - 2) := d2'
                  omega
                · exact absurd q2 r
                · exact absurd q2 r
                · exact absurd q2 r
              · exact absurd q r
              · exact absurd q r
              · exact absurd q r
            have a := h.2.2.2.1.2.2.1.1 c3
            have b := h'.2.2.2.1.2.2.1.1 ⟨nz', w'⟩
            rw [show 2 * (tF z - 2) = 2 * tF z - 4 by omega] at E0
            rw [show 2 * (tF z - 2) + 1 = 2 * tF z - 3 by omega] at E1
            rcases hi2 with hi2 | hi2
            · rw [hi2, a.1, b.1]; exact E0
            · rw [hi2, a.2, b.2]; exact E1
          · have a := h.2.2.2.1.2.2.1.2 c3
            rcases hi2 with hi2 | hi2
            · rw [hi2] at hk; exact absurd a.1 hk
            · rw [hi2] at hk; exact absurd a.2 hk
    refine ⟨S, fun nz => ?_⟩
    obtain ⟨b0, b1⟩ := t_sides h hm nz
    have s0 : slk g' (B.1 (2 * m)) (B'.1 (2 * m)) := S 0 (Or.inl rfl) b0
    have s1 : slk g' (B.1 (2 * m + 1)) (B'.1 (2 * m + 1)) := S 1 (Or.inr rfl) b1
    have k0 := slk_16 s0
    have k1 := slk_16 s1
    obtain ⟨-, -, d2, d3⟩ := h.2.2.2.1.2.2.2.1 m hm nz
    have c0 : B'.1 (2 * m) ≠ -6 := by
      rcases s0 with y | ⟨-, y⟩
      · rw [y]; exact b0
      · have := gon16 y; omega
    have c1 : B'.1 (2 * m + 1) ≠ -6 := by
      rcases s1 with y | ⟨-, y⟩
      · rw [y]; exact b1
      · have := gon16 y; omega
    have nz' : B'.2.1 m ≠ 0 := fun y => by
      obtain ⟨r1, r2, r3⟩ := rl0 (h'.2.2.2.1.2.2.2.2.1 m hm c0 c1 y)
      rcases rl_case R g m (B.1 (2 * m)) (B.1 (2 * m + 1)) with ⟨q, -⟩ | ⟨-, q, -⟩ | ⟨-, -, q, -⟩ | ⟨-, -, -, q, -⟩ | ⟨-, -, -, -, e⟩
      · exact r2 (q.elim (fun y => Or.inl (k0.mp y)) (fun y => Or.inr (k1.mp y)))
      · exact q r1
      · exact r3 (Or.inr (slk_g s1 (hg _ q)))
      · exact r3 (Or.inl (slk_g s0 (hg _ q)))
      · rw [e] at d3
        exact nz d3
    obtain ⟨-, -, d2', d3'⟩ := h'.2.2.2.1.2.2.2.1 m hm nz'
    have wl := t_wl h hm nz
    have wl' := t_wl h' hm nz'
    -- the same side has won, or both have withdrawn
    have key : B'.2.2 m = B.2.2 m ∨ (gon g' (B.1 (2 * m)) ∧ gon g' (B.1 (2 * m + 1)) ∧ gon g' (B'.1 (2 * m)) ∧ gon g' (B'.1 (2 * m + 1))) := by
      rcases rl_case R g m (B.1 (2 * m)) (B.1 (2 * m + 1)) with ⟨q, e⟩ | ⟨q, q2, e⟩ | ⟨q, q2, q3, e⟩ | ⟨q, q2, q3, q4, e⟩ | ⟨-, -, -, -, e⟩
      · left
        have := (h'.2.1 m (B'.1 (2 * m)) (B'.1 (2 * m + 1)) (by omega)).2.1 (q.elim (fun y => Or.inl (k0.mp y)) (fun y => Or.inr (k1.mp y)))
        rw [d2', d2, this, e]
        show (if B'.1 (2 * m + 1) = 16 then (0 : Int) else 1) = if B.1 (2 * m + 1) = 16 then 0 else 1
        by_cases y : B.1 (2 * m + 1) = 16
        · rw [if_pos y, if_pos (k1.mp y)]
        · rw [if_neg y, if_neg (fun w => y (k1.mpr w))]
      · left
        have n' : ¬ (B'.1 (2 * m) = 16 ∨ B'.1 (2 * m + 1) = 16) := fun y => q (y.elim (fun w => Or.inl (k0.mpr w)) (fun w => Or.inr (k1.mpr w)))
        rcases rl_case R g' m (B'.1 (2 * m)) (B'.1 (2 * m + 1)) with ⟨y, -⟩ | ⟨-, -, e2⟩ | ⟨-, y, -⟩ | ⟨-, y, -⟩ | ⟨-, y, -⟩
        · exact absurd y n'
        · rw [d2', d2, e, e2]
        · exact absurd y q2
        · exact absurd y q2
        · exact absurd y q2
      · have n' : ¬ (B'.1 (2 * m) = 16 ∨ B'.1 (2 * m + 1) = 16) := fun y => q (y.elim (fun w => Or.inl (k0.mpr w)) (fun w => Or.inr (k1.mpr w)))
        have gb := slk_g s1 (hg _ q3)
        left
        rcases rl_case R g' m (B'.1 (2 * m)) (B'.1 (2 * m + 1)) with ⟨y, -⟩ | ⟨-, y, -⟩ | ⟨-, -, -, e2⟩ | ⟨-, -, y, -⟩ | ⟨-, -, y, -⟩
        · exact absurd y n'
        · exact absurd q2 y
        · rw [d2', d2, e, e2]
        · exact absurd gb y
        · exact absurd gb y
      · have n' : ¬ (B'.1 (2 * m) = 16 ∨ B'.1 (2 * m + 1) = 16) := fun y => q (y.elim (fun w => Or.inl (k0.mpr w)) (fun w => Or.inr (k1.mpr w)))
        have ga := slk_g s0 (hg _ q4)
        rcases rl_case R g' m (B'.1 (2 * m)) (B'.1 (2 * m + 1)) with ⟨y, -⟩ | ⟨-, y, -⟩ | ⟨-, -, y, -⟩ | ⟨-, -, -, -, e2⟩ | ⟨-, -, -, y, -⟩
        · exact absurd y n'
        · exact absurd q2 y
        · right
          exact ⟨hg _ q4, slk_g' s1 y, ga, y⟩
        · left
          rw [d2', d2, e, e2]
        · exact absurd ga y
      · rw [e] at d3
        exact absurd d3 nz
    refine ⟨nz', ?_⟩
    rcases wl with ⟨w, w1, w2⟩ | ⟨w, w1, w2⟩
    · rcases wl' with ⟨v, v1, v2⟩ | ⟨v, v1, v2⟩
      · rw [w1, w2, v1, v2]; exact ⟨s0, s1⟩
      · rcases key with y | ⟨y1, y2, y3, y4⟩
        · omega
        · rw [w1, w2, v1, v2]; exact ⟨Or.inr ⟨y1, y4⟩, Or.inr ⟨y2, y3⟩⟩
    · rcases wl' with ⟨v, v1, v2⟩ | ⟨v, v1, v2⟩
      · rcases key with y | ⟨y1, y2, y3, y4⟩
        · omega
        · rw [w1, w2, v1, v2]; exact ⟨Or.inr ⟨y2, y3⟩, Or.inr ⟨y1, y4⟩⟩
      · rw [w1, w2, v1, v2]; exact ⟨s1, s0⟩
/-- without a champion, the first final was not lost by side 0 through a walkover -/
theorem fin_R (h : fin z x n (rlive R g) B ps) (q : bch (tF z) B = -6) : B.2.1 (tF z - 2) ≠ 0 → B.2.2 (tF z - 2) = 1 → R (tF z - 2) ≠ -6 := by
  obtain ⟨f1, f2, f3, f4⟩ := cfg_F h.1
  intro nz w r
  have m1 : tF z - 2 < tF z := by omega
  obtain ⟨k0, k1⟩ := t_sides h m1 nz
  obtain ⟨-, -, d2, -⟩ := h.2.2.2.1.2.2.2.1 (tF z - 2) m1 nz
  have nb := f_nb h
  have g3 := h.2.2.2.1.2.2.1.1 ⟨nz, w⟩
  have e0 : 2 * (tF z - 2) = 2 * tF z - 4 := by omega
  have e1 : 2 * (tF z - 2) + 1 = 2 * tF z - 3 := by omega
  have z0 := ((f_ch6 h).mp q).1
  have ru := h.2.2.2.1.2.2.2.2.1 (tF z - 1) (by omega) (by rw [show 2 * (tF z - 1) = 2 * tF z - 2 by omega, g3.1, ← e0]; exact k0) (by rw [show 2 * (tF z - 1) + 1 = 2 * tF z - 1 by omega, g3.2, ← e1]; exact k1) z0
  rw [show 2 * (tF z - 1) = 2 * tF z - 2 by omega, show 2 * tF z - 2 + 1 = 2 * tF z - 1 by omega, g3.1, g3.2] at ru
  obtain ⟨-, u2, u3⟩ := rl0 ru
  rw [e1, e0] at d2
  rcases rl_case R g (tF z - 2) (B.1 (2 * tF z - 4)) (B.1 (2 * tF z - 3)) with ⟨y, -⟩ | ⟨-, y, -⟩ | ⟨-, -, y, -⟩ | ⟨-, -, -, y, -⟩ | ⟨-, -, -, -, e⟩
  · exact u2 y
  · exact y r
  · exact u3 (Or.inr y)
  · exact u3 (Or.inl y)
  · rw [e] at d2
    have d2 : B.2.2 (tF z - 2) = 0 := d2
    omega
end MON
/-! counts -/
theorem cnt_mono {p q : Nat → Bool} : ∀ N : Nat, (∀ m, m < N → p m = true → q m = true) → cnt p N ≤ cnt q N := by
  intro N
  induction N with
  | zero => intro _; exact Int.le_refl _
  | succ N ih =>
    intro h
    have i := ih (fun m hm => h m (by omega))
    rw [cnt_step, cnt_step]
    by_cases c : p N = true
    · rw [if_pos c, if_pos (h N (by omega) c)]; omega
    · rw [if_neg c]
      by_cases d : q N = true
      · rw [if_pos d]; omega
      · rw [if_neg d]; omega
theorem cnt_lt {p : Nat → Bool} {a : Nat} (h : p a = true) : ∀ b, a < b → cnt p a + 1 ≤ cnt p b := by
  intro b
  induction b with
  | zero => intro h; omega
  | succ b ih =>
    intro hb
    rw [cnt_step]
    by_cases e : a = b
    · subst e
      rw [if_pos h]
      omega
    · have := ih (by omega)
      by_cases c : p b = true
      · rw [if_pos c]; omega
      · rw [if_neg c]; omega
theorem cnt_at {p : Nat → Bool} {i : Int} (h0 : 0 ≤ i) : ∀ N : Nat, i < cnt p N → ∃ m, m < N ∧ p m = true ∧ cnt p m = i := by
  intro N
  induction N with
  | zero =>
    intro h
    have : cnt p 0 = 0 := rfl
    omega
  | succ N ih =>
    intro h
    rw [cnt_step] at h
    by_cases c : i < cnt p N
    · obtain ⟨m, a, b⟩ := ih c
      exact ⟨m, by omega, b⟩
    · by_cases d : p N = true
      · rw [if_pos d] at h
        exact ⟨N, by omega, d, by omega⟩
      · rw [if_neg d] at h
        omega
theorem open_ok {p : Nat → Bool} {F : Nat} {i : Int} (h0 : 0 ≤ i) (h1 : i < cnt p F) : ∃ m, m < F ∧ p m = true ∧ ffrom (fun m => p m && decide (cnt p m = i)) F 0 = (m : Int) := by
  obtain ⟨m, a, b, c⟩ := cnt_at h0 F h1
  refine ⟨m, a, b, ff_only a (by rw [b, decide_eq_true c]; rfl) (fun k hk q => ?_)⟩
  rw [Bool.and_eq_true, decide_eq_true_eq] at q
  rcases Nat.lt_or_ge k m with e | e
  · have := cnt_lt q.1 m e
    omega
  · rcases Nat.lt_or_ge m k with e2 | e2
    · have := cnt_lt b k e2
      omega
    · omega
theorem open_no {p : Nat → Bool} {F : Nat} {i : Int} (h1 : cnt p F ≤ i) : ffrom (fun m => p m && decide (cnt p m = i)) F 0 = -6 := by
  refine ff_none (fun m hm q => ?_)
  rw [Bool.and_eq_true, decide_eq_true_eq] at q
  have := cnt_lt q.1 F hm
  omega
section CN4
variable {G : PW} {n x L : Nat}
/-- matches by how they are decided -/
theorem cnt4 (h : CI G n x L) : ccount G (tF (tz n)) n 4 + ccount G (tF (tz n)) n 5 + ccount G (tF (tz n)) n 6 = decs G := by
  obtain ⟨ps, hf⟩ := CI_fin h
  have e : ∀ k, k ≤ tF (tz n) → cnt (fun m => decide (G 17 m = 3)) k + cnt (fun m => decide (G 17 m = 2)) k + cnt (fun m => decide (G 17 m = 1)) k + cnt (fun m => decide (G 17 m = 0)) k = (k : Int) := by
    intro k
    induction k with
    | zero => intro _; rfl
    | succ k ih =>
      intro hk
      have i := ih (by omega)
      have r : G 17 k = 0 ∨ G 17 k = 1 ∨ G 17 k = 2 ∨ G 17 k = 3 := t_rng hf (show k < tF (tz n) by omega)
      rw [cnt_step, cnt_step, cnt_step, cnt_step]
      have d : ∀ v : Int, (if decide (G 17 k = v) = true then (1 : Int) else 0) = if G 17 k = v then 1 else 0 := fun v => by
        by_cases c : G 17 k = v
        · rw [if_pos c, if_pos (decide_eq_true c)]
        · rw [if_neg c, if_neg (by rw [decide_eq_true_eq]; exact c)]
      rw [d, d, d, d]
      rcases r with r | r | r | r
      · rw [if_neg (by omega), if_neg (by omega), if_neg (by omega), if_pos r]; omega
      · rw [if_neg (by omega), if_neg (by omega), if_pos r, if_neg (by omega)]; omega
      · rw [if_neg (by omega), if_pos r, if_neg (by omega), if_neg (by omega)]; omega
      · rw [if_pos r, if_neg (by omega), if_neg (by omega), if_neg (by omega)]; omega
  have e2 := e (tF (tz n)) (Nat.le_refl _)
  have hl := CI_ok h
  show cnt (fun m => decide (G 17 m = 3)) (tF (tz n)) + cnt (fun m => decide (G 17 m = 2)) (tF (tz n)) + cnt (fun m => decide (G 17 m = 1)) (tF (tz n)) = decs G
  unfold decs
  rw [hl.2.2.1, Int.toNat_natCast]
  omega
/-- a withdrawal decides no less -/
theorem wd_ge (h : CI G n x L) {p : Nat} (hp : p < n) (q : cchamp G (tF (tz n)) = -6) (hg : ¬ G 15 p = 1) : CI (acted G L (62 + (p : Int))) n x (L + 1) ∧ 0 ≤ decs (acted G L (62 + (p : Int))) - decs G := by
  have n16 := h.1.2
  obtain ⟨hc, a14, a15⟩ := CI_act (a := 62 + (p : Int)) h (by omega) (fun y => by omega) (fun _ => by rw [show (62 + (p : Int) - 62).toNat = p by omega]; exact hg)
  rw [if_neg (by omega)] at a14 a15
  rw [show (62 + (p : Int) - 62).toNat = p by omega] at a15
  refine ⟨hc, ?_⟩
  obtain ⟨ps, hf⟩ := CI_fin h
  obtain ⟨ps', hf'⟩ := CI_fin hc
  rw [a14, a15] at hf'
  have mo := gS_mono hf hf' (fun u hu => ⟨hu.1, hu.2.1, by
    unfold fup
    by_cases c : u.toNat = p
    · rw [if_pos c]
    · rw [if_neg c]; exact hu.2.2⟩) (fin_R hf q)
  have hl := CI_ok h
  have hl' := CI_ok hc
  unfold decs
  rw [hl.2.2.1, hl'.2.2.1, Int.toNat_natCast]
  have := cnt_mono (p := fun m => decide (acted G L (62 + (p : Int)) 17 m = 0)) (q := fun m => decide (G 17 m = 0)) (tF (tz n)) (fun m hm y => by
    rw [decide_eq_true_eq] at y ⊢
    exact Decidable.byContradiction (fun w => ((mo m hm).2 w).1 y))
  omega
/-- the least and the greatest number of results to come -/
theorem cres_le (h : CI G n x L) : ccount G (tF (tz n)) n 10 ≤ ccount G (tF (tz n)) n 11 ∧ ccount G (tF (tz n)) n 11 ≤ ccount G (tF (tz n)) n 10 + 1 := by
  show cres G (tF (tz n)) n 0 ≤ cres G (tF (tz n)) n 1 ∧ cres G (tF (tz n)) n 1 ≤ cres G (tF (tz n)) n 0 + 1
  unfold cres
  by_cases c : cnt (briv (G 15) (pm_rows G 3) (tF (tz n))) n < 2
  · rw [if_pos c, if_pos c]; omega
  · rw [if_neg c, if_neg c, if_neg (show ¬ (bunb (G 15) (pm_rows G 3) (tF (tz n)) n = 1 ∧ (1 : Int) = 0) from fun y => absurd y.2 (by decide))]
    by_cases d : bunb (G 15) (pm_rows G 3) (tF (tz n)) n = 1 ∧ (0 : Int) = 0
    · rw [if_pos d]; omega
    · rw [if_neg d]; omega
theorem sm_const {c : Int} : ∀ N : Nat, sm (fun _ => c) N = c * (N : Int) := by
  intro N
  induction N with
  | zero => rw [show ((0 : Nat) : Int) = 0 from rfl, Int.mul_zero]; rfl
  | succ N ih =>
    show sm (fun _ => c) N + c = _
    rw [ih, show ((N + 1 : Nat) : Int) = (N : Int) + 1 by omega, Int.mul_add, Int.mul_one]
/-- a tournament without acts -/
theorem CI_0 (h : CI G n x 0) : (∀ m, m < 31 → G 14 m = -6) ∧ (∀ p, p < 16 → G 15 p = 0) ∧ (∀ m, m < tF (tz n) → G 17 m = 0 ∨ G 17 m = 1) := by
  have r14 : ∀ m, m < 31 → G 14 m = -6 := fun m hm => h.2.2.2.2.2.2.2.1 m hm
  have r15 : ∀ p, p < 16 → G 15 p = 0 := fun p hp => h.2.2.2.2.2.2.2.2.1 p hp
  refine ⟨r14, r15, fun m hm => ?_⟩
  obtain ⟨ps, hf⟩ := CI_fin h
  obtain ⟨f1, f2, f3, f4⟩ := cfg_F hf.1
  by_cases c : G 17 m = 0
  · exact Or.inl c
  · right
    obtain ⟨-, -, -, d⟩ := hf.2.2.2.1.2.2.2.1 m hm c
    have ng : ∀ u, ¬ gon (G 15) u := fun u hu => by
      have := r15 u.toNat (by have := gon16 hu; omega)
      have := hu.2.2
      omega
    have d : G 17 m = (rlive (G 14) (G 15) m ((pm_rows G 3).1 (2 * m)) ((pm_rows G 3).1 (2 * m + 1))).2 := d
    rcases rl_case (G 14) (G 15) m ((pm_rows G 3).1 (2 * m)) ((pm_rows G 3).1 (2 * m + 1)) with ⟨-, e⟩ | ⟨-, y, -⟩ | ⟨-, -, y, -⟩ | ⟨-, -, -, y, -⟩ | ⟨-, -, -, -, e⟩
    · rw [e] at d; exact d
    · exact absurd (r14 m (by omega)) y
    · exact absurd y (ng _)
    · exact absurd y (ng _)
    · rw [e] at d; exact absurd d c
theorem cres_0 (h : CI G n x 0) : ccount G (tF (tz n)) n 10 = 2 * (n : Int) - 2 ∧ ccount G (tF (tz n)) n 11 = 2 * (n : Int) - 1 := by
  obtain ⟨r14, r15, r17⟩ := CI_0 h
  obtain ⟨ps, hf⟩ := CI_fin h
  have n2 := h.1
  have b0 : ∀ p : Nat, blos (pm_rows G 3) (tF (tz n)) p = 0 := fun p => cnt_zero _ (fun m hm => by
    refine decide_eq_false (fun y => ?_)
    have y1 : G 17 m ≠ 1 := y.1
    have e := (t_no (B := pm_rows G 3) (m := m) (show G 17 m = 0 from (r17 m hm).resolve_right y1)).2
    have := y.2
    omega)
  have np : ∀ p, p < n → ps p < 64 := fun p hp => Decidable.byContradiction (fun c => by
    rcases CI_pl h hf hp with a | a | a
    · omega
    · have := b0 p
      omega
    · have al := f_all hf a.2.2.2.1
      obtain ⟨a1, b1, ha, hb, hab, hch, -, -, -⟩ := over_fin h hf a.2.2.2.1
      rcases CI_pl h hf hb with d | d | d
      · have := al b1 hb; omega
      · have := b0 b1; omega
      · rcases d.2.2.2.2 with e | e
        · have := e.1
          omega
        · have := b0 b1
          omega)
  have nx : ∀ p, p < n → bplc (pm_rows G 3) (tF (tz n)) p = false := fun p hp => by
    have := CI_next h hf hp
    rw [if_pos (np p hp)] at this
    unfold bplc
    refine decide_eq_false (fun y => ?_)
    have y : cnext G (tF (tz n)) (p : Int) = -6 := y
    omega
  have br : ∀ p, p < n → briv (G 15) (pm_rows G 3) (tF (tz n)) p = true := fun p hp => by
    unfold briv
    rw [nx p hp, decide_eq_true (show ¬ G 15 p = 1 by have := r15 p (by omega); omega)]
    rfl
  have c1 : cnt (briv (G 15) (pm_rows G 3) (tF (tz n))) n = (n : Int) := by
    rw [cnt_congr (q := fun _ => true) n br]
    have : ∀ N : Nat, cnt (fun _ => true) N = (N : Int) := by
      intro N
      induction N with
      | zero => rfl
      | succ N ih => rw [cnt_step, ih, if_pos rfl]; omega
    exact this n
  have c2 : sm (blif (G 15) (pm_rows G 3) (tF (tz n))) n = 2 * (n : Int) := by
    rw [sm_congr (g := fun _ => 2) n (fun p hp => by
      unfold blif
      rw [br p hp, b0 p]
      rfl)]
    exact sm_const n
  have c3 : bunb (G 15) (pm_rows G 3) (tF (tz n)) n = 1 := by
    unfold bunb
    have e : cnt (fun p => briv (G 15) (pm_rows G 3) (tF (tz n)) p && decide (blos (pm_rows G 3) (tF (tz n)) p = 0)) n = (n : Int) := by
      rw [← c1]
      exact cnt_congr n (fun p _ => by rw [b0 p, decide_eq_true rfl, Bool.and_true])
    rw [e, if_neg (by omega)]
  show cres G (tF (tz n)) n 0 = _ ∧ cres G (tF (tz n)) n 1 = _
  unfold cres
  rw [c1, if_neg (show ¬ (n : Int) < 2 by omega), if_neg (show ¬ (n : Int) < 2 by omega), c2, c3, if_pos (show (1 : Int) = 1 ∧ (0 : Int) = 0 from ⟨rfl, rfl⟩), if_neg (show ¬ ((1 : Int) = 1 ∧ (1 : Int) = 0) from fun y => absurd y.2 (by decide))]
  exact ⟨rfl, rfl⟩
/-- a tournament that is over -/
theorem over_cnt (h : CI G n x L) (q : cchamp G (tF (tz n)) ≠ -6) : ccount G (tF (tz n)) n 7 = 0 ∧ ccount G (tF (tz n)) n 10 = 0 := by
  obtain ⟨ps, hf⟩ := CI_fin h
  have al := f_all hf q
  constructor
  · show cnt (bplay (G 4 0) (pm_rows G 3)) (tF (tz n)) = 0
    refine cnt_zero _ (fun m hm => ?_)
    rw [(CI_ok h).2.2.2.1]
    cases c : bplay (n : Int) (pm_rows G 3) m with
    | false => rfl
    | true => exact absurd (f_nopen hf hm c) q
  · show cres G (tF (tz n)) n 0 = 0
    unfold cres
    have e : cnt (briv (G 15) (pm_rows G 3) (tF (tz n))) n = 0 := cnt_zero n (fun p hp => by
      have := CI_next h hf hp
      rw [if_neg (by have := al p hp; omega)] at this
      unfold briv bplc
      rw [show ffrom (bnext (pm_rows G 3) (p : Int)) (tF (tz n)) 0 = -6 from this, decide_eq_true rfl, Bool.not_true, Bool.and_false])
    rw [e, if_pos (by decide)]
/-- without a champion there is a match to play -/
theorem not_over (h : CI G n x L) (q : cchamp G (tF (tz n)) = -6) : 0 < ccount G (tF (tz n)) n 7 := by
  obtain ⟨ps, hf⟩ := CI_fin h
  obtain ⟨m, hm, hb⟩ := f_open hf q
  show 0 < cnt (bplay (G 4 0) (pm_rows G 3)) (tF (tz n))
  rw [(CI_ok h).2.2.2.1]
  have a := cnt_lt hb (tF (tz n)) hm
  have b := cnt_rg (bplay (n : Int) (pm_rows G 3)) m
  omega
/-- nobody has withdrawn, and every result counts -/
def NG (G : PW) (n : Nat) : Prop := (∀ p, p < 16 → G 15 p = 0) ∧ ∀ m, m < 31 → G 14 m ≠ -6 → m < tF (tz n) ∧ G 17 m = 3
theorem NG_0 (h : CI G n x 0) : NG G n := ⟨(CI_0 h).2.1, fun m hm y => absurd ((CI_0 h).1 m hm) y⟩
/-- then there were as many results as players lost lives -/
theorem NG_end (h : CI G n x L) (ng : NG G n) (q : cchamp G (tF (tz n)) ≠ -6) : 2 * (n : Int) - 2 ≤ (L : Int) ∧ (L : Int) ≤ 2 * (n : Int) - 1 := by
  obtain ⟨ps, hf⟩ := CI_fin h
  obtain ⟨f1, f2, f3, f4⟩ := cfg_F hf.1
  have n2 := h.1
  -- acts are results, results are matches decided so
  have a1 := alegal_cnt h.2.2.1 L (Nat.le_refl _)
  have z15 : cnt (fun p => decide (eG (G 36) L p = 1)) 16 = 0 := cnt_zero 16 (fun p hp => by
    rw [← h.2.2.2.2.2.2.2.2.1 p hp, ng.1 p hp]
    rfl)
  have a2 : cnt (fun m => decide (eR (G 36) L m ≠ -6)) 31 = cnt (fun m => decide (G 14 m ≠ -6)) 31 := cnt_congr 31 (fun m hm => by rw [h.2.2.2.2.2.2.2.1 m hm])
  have a3 : cnt (fun m => decide (G 14 m ≠ -6)) 31 = cnt (fun m => decide (G 17 m = 3)) (tF (tz n)) := by
    refine cnt_bij (f := fun m => m) (fun m hm y => ?_) (fun _ _ _ _ _ _ e => e) (fun m hm y => ⟨m, by omega, ?_, rfl⟩)
    · have := ng.2 m hm (of_decide_eq_true y)
      exact ⟨this.1, decide_eq_true this.2⟩
    · have y : G 17 m = 3 := of_decide_eq_true y
      obtain ⟨-, -, -, d⟩ := hf.2.2.2.1.2.2.2.1 m hm (show G 17 m ≠ 0 by omega)
      refine decide_eq_true (rl3 (R := G 14) (g := G 15) (a := (pm_rows G 3).1 (2 * m)) (b := (pm_rows G 3).1 (2 * m + 1)) ?_)
      rw [← d]
      exact y
  -- each of them is a loss of just one player
  have a4 : sm (fun p => blos (pm_rows G 3) (tF (tz n)) p) n = cnt (fun m => decide (G 17 m = 3)) (tF (tz n)) := by
    have sw := sm_swap (R := fun p m => decide ((pm_rows G 3).2.1 m ≠ 1 ∧ bl (pm_rows G 3) m = (p : Int))) (tF (tz n)) n
    rw [cnt_sm (tF (tz n))]
    refine Eq.trans (show sm (fun p => blos (pm_rows G 3) (tF (tz n)) p) n = _ from sw) (sm_congr (tF (tz n)) (fun m hm => ?_))
    have r : G 17 m = 0 ∨ G 17 m = 1 ∨ G 17 m = 2 ∨ G 17 m = 3 := t_rng hf hm
    rcases r with r | r | r | r
    · rw [if_neg (by rw [decide_eq_true_eq]; omega)]
      refine cnt_zero n (fun p _ => decide_eq_false (fun y => ?_))
      have := (t_no (B := pm_rows G 3) (m := m) r).2
      have := y.2
      omega
    · rw [if_neg (by rw [decide_eq_true_eq]; omega)]
      refine cnt_zero n (fun p _ => decide_eq_false (fun y => ?_))
      have y1 : G 17 m ≠ 1 := y.1
      omega
    · have gl := t_walk hf hm r
      have := ng.1 (bl (pm_rows G 3) m).toNat (by have := gon16 gl; omega)
      have := gl.2.2
      omega
    · rw [if_pos (decide_eq_true r)]
      have c0 : (pm_rows G 3).2.1 m ≠ 0 := by show G 17 m ≠ 0; omega
      have c1 : (pm_rows G 3).2.1 m ≠ 1 := by show G 17 m ≠ 1; omega
      have re := t_real hf hm c0 c1
      have bn : 0 ≤ bl (pm_rows G 3) m ∧ bl (pm_rows G 3) m < (n : Int) := by
        rcases t_wl hf hm c0 with ⟨-, -, y⟩ | ⟨-, -, y⟩
        · rw [y]; exact re.2
        · rw [y]; exact re.1
      refine cnt_uniq (k := (bl (pm_rows G 3) m).toNat) n (by omega) (decide_eq_true ⟨c1, by omega⟩) (fun p _ y => ?_)
      have := (of_decide_eq_true y).2
      omega
  -- and at the end
  obtain ⟨a, b, ha, hb, hab, hch, -, -, -⟩ := over_fin h hf q
  have al := f_all hf q
  have lo : ∀ p, p < n → blos (pm_rows G 3) (tF (tz n)) p = 2 - (if p = a then 2 - blos (pm_rows G 3) (tF (tz n)) a else 0) := fun p hp => by
    by_cases e : p = a
    · rw [if_pos e, e]; omega
    · rw [if_neg e]
      rcases CI_pl h hf hp with c | c | c
      · have := al p hp; omega
      · have := c.2.2.2.2.2.2.1; omega
      · rcases c.2.2.2.2 with d | d
        · have := d.1; omega
        · have := d.2.2.2; omega
  have l01 : blos (pm_rows G 3) (tF (tz n)) a = 0 ∨ blos (pm_rows G 3) (tF (tz n)) a = 1 := by
    rcases CI_pl h hf ha with c | c | c
    · exact c.2.2.2.2.2.1
    · exact absurd hch c.2.2.2.2.2.2.2
    · rcases c.2.2.2.2 with d | d
      · exact d.2.2.2
      · exact absurd hch d.1
  have ind : ∀ (v : Int) (N : Nat), sm (fun p => 2 - (if p = a then v else 0)) N = 2 * (N : Int) - (if a < N then v else 0) := by
    intro v N
    induction N with
    | zero => rw [if_neg (Nat.not_lt_zero a)]; rfl
    | succ N ih =>
      show sm (fun p => 2 - (if p = a then v else 0)) N + (2 - (if N = a then v else 0)) = _
      rw [ih]
      by_cases e : N = a
      · rw [if_pos e, if_neg (by omega), if_pos (by omega)]; omega
      · rw [if_neg e]
        by_cases e2 : a < N
        · rw [if_pos e2, if_pos (by omega)]; omega
        · rw [if_neg e2, if_neg (by omega)]; omega
  have tot := ind (2 - blos (pm_rows G 3) (tF (tz n)) a) n
  rw [if_pos ha] at tot
  have e1 := sm_congr n lo
  rw [tot, a4] at e1
  rw [a2, a3, z15] at a1
  omega
end CN4
