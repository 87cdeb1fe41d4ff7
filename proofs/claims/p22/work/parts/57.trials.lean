/-! trials: from the settled bracket, and from the beginning -/
/-- two brackets that tell the same -/
def sam (F : Nat) (B B' : BB) : Prop := ∀ m, m < F → (B.1 (2 * m) = B'.1 (2 * m) ∧ B.1 (2 * m + 1) = B'.1 (2 * m + 1)) ∧ B.2.1 m = B'.2.1 m ∧ B.2.2 m = B'.2.2 m
def w01 (F : Nat) (B : BB) : Prop := ∀ m, m < F → B.2.1 m ≠ 0 → B.2.2 m = 0 ∨ B.2.2 m = 1
theorem sam_bw {F : Nat} {B B' : BB} (h : sam F B B') (hw : w01 F B) {m : Nat} (hm : m < F) : bw B m = bw B' m ∧ bl B m = bl B' m := by
  obtain ⟨⟨e0, e1⟩, e2, e3⟩ := h m hm
  unfold bw bl
  rw [← e2, ← e3]
  by_cases c : B.2.1 m = 0
  · rw [if_pos c, if_pos c, if_pos c, if_pos c]
    exact ⟨rfl, rfl⟩
  · rw [if_neg c, if_neg c, if_neg c, if_neg c]
    rcases hw m hm c with q | q
    · rw [q]; exact ⟨e0, e1⟩
    · rw [q]; exact ⟨e1, e0⟩
theorem sam_bch {F : Nat} {B B' : BB} (h : sam F B B') (hw : w01 F B) (hF : 7 ≤ F) : bch F B = bch F B' := by
  unfold bch
  rw [(sam_bw h hw (show F - 1 < F by omega)).1, (sam_bw h hw (show F - 2 < F by omega)).1, (h (F - 2) (by omega)).2.2]
theorem rl3 {R g : Nat → Int} {m : Nat} {a b : Int} (h : (rlive R g m a b).2 = 3) : R m ≠ -6 := fun y => by
  unfold rlive at h
  by_cases c1 : a = 16 ∨ b = 16
  · rw [if_pos c1] at h
    exact absurd (show (1 : Int) = 3 from h) (by decide)
  · rw [if_neg c1, if_neg (fun q => q y)] at h
    by_cases c3 : gon g a ∨ gon g b
    · rw [if_pos c3] at h
      exact absurd (show (2 : Int) = 3 from h) (by decide)
    · rw [if_neg c3] at h
      exact absurd (show (0 : Int) = 3 from h) (by decide)
theorem rl0 {R g : Nat → Int} {m : Nat} {a b : Int} (h : (rlive R g m a b).2 = 0) : R m = -6 ∧ ¬ (a = 16 ∨ b = 16) ∧ ¬ (gon g a ∨ gon g b) := by
  unfold rlive at h
  by_cases c1 : a = 16 ∨ b = 16
  · rw [if_pos c1] at h
    exact absurd (show (1 : Int) = 0 from h) (by decide)
  · rw [if_neg c1] at h
    by_cases c2 : R m ≠ -6
    · rw [if_pos c2] at h
      exact absurd (show (3 : Int) = 0 from h) (by decide)
    · rw [if_neg c2] at h
      by_cases c3 : gon g a ∨ gon g b
      · rw [if_pos c3] at h
        exact absurd (show (2 : Int) = 0 from h) (by decide)
      · exact ⟨Decidable.not_not.mp c2, c1, c3⟩
section TRI
variable {z x n : Nat} {R g rat : Nat → Int} {hero : Int} {B : BB}
theorem gS_tri (h : gS z x n (rlive R g) (tF z) B) : gS z x n (rtri R g rat hero) 0 B := by
  obtain ⟨h1, h2, h3, h4, h5, h6⟩ := h
  refine ⟨h1, h2, h3, fun m hm q => ?_, fun m hm => absurd hm (Nat.not_lt_zero m), h6⟩
  obtain ⟨b0, b1, b2, b3⟩ := h4 m hm q
  have e : rtri R g rat hero m (B.1 (2 * m)) (B.1 (2 * m + 1)) = rlive R g m (B.1 (2 * m)) (B.1 (2 * m + 1)) := by
    unfold rtri
    rw [if_pos (by rw [← b3]; exact q)]
  rw [e]
  exact ⟨b0, b1, b2, b3⟩
theorem gS_w01 {rl : RUL} {k : Nat} (hc : cfg z x) (hr : rlok rl) (h : gS z x n rl k B) : w01 (tF z) B := fun _ hm q => won01 hr (cfg_F hc).2.2.1 h.2.2.2.1 hm q
theorem tri_same (hc : cfg z x) (hR : res3 R) (h : gS z x n (rlive R g) (tF z) B) {B0 : BB} (h0 : gbeg z n B0) : sam (tF z) (grun z x (rtri R g rat hero) B (tF z)) (grun z x (rtri R g rat hero) B0 (tF z)) :=
  gS_uniq hc (rt_ok hR) (gS_run hc (rt_ok hR) (gS_tri h) _ (Nat.le_refl _)) (gS_run hc (rt_ok hR) (gS_beg hc h0) _ (Nat.le_refl _))
/-- what is done in a course stays -/
theorem grun_stay {rl : RUL} (hc : cfg z x) {k : Nat} : ∀ d : Nat, k + d ≤ tF z → (∀ m, m < k → (grun z x rl B (k + d)).2.1 m = (grun z x rl B k).2.1 m ∧ (grun z x rl B (k + d)).2.2 m = (grun z x rl B k).2.2 m) ∧ ∀ s, s < 2 * k + 2 → (grun z x rl B (k + d)).1 s = (grun z x rl B k).1 s := by
  intro d
  induction d with
  | zero => intro _; exact ⟨fun _ _ => ⟨rfl, rfl⟩, fun _ _ => rfl⟩
  | succ d ih =>
    intro h
    obtain ⟨i1, i2⟩ := ih (by omega)
    refine ⟨fun m hm => ?_, fun s hs => ?_⟩
    · have g := gst_lo (rl := rl) (B := grun z x rl B (k + d)) hc (show k + d < tF z by omega) (show m < k + d by omega)
      exact ⟨g.1.trans (i1 m hm).1, g.2.1.trans (i1 m hm).2⟩
    · exact (gst_own (rl := rl) (B := grun z x rl B (k + d)) hc (show k + d < tF z by omega) (by omega)).trans (i2 s hs)
theorem grun_how {rl : RUL} : ∀ k m : Nat, k ≤ m → (grun z x rl B k).2.1 m = B.2.1 m := by
  intro k
  induction k with
  | zero => intro m _; rfl
  | succ k ih =>
    intro m hm
    show (gst z x rl k _).2.1 m = _
    rw [gst_how (by omega), ih m (by omega)]
/-- the first side of the first final is no bye, at any time -/
theorem g_nb {rl : RUL} {k : Nat} (hc : cfg z x) (hr : rlok rl) (hn : 1 ≤ n) (h : gS z x n rl k B) : B.1 (2 * tF z - 4) ≠ 16 := by
  obtain ⟨f1, f2, f3, f4⟩ := cfg_F hc
  have up : ∀ m, m < tF z - 2 → B.1 (2 * m) ≠ 16 → B.1 (tWS z m).toNat ≠ 16 := fun m hm q => by
    obtain ⟨-, g2, -, g4, -, -⟩ := h
    by_cases c : B.2.1 m = 0
    · rw [((g2 m hm).1 c).1]
      omega
    · rw [((g2 m hm).2 c).1]
      obtain ⟨b0, b1, b2, b3⟩ := g4 m (by omega) c
      obtain ⟨r1, r2, -⟩ := hr m (B.1 (2 * m)) (B.1 (2 * m + 1)) (by omega)
      rw [b2]
      by_cases c2 : B.1 (2 * m + 1) = 16
      · rw [r2 (Or.inr c2), if_pos c2]
        exact q
      · rcases r1 with r1 | r1
        · rw [r1]; exact q
        · rw [r1]; exact c2
  have b0 : B.1 (2 * 0) ≠ 16 := by
    rw [h.1 0 (by omega)]
    have e : tSD z 0 = 0 := by
      rcases hc.1 with rfl | rfl | rfl <;> rfl
    unfold tini
    rw [e, if_pos (by omega)]
    decide
  rcases hc.1 with e | e | e
  · subst e
    exact up 2 (by decide) (show B.1 (2 * 2) ≠ 16 from up 0 (by decide) b0)
  · subst e
    exact up 6 (by decide) (show B.1 (2 * 6) ≠ 16 from up 4 (by decide) (show B.1 (2 * 4) ≠ 16 from up 0 (by decide) b0))
  · subst e
    exact up 14 (by decide) (show B.1 (2 * 14) ≠ 16 from up 12 (by decide) (show B.1 (2 * 12) ≠ 16 from up 8 (by decide) (show B.1 (2 * 8) ≠ 16 from up 0 (by decide) b0)))
end TRI
