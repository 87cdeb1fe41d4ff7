/-! trials: from the settled bracket, and from the beginning -/
/-- two brackets that tell the same -/
def sam (F : Nat) (B B' : BB) : Prop := ∀ m, m < F → (B.1 (2 * m) = B'.1 (2 * m) ∧ B.1 (2 * m + 1) = B'.1 (2 * m + 1)) ∧ B.2.1 m = B'.2.1 m ∧ B.2.2 m = B'.2.2 m
def w01 (F : Nat) (B : BB) : Prop := ∀ m, m < F → B.2.1 m ≠ 0 → B.2.2 m = 0 ∨ B.2.2 m = 1
theorem sam_bw {F : Nat} {B B' : BB} (h : sam F B B') (hw : w01 F B) {m : Nat} (hm : m < F) : bw B m = bw B' m ∧ bl B m = bl B' m := by
  obtain ⟨⟨e0, e1⟩, e2, e3⟩ := h m hm
  unfold bw bl
  rw [← e2, ← e3]
  by_cases c : B.2.1 m = 0
  · rw [if_pos c, if_pos c, if_pos c, if_pos c]
    exact ⟨rfl, rfl⟩
  · rw [if_neg c, if_neg c, if_neg c, if_neg c]
    rcases hw m hm c with q | q
    · rw [q]; exact ⟨e0, e1⟩
    · rw [q]; exact ⟨e1, e0⟩
theorem sam_bch {F : Nat} {B B' : BB} (h : sam F B B') (hw : w01 F B) (hF : 7 ≤ F) : bch F B = bch F B' := by
  unfold bch
  rw [(sam_bw h hw (show F - 1 < F by omega)).1, (sam_bw h hw (show F - 2 < F by omega)).1, (h (F - 2) (by omega)).2.2]
/-- upsets -/
def bups (R rat : Nat → Int) (hero : Int) (Z : BB) (m : Nat) : Bool := decide (Z.2.1 m = 3 ∧ R m = -6) && (decide (bw Z m = hero) && decide (mbet rat (bl Z m) hero = 1))
theorem bups_iff {R rat : Nat → Int} {hero : Int} {Z : BB} {m : Nat} : bups R rat hero Z m = true ↔ (Z.2.1 m = 3 ∧ R m = -6) ∧ bw Z m = hero ∧ mbet rat (bl Z m) hero = 1 := by
  unfold bups
  rw [Bool.and_eq_true, Bool.and_eq_true, decide_eq_true_eq, decide_eq_true_eq, decide_eq_true_eq]
theorem sam_bups {R rat : Nat → Int} {hero : Int} {F : Nat} {B B' : BB} (h : sam F B B') (hw : w01 F B) {m : Nat} (hm : m < F) : bups R rat hero B m = bups R rat hero B' m := by
  obtain ⟨e1, e2⟩ := sam_bw h hw hm
  unfold bups
  rw [e1, e2, (h m hm).2.1]
theorem rl3 {R g : Nat → Int} {m : Nat} {a b : Int} (h : (rlive R g m a b).2 = 3) : R m ≠ -6 := fun y => by
  unfold rlive at h
  by_cases c1 : a = 16 ∨ b = 16
  · rw [if_pos c1] at h
    exact absurd (show (1 : Int) = 3 from h) (by decide)
  · rw [if_neg c1, if_neg (fun q => q y)] at h
    by_cases c3 : gon g a ∨ gon g b
    · rw [if_pos c3] at h
      exact absurd (show (2 : Int) = 3 from h) (by decide)
    · rw [if_neg c3] at h
      exact absurd (show (0 : Int) = 3 from h) (by decide)
theorem rl0 {R g : Nat → Int} {m : Nat} {a b : Int} (h : (rlive R g m a b).2 = 0) : R m = -6 ∧ ¬ (a = 16 ∨ b = 16) ∧ ¬ (gon g a ∨ gon g b) := by
  unfold rlive at h
  by_cases c1 : a = 16 ∨ b = 16
  · rw [if_pos c1] at h
    exact absurd (show (1 : Int) = 0 from h) (by decide)
  · rw [if_neg c1] at h
    by_cases c2 : R m ≠ -6
    · rw [if_pos c2] at h
      exact absurd (show (3 : Int) = 0 from h) (by decide)
    · rw [if_neg c2] at h
      by_cases c3 : gon g a ∨ gon g b
      · rw [if_pos c3] at h
        exact absurd (show (2 : Int) = 0 from h) (by decide)
      · exact ⟨Decidable.not_not.mp c2, c1, c3⟩
/-- whether the hero wins against the favourite -/
theorem ups_side {rat : Nat → Int} {a b hero : Int} (hab : a ≠ b) : ((if tside rat hero a b = 0 then a else b) = hero ∧ mbet rat (if tside rat hero a b = 0 then b else a) hero = 1) ↔ hero = (if favs rat a b = 0 then b else a) := by
  have q := favs_01 (rat := rat) (a := a) (b := b)
  have m1 : favs rat a b = 0 ↔ mbet rat a b = 1 := by
    unfold favs mbet
    (repeat' split) <;> omega
  have m2 : favs rat a b = 1 ↔ mbet rat b a = 1 := by
    unfold favs mbet
    (repeat' split) <;> omega
  unfold tside
  rcases q with q | q
  · rw [q, if_pos rfl]
    have m1 := m1.mp q
    have m2 : ¬ mbet rat b a = 1 := fun y => by
      have := m2.mpr y
      omega
    by_cases c : hero = b
    · rw [if_pos c, if_neg (by decide), if_neg (by decide), c]
      exact ⟨fun _ => rfl, fun _ => ⟨rfl, m1⟩⟩
    · rw [if_neg c, if_pos rfl, if_pos rfl]
      refine ⟨fun y => ?_, fun y => absurd y c⟩
      rw [← y.1] at y
      exact absurd y.2 m2
  · rw [q, if_neg (show ¬ (1 : Int) = 0 by decide)]
    have m2 := m2.mp q
    have m1 : ¬ mbet rat a b = 1 := fun y => by
      have := m1.mpr y
      omega
    by_cases c : hero = a
    · rw [if_pos c, if_pos (by decide), if_pos (by decide), c]
      exact ⟨fun _ => rfl, fun _ => ⟨rfl, m2⟩⟩
    · rw [if_neg c, if_neg (by decide), if_neg (by decide)]
      refine ⟨fun y => ?_, fun y => absurd y c⟩
      rw [← y.1] at y
      exact absurd y.2 m1
section TRI
variable {z x n : Nat} {R g rat : Nat → Int} {hero : Int} {B : BB}
theorem gS_tri (h : gS z x n (rlive R g) (tF z) B) : gS z x n (rtri R g rat hero) 0 B := by
  obtain ⟨h1, h2, h3, h4, h5, h6⟩ := h
  refine ⟨h1, h2, h3, fun m hm q => ?_, fun m hm => absurd hm (Nat.not_lt_zero m), h6⟩
  obtain ⟨b0, b1, b2, b3⟩ := h4 m hm q
  have e : rtri R g rat hero m (B.1 (2 * m)) (B.1 (2 * m + 1)) = rlive R g m (B.1 (2 * m)) (B.1 (2 * m + 1)) := by
    unfold rtri
    rw [if_pos (by rw [← b3]; exact q)]
  rw [e]
  exact ⟨b0, b1, b2, b3⟩
theorem gS_w01 {rl : RUL} {k : Nat} (hc : cfg z x) (hr : rlok rl) (h : gS z x n rl k B) : w01 (tF z) B := fun _ hm q => won01 hr (cfg_F hc).2.2.1 h.2.2.2.1 hm q
theorem tri_same (hc : cfg z x) (hR : res3 R) (h : gS z x n (rlive R g) (tF z) B) {B0 : BB} (h0 : gbeg z n B0) : sam (tF z) (grun z x (rtri R g rat hero) B (tF z)) (grun z x (rtri R g rat hero) B0 (tF z)) :=
  gS_uniq hc (rt_ok hR) (gS_run hc (rt_ok hR) (gS_tri h) _ (Nat.le_refl _)) (gS_run hc (rt_ok hR) (gS_beg hc h0) _ (Nat.le_refl _))
/-- what is done in a course stays -/
theorem grun_stay {rl : RUL} (hc : cfg z x) {k : Nat} : ∀ d : Nat, k + d ≤ tF z → (∀ m, m < k → (grun z x rl B (k + d)).2.1 m = (grun z x rl B k).2.1 m ∧ (grun z x rl B (k + d)).2.2 m = (grun z x rl B k).2.2 m) ∧ ∀ s, s < 2 * k + 2 → (grun z x rl B (k + d)).1 s = (grun z x rl B k).1 s := by
  intro d
  induction d with
  | zero => intro _; exact ⟨fun _ _ => ⟨rfl, rfl⟩, fun _ _ => rfl⟩
  | succ d ih =>
    intro h
    obtain ⟨i1, i2⟩ := ih (by omega)
    refine ⟨fun m hm => ?_, fun s hs => ?_⟩
    · have g := gst_lo (rl := rl) (B := grun z x rl B (k + d)) hc (show k + d < tF z by omega) (show m < k + d by omega)
      exact ⟨g.1.trans (i1 m hm).1, g.2.1.trans (i1 m hm).2⟩
    · exact (gst_own (rl := rl) (B := grun z x rl B (k + d)) hc (show k + d < tF z by omega) (by omega)).trans (i2 s hs)
theorem grun_how {rl : RUL} : ∀ k m : Nat, k ≤ m → (grun z x rl B k).2.1 m = B.2.1 m := by
  intro k
  induction k with
  | zero => intro m _; rfl
  | succ k ih =>
    intro m hm
    show (gst z x rl k _).2.1 m = _
    rw [gst_how (by omega), ih m (by omega)]
/-- how many upsets a trial counts -/
theorem tri_ups (hc : cfg z x) (hn : n ≤ 16) (hR : res3 R) (h : gS z x n (rlive R g) (tF z) B) (hD : jD z n B) (hE : jE z n (grun z x (rtri R g rat hero) B (tF z))) : ∀ k, k ≤ tF z → (trun (tWS z) (tLS z x) (tF z) g n rat hero (B, R, 0) k).2.2 = cnt (bups R rat hero (grun z x (rtri R g rat hero) B k)) k := by
  intro k
  induction k with
  | zero => intro _; rfl
  | succ k ih =>
    intro hk
    have i1 := ih (by omega)
    obtain ⟨r1, r2⟩ := trun_grun (R := R) (g := g) (rat := rat) (hero := hero) (s := (B, R, 0)) hc hn hR hD (fun _ => rfl) k (by omega)
    have eR := trun_R (WS := tWS z) (LS := tLS z x) (F := tF z) (g := g) (n := n) (rat := rat) (hero := hero) (s := (B, R, 0)) k k (Nat.le_refl _)
    have t := (tstp_gst (R := R) (g := g) (rat := rat) (hero := hero) (s := trun (tWS z) (tLS z x) (tF z) g n rat hero (B, R, 0) k) hc (show k < tF z by omega) hn (by rw [r1]; exact r2) eR).2
    show (tstp _ _ _ g n rat hero k _).2.2 = cnt _ k + _
    rw [t, i1, r1]
    have gs := gS_run hc (rt_ok hR) (gS_tri (rat := rat) (hero := hero) h) k (by omega)
    have gs' := gS_run hc (rt_ok hR) (gS_tri (rat := rat) (hero := hero) h) (k + 1) hk
    have hk' : k < tF z := by omega
    have lo : cnt (bups R rat hero (grun z x (rtri R g rat hero) B k)) k = cnt (bups R rat hero (grun z x (rtri R g rat hero) B (k + 1))) k := cnt_congr k (fun m hm => by
      have q := gst_lo (rl := rtri R g rat hero) (B := grun z x (rtri R g rat hero) B k) hc hk' hm
      refine (sam_bups (F := k) ?_ ?_ hm).symm
      · intro m hm
        have q := gst_lo (rl := rtri R g rat hero) (B := grun z x (rtri R g rat hero) B k) hc hk' hm
        exact ⟨⟨q.2.2.1, q.2.2.2⟩, q.1, q.2.1⟩
      · exact fun m hm q => gS_w01 hc (rt_ok hR) gs' m (by omega) q)
    rw [lo]
    have st := (grun_stay (rl := rtri R g rat hero) (B := B) hc (k := k) (tF z - k) (by omega)).2
    rw [show k + (tF z - k) = tF z by omega] at st
    have e0 := st (2 * k) (by omega)
    have e1 := st (2 * k + 1) (by omega)
    have hE := hE k hk'
    rw [e0, e1] at hE
    have hw := grun_how (z := z) (x := x) (B := B) (rl := rtri R g rat hero) k k (Nat.le_refl _)
    have hD' := r2
    have step : grun z x (rtri R g rat hero) B (k + 1) = gst z x (rtri R g rat hero) k (grun z x (rtri R g rat hero) B k) := rfl
    generalize hY : grun z x (rtri R g rat hero) B k = Y at *
    have key : bups R rat hero (grun z x (rtri R g rat hero) B (k + 1)) k = true ↔ (Y.2.1 k = 0 ∧ Y.1 (2 * k) ≠ -6 ∧ Y.1 (2 * k + 1) ≠ -6 ∧ (rlive R g k (Y.1 (2 * k)) (Y.1 (2 * k + 1))).2 = 0) ∧ hero = (if favs rat (Y.1 (2 * k)) (Y.1 (2 * k + 1)) = 0 then Y.1 (2 * k + 1) else Y.1 (2 * k)) := by
      rw [bups_iff, step]
      by_cases c : Y.2.1 k = 0 ∧ Y.1 (2 * k) ≠ -6 ∧ Y.1 (2 * k + 1) ≠ -6 ∧ (rlive R g k (Y.1 (2 * k)) (Y.1 (2 * k + 1))).2 = 0
      · obtain ⟨a0, a1, a2, a3⟩ := c
        obtain ⟨q1, q2, q3⟩ := rl0 a3
        have d0 := hD' (2 * k) (by omega)
        have e3 : rtri R g rat hero k (Y.1 (2 * k)) (Y.1 (2 * k + 1)) = (tside rat hero (Y.1 (2 * k)) (Y.1 (2 * k + 1)), 3) := by
          unfold rtri
          rw [if_neg (fun y => y a3)]
        have eg : gst z x (rtri R g rat hero) k Y = bdec (tWS z) (tLS z x) (tF z) k (tside rat hero (Y.1 (2 * k)) (Y.1 (2 * k + 1))) 3 Y := by
          unfold gst
          rw [e3, if_neg]
          rintro (y | y | y | y)
          · exact y a0
          · exact a1 y
          · exact a2 y
          · exact absurd (show (3 : Int) = 0 from y) (by decide)
        have us := ups_side (rat := rat) (hero := hero) (hE (by omega) (by omega))
        have t01 := tside_01 (rat := rat) (hero := hero) (a := Y.1 (2 * k)) (b := Y.1 (2 * k + 1))
        rw [eg]
        unfold bw bl
        rw [bd_how, bd_won, if_pos rfl, if_pos rfl]
        generalize tside rat hero (Y.1 (2 * k)) (Y.1 (2 * k + 1)) = sd at us t01 ⊢
        rw [if_neg (show ¬ (3 : Int) = 0 by decide), if_neg (show ¬ (3 : Int) = 0 by decide), bd_lo hc hk' (by omega), bd_lo hc hk' (by omega)]
        rcases t01 with t | t
        · subst t
          rw [if_pos rfl, if_pos rfl] at us
          exact ⟨fun y => ⟨⟨a0, a1, a2, a3⟩, us.mp y.2⟩, fun y => ⟨⟨rfl, q1⟩, us.mpr y.2⟩⟩
        · subst t
          rw [if_neg (by decide), if_neg (by decide)] at us
          exact ⟨fun y => ⟨⟨a0, a1, a2, a3⟩, us.mp y.2⟩, fun y => ⟨⟨rfl, q1⟩, us.mpr y.2⟩⟩
      · refine ⟨fun y => ?_, fun y => absurd y.1 c⟩
        obtain ⟨⟨y1, y2⟩, -⟩ := y
        unfold gst at y1
        by_cases c1 : Y.2.1 k ≠ 0 ∨ Y.1 (2 * k) = -6 ∨ Y.1 (2 * k + 1) = -6 ∨ (rtri R g rat hero k (Y.1 (2 * k)) (Y.1 (2 * k + 1))).2 = 0
        · rw [if_pos c1, hw] at y1
          obtain ⟨-, -, -, b3⟩ := h.2.2.2.1 k hk' (by rw [y1]; decide)
          exact absurd y2 (rl3 (by rw [← b3]; exact y1))
        · rw [if_neg c1, bd_how, if_pos rfl] at y1
          by_cases c2 : (rlive R g k (Y.1 (2 * k)) (Y.1 (2 * k + 1))).2 = 0
          · exact absurd ⟨Decidable.not_not.mp (fun q => c1 (Or.inl q)), fun q => c1 (Or.inr (Or.inl q)), fun q => c1 (Or.inr (Or.inr (Or.inl q))), c2⟩ c
          · have e3 : rtri R g rat hero k (Y.1 (2 * k)) (Y.1 (2 * k + 1)) = rlive R g k (Y.1 (2 * k)) (Y.1 (2 * k + 1)) := by
              unfold rtri
              rw [if_pos c2]
            rw [e3] at y1
            exact absurd y2 (rl3 y1)
    by_cases c : (Y.2.1 k = 0 ∧ Y.1 (2 * k) ≠ -6 ∧ Y.1 (2 * k + 1) ≠ -6 ∧ (rlive R g k (Y.1 (2 * k)) (Y.1 (2 * k + 1))).2 = 0) ∧ hero = (if favs rat (Y.1 (2 * k)) (Y.1 (2 * k + 1)) = 0 then Y.1 (2 * k + 1) else Y.1 (2 * k))
    · rw [if_pos c, key.mpr c]
      rfl
    · rw [if_neg c, bfalse key c]
      rfl
/-- the first side of the first final is no bye, at any time -/
theorem g_nb {rl : RUL} {k : Nat} (hc : cfg z x) (hr : rlok rl) (hn : 1 ≤ n) (h : gS z x n rl k B) : B.1 (2 * tF z - 4) ≠ 16 := by
  obtain ⟨f1, f2, f3, f4⟩ := cfg_F hc
  have up : ∀ m, m < tF z - 2 → B.1 (2 * m) ≠ 16 → B.1 (tWS z m).toNat ≠ 16 := fun m hm q => by
    obtain ⟨-, g2, -, g4, -, -⟩ := h
    by_cases c : B.2.1 m = 0
    · rw [((g2 m hm).1 c).1]
      omega
    · rw [((g2 m hm).2 c).1]
      obtain ⟨b0, b1, b2, b3⟩ := g4 m (by omega) c
      obtain ⟨r1, r2, -⟩ := hr m (B.1 (2 * m)) (B.1 (2 * m + 1)) (by omega)
      rw [b2]
      by_cases c2 : B.1 (2 * m + 1) = 16
      · rw [r2 (Or.inr c2), if_pos c2]
        exact q
      · rcases r1 with r1 | r1
        · rw [r1]; exact q
        · rw [r1]; exact c2
  have b0 : B.1 (2 * 0) ≠ 16 := by
    rw [h.1 0 (by omega)]
    have e : tSD z 0 = 0 := by
      rcases hc.1 with rfl | rfl | rfl <;> rfl
    unfold tini
    rw [e, if_pos (by omega)]
    decide
  rcases hc.1 with e | e | e
  · subst e
    exact up 2 (by decide) (show B.1 (2 * 2) ≠ 16 from up 0 (by decide) b0)
  · subst e
    exact up 6 (by decide) (show B.1 (2 * 6) ≠ 16 from up 4 (by decide) (show B.1 (2 * 4) ≠ 16 from up 0 (by decide) b0))
  · subst e
    exact up 14 (by decide) (show B.1 (2 * 14) ≠ 16 from up 12 (by decide) (show B.1 (2 * 12) ≠ 16 from up 8 (by decide) (show B.1 (2 * 8) ≠ 16 from up 0 (by decide) b0)))
/-- sides, at every match of a course -/
theorem g_side {rl : RUL} {k : Nat} {ps : Nat → Nat} (hc : cfg z x) (hr : rlok rl) (hn : 1 ≤ n) (hk : k < tF z) (h : gS z x n rl k B) (hj : jJ z n k B ps) : side_ok (n : Int) (tF z) k B := by
  obtain ⟨f1, f2, f3, f4⟩ := cfg_F hc
  have d0 := hj.2.2.2.1 (2 * k) (by omega)
  have d1 := hj.2.2.2.1 (2 * k + 1) (by omega)
  have e := hj.2.2.2.2.1 k hk
  refine ⟨d0, d1, fun q y => ?_, fun y => e y.1 y.2⟩
  have b := g_nb hc hr hn h
  rw [show 2 * tF z - 4 = 2 * k by omega] at b
  exact e (by omega) (by omega)
end TRI
