/-! any course of the matches: by a rule that tells of each match who wins, and how -/
abbrev RUL : Type := Nat → Int → Int → Int × Int
def gst (z x : Nat) (rl : RUL) (k : Nat) (B : BB) : BB := if B.2.1 k ≠ 0 ∨ B.1 (2 * k) = -6 ∨ B.1 (2 * k + 1) = -6 ∨ (rl k (B.1 (2 * k)) (B.1 (2 * k + 1))).2 = 0 then B else bdec (tWS z) (tLS z x) (tF z) k (rl k (B.1 (2 * k)) (B.1 (2 * k + 1))).1 (rl k (B.1 (2 * k)) (B.1 (2 * k + 1))).2 B
def grun (z x : Nat) (rl : RUL) (B : BB) : Nat → BB
  | 0 => B
  | k + 1 => gst z x rl k (grun z x rl B k)
/-- a rule: byes first, and a side wins -/
def rlok (rl : RUL) : Prop := ∀ (m : Nat) (a b : Int), m < 31 → ((rl m a b).1 = 0 ∨ (rl m a b).1 = 1) ∧ (a = 16 ∨ b = 16 → rl m a b = (if b = 16 then 0 else 1, 1)) ∧ (¬ (a = 16 ∨ b = 16) → ¬ (rl m a b).2 = 1) ∧ 0 ≤ (rl m a b).2 ∧ (rl m a b).2 ≤ 3
/-- who sits where at first -/
def tini (z n s : Nat) : Int := if tSD z s < (n : Int) then tSD z s else 16
def gS2 (z x : Nat) (B : BB) : Prop := ∀ m, m < tF z - 2 → (B.2.1 m = 0 → B.1 (tWS z m).toNat = -6 ∧ (tLS z x m ≠ -6 → B.1 (tLS z x m).toNat = -6)) ∧ (B.2.1 m ≠ 0 → B.1 (tWS z m).toNat = B.1 (2 * m + (B.2.2 m).toNat) ∧ (tLS z x m ≠ -6 → B.1 (tLS z x m).toNat = B.1 (2 * m + (1 - B.2.2 m).toNat)))
def gS3 (z : Nat) (B : BB) : Prop := (B.2.1 (tF z - 2) ≠ 0 ∧ B.2.2 (tF z - 2) = 1 → B.1 (2 * tF z - 2) = B.1 (2 * tF z - 4) ∧ B.1 (2 * tF z - 1) = B.1 (2 * tF z - 3)) ∧ (¬ (B.2.1 (tF z - 2) ≠ 0 ∧ B.2.2 (tF z - 2) = 1) → B.1 (2 * tF z - 2) = -6 ∧ B.1 (2 * tF z - 1) = -6)
def gS4 (z : Nat) (rl : RUL) (B : BB) : Prop := ∀ m, m < tF z → B.2.1 m ≠ 0 → B.1 (2 * m) ≠ -6 ∧ B.1 (2 * m + 1) ≠ -6 ∧ B.2.2 m = (rl m (B.1 (2 * m)) (B.1 (2 * m + 1))).1 ∧ B.2.1 m = (rl m (B.1 (2 * m)) (B.1 (2 * m + 1))).2
def gS5 (z : Nat) (rl : RUL) (k : Nat) (B : BB) : Prop := ∀ m, m < k → B.1 (2 * m) ≠ -6 → B.1 (2 * m + 1) ≠ -6 → B.2.1 m = 0 → (rl m (B.1 (2 * m)) (B.1 (2 * m + 1))).2 = 0
/-- how a bracket hangs together, when the first k matches are done -/
def gS (z x n : Nat) (rl : RUL) (k : Nat) (B : BB) : Prop := (∀ s, s < z → B.1 s = tini z n s) ∧ gS2 z x B ∧ gS3 z B ∧ gS4 z rl B ∧ gS5 z rl k B ∧ ∀ m, m < tF z → B.2.1 m = 0 → B.2.2 m = -6
theorem cfg_F {z x : Nat} (h : cfg z x) : tF z = 2 * z - 1 ∧ 7 ≤ tF z ∧ tF z ≤ 31 ∧ 4 ≤ z := by
  obtain ⟨h, -⟩ := h
  unfold tF
  omega
section GST
variable {z x n k : Nat} {rl : RUL} {B : BB}
/-- the seats behind a decision -/
theorem bd_end (hc : cfg z x) (hk : k < tF z) (c : ¬ k < tF z - 2) : tWS z k = -6 ∧ tLS z x k = -6 := by
  obtain ⟨f1, f2, f3, f4⟩ := cfg_F hc
  obtain ⟨t1, t2, t3, t4, -, -⟩ := tb_fin hc
  by_cases e : k = tF z - 2
  · rw [e]; exact ⟨t1, t3⟩
  · rw [show k = tF z - 1 by omega]; exact ⟨t2, t4⟩
theorem bd_oth (hc : cfg z x) {sd kd : Int} (hk : k < tF z) {s : Nat} (h1 : (s : Int) ≠ tWS z k) (h2 : (s : Int) ≠ tLS z x k) (h3 : k + 2 = tF z → sd = 1 → s ≠ 2 * tF z - 2 ∧ s ≠ 2 * tF z - 1) : (bdec (tWS z) (tLS z x) (tF z) k sd kd B).1 s = B.1 s := by
  have b : bput (bput B.1 (tWS z k) (B.1 (2 * k + sd.toNat))) (tLS z x k) (B.1 (2 * k + (1 - sd).toNat)) s = B.1 s := by
    have p : ∀ (f : Nat → Int) (i v : Int), (s : Int) ≠ i → bput f i v s = f s := fun f i v q => by
      unfold bput
      by_cases c : 0 ≤ i ∧ i < 62
      · rw [if_pos c, fup_ne (by omega)]
      · rw [if_neg c]
    rw [p _ _ _ h2, p _ _ _ h1]
  unfold bdec
  dsimp only
  by_cases c : k + 2 = tF z ∧ sd = 1
  · have h3 := h3 c.1 c.2
    rw [if_pos c, fup_ne (by omega), fup_ne (by omega), b]
  · rw [if_neg c, b]
theorem bd_win (hc : cfg z x) {sd kd : Int} (c : k < tF z - 2) : (bdec (tWS z) (tLS z x) (tF z) k sd kd B).1 (tWS z k).toNat = B.1 (2 * k + sd.toNat) := by
  obtain ⟨f1, f2, f3, f4⟩ := cfg_F hc
  have w := tb_win hc k c
  have l := tb_los hc k (by omega)
  have i := (tb_inj hc k c k c).2.2
  have nc : ¬ (k + 2 = tF z ∧ sd = 1) := by omega
  unfold bdec
  dsimp only
  rw [if_neg nc]
  have p : bput B.1 (tWS z k) (B.1 (2 * k + sd.toNat)) (tWS z k).toNat = B.1 (2 * k + sd.toNat) := by
    unfold bput
    rw [if_pos (by omega), fup_eq]
  unfold bput at p ⊢
  by_cases q : 0 ≤ tLS z x k ∧ tLS z x k < 62
  · rw [if_pos q, fup_ne (by omega)]
    exact p
  · rw [if_neg q]
    exact p
theorem bd_los (hc : cfg z x) {sd kd : Int} (c : k < tF z - 2) (hl : tLS z x k ≠ -6) : (bdec (tWS z) (tLS z x) (tF z) k sd kd B).1 (tLS z x k).toNat = B.1 (2 * k + (1 - sd).toNat) := by
  obtain ⟨f1, f2, f3, f4⟩ := cfg_F hc
  have l := (tb_los hc k (by omega)).resolve_left hl
  have nc : ¬ (k + 2 = tF z ∧ sd = 1) := by omega
  unfold bdec
  dsimp only
  rw [if_neg nc]
  unfold bput
  rw [if_pos (c := 0 ≤ tLS z x k ∧ tLS z x k < 62) (by omega), fup_eq]
theorem bd_f (hc : cfg z x) {kd : Int} (c : k + 2 = tF z) : (bdec (tWS z) (tLS z x) (tF z) k 1 kd B).1 (2 * tF z - 2) = B.1 (2 * tF z - 4) ∧ (bdec (tWS z) (tLS z x) (tF z) k 1 kd B).1 (2 * tF z - 1) = B.1 (2 * tF z - 3) := by
  obtain ⟨f1, f2, f3, f4⟩ := cfg_F hc
  unfold bdec
  dsimp only
  rw [if_pos ⟨c, rfl⟩]
  have g1 : 2 * tF z - 1 = 2 * (k + 1) + 1 := by omega
  have g2 : 2 * tF z - 2 = 2 * (k + 1) := by omega
  have g3 : 2 * tF z - 4 = 2 * k + (1 - (1 : Int)).toNat := by omega
  have g4 : 2 * tF z - 3 = 2 * k + (1 : Int).toNat := by omega
  rw [g1, g2, g3, g4, fup_eq, fup_ne (by omega), fup_eq]
  exact ⟨rfl, rfl⟩
/-- seats of matches up to k stay -/
theorem bd_lo (hc : cfg z x) {sd kd : Int} (hk : k < tF z) {s : Nat} (h : s < 2 * k + 2) : (bdec (tWS z) (tLS z x) (tF z) k sd kd B).1 s = B.1 s := by
  obtain ⟨f1, f2, f3, f4⟩ := cfg_F hc
  by_cases c : k < tF z - 2
  · have w := tb_win hc k c
    have l := tb_los hc k hk
    exact bd_oth hc hk (by omega) (by omega) (by omega)
  · obtain ⟨e1, e2⟩ := bd_end hc hk c
    exact bd_oth hc hk (by omega) (by omega) (by omega)
/-- seats that were taken stay -/
theorem bd_hi (hc : cfg z x) {sd kd : Int} (hk : k < tF z) (h2 : gS2 z x B) (h3 : gS3 z B) (h0 : B.2.1 k = 0) {s : Nat} (h : B.1 s ≠ -6) : (bdec (tWS z) (tLS z x) (tF z) k sd kd B).1 s = B.1 s := by
  obtain ⟨f1, f2, f3, f4⟩ := cfg_F hc
  by_cases c : k < tF z - 2
  · obtain ⟨g1, g2⟩ := (h2 k c).1 h0
    have w := tb_win hc k c
    have l := tb_los hc k hk
    have n1 : (s : Int) ≠ tWS z k := fun q => h (by rw [show s = (tWS z k).toNat by omega]; exact g1)
    have n2 : (s : Int) ≠ tLS z x k := fun q => h (by rw [show s = (tLS z x k).toNat by omega]; exact g2 (by omega))
    exact bd_oth hc hk n1 n2 (by omega)
  · obtain ⟨e1, e2⟩ := bd_end hc hk c
    have g : k + 2 = tF z → B.1 (2 * tF z - 2) = -6 ∧ B.1 (2 * tF z - 1) = -6 := fun e => h3.2 (fun q => q.1 (by rw [show tF z - 2 = k by omega]; exact h0))
    exact bd_oth hc hk (by omega) (by omega) (fun q _ => ⟨fun y => h (by rw [y]; exact (g q).1), fun y => h (by rw [y]; exact (g q).2)⟩)
theorem bd_how {sd kd : Int} {m : Nat} : (bdec (tWS z) (tLS z x) (tF z) k sd kd B).2.1 m = if m = k then kd else B.2.1 m := rfl
theorem bd_won {sd kd : Int} {m : Nat} : (bdec (tWS z) (tLS z x) (tF z) k sd kd B).2.2 m = if m = k then sd else B.2.2 m := rfl
theorem won01 (hr : rlok rl) (hF : tF z ≤ 31) (h4 : gS4 z rl B) {m : Nat} (hm : m < tF z) (h : B.2.1 m ≠ 0) : B.2.2 m = 0 ∨ B.2.2 m = 1 := by
  rw [(h4 m hm h).2.2.1]
  exact (hr m _ _ (by omega)).1
theorem gS_step (hc : cfg z x) (hr : rlok rl) (hk : k < tF z) (h : gS z x n rl k B) : gS z x n rl (k + 1) (gst z x rl k B) := by
  obtain ⟨f1, f2, f3, f4⟩ := cfg_F hc
  obtain ⟨h1, h2, h3, h4, h5, h6⟩ := h
  unfold gst
  by_cases c : B.2.1 k ≠ 0 ∨ B.1 (2 * k) = -6 ∨ B.1 (2 * k + 1) = -6 ∨ (rl k (B.1 (2 * k)) (B.1 (2 * k + 1))).2 = 0
  · rw [if_pos c]
    refine ⟨h1, h2, h3, h4, fun m hm a0 a1 a2 => ?_, h6⟩
    by_cases e : m = k
    · subst e
      rcases c with c | c | c | c
      · exact absurd a2 c
      · exact absurd c a0
      · exact absurd c a1
      · exact c
    · exact h5 m (by omega) a0 a1 a2
  · rw [if_neg c]
    have hs := (hr k (B.1 (2 * k)) (B.1 (2 * k + 1)) (by omega)).1
    generalize hsd : (rl k (B.1 (2 * k)) (B.1 (2 * k + 1))).1 = sd at hs ⊢
    generalize hkd : (rl k (B.1 (2 * k)) (B.1 (2 * k + 1))).2 = kd at c ⊢
    have a0 : B.2.1 k = 0 := Decidable.not_not.mp (fun q => c (Or.inl q))
    have a1 : B.1 (2 * k) ≠ -6 := fun q => c (Or.inr (Or.inl q))
    have a2 : B.1 (2 * k + 1) ≠ -6 := fun q => c (Or.inr (Or.inr (Or.inl q)))
    have a3 : kd ≠ 0 := fun q => c (Or.inr (Or.inr (Or.inr q)))
    have L : ∀ s, s < 2 * k + 2 → (bdec (tWS z) (tLS z x) (tF z) k sd kd B).1 s = B.1 s := fun s q => bd_lo hc hk q
    have H : ∀ s, B.1 s ≠ -6 → (bdec (tWS z) (tLS z x) (tF z) k sd kd B).1 s = B.1 s := fun s q => bd_hi hc hk h2 h3 a0 q
    refine ⟨fun s q => ?_, fun m hm => ?_, ?_, fun m hm q => ?_, fun m hm q0 q1 q2 => ?_, fun m hm q => ?_⟩
    · have t := (tb_seed hc s q).1
      have e : tini z n s ≠ -6 := by
        unfold tini
        by_cases e : tSD z s < (n : Int)
        · rw [if_pos e]; omega
        · rw [if_neg e]; omega
      rw [H s (by rw [h1 s q]; exact e)]
      exact h1 s q
    · rw [bd_how, bd_won]
      have w := tb_win hc m hm
      have l := tb_los hc m (by omega)
      by_cases e : m = k
      · subst e
        rw [if_pos rfl, if_pos rfl]
        refine ⟨fun q => absurd q a3, fun _ => ⟨?_, fun ql => ?_⟩⟩
        · rw [L (2 * m + sd.toNat) (by omega)]
          exact bd_win hc hm
        · rw [L (2 * m + (1 - sd).toNat) (by omega)]
          exact bd_los hc hm ql
      · rw [if_neg e, if_neg e]
        have tg : ∀ t : Nat, ((t : Int) = tWS z m ∨ (tLS z x m ≠ -6 ∧ (t : Int) = tLS z x m)) → (bdec (tWS z) (tLS z x) (tF z) k sd kd B).1 t = B.1 t := fun t ht => by
          by_cases ck : k < tF z - 2
          · have i1 := tb_inj hc k ck m hm
            have i2 := (tb_inj hc m hm k ck).2.2
            have wk := tb_win hc k ck
            have lk := tb_los hc k hk
            have n1 : (t : Int) ≠ tWS z k := fun q => by
              rcases ht with ht | ⟨ht, ht'⟩
              · exact e (i1.1 (by omega)).symm
              · exact i1.2.2 (by omega)
            have n2 : (t : Int) ≠ tLS z x k := fun q => by
              rcases ht with ht | ⟨ht, ht'⟩
              · exact i2 (by omega)
              · exact (i1.2.1 (by omega)).elim (by omega) (fun y => e y.symm)
            exact bd_oth hc hk n1 n2 (by omega)
          · obtain ⟨e1, e2⟩ := bd_end hc hk ck
            have b : t < 2 * tF z - 2 := by
              rcases ht with ht | ⟨ht, ht'⟩
              · omega
              · have := l.resolve_left ht
                omega
            exact bd_oth hc hk (by omega) (by omega) (by omega)
        have g := h2 m hm
        rw [tg (tWS z m).toNat (Or.inl (by omega))]
        have tgl : tLS z x m ≠ -6 → (bdec (tWS z) (tLS z x) (tF z) k sd kd B).1 (tLS z x m).toNat = B.1 (tLS z x m).toNat := fun ql => tg _ (Or.inr ⟨ql, by have := l.resolve_left ql; omega⟩)
        refine ⟨fun q => ⟨(g.1 q).1, fun ql => by rw [tgl ql]; exact (g.1 q).2 ql⟩, fun q => ?_⟩
        obtain ⟨b0, b1, -, -⟩ := h4 m (by omega) q
        have w01 := won01 hr f3 h4 (show m < tF z by omega) q
        have sid : ∀ i : Nat, i = 0 ∨ i = 1 → (bdec (tWS z) (tLS z x) (tF z) k sd kd B).1 (2 * m + i) = B.1 (2 * m + i) := fun i hi => H _ (by rcases hi with rfl | rfl; exact b0; exact b1)
        rw [sid (B.2.2 m).toNat (by omega), sid (1 - B.2.2 m).toNat (by omega)]
        exact ⟨(g.2 q).1, fun ql => by rw [tgl ql]; exact (g.2 q).2 ql⟩
    · unfold gS3
      rw [bd_how, bd_won]
      by_cases e : tF z - 2 = k
      · obtain ⟨e1, e2⟩ := bd_end hc hk (by omega)
        rw [if_pos e, if_pos e, L (2 * tF z - 4) (by omega), L (2 * tF z - 3) (by omega)]
        refine ⟨fun q => ?_, fun q => ?_⟩
        · rw [q.2]
          exact bd_f hc (by omega)
        · have g := h3.2 (fun y => y.1 (by rw [e]; exact a0))
          exact ⟨(bd_oth hc hk (by omega) (by omega) (fun _ y => absurd ⟨a3, y⟩ q)).trans g.1, (bd_oth hc hk (by omega) (by omega) (fun _ y => absurd ⟨a3, y⟩ q)).trans g.2⟩
      · rw [if_neg e, if_neg e]
        have st : ∀ s, 2 * tF z - 2 ≤ s → (bdec (tWS z) (tLS z x) (tF z) k sd kd B).1 s = B.1 s := fun s q => by
          by_cases ck : k < tF z - 2
          · have wk := tb_win hc k ck
            have lk := tb_los hc k hk
            exact bd_oth hc hk (by omega) (by omega) (by omega)
          · obtain ⟨e1, e2⟩ := bd_end hc hk ck
            exact bd_oth hc hk (by omega) (by omega) (by omega)
        rw [st (2 * tF z - 2) (by omega), st (2 * tF z - 1) (by omega)]
        refine ⟨fun q => ?_, h3.2⟩
        obtain ⟨b0, b1, -, -⟩ := h4 (tF z - 2) (by omega) q.1
        have b0 : B.1 (2 * tF z - 4) ≠ -6 := by rw [show 2 * tF z - 4 = 2 * (tF z - 2) by omega]; exact b0
        have b1 : B.1 (2 * tF z - 3) ≠ -6 := by rw [show 2 * tF z - 3 = 2 * (tF z - 2) + 1 by omega]; exact b1
        rw [H _ b0, H _ b1]
        exact h3.1 q
    · rw [bd_how] at q
      rw [bd_how, bd_won]
      by_cases e : m = k
      · subst e
        rw [if_pos rfl, if_pos rfl, L (2 * m) (by omega), L (2 * m + 1) (by omega)]
        exact ⟨a1, a2, hsd.symm, hkd.symm⟩
      · rw [if_neg e] at q
        rw [if_neg e, if_neg e]
        have g := h4 m hm q
        rw [H _ g.1, H _ g.2.1]
        exact g
    · rw [bd_how] at q2
      by_cases e : m = k
      · rw [if_pos e] at q2
        exact absurd q2 a3
      · rw [if_neg e] at q2
        rw [L (2 * m) (by omega)] at q0 ⊢
        rw [L (2 * m + 1) (by omega)] at q1 ⊢
        exact h5 m (by omega) q0 q1 q2
    · rw [bd_how] at q
      rw [bd_won]
      by_cases e : m = k
      · rw [if_pos e] at q
        exact absurd q a3
      · rw [if_neg e] at q
        rw [if_neg e]
        exact h6 m hm q
theorem gS_run (hc : cfg z x) (hr : rlok rl) (h : gS z x n rl 0 B) : ∀ k, k ≤ tF z → gS z x n rl k (grun z x rl B k) := by
  intro k
  induction k with
  | zero => intro _; exact h
  | succ k ih => intro hk; exact gS_step hc hr (by omega) (ih (by omega))
/-- before the first match -/
def gbeg (z n : Nat) (B : BB) : Prop := (∀ s, s < 2 * tF z → B.1 s = if s < z then tini z n s else -6) ∧ ∀ m, m < tF z → B.2.1 m = 0 ∧ B.2.2 m = -6
theorem gS_beg (hc : cfg z x) (h : gbeg z n B) : gS z x n rl 0 B := by
  obtain ⟨f1, f2, f3, f4⟩ := cfg_F hc
  have e : ∀ s, z ≤ s → s < 2 * tF z → B.1 s = -6 := fun s q1 q2 => by rw [h.1 s q2, if_neg (by omega)]
  refine ⟨fun s q => by rw [h.1 s (by omega), if_pos q], fun m hm => ⟨fun _ => ⟨?_, fun q => ?_⟩, fun q => absurd (h.2 m (by omega)).1 q⟩, ⟨fun q => absurd (h.2 (tF z - 2) (by omega)).1 q.1, fun _ => ⟨e _ (by omega) (by omega), e _ (by omega) (by omega)⟩⟩, fun m hm q => absurd (h.2 m hm).1 q, fun m hm => absurd hm (Nat.not_lt_zero m), fun m hm _ => (h.2 m hm).2⟩
  · have w := tb_win hc m hm
    exact e _ (by omega) (by omega)
  · have l := (tb_los hc m (by omega)).resolve_left q
    exact e _ (by omega) (by omega)
/-- there is but one bracket that hangs together -/
theorem gS_uniq (hc : cfg z x) (hr : rlok rl) {B' : BB} (h : gS z x n rl (tF z) B) (h' : gS z x n rl (tF z) B') : ∀ m, m < tF z → (B.1 (2 * m) = B'.1 (2 * m) ∧ B.1 (2 * m + 1) = B'.1 (2 * m + 1)) ∧ B.2.1 m = B'.2.1 m ∧ B.2.2 m = B'.2.2 m := by
  obtain ⟨f1, f2, f3, f4⟩ := cfg_F hc
  obtain ⟨h1, h2, h3, h4, h5, h6⟩ := h
  obtain ⟨g1, g2, g3, g4, g5, g6⟩ := h'
  intro m
  induction m using Nat.strongRecOn with
  | _ m ih =>
    intro hm
    have S : ∀ i : Nat, i = 0 ∨ i = 1 → B.1 (2 * m + i) = B'.1 (2 * m + i) := fun i hi => by
      by_cases c : 2 * m + i < z
      · rw [h1 _ c, g1 _ c]
      · by_cases c2 : 2 * m + i < 2 * tF z - 2
        · obtain ⟨k, hk, hks, hq⟩ := tb_src hc (2 * m + i) c2 (by omega)
          obtain ⟨⟨e0, e1⟩, e2, e3⟩ := ih k (by omega) (by omega)
          have E : ∀ j : Nat, j = 0 ∨ j = 1 → B.1 (2 * k + j) = B'.1 (2 * k + j) := fun j hj => by
            rcases hj with rfl | rfl
            · exact e0
            · exact e1
          have a := h2 k hk
          have b := g2 k hk
          rw [← e2, ← e3] at b
          by_cases c3 : B.2.1 k = 0
          · rcases hq with hq | hq
            · have a := (a.1 c3).1
              have b := (b.1 c3).1
              rw [hq, Int.toNat_natCast] at a b
              rw [a, b]
            · have a := (a.1 c3).2 (by omega)
              have b := (b.1 c3).2 (by omega)
              rw [hq, Int.toNat_natCast] at a b
              rw [a, b]
          · have w := won01 hr f3 h4 (show k < tF z by omega) c3
            rcases hq with hq | hq
            · have a := (a.2 c3).1
              have b := (b.2 c3).1
              rw [hq, Int.toNat_natCast] at a b
              rw [a, b, E _ (by omega)]
            · have a := (a.2 c3).2 (by omega)
              have b := (b.2 c3).2 (by omega)
              rw [hq, Int.toNat_natCast] at a b
              rw [a, b, E _ (by omega)]
        · obtain ⟨⟨e0, e1⟩, e2, e3⟩ := ih (tF z - 2) (by omega) (by omega)
          have a := h3
          have b := g3
          unfold gS3 at a b
          rw [← e2, ← e3] at b
          rw [show 2 * (tF z - 2) = 2 * tF z - 4 by omega] at e0
          rw [show 2 * (tF z - 2) + 1 = 2 * tF z - 3 by omega] at e1
          have hi2 : 2 * m + i = 2 * tF z - 2 ∨ 2 * m + i = 2 * tF z - 1 := by omega
          by_cases c3 : B.2.1 (tF z - 2) ≠ 0 ∧ B.2.2 (tF z - 2) = 1
          · have a := a.1 c3
            have b := b.1 c3
            rcases hi2 with hi2 | hi2
            · rw [hi2, a.1, b.1, e0]
            · rw [hi2, a.2, b.2, e1]
          · have a := a.2 c3
            have b := b.2 c3
            rcases hi2 with hi2 | hi2
            · rw [hi2, a.1, b.1]
            · rw [hi2, a.2, b.2]
    have s0 : B.1 (2 * m) = B'.1 (2 * m) := S 0 (Or.inl rfl)
    have s1 : B.1 (2 * m + 1) = B'.1 (2 * m + 1) := S 1 (Or.inr rfl)
    refine ⟨⟨s0, s1⟩, ?_⟩
    by_cases c : B.2.1 m = 0
    · by_cases c' : B'.2.1 m = 0
      · rw [c, c', h6 m hm c, g6 m hm c']
        exact ⟨rfl, rfl⟩
      · obtain ⟨b0, b1, b2, b3⟩ := g4 m hm c'
        rw [← s0, ← s1] at b3
        exact absurd (h5 m hm (by rw [s0]; exact b0) (by rw [s1]; exact b1) c) (by rw [← b3]; exact c')
    · obtain ⟨b0, b1, b2, b3⟩ := h4 m hm c
      by_cases c' : B'.2.1 m = 0
      · exact absurd (g5 m hm (by rw [← s0]; exact b0) (by rw [← s1]; exact b1) c') (by rw [← s0, ← s1, ← b3]; exact c)
      · obtain ⟨d0, d1, d2, d3⟩ := g4 m hm c'
        rw [b2, b3, d2, d3, s0, s1]
        exact ⟨rfl, rfl⟩
end GST
