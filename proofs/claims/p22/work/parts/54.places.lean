/-! where each player sits, and how often it has lost -/
/-- a seat whose player goes no further -/
def term (z : Nat) (B : BB) (s : Nat) : Prop := (s / 2 < tF z - 2 ∧ tPT z (s / 2) = 1 ∧ B.2.2 (s / 2) ≠ ((s % 2 : Nat) : Int)) ∨ (s / 2 = tF z - 2 ∧ B.2.2 (tF z - 2) = 0) ∨ s / 2 = tF z - 1
/-- the losses that a place tells: a seat of a match to come, or 64 more than a seat where the player ended -/
def plw (z : Nat) (B : BB) (c : Nat) : Int := if c < 64 then tlw z c else tlw z (c - 64) + (if B.2.2 ((c - 64) / 2) = (((c - 64) % 2 : Nat) : Int) then 0 else 1)
def jA (z n : Nat) (B : BB) (ps : Nat → Nat) : Prop := ∀ p : Nat, p < n → (ps p < 2 * tF z ∧ B.1 (ps p) = (p : Int) ∧ B.2.1 (ps p / 2) = 0) ∨ ∃ s, s < 2 * tF z ∧ ps p = 64 + s ∧ B.1 s = (p : Int) ∧ B.2.1 (s / 2) ≠ 0 ∧ term z B s
def jB (z n : Nat) (B : BB) (ps : Nat → Nat) : Prop := ∀ s p : Nat, s < 2 * tF z → p < n → B.1 s = (p : Int) → (B.2.1 (s / 2) = 0 → ps p = s) ∧ (B.2.1 (s / 2) ≠ 0 → term z B s → ps p = 64 + s)
def jC (z n : Nat) (B : BB) (ps : Nat → Nat) : Prop := ∀ p : Nat, p < n → blos B (tF z) p = plw z B (ps p)
def jD (z n : Nat) (B : BB) : Prop := ∀ s, s < 2 * tF z → B.1 s = -6 ∨ B.1 s = 16 ∨ (0 ≤ B.1 s ∧ B.1 s < (n : Int))
def jE (z n : Nat) (B : BB) : Prop := ∀ m, m < tF z → 0 ≤ B.1 (2 * m) → B.1 (2 * m) < (n : Int) → B.1 (2 * m) ≠ B.1 (2 * m + 1)
def jJ (z n k : Nat) (B : BB) (ps : Nat → Nat) : Prop := jA z n B ps ∧ jB z n B ps ∧ jC z n B ps ∧ jD z n B ∧ jE z n B ∧ ∀ m, k ≤ m → m < tF z → B.2.1 m = 0
theorem cnt_one {p q : Nat → Bool} {k : Nat} : ∀ N : Nat, k < N → (∀ m, m < N → m ≠ k → p m = q m) → p k = false → cnt q N = cnt p N + (bif q k then 1 else 0) := by
  intro N
  induction N with
  | zero => intro h; exact absurd h (Nat.not_lt_zero k)
  | succ N ih =>
    intro h h1 h2
    show cnt q N + _ = cnt p N + _ + _
    by_cases e : k = N
    · subst e
      have := cnt_congr (p := p) (q := q) k (fun m hm => h1 m (by omega) (by omega))
      rw [this, h2]
      show _ = cnt q k + 0 + _
      omega
    · rw [ih (by omega) (fun m hm => h1 m (by omega)) h2, h1 N (by omega) (by omega)]
      omega
/-- where a player goes on who sits at i of match k -/
def nwp (z x k : Nat) (sd : Int) (i : Nat) : Nat := if k < tF z - 2 then (if i = 2 * k + sd.toNat then (tWS z k).toNat else if tLS z x k ≠ -6 then (tLS z x k).toNat else 64 + i) else if k + 2 = tF z ∧ sd = 1 then i + 2 else 64 + i
/-- the seats of the second final -/
theorem nw_f {z x k : Nat} {sd : Int} {i : Nat} (h : ¬ k < tF z - 2) (h1 : k + 2 = tF z ∧ sd = 1) : nwp z x k sd i = i + 2 := by
  unfold nwp
  rw [if_neg h, if_pos h1]
theorem nw_e {z x k : Nat} {sd : Int} {i : Nat} (h : ¬ k < tF z - 2) (h1 : ¬ (k + 2 = tF z ∧ sd = 1)) : nwp z x k sd i = 64 + i := by
  unfold nwp
  rw [if_neg h, if_neg h1]
theorem nw_w {z x k : Nat} {sd : Int} (h : k < tF z - 2) : nwp z x k sd (2 * k + sd.toNat) = (tWS z k).toNat := by
  unfold nwp
  rw [if_pos h, if_pos rfl]
theorem nw_l {z x k : Nat} {sd : Int} (h : k < tF z - 2) (hs : sd = 0 ∨ sd = 1) (hl : tLS z x k ≠ -6) : nwp z x k sd (2 * k + (1 - sd).toNat) = (tLS z x k).toNat := by
  unfold nwp
  rw [if_pos h, if_neg (by omega), if_pos hl]
theorem nw_o {z x k : Nat} {sd : Int} (h : k < tF z - 2) (hs : sd = 0 ∨ sd = 1) (hl : tLS z x k = -6) : nwp z x k sd (2 * k + (1 - sd).toNat) = 64 + (2 * k + (1 - sd).toNat) := by
  unfold nwp
  rw [if_pos h, if_neg (by omega), if_neg (fun q => q hl)]
section JST
variable {z x n k : Nat} {rl : RUL} {B : BB} {ps : Nat → Nat}
/-- where the seat i of match k leads: a seat to come with the same player, or an end -/
theorem nw_go (hc : cfg z x) (hk : k < tF z) {sd kd : Int} (hs : sd = 0 ∨ sd = 1) {i : Nat} (hi : i = 2 * k ∨ i = 2 * k + 1) : (nwp z x k sd i < 2 * tF z ∧ 2 * k + 2 ≤ nwp z x k sd i ∧ (bdec (tWS z) (tLS z x) (tF z) k sd kd B).1 (nwp z x k sd i) = B.1 i ∧ tlw z (nwp z x k sd i) = tlw z i + (if sd = ((i % 2 : Nat) : Int) then 0 else 1)) ∨ (nwp z x k sd i = 64 + i ∧ term z (bdec (tWS z) (tLS z x) (tF z) k sd kd B) i) := by
  obtain ⟨f1, f2, f3, f4⟩ := cfg_F hc
  by_cases c : k < tF z - 2
  · have w := tb_win hc k c
    have l := tb_los hc k hk
    obtain ⟨lw0, lw1, lww, lwl⟩ := tb_lw hc k c
    have lwi : tlw z i = tPT z k := by
      rcases hi with rfl | rfl
      · exact lw0
      · exact lw1
    by_cases c1 : i = 2 * k + sd.toNat
    · left
      rw [c1, nw_w c, ← c1]
      refine ⟨by omega, by omega, ?_, ?_⟩
      · rw [bd_win hc c, c1]
      · rw [lww, lwi, if_pos (by omega)]
        omega
    · have c2 : i = 2 * k + (1 - sd).toNat := by omega
      by_cases c3 : tLS z x k = -6
      · right
        rw [c2, nw_o c hs c3, ← c2]
        refine ⟨rfl, Or.inl ⟨by omega, ?_, ?_⟩⟩
        · rw [show i / 2 = k by omega]
          exact ((tb_part hc k c).resolve_left (fun q => q.2 c3)).1
        · rw [show i / 2 = k by omega, bd_won, if_pos rfl]
          omega
      · left
        have l := l.resolve_left c3
        rw [c2, nw_l c hs c3, ← c2]
        refine ⟨by omega, by omega, ?_, ?_⟩
        · rw [bd_los hc c c3, c2]
        · have p0 := ((tb_part hc k c).resolve_right (fun q => c3 q.2)).1
          rw [lwl c3, lwi, p0, if_neg (by omega)]
          omega
  · by_cases c1 : k + 2 = tF z ∧ sd = 1
    · left
      rw [nw_f c c1]
      obtain ⟨c1, c2⟩ := c1
      subst c2
      have b := bd_f (B := B) (kd := kd) hc c1
      refine ⟨by omega, by omega, ?_, ?_⟩
      · rcases hi with rfl | rfl
        · rw [show 2 * k + 2 = 2 * tF z - 2 by omega, show 2 * k = 2 * tF z - 4 by omega]
          exact b.1
        · rw [show 2 * k + 1 + 2 = 2 * tF z - 1 by omega, show 2 * k + 1 = 2 * tF z - 3 by omega]
          exact b.2
      · obtain ⟨-, -, -, -, t5, t6⟩ := tb_fin hc
        have g : tlw z (i + 2) = 1 := by
          unfold tlw
          rw [if_neg (by omega), if_neg (by omega), show (i + 2) / 2 = tF z - 1 by omega, t6, if_neg (by decide)]
        rw [g]
        unfold tlw
        rcases hi with rfl | rfl
        · rw [if_pos (by omega), if_neg (by omega)]
          rfl
        · rw [if_neg (by omega), if_pos (by omega), if_pos (by omega)]
          rfl
    · right
      rw [nw_e c c1]
      refine ⟨rfl, ?_⟩
      by_cases c2 : k + 2 = tF z
      · refine Or.inr (Or.inl ⟨by omega, ?_⟩)
        rw [bd_won, if_pos (by omega)]
        exact hs.resolve_right (fun q => c1 ⟨c2, q⟩)
      · exact Or.inr (Or.inr (by omega))
/-- which seats are new behind a decision, and whose they are -/
theorem bd_new (hc : cfg z x) (hk : k < tF z) {sd kd : Int} (hs : sd = 0 ∨ sd = 1) (s : Nat) : (bdec (tWS z) (tLS z x) (tF z) k sd kd B).1 s = B.1 s ∨ ∃ i, (i = 2 * k ∨ i = 2 * k + 1) ∧ s = nwp z x k sd i ∧ s < 2 * tF z ∧ (bdec (tWS z) (tLS z x) (tF z) k sd kd B).1 s = B.1 i := by
  obtain ⟨f1, f2, f3, f4⟩ := cfg_F hc
  by_cases c : k < tF z - 2
  · have w := tb_win hc k c
    have l := tb_los hc k hk
    by_cases c1 : (s : Int) = tWS z k
    · right
      refine ⟨2 * k + sd.toNat, by omega, ?_, by omega, ?_⟩
      · rw [nw_w c]; omega
      · rw [show s = (tWS z k).toNat by omega]; exact bd_win hc c
    · by_cases c2 : (s : Int) = tLS z x k
      · have c3 : tLS z x k ≠ -6 := by omega
        have l := l.resolve_left c3
        right
        refine ⟨2 * k + (1 - sd).toNat, by omega, ?_, by omega, ?_⟩
        · rw [nw_l c hs c3]; omega
        · rw [show s = (tLS z x k).toNat by omega]; exact bd_los hc c c3
      · exact Or.inl (bd_oth hc hk c1 c2 (by omega))
  · obtain ⟨e1, e2⟩ := bd_end hc hk c
    by_cases c1 : k + 2 = tF z ∧ sd = 1
    · obtain ⟨c1, c2⟩ := c1
      subst c2
      have b := bd_f (B := B) (kd := kd) hc c1
      by_cases c2 : s = 2 * tF z - 2
      · right
        refine ⟨2 * k, Or.inl rfl, by rw [nw_f c ⟨c1, rfl⟩]; omega, by omega, ?_⟩
        rw [c2, b.1, show 2 * tF z - 4 = 2 * k by omega]
      · by_cases c3 : s = 2 * tF z - 1
        · right
          refine ⟨2 * k + 1, Or.inr rfl, by rw [nw_f c ⟨c1, rfl⟩]; omega, by omega, ?_⟩
          rw [c3, b.2, show 2 * tF z - 3 = 2 * k + 1 by omega]
        · exact Or.inl (bd_oth hc hk (by omega) (by omega) (fun _ _ => ⟨c2, c3⟩))
    · exact Or.inl (bd_oth hc hk (by omega) (by omega) (fun q1 q2 => absurd ⟨q1, q2⟩ c1))
theorem term_same {sd kd : Int} {s : Nat} (h : s / 2 ≠ k) : term z (bdec (tWS z) (tLS z x) (tF z) k sd kd B) s ↔ term z B s := by
  have e : ∀ m, m ≠ k → (bdec (tWS z) (tLS z x) (tF z) k sd kd B).2.2 m = B.2.2 m := fun m hm => by rw [bd_won, if_neg hm]
  unfold term
  rw [e _ h]
  by_cases c : s / 2 = tF z - 2
  · rw [e (tF z - 2) (by omega)]
  · constructor
    · rintro (q | q | q)
      · exact Or.inl q
      · exact absurd q.1 c
      · exact Or.inr (Or.inr q)
    · rintro (q | q | q)
      · exact Or.inl q
      · exact absurd q.1 c
      · exact Or.inr (Or.inr q)
theorem nw_term (hc : cfg z x) (hk : k < tF z) {sd kd : Int} (hs : sd = 0 ∨ sd = 1) {i : Nat} (hi : i = 2 * k ∨ i = 2 * k + 1) (ht : term z (bdec (tWS z) (tLS z x) (tF z) k sd kd B) i) : nwp z x k sd i = 64 + i := by
  obtain ⟨f1, f2, f3, f4⟩ := cfg_F hc
  have ik : i / 2 = k := by omega
  unfold term at ht
  rw [ik] at ht
  rcases ht with ⟨c, p1, w⟩ | ⟨c, w⟩ | c
  · rw [bd_won, if_pos rfl] at w
    have l := ((tb_part hc k c).resolve_left (fun q => by omega)).2
    have ei : i = 2 * k + (1 - sd).toNat := by omega
    rw [ei]
    exact nw_o c hs l
  · rw [bd_won, if_pos (by omega)] at w
    exact nw_e (by omega) (by omega)
  · exact nw_e (by omega) (by omega)
theorem tb_lw0 {z x : Nat} (h : cfg z x) : ∀ s, s < z → tlw z s = 0 := by
  refine cfg_ind (P := fun z _ => ∀ s, s < z → tlw z s = 0) ?_ h
  have e : ∀ z, (List.range z).all (fun s => decide (tlw z s = 0)) = true → ∀ s, s < z → tlw z s = 0 := fun z h s hs => of_decide_eq_true (all_lt h s hs)
  exact ⟨e _ (by decide +kernel), e _ (by decide +kernel), e _ (by decide +kernel), e _ (by decide +kernel), e _ (by decide +kernel), e _ (by decide +kernel)⟩
theorem plw_lo {c : Nat} (h : c < 64) : plw z B c = tlw z c := by
  unfold plw
  rw [if_pos h]
theorem plw_hi {s : Nat} : plw z B (64 + s) = tlw z s + (if B.2.2 (s / 2) = ((s % 2 : Nat) : Int) then 0 else 1) := by
  unfold plw
  rw [if_neg (by omega), show 64 + s - 64 = s by omega]
set_option maxHeartbeats 1000000 in
theorem jJ_step (hc : cfg z x) (hr : rlok rl) (hn : n ≤ 16) (hk : k < tF z) (hg : gS z x n rl k B) (h : jJ z n k B ps) : ∃ ps', jJ z n (k + 1) (gst z x rl k B) ps' := by
  obtain ⟨f1, f2, f3, f4⟩ := cfg_F hc
  obtain ⟨jA, jB, jC, jD, jE, j2⟩ := h
  unfold gst
  by_cases c : B.2.1 k ≠ 0 ∨ B.1 (2 * k) = -6 ∨ B.1 (2 * k + 1) = -6 ∨ (rl k (B.1 (2 * k)) (B.1 (2 * k + 1))).2 = 0
  · rw [if_pos c]
    exact ⟨ps, jA, jB, jC, jD, jE, fun m h1 h2 => j2 m (by omega) h2⟩
  · rw [if_neg c]
    obtain ⟨h1, h2, h3, h4, h5, h6⟩ := hg
    obtain ⟨hs, hb, hb', -, -⟩ := hr k (B.1 (2 * k)) (B.1 (2 * k + 1)) (by omega)
    generalize hsd : (rl k (B.1 (2 * k)) (B.1 (2 * k + 1))).1 = sd at hs ⊢
    generalize hkd : (rl k (B.1 (2 * k)) (B.1 (2 * k + 1))).2 = kd at c hb' ⊢
    have a0 : B.2.1 k = 0 := Decidable.not_not.mp (fun q => c (Or.inl q))
    have a3 : kd ≠ 0 := fun q => c (Or.inr (Or.inr (Or.inr q)))
    have L : ∀ s, s < 2 * k + 2 → (bdec (tWS z) (tLS z x) (tF z) k sd kd B).1 s = B.1 s := fun s q => bd_lo hc hk q
    have H : ∀ s, B.1 s ≠ -6 → (bdec (tWS z) (tLS z x) (tF z) k sd kd B).1 s = B.1 s := fun s q => bd_hi hc hk h2 h3 a0 q
    have W : ∀ m, m ≠ k → (bdec (tWS z) (tLS z x) (tF z) k sd kd B).2.1 m = B.2.1 m ∧ (bdec (tWS z) (tLS z x) (tF z) k sd kd B).2.2 m = B.2.2 m := fun m q => by
      rw [bd_how, bd_won, if_neg q, if_neg q]
      exact ⟨rfl, rfl⟩
    have Wk : (bdec (tWS z) (tLS z x) (tF z) k sd kd B).2.1 k = kd ∧ (bdec (tWS z) (tLS z x) (tF z) k sd kd B).2.2 k = sd := by
      rw [bd_how, bd_won, if_pos rfl, if_pos rfl]
      exact ⟨rfl, rfl⟩
    have GO : ∀ i, (i = 2 * k ∨ i = 2 * k + 1) → _ := fun i hi => nw_go (B := B) (sd := sd) (kd := kd) hc hk hs hi
    have NW : ∀ s, _ := fun s => bd_new (B := B) (sd := sd) (kd := kd) hc hk hs s
    have TS : ∀ s, s / 2 ≠ k → _ := fun s q => term_same (z := z) (x := x) (B := B) (sd := sd) (kd := kd) q
    have TN : ∀ i, (i = 2 * k ∨ i = 2 * k + 1) → _ := fun i hi => nw_term (B := B) (sd := sd) (kd := kd) hc hk hs hi
    have bin : ∀ m, m < tF z → m ≠ k → B.2.1 m ≠ 0 → ∀ i : Nat, i = 0 ∨ i = 1 → (bdec (tWS z) (tLS z x) (tF z) k sd kd B).1 (2 * m + i) = B.1 (2 * m + i) := fun m hm _ q i hi => by
      obtain ⟨b0, b1, -, -⟩ := h4 m hm q
      exact H _ (by rcases hi with rfl | rfl; exact b0; exact b1)
    have blk : ∀ m, m < tF z → m ≠ k → bl (bdec (tWS z) (tLS z x) (tF z) k sd kd B) m = bl B m := fun m hm q => by
      unfold bl
      rw [(W m q).1, (W m q).2]
      by_cases e : B.2.1 m = 0
      · rw [if_pos e, if_pos e]
      · rw [if_neg e, if_neg e]
        have w := won01 hr f3 h4 hm e
        exact bin m hm q e _ (by omega)
    generalize hB' : bdec (tWS z) (tLS z x) (tF z) k sd kd B = B' at *
    have A' : ∀ p : Nat, p < n → ((if ps p = 2 * k ∨ ps p = 2 * k + 1 then nwp z x k sd (ps p) else ps p) < 2 * tF z ∧ B'.1 (if ps p = 2 * k ∨ ps p = 2 * k + 1 then nwp z x k sd (ps p) else ps p) = (p : Int) ∧ B'.2.1 ((if ps p = 2 * k ∨ ps p = 2 * k + 1 then nwp z x k sd (ps p) else ps p) / 2) = 0) ∨ ∃ s, s < 2 * tF z ∧ (if ps p = 2 * k ∨ ps p = 2 * k + 1 then nwp z x k sd (ps p) else ps p) = 64 + s ∧ B'.1 s = (p : Int) ∧ B'.2.1 (s / 2) ≠ 0 ∧ term z B' s := by
      intro p hp
      by_cases e : ps p = 2 * k ∨ ps p = 2 * k + 1
      · rw [if_pos e]
        rcases jA p hp with ⟨q1, q2, q3⟩ | ⟨s, q1, q2, -⟩
        · rcases GO _ e with ⟨t1, t2, t3, -⟩ | ⟨t1, t2⟩
          · refine Or.inl ⟨t1, t3.trans q2, ?_⟩
            rw [(W _ (by omega)).1]
            exact j2 _ (by omega) (by omega)
          · refine Or.inr ⟨ps p, q1, t1, ?_, ?_, t2⟩
            · rw [L _ (by omega)]; exact q2
            · rw [show ps p / 2 = k by omega, Wk.1]; exact a3
        · omega
      · rw [if_neg e]
        rcases jA p hp with ⟨q1, q2, q3⟩ | ⟨s, q1, q2, q3, q4, q5⟩
        · refine Or.inl ⟨q1, ?_, ?_⟩
          · rw [H _ (by rw [q2]; omega)]; exact q2
          · rw [(W _ (by omega)).1]; exact q3
        · have sk : s / 2 ≠ k := fun y => q4 (by rw [y]; exact a0)
          refine Or.inr ⟨s, q1, q2, ?_, ?_, (TS s sk).mpr q5⟩
          · rw [H _ (by rw [q3]; omega)]; exact q3
          · rw [(W _ sk).1]; exact q4
    have B'' : ∀ s p : Nat, s < 2 * tF z → p < n → B'.1 s = (p : Int) → (B'.2.1 (s / 2) = 0 → (if ps p = 2 * k ∨ ps p = 2 * k + 1 then nwp z x k sd (ps p) else ps p) = s) ∧ (B'.2.1 (s / 2) ≠ 0 → term z B' s → (if ps p = 2 * k ∨ ps p = 2 * k + 1 then nwp z x k sd (ps p) else ps p) = 64 + s) := by
      intro s p hs2 hp he
      rcases NW s with o | ⟨i, hi, t1, t2, t3⟩
      · rw [o] at he
        obtain ⟨g1, g2⟩ := jB s p hs2 hp he
        by_cases sk : s / 2 = k
        · refine ⟨fun y => absurd y (by rw [sk, Wk.1]; exact a3), fun _ y => ?_⟩
          have g := g1 (by rw [sk]; exact a0)
          rw [g, if_pos (by omega)]
          exact TN s (by omega) y
        · rw [(W _ sk).1]
          refine ⟨fun y => ?_, fun y1 y2 => ?_⟩
          · rw [g1 y, if_neg (by omega)]
          · rw [g2 y1 ((TS s sk).mp y2), if_neg (by omega)]
      · rw [t3] at he
        have g := (jB i p (by omega) hp he).1 (by rw [show i / 2 = k by omega]; exact a0)
        rcases GO i hi with ⟨u1, u2, -⟩ | ⟨u1, -⟩
        · rw [g, if_pos hi]
          refine ⟨fun _ => t1.symm, fun y => absurd ?_ y⟩
          rw [(W _ (by omega)).1]
          exact j2 _ (by omega) (by omega)
        · omega
    refine ⟨fun p => if ps p = 2 * k ∨ ps p = 2 * k + 1 then nwp z x k sd (ps p) else ps p, A', B'', fun p hp => ?_, fun s hs2 => ?_, fun m hm q0 q1 q2 => ?_, fun m q1 q2 => ?_⟩
    · have bw0 : decide (B.2.1 k ≠ 1 ∧ bl B k = (p : Int)) = false := by
        apply decide_eq_false
        unfold bl
        rw [if_pos a0]
        omega
      have add := cnt_one (p := fun m => decide (B.2.1 m ≠ 1 ∧ bl B m = (p : Int))) (q := fun m => decide (B'.2.1 m ≠ 1 ∧ bl B' m = (p : Int))) (k := k) (tF z) hk (fun m hm q => by
        show decide _ = decide _
        rw [(W m q).1, blk m hm q]) bw0
      have blk' : bl B' k = B.1 (2 * k + (1 - sd).toNat) := by
        unfold bl
        rw [Wk.1, Wk.2, if_neg a3, L _ (by omega)]
      have c0 := jC p hp
      unfold blos at c0 ⊢
      rw [add, c0]
      show plw z B (ps p) + (bif decide (B'.2.1 k ≠ 1 ∧ bl B' k = (p : Int)) then 1 else 0) = plw z B' (if ps p = 2 * k ∨ ps p = 2 * k + 1 then nwp z x k sd (ps p) else ps p)
      rw [Wk.1, blk']
      have nb : B.1 (2 * k + (1 - sd).toNat) = (p : Int) → kd ≠ 1 := fun q q1 => by
        have b16 : B.1 (2 * k) = 16 ∨ B.1 (2 * k + 1) = 16 := Decidable.byContradiction (fun y => hb' y q1)
        have e := hb b16
        have e1 : sd = if B.1 (2 * k + 1) = 16 then 0 else 1 := by rw [← hsd, e]
        by_cases y : B.1 (2 * k + 1) = 16
        · rw [if_pos y] at e1
          rw [e1] at q
          have q : B.1 (2 * k + 1) = (p : Int) := q
          omega
        · rw [if_neg y] at e1
          rw [e1] at q
          have q : B.1 (2 * k) = (p : Int) := q
          have := b16.resolve_right y
          omega
      have e0 := jE k hk
      by_cases e : ps p = 2 * k ∨ ps p = 2 * k + 1
      · rw [if_pos e]
        have hp' : B.1 (ps p) = (p : Int) := by
          rcases jA p hp with ⟨-, q2, -⟩ | ⟨s, q1, q2, -⟩
          · exact q2
          · omega
        have ne : 0 ≤ B.1 (2 * k) → B.1 (2 * k) < (n : Int) → B.1 (2 * k) ≠ B.1 (2 * k + 1) := e0
        have ad : (bif decide (kd ≠ 1 ∧ B.1 (2 * k + (1 - sd).toNat) = (p : Int)) then (1 : Int) else 0) = if sd = ((ps p % 2 : Nat) : Int) then 0 else 1 := by
          by_cases q : ps p = 2 * k + (1 - sd).toNat
          · rw [← q, decide_eq_true ⟨nb (by rw [← q]; exact hp'), hp'⟩, if_neg (by omega)]
            rfl
          · have q' : ¬ (kd ≠ 1 ∧ B.1 (2 * k + (1 - sd).toNat) = (p : Int)) := fun y => by
              rcases e with e | e
              · rw [e] at hp'
                have : 2 * k + (1 - sd).toNat = 2 * k + 1 := by omega
                rw [this] at y
                exact ne (by omega) (by omega) (by rw [hp', y.2])
              · rw [e] at hp'
                have : 2 * k + (1 - sd).toNat = 2 * k := by omega
                rw [this] at y
                exact ne (by omega) (by omega) (by rw [hp', y.2])
            rw [decide_eq_false q', if_pos (by omega)]
            rfl
        rw [ad]
        have pl0 : plw z B (ps p) = tlw z (ps p) := by
          unfold plw
          rw [if_pos (by omega)]
        rw [pl0]
        rcases GO _ e with ⟨t1, t2, t3, t4⟩ | ⟨t1, -⟩
        · rw [plw_lo (show nwp z x k sd (ps p) < 64 by omega), t4]
        · rw [t1, plw_hi, show ps p / 2 = k by omega, Wk.2]
      · rw [if_neg e]
        have q' : ¬ (kd ≠ 1 ∧ B.1 (2 * k + (1 - sd).toNat) = (p : Int)) := fun y => by
          have := (jB (2 * k + (1 - sd).toNat) p (by omega) hp y.2).1 (by rw [show (2 * k + (1 - sd).toNat) / 2 = k by omega]; exact a0)
          omega
        rw [decide_eq_false q']
        show plw z B (ps p) + 0 = _
        rw [Int.add_zero]
        unfold plw
        by_cases q : ps p < 64
        · rw [if_pos q, if_pos q]
        · rw [if_neg q, if_neg q]
          rcases jA p hp with ⟨q1, -, -⟩ | ⟨s, q1, q2, q3, q4, q5⟩
          · omega
          · rw [q2, show 64 + s - 64 = s by omega, (W (s / 2) (fun y => q4 (by rw [y]; exact a0))).2]
    · rcases NW s with o | ⟨i, hi, t1, t2, t3⟩
      · rw [o]; exact jD s hs2
      · rw [t3]; exact jD i (by omega)
    · obtain ⟨p, hp⟩ : ∃ p : Nat, B'.1 (2 * m) = (p : Int) := ⟨(B'.1 (2 * m)).toNat, by omega⟩
      have hpn : p < n := by omega
      have g1 := B'' (2 * m) p (by omega) hpn hp
      have g2 := B'' (2 * m + 1) p (by omega) hpn (by rw [← q2]; exact hp)
      rw [show 2 * m / 2 = m by omega] at g1
      rw [show (2 * m + 1) / 2 = m by omega] at g2
      by_cases y : B'.2.1 m = 0
      · have g1 := g1.1 y
        have g2 := g2.1 y
        omega
      · by_cases mk : m = k
        · subst mk
          rw [L _ (by omega)] at q0 q1 q2
          rw [L _ (by omega)] at q2
          exact jE m hm q0 q1 q2
        · rw [(W m mk).1] at y
          have b0 : B'.1 (2 * m) = B.1 (2 * m) := bin m hm mk y 0 (Or.inl rfl)
          have b1 : B'.1 (2 * m + 1) = B.1 (2 * m + 1) := bin m hm mk y 1 (Or.inr rfl)
          rw [b0] at q0 q1 q2
          rw [b1] at q2
          exact jE m hm q0 q1 q2
    · rw [(W m (by omega)).1]
      exact j2 m (by omega) q2
theorem cnt_zero {p : Nat → Bool} : ∀ N : Nat, (∀ m, m < N → p m = false) → cnt p N = 0 := by
  intro N
  induction N with
  | zero => intro _; rfl
  | succ N ih =>
    intro h
    show cnt p N + _ = 0
    rw [ih (fun m hm => h m (by omega)), h N (by omega)]
    rfl
theorem jJ_beg (hc : cfg z x) (hn : n ≤ z) (h : gbeg z n B) : ∃ ps, jJ z n 0 B ps := by
  obtain ⟨f1, f2, f3, f4⟩ := cfg_F hc
  have z16 : z ≤ 16 := by omega
  have ex : ∀ p : Nat, ∃ s : Nat, p < n → s < z ∧ tSD z s = (p : Int) := fun p => by
    by_cases q : p < n
    · obtain ⟨k, k1, k2⟩ := (tb_seed hc p (by omega)).2.2
      exact ⟨k, fun _ => ⟨k1, k2⟩⟩
    · exact ⟨0, fun y => absurd y q⟩
  obtain ⟨ps, hps⟩ := Classical.axiomOfChoice ex
  have hB : ∀ s p : Nat, s < 2 * tF z → p < n → B.1 s = (p : Int) → ps p = s := fun s p hs hp he => by
    rw [h.1 s hs] at he
    by_cases c : s < z
    · rw [if_pos c] at he
      unfold tini at he
      obtain ⟨g1, g2⟩ := hps p hp
      by_cases c2 : tSD z s < (n : Int)
      · rw [if_pos c2] at he
        exact ((tb_seed hc s c).2.1 _ g1 (by rw [he, g2])).symm
      · rw [if_neg c2] at he
        omega
    · rw [if_neg c] at he
      omega
  refine ⟨ps, fun p hp => ?_, fun s p hs hp he => ⟨fun _ => hB s p hs hp he, fun q => absurd (h.2 _ (by omega)).1 q⟩, fun p hp => ?_, fun s hs => ?_, fun m hm q0 q1 q2 => ?_, fun m _ hm => (h.2 m hm).1⟩
  · obtain ⟨g1, g2⟩ := hps p hp
    refine Or.inl ⟨by omega, ?_, (h.2 _ (by omega)).1⟩
    rw [h.1 _ (by omega), if_pos g1]
    unfold tini
    rw [if_pos (by omega), g2]
  · obtain ⟨g1, g2⟩ := hps p hp
    unfold blos plw
    rw [if_pos (by omega), tb_lw0 hc _ g1]
    refine cnt_zero _ (fun m hm => decide_eq_false ?_)
    unfold bl
    rw [if_pos (h.2 m hm).1]
    omega
  · rw [h.1 s hs]
    by_cases c : s < z
    · rw [if_pos c]
      have t := (tb_seed hc s c).1
      unfold tini
      by_cases c2 : tSD z s < (n : Int)
      · rw [if_pos c2]
        omega
      · rw [if_neg c2]
        exact Or.inr (Or.inl rfl)
    · rw [if_neg c]
      exact Or.inl rfl
  · obtain ⟨p, hp⟩ : ∃ p : Nat, B.1 (2 * m) = (p : Int) := ⟨(B.1 (2 * m)).toNat, by omega⟩
    have g1 := hB (2 * m) p (by omega) (by omega) hp
    have g2 := hB (2 * m + 1) p (by omega) (by omega) (by rw [← q2]; exact hp)
    omega
/-- at every match of a course: it hangs together, and everyone sits somewhere -/
theorem jJ_run (hc : cfg z x) (hr : rlok rl) (hn : n ≤ z) (h : gbeg z n B) : ∀ k, k ≤ tF z → ∃ ps, jJ z n k (grun z x rl B k) ps := by
  obtain ⟨f1, f2, f3, f4⟩ := cfg_F hc
  intro k
  induction k with
  | zero => intro _; exact jJ_beg hc hn h
  | succ k ih =>
    intro hk
    obtain ⟨ps, g⟩ := ih (by omega)
    exact jJ_step hc hr (by omega) (by omega) (gS_run hc hr (gS_beg hc h) k (by omega)) g
end JST
