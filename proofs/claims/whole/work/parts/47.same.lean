/-! the class' matches and the reference's: the same, one by one -/
def wsx (T D : Nat → Int) (m : Nat) : Int := if T m = -6 then -6 else 2 * T m + D m
/-- ways that lead on, to matches below F -/
def won (F : Nat) (T D : Nat → Int) (m : Nat) : Prop := T m = -6 ∨ (((m : Int) < T m ∧ T m < (F : Int)) ∧ 0 ≤ D m ∧ D m ≤ 1)
def rel (F k : Nat) (B : BB) (C : R4) : Prop := (∀ s, s < 2 * F → C.1 s = B.1 s) ∧ (∀ m, m < k → C.2.1 m = B.2.1 m ∧ (B.2.1 m = 0 → C.2.2.1 m = -6 ∧ C.2.2.2 m = -6) ∧ (¬ B.2.1 m = 0 → C.2.2.1 m = B.1 (2 * m + (B.2.2 m).toNat) ∧ C.2.2.2 m = B.1 (2 * m + (1 - B.2.2 m).toNat))) ∧ (∀ m, k ≤ m → m < F → B.2.1 m = 0) ∧ ∀ m, m < k → ¬ B.2.1 m = 0 → B.2.2 m = 0 ∨ B.2.2 m = 1
theorem fup_eq {f : Nat → Int} {k : Nat} {x : Int} : fup f k x k = x := by
  unfold fup
  rw [if_pos rfl]
theorem fup_ne {f : Nat → Int} {k j : Nat} {x : Int} (h : j ≠ k) : fup f k x j = f j := by
  unfold fup
  rw [if_neg h]
theorem agree_fup {N : Nat} {f g : Nat → Int} {k : Nat} {x y : Int} (h : ∀ s, s < N → f s = g s) (hx : x = y) : ∀ s, s < N → fup f k x s = fup g k y s := fun s hs => by
  unfold fup
  by_cases q : s = k
  · rw [if_pos q, if_pos q, hx]
  · rw [if_neg q, if_neg q, h s hs]
theorem bput_w {F : Nat} {T D : Nat → Int} {m : Nat} {f : Nat → Int} {x : Int} (h : won F T D m) (hF : F ≤ 31) : bput f (wsx T D m) x = if T m = -6 then f else fup f (2 * T m + D m).toNat x := by
  unfold bput wsx
  by_cases c : T m = -6
  · rw [if_pos c, if_pos c, if_neg (by omega)]
  · have h := h.resolve_left c
    rw [if_neg c, if_neg c, if_pos (by omega)]
theorem bput_lo {F : Nat} {T D : Nat → Int} {m : Nat} {f : Nat → Int} {x : Int} (h : won F T D m) (hF : F ≤ 31) {s : Nat} (hs : s < 2 * m + 2) : bput f (wsx T D m) x s = f s := by
  rw [bput_w h hF]
  by_cases c : T m = -6
  · rw [if_pos c]
  · have h := h.resolve_left c
    rw [if_neg c, fup_ne (by omega)]
theorem bdec_lo {F : Nat} {WT WD LT LD : Nat → Int} {m : Nat} {sd kd : Int} {B : BB} (hW : won F WT WD m) (hL : won F LT LD m) (hF : F ≤ 31) {s : Nat} (hs : s < 2 * m + 2) : (bdec (wsx WT WD) (wsx LT LD) F m sd kd B).1 s = B.1 s := by
  unfold bdec
  dsimp only
  by_cases c : m + 2 = F ∧ sd = 1
  · rw [if_pos c, fup_ne (by omega), fup_ne (by omega), bput_lo hL hF hs, bput_lo hW hF hs]
  · rw [if_neg c, bput_lo hL hF hs, bput_lo hW hF hs]
theorem rel_nul {F k : Nat} {B : BB} {C : R4} (h : rel F k B C) (hk : k < F) : rel F (k + 1) B (rnul k C) := by
  obtain ⟨h1, h2, h3, h4⟩ := h
  have hk0 := h3 k (Nat.le_refl _) hk
  refine ⟨h1, fun m hm => ?_, fun m h5 h6 => h3 m (by omega) h6, fun m hm hn => ?_⟩
  · show fup C.2.1 k 0 m = _ ∧ (_ → fup C.2.2.1 k (-6) m = -6 ∧ fup C.2.2.2 k (-6) m = -6) ∧ (_ → fup C.2.2.1 k (-6) m = _ ∧ fup C.2.2.2 k (-6) m = _)
    by_cases q : m = k
    · subst q
      rw [fup_eq, fup_eq, fup_eq, hk0]
      exact ⟨rfl, fun _ => ⟨rfl, rfl⟩, fun z => absurd rfl z⟩
    · rw [fup_ne q, fup_ne q, fup_ne q]
      exact h2 m (by omega)
  · by_cases q : m = k
    · subst q
      exact absurd hk0 hn
    · exact h4 m (by omega) hn
theorem rel_dec {F k : Nat} {WT WD LT LD : Nat → Int} {B : BB} {C : R4} {sd kd : Int} (h : rel F k B C) (hk : k < F) (hF : F ≤ 31) (hW : won F WT WD k) (hL : won F LT LD k) (hs : sd = 0 ∨ sd = 1) (hkd : ¬ kd = 0) (hd : k + 2 = F → B.1 (2 * k) ≠ B.1 (2 * k + 1)) : rel F (k + 1) (bdec (wsx WT WD) (wsx LT LD) F k sd kd B) (rfin F k (C.1 (2 * k)) (C.1 (2 * k + 1)) (rlos LT LD k (rwin WT WD k (rdec k kd sd (rnul k C))))) := by
  obtain ⟨h1, h2, h3, h4⟩ := h
  have c0 := h1 (2 * k) (by omega)
  have c1 := h1 (2 * k + 1) (by omega)
  have x0 : C.1 (2 * k + sd.toNat) = B.1 (2 * k + sd.toNat) := h1 _ (by omega)
  have x1 : C.1 (2 * k + (1 - sd).toNat) = B.1 (2 * k + (1 - sd).toNat) := h1 _ (by omega)
  -- the rest of the four rows
  have e2 : (rfin F k (C.1 (2 * k)) (C.1 (2 * k + 1)) (rlos LT LD k (rwin WT WD k (rdec k kd sd (rnul k C))))).2 = (rdec k kd sd (rnul k C)).2 := by
    have f1 : ∀ X : R4, (rwin WT WD k X).2 = X.2 := fun X => by
      unfold rwin
      by_cases q : WT k = -6
      · rw [if_pos q]
      · rw [if_neg q]
    have f2 : ∀ X : R4, (rlos LT LD k X).2 = X.2 := fun X => by
      unfold rlos
      by_cases q : LT k = -6
      · rw [if_pos q]
      · rw [if_neg q]
    have f3 : ∀ (a b : Int) (X : R4), (rfin F k a b X).2 = X.2 := fun a b X => by
      unfold rfin
      by_cases q : k + 2 = F ∧ X.2.2.1 k = b
      · rw [if_pos q]
      · rw [if_neg q]
    rw [f3, f2, f1]
  have w1 : (rdec k kd sd (rnul k C)).2.2.1 k = C.1 (2 * k + sd.toNat) := fup_eq
  have w2 : (rdec k kd sd (rnul k C)).2.2.2 k = C.1 (2 * k + (1 - sd).toNat) := fup_eq
  refine ⟨?_, fun m hm => ?_, fun m h5 h6 => ?_, fun m hm hn => ?_⟩
  · intro s hs2
    have g1 : ∀ s, s < 2 * F → (rwin WT WD k (rdec k kd sd (rnul k C))).1 s = bput B.1 (wsx WT WD k) (B.1 (2 * k + sd.toNat)) s := by
      rw [bput_w hW hF]
      unfold rwin
      by_cases q : WT k = -6
      · rw [if_pos q, if_pos q]; exact h1
      · rw [if_neg q, if_neg q]
        exact agree_fup h1 (w1.trans x0)
    have gw2 : (rwin WT WD k (rdec k kd sd (rnul k C))).2 = (rdec k kd sd (rnul k C)).2 := by
      unfold rwin
      by_cases q : WT k = -6
      · rw [if_pos q]
      · rw [if_neg q]
    generalize rwin WT WD k (rdec k kd sd (rnul k C)) = X at g1 gw2 ⊢
    have g2 : ∀ s, s < 2 * F → (rlos LT LD k X).1 s = bput (bput B.1 (wsx WT WD k) (B.1 (2 * k + sd.toNat))) (wsx LT LD k) (B.1 (2 * k + (1 - sd).toNat)) s := by
      rw [bput_w hL hF]
      unfold rlos
      by_cases q : LT k = -6
      · rw [if_pos q, if_pos q]; exact g1
      · rw [if_neg q, if_neg q]
        exact agree_fup g1 (by rw [gw2]; exact w2.trans x1)
    have gl2 : (rlos LT LD k X).2 = X.2 := by
      unfold rlos
      by_cases q : LT k = -6
      · rw [if_pos q]
      · rw [if_neg q]
    generalize rlos LT LD k X = Y at g2 gl2 ⊢
    have yw : Y.2.2.1 k = B.1 (2 * k + sd.toNat) := by rw [gl2, gw2, w1, x0]
    unfold rfin bdec
    dsimp only
    by_cases q : k + 2 = F
    · have hd := hd q
      rcases hs with z | z
      · subst z
        have yw : Y.2.2.1 k = B.1 (2 * k) := yw
        rw [if_neg (fun z => hd (by rw [← c1, ← z.2, yw])), if_neg (fun z => absurd z.2 (by decide))]
        exact g2 s hs2
      · subst z
        have yw : Y.2.2.1 k = B.1 (2 * k + 1) := yw
        rw [if_pos ⟨q, by rw [yw, c1]⟩, if_pos ⟨q, rfl⟩]
        exact agree_fup (agree_fup g2 c0) c1 s hs2
    · rw [if_neg (fun z => q z.1), if_neg (fun z => q z.1)]
      exact g2 s hs2
  · rw [e2]
    have l0 : (bdec (wsx WT WD) (wsx LT LD) F k sd kd B).2.1 = fup B.2.1 k kd := rfl
    have l1 : (bdec (wsx WT WD) (wsx LT LD) F k sd kd B).2.2 = fup B.2.2 k sd := rfl
    rw [l0, l1]
    show fup (fup C.2.1 k 0) k kd m = _ ∧ (_ → fup (fup C.2.2.1 k (-6)) k _ m = -6 ∧ fup (fup C.2.2.2 k (-6)) k _ m = -6) ∧ (_ → fup (fup C.2.2.1 k (-6)) k _ m = _ ∧ fup (fup C.2.2.2 k (-6)) k _ m = _)
    by_cases q : m = k
    · subst q
      rw [fup_eq, fup_eq, fup_eq, fup_eq, fup_eq, bdec_lo hW hL hF (by omega), bdec_lo hW hL hF (by omega)]
      exact ⟨rfl, fun z => absurd z hkd, fun _ => ⟨x0, x1⟩⟩
    · have hb := h4 m (by omega)
      obtain ⟨a1, a2, a3⟩ := h2 m (by omega)
      rw [fup_ne q, fup_ne q, fup_ne q, fup_ne q, fup_ne q, fup_ne q, fup_ne q, fup_ne q]
      refine ⟨a1, a2, fun z => ?_⟩
      have hb := hb z
      rw [bdec_lo hW hL hF (by omega), bdec_lo hW hL hF (by omega)]
      exact a3 z
  · show fup B.2.1 k kd m = 0
    rw [fup_ne (by omega)]
    exact h3 m (by omega) h6
  · have hn : ¬ fup B.2.1 k kd m = 0 := hn
    show fup B.2.2 k sd m = 0 ∨ fup B.2.2 k sd m = 1
    by_cases q : m = k
    · subst q
      rw [fup_eq]
      exact hs
    · rw [fup_ne q] at hn ⊢
      exact h4 m (by omega) hn
