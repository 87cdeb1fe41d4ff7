/-! both sides: the fault told, and which acts are read -/
theorem ffd_rg {G : PW} : ∀ (f : Nat) (i : Int) (q : Int × Int), 0 ≤ q.1 ∧ q.1 ≤ 4 → 0 ≤ q.2 ∧ q.2 ≤ 30 → 0 ≤ (ffd G f i q).2.2 ∧ (ffd G f i q).2.2 ≤ 30 := by
  intro f
  induction f with
  | zero => intro i q _ h; exact h
  | succ f ih =>
    intro i q h1 h2
    show 0 ≤ (match tk (sgn G i) q with
      | none => (i, q)
      | some q' => ffd G f (i + 1) q').2.2 ∧ (match tk (sgn G i) q with
      | none => (i, q)
      | some q' => ffd G f (i + 1) q').2.2 ≤ 30
    cases e : tk (sgn G i) q with
    | none => exact h2
    | some q' =>
      obtain ⟨r1, r2⟩ := tk_rg e h1 h2
      exact ih (i + 1) q' r1 r2
section FL2
variable {G K : PW} {N : Nat}
theorem flt_ne : ∀ (f : Nat) (K' : PW) (M : Nat) (s w : Int), (∀ r, r ≠ 0 → r ≠ 24 → r ≠ 25 → (flt f K' M s w).1 r = K' r) ∧ ∀ j, j ≠ 33 → (flt f K' M s w).1 0 j = K' 0 j := by
  intro f
  induction f with
  | zero => intro K' M s w; exact ⟨fun _ _ _ _ => rfl, fun _ _ => rfl⟩
  | succ f ih =>
    intro K' M s w
    have ef : flt (f + 1) K' M s w = if w = 0 ∧ psg K' s = 44 then flt f (tmemo K' M (tact K' (s + 1) w).1 (tact K' (s + 1) w).2.1) (M + 1) (tact K' (s + 1) w).2.2.1 (tact K' (s + 1) w).2.2.2 else (K', M, s, w) := rfl
    rw [ef]
    by_cases c : w = 0 ∧ psg K' s = 44
    · rw [if_pos c]
      obtain ⟨i1, i2⟩ := ih (tmemo K' M (tact K' (s + 1) w).1 (tact K' (s + 1) w).2.1) (M + 1) (tact K' (s + 1) w).2.2.1 (tact K' (s + 1) w).2.2.2
      refine ⟨fun r q1 q2 q3 => ?_, fun j q => ?_⟩
      · rw [i1 r q1 q2 q3]
        unfold tmemo
        rw [upd_ne q1, upd_ne q3, upd_ne q2]
      · rw [i2 j q]
        unfold tmemo
        rw [upd_eq, fup_ne q, upd_ne (by decide), upd_ne (by decide)]
    · rw [if_neg c]
      exact ⟨fun _ _ _ _ => rfl, fun _ _ => rfl⟩
/-- what the reference holds when it has read the text -/
def rdd (K : PW) : PW := rd (flt0 K).1 (flt0 K).2.2.1 (flt0 K).2.2.2
theorem rdd_ne : (∀ r, r ≠ 0 → r ≠ 24 → r ≠ 25 → rdd K r = K r) ∧ ∀ j, j ≠ 29 → j ≠ 30 → j ≠ 33 → rdd K 0 j = K 0 j := by
  obtain ⟨i1, i2⟩ := flt_ne 65 (tmemo (pm_upd K 0 33 0) 0 (tact K 0 0).1 (tact K 0 0).2.1) 1 (tact K 0 0).2.2.1 (tact K 0 0).2.2.2
  refine ⟨fun r q1 q2 q3 => ?_, fun j q1 q2 q3 => ?_⟩
  · unfold rdd flt0
    rw [rd_r q1, i1 r q1 q2 q3]
    unfold tmemo
    rw [upd_ne q1, upd_ne q3, upd_ne q2, upd_ne q1]
  · unfold rdd flt0
    show pm_upd (pm_upd _ 0 29 _) 0 30 _ 0 j = _
    rw [upd_eq, fup_ne q2, upd_eq, fup_ne q1, i2 j q3]
    unfold tmemo
    rw [upd_eq, fup_ne q3, upd_ne (by decide), upd_ne (by decide), upd_eq, fup_ne q3]
theorem pread_ne : (∀ r, r ≠ 37 → pread G r = G r) ∧ ∀ j, j ≠ 2 → j ≠ 3 → pread G 37 j = G 37 j := by
  refine ⟨fun r q => ?_, fun j q1 q2 => ?_⟩
  · unfold pread padst
    rw [upd_ne q, upd_ne q]
  · unfold pread padst
    rw [upd_eq, fup_ne q2, upd_eq, fup_ne q1]
theorem REL_pread (h : REL G K) : REL (pread G) K := by
  obtain ⟨-, -, h3, -⟩ := pads_ok h.2.2.2.2
  refine REL_C h (fun r _ _ q => pread_ne.1 r q) (pread_ne.2 1 (by decide) (by decide)) ?_
  have e : pread G 37 3 = (ffd G (G 37 1).toNat 0 (0, G 37 3)).2.2 := rfl
  rw [e]
  exact ffd_rg _ _ _ (show (0 : Int) ≤ 0 ∧ (0 : Int) ≤ 4 by decide) h3
theorem REL_rdd (h : REL G K) : REL G (rdd K) := by
  obtain ⟨i1, i2⟩ := rdd_ne (K := K)
  exact REL_M h (i1 1 (by decide) (by decide) (by decide)) (i1 2 (by decide) (by decide) (by decide)) (i1 3 (by decide) (by decide) (by decide)) (i1 4 (by decide) (by decide) (by decide)) (i2 4 (by decide) (by decide) (by decide))
theorem b_fault (h : REL G K) : both 84 160 [] G K := by
  obtain ⟨po, px, h3, -⟩ := pads_ok h.2.2.2.2
  have cr := c_fault po h3
  have mr := m_fault px
  rw [fault_same h.2.2.2.2] at cr
  exact ⟨_, _, _, cr, mr, REL_rdd (REL_pread h)⟩
/-- the acts of a text without a fault: m of them, from the k-th on, which begins at sign s -/
def rdl (K : PW) (N : Nat) (T D : Nat → Int) : Nat → Nat → Nat → Prop
  | 0, _, s => N ≤ s
  | m + 1, k, s => s ≤ N ∧ (tact K (s : Int) 0).2.2.2 = 0 ∧ T k = (tact K (s : Int) 0).1 ∧ D k = (tact K (s : Int) 0).2.1 ∧ ∃ e : Nat, (tact K (s : Int) 0).2.2.1 = (e : Int) ∧ s < e ∧ e ≤ N ∧ ((m = 0 ∧ e = N) ∨ (0 < m ∧ psg K (e : Int) = 44)) ∧ rdl K N T D m (k + 1) (e + 1)
theorem tact_gt {s : Int} (h : (tact K s 0).2.2.2 = 0) : s < (tact K s 0).2.2.1 := by
  have tn : ∀ (m s : Int), (tnum K m s 0).2.2 = 0 → s < (tnum K m s 0).2.1 := fun m s q => by
    unfold tnum at q ⊢
    by_cases c : dig (psg K s)
    · rw [if_pos c] at q ⊢
      by_cases c2 : 0 < psg K s - 48 ∧ dig (psg K (s + 1)) ∧ 10 * (psg K s - 48) + psg K (s + 1) - 48 ≤ m
      · rw [if_pos c2]
        dsimp only
        omega
      · rw [if_neg c2]
        dsimp only
        omega
    · rw [if_neg c] at q
      exact absurd (show (1 : Int) = 0 from q) (by decide)
  have hw : tactW K s 0 = 0 := by
    unfold tact at h
    by_cases c : psg K s = 119
    · rw [if_pos c] at h
      exact h
    · rw [if_neg c] at h
      exact h
  unfold tact tactS
  by_cases c : psg K s = 119
  · rw [if_pos c, if_pos c]
    dsimp only
    unfold tactW at hw
    rw [if_pos c] at hw
    have := tn 15 (s + 1) hw
    omega
  · rw [if_neg c, if_neg c, if_pos hw]
    dsimp only
    unfold tactW at hw
    rw [if_neg c] at hw
    have g : (tnum K 30 s 0).2.2 = 0 := Decidable.byContradiction (fun y => by
      rw [if_neg (fun z => y z.1)] at hw
      exact absurd hw (by decide))
    have := tn 30 s g
    omega
theorem flt_acts (hN : K 0 4 = (N : Int)) (h60 : N ≤ 60) : ∀ (f : Nat) (K' : PW) (M e : Nat), txt K K' → K' 0 33 = (M : Int) → e ≤ N → 65 ≤ f + e → fval (flt f K' M (e : Int) 0) = -6 → (flt f K' M (e : Int) 0).1 0 33 = ((flt f K' M (e : Int) 0).2.1 : Int) ∧ M ≤ (flt f K' M (e : Int) 0).2.1 ∧ (∀ k, k < M → (flt f K' M (e : Int) 0).1 24 k = K' 24 k ∧ (flt f K' M (e : Int) 0).1 25 k = K' 25 k) ∧ (((flt f K' M (e : Int) 0).2.1 = M ∧ e = N) ∨ (M < (flt f K' M (e : Int) 0).2.1 ∧ psg K (e : Int) = 44 ∧ rdl K N ((flt f K' M (e : Int) 0).1 24) ((flt f K' M (e : Int) 0).1 25) ((flt f K' M (e : Int) 0).2.1 - M) M (e + 1))) := by
  intro f
  induction f with
  | zero => intro K' M e _ _ he hf; omega
  | succ f ih =>
    intro K' M e ht hM he hf hv
    have ef : flt (f + 1) K' M (e : Int) 0 = if (0 : Int) = 0 ∧ psg K' (e : Int) = 44 then flt f (tmemo K' M (tact K' ((e : Int) + 1) 0).1 (tact K' ((e : Int) + 1) 0).2.1) (M + 1) (tact K' ((e : Int) + 1) 0).2.2.1 (tact K' ((e : Int) + 1) 0).2.2.2 else (K', M, (e : Int), 0) := rfl
    have e1 : (e : Int) + 1 = ((e + 1 : Nat) : Int) := by omega
    rw [txt_psg ht, txt_tact ht, e1] at ef
    rw [ef] at hv ⊢
    by_cases c : psg K (e : Int) = 44
    · rw [if_pos ⟨rfl, c⟩] at hv ⊢
      have lt : e < N := Decidable.byContradiction (fun y => by
        have := psg_N hN (show (N : Int) ≤ (e : Int) by omega)
        omega)
      rcases tact_w01 (K := K) (s := ((e + 1 : Nat) : Int)) with w | w
      · rw [w] at hv ⊢
        have gt := tact_gt w
        obtain ⟨e', he'⟩ : ∃ e' : Nat, (tact K ((e + 1 : Nat) : Int) 0).2.2.1 = (e' : Int) := ⟨(tact K ((e + 1 : Nat) : Int) 0).2.2.1.toNat, by omega⟩
        have eN : e' ≤ N := by
          -- what is read lies in the text
          obtain ⟨-, ⟨-, b2⟩, -⟩ := l_act (G := pm_upd (pm_row K 38 (fun j => K 4 j)) 37 1 (N : Int)) (K := K) (N := N) (fun s hs => by
            unfold sgn psg
            have a1 : pm_upd (pm_row K 38 (fun j => K 4 j)) 37 1 (N : Int) 37 1 = (N : Int) := rfl
            have a2 : pm_upd (pm_row K 38 (fun j => K 4 j)) 37 1 (N : Int) 38 s.toNat = K 4 s.toNat := rfl
            rw [a1, a2, hN]
            by_cases q : s < (N : Int)
            · rw [if_pos (by omega), if_pos q]
            · rw [if_neg (by omega), if_neg q]) hN (s := e + 1) (by omega) 0
          omega
        have tm33 : tmemo K' M (tact K ((e + 1 : Nat) : Int) 0).1 (tact K ((e + 1 : Nat) : Int) 0).2.1 0 33 = ((M + 1 : Nat) : Int) := by
          unfold tmemo
          rw [upd_eq, fup_eq]
          omega
        have t24 : tmemo K' M (tact K ((e + 1 : Nat) : Int) 0).1 (tact K ((e + 1 : Nat) : Int) 0).2.1 24 = fup (K' 24) M (tact K ((e + 1 : Nat) : Int) 0).1 := by
          unfold tmemo
          rw [upd_ne (by decide), upd_ne (by decide), upd_eq]
        have t25 : tmemo K' M (tact K ((e + 1 : Nat) : Int) 0).1 (tact K ((e + 1 : Nat) : Int) 0).2.1 25 = fup (K' 25) M (tact K ((e + 1 : Nat) : Int) 0).2.1 := by
          unfold tmemo
          rw [upd_ne (by decide), upd_eq, upd_ne (by decide)]
        rw [he'] at hv gt ⊢
        obtain ⟨i0, i1, i2, i3⟩ := ih _ (M + 1) e' (txt_memo ht) tm33 eN (by omega) hv
        refine ⟨i0, by omega, fun k hk => ?_, Or.inr ⟨by omega, c, ?_⟩⟩
        · obtain ⟨j1, j2⟩ := i2 k (by omega)
          rw [t24, fup_ne (by omega)] at j1
          rw [t25, fup_ne (by omega)] at j2
          exact ⟨j1, j2⟩
        · obtain ⟨j1, j2⟩ := i2 M (by omega)
          rw [t24, fup_eq] at j1
          rw [t25, fup_eq] at j2
          generalize flt f (tmemo K' M (tact K ((e + 1 : Nat) : Int) 0).1 (tact K ((e + 1 : Nat) : Int) 0).2.1) (M + 1) (e' : Int) 0 = q at *
          obtain ⟨d, hd⟩ : ∃ d, q.2.1 - M = d + 1 := ⟨q.2.1 - M - 1, by omega⟩
          have hd2 : q.2.1 - (M + 1) = d := by omega
          rw [hd]
          refine ⟨by omega, w, j1, j2, e', he', by omega, eN, ?_, ?_⟩
          · rcases i3 with ⟨k1, k2⟩ | ⟨k1, k2, -⟩
            · exact Or.inl ⟨by omega, k2⟩
            · exact Or.inr ⟨by omega, k2⟩
          · rcases i3 with ⟨k1, k2⟩ | ⟨k1, k2, k3⟩
            · have d0 : d = 0 := by omega
              rw [d0]
              show N ≤ e' + 1
              omega
            · rw [hd2] at k3
              exact k3
      · rw [w] at hv
        exfalso
        have gt : 0 ≤ (tact K ((e + 1 : Nat) : Int) 0).2.2.1 := by
          obtain ⟨-, ⟨b1, -⟩, -⟩ := l_act (G := pm_upd (pm_row K 38 (fun j => K 4 j)) 37 1 (N : Int)) (K := K) (N := N) (fun s hs => by
            unfold sgn psg
            have a1 : pm_upd (pm_row K 38 (fun j => K 4 j)) 37 1 (N : Int) 37 1 = (N : Int) := rfl
            have a2 : pm_upd (pm_row K 38 (fun j => K 4 j)) 37 1 (N : Int) 38 s.toNat = K 4 s.toNat := rfl
            rw [a1, a2, hN]
            by_cases q : s < (N : Int)
            · rw [if_pos (by omega), if_pos q]
            · rw [if_neg (by omega), if_neg q]) hN (s := e + 1) (by omega) 0
          exact b1
        have nf : ∀ (f : Nat) (K2 : PW) (M2 : Nat) (s : Int), 0 ≤ s → fval (flt f K2 M2 s 1) = s := fun f K2 M2 s hs => by
          have : flt f K2 M2 s 1 = (K2, M2, s, 1) := by
            cases f with
            | zero => rfl
            | succ f =>
              show (if (1 : Int) = 0 ∧ psg K2 s = 44 then _ else _) = _
              rw [if_neg (fun y => absurd y.1 (by decide))]
          rw [this]
          unfold fval
          rw [if_pos (Or.inl rfl)]
        rw [nf _ _ _ _ gt] at hv
        omega
    · rw [if_neg (fun y => c y.2)] at hv ⊢
      refine ⟨hM, Nat.le_refl _, fun _ _ => ⟨rfl, rfl⟩, Or.inl ⟨rfl, ?_⟩⟩
      unfold fval at hv
      dsimp only at hv
      by_cases c2 : (e : Int) < K' 0 4
      · rw [if_pos (Or.inr c2)] at hv
        omega
      · have := ht.2
        omega
/-- all acts of a pad without a fault -/
theorem acts_all (h : pads G K) (hf : pfault G = -6) : ∃ N m : Nat, K 0 4 = (N : Int) ∧ G 37 1 = (N : Int) ∧ N ≤ 60 ∧ rdd K 0 33 = (m : Int) ∧ m ≤ 30 ∧ rdl K N (rdd K 24) (rdd K 25) m 0 0 := by
  have fs := fault_same h
  obtain ⟨-, -, -, hs⟩ := pads_ok h
  obtain ⟨N, n1, n2, n3, -⟩ := h
  rw [hf] at fs
  obtain ⟨r', ⟨b1, b2⟩, -⟩ := l_act hs n3 (s := 0) (Nat.zero_le _) 0
  have b1 : 0 ≤ (tact K 0 0).2.2.1 := b1
  have b2 : (tact K 0 0).2.2.1 ≤ (N : Int) := b2
  obtain ⟨e, he⟩ : ∃ e : Nat, (tact K 0 0).2.2.1 = (e : Int) := ⟨(tact K 0 0).2.2.1.toNat, by omega⟩
  have t0 : txt K (pm_upd K 0 33 0) := ⟨rfl, rfl⟩
  unfold flt0 at fs
  rcases tact_w01 (K := K) (s := 0) with w | w
  · have gt := tact_gt w
    rw [w, he] at fs
    obtain ⟨i0, i1, i2, i3⟩ := flt_acts n3 n1 65 _ 1 e (txt_memo (M := 0) (a := (tact K 0 0).1) (d := (tact K 0 0).2.1) t0) rfl (by omega) (by omega) fs.symm
    obtain ⟨j1, j2⟩ := i2 0 (by omega)
    have t24 : tmemo (pm_upd K 0 33 0) 0 (tact K 0 0).1 (tact K 0 0).2.1 24 0 = (tact K 0 0).1 := rfl
    have t25 : tmemo (pm_upd K 0 33 0) 0 (tact K 0 0).1 (tact K 0 0).2.1 25 0 = (tact K 0 0).2.1 := rfl
    rw [t24] at j1
    rw [t25] at j2
    have er : rdd K = rd (flt 65 (tmemo (pm_upd K 0 33 0) 0 (tact K 0 0).1 (tact K 0 0).2.1) 1 (e : Int) 0).1 (flt0 K).2.2.1 (flt0 K).2.2.2 := by
      unfold rdd flt0
      rw [w, he]
    rw [er]
    have r24 : ∀ (X : PW) (a b : Int), rd X a b 24 = X 24 := fun X a b => rd_r (by decide)
    have r25 : ∀ (X : PW) (a b : Int), rd X a b 25 = X 25 := fun X a b => rd_r (by decide)
    have r33 : ∀ (X : PW) (a b : Int), rd X a b 0 33 = X 0 33 := fun X a b => rd_33
    rw [r24, r25, r33]
    generalize flt 65 (tmemo (pm_upd K 0 33 0) 0 (tact K 0 0).1 (tact K 0 0).2.1) 1 (e : Int) 0 = q at *
    have mN : ∀ (m k s : Nat), rdl K N (q.1 24) (q.1 25) m k s → 2 * m + s ≤ N + 1 ∨ m = 0 := by
      intro m
      induction m with
      | zero => intro k s _; exact Or.inr rfl
      | succ m ih =>
        intro k s h
        obtain ⟨h1, h2, h3, h4, e, h5, h6, h7, h8, h9⟩ := h
        have := ih _ _ h9
        omega
    have al : rdl K N (q.1 24) (q.1 25) q.2.1 0 0 := by
      obtain ⟨d, hd⟩ : ∃ d, q.2.1 = d + 1 := ⟨q.2.1 - 1, by omega⟩
      rw [hd]
      refine ⟨Nat.zero_le _, w, j1, j2, e, he, by omega, by omega, ?_, ?_⟩
      · rcases i3 with ⟨k1, k2⟩ | ⟨k1, k2, -⟩
        · exact Or.inl ⟨by omega, k2⟩
        · exact Or.inr ⟨by omega, k2⟩
      · rcases i3 with ⟨k1, k2⟩ | ⟨k1, k2, k3⟩
        · have d0 : d = 0 := by omega
          rw [d0]
          show N ≤ e + 1
          omega
        · rw [show q.2.1 - 1 = d by omega] at k3
          exact k3
    have := mN _ _ _ al
    exact ⟨N, q.2.1, n3, n2, n1, i0, by omega, al⟩
  · exfalso
    rw [w, he] at fs
    have : flt 65 (tmemo (pm_upd K 0 33 0) 0 (tact K 0 0).1 (tact K 0 0).2.1) 1 (e : Int) 1 = (tmemo (pm_upd K 0 33 0) 0 (tact K 0 0).1 (tact K 0 0).2.1, 1, (e : Int), 1) := by
      show (if (1 : Int) = 0 ∧ _ then _ else _) = _
      rw [if_neg (fun y => absurd y.1 (by decide))]
    rw [this] at fs
    unfold fval at fs
    rw [if_pos (Or.inl rfl)] at fs
    dsimp only at fs
    omega
end FL2
