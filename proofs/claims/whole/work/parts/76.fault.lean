/-! both sides: the fault of a text -/
theorem tk0 {s r : Int} : tk s (0, r) = if s = 119 then some (3, r) else tfst s 1 := rfl
theorem tk1 {s r : Int} : tk s (1, r) = if s = 97 ∨ s = 98 then some (2, r) else tdig s 30 (1, r) := rfl
theorem tk2 {s r : Int} : tk s (2, r) = if s = 44 then some (0, r) else none := rfl
theorem tk3 {s r : Int} : tk s (3, r) = tfst s 4 := rfl
theorem tk4 {s r : Int} : tk s (4, r) = if s = 44 then some (0, r) else tdig s 15 (4, r) := rfl
theorem tfst_y {s x : Int} (h : dig s) : tfst s x = some (x, s - 48) := by
  unfold tfst
  rw [if_pos h]
theorem tfst_n {s x : Int} (h : ¬ dig s) : tfst s x = none := by
  unfold tfst
  rw [if_neg h]
theorem tdig_y {s g : Int} {q : Int × Int} (h : dig s ∧ ¬ q.2 = 0 ∧ 10 * q.2 + (s - 48) ≤ g) : tdig s g q = some (q.1, 10 * q.2 + (s - 48)) := by
  unfold tdig
  rw [if_pos h]
theorem tdig_n {s g : Int} {q : Int × Int} (h : ¬ (dig s ∧ ¬ q.2 = 0 ∧ 10 * q.2 + (s - 48) ≤ g)) : tdig s g q = none := by
  unfold tdig
  rw [if_neg h]
section FLT
variable {G K : PW} {N : Nat}
theorem psg_N (hN : K 0 4 = (N : Int)) {s : Int} (h : (N : Int) ≤ s) : psg K s = 0 := by
  unfold psg
  rw [if_neg (by omega)]
/-- behind an act of a withdrawal -/
theorem l_wd (hs : ∀ s : Int, 0 ≤ s → sgn G s = psg K s) (hN : K 0 4 = (N : Int)) {e : Nat} {v : Int} (he : e ≤ N) (hv : ¬ (dig (psg K (e : Int)) ∧ ¬ v = 0 ∧ 10 * v + (psg K (e : Int) - 48) ≤ 15)) : fdx G N e (4, v) = Fa K N (e : Int) 0 (fdx G N (e + 1) (0, v)) := by
  unfold Fa
  rw [if_neg (by decide)]
  by_cases c : e = N
  · subst c
    rw [fdx_e, if_pos (Or.inr rfl), psg_N hN (Int.le_refl _), if_neg (by decide), if_neg (by omega)]
  · have hlt : e < N := by omega
    by_cases c1 : psg K (e : Int) = 44
    · rw [if_pos c1]
      exact fdx_t hlt (by rw [hs _ (by omega), tk4, if_pos c1])
    · rw [if_neg c1, if_pos (by omega)]
      exact fdx_n hlt (by rw [hs _ (by omega), tk4, if_neg c1, tdig_n hv])
/-- behind an act of a result -/
theorem l_re (hs : ∀ s : Int, 0 ≤ s → sgn G s = psg K s) (hN : K 0 4 = (N : Int)) {e : Nat} {v : Int} (he : e ≤ N) : fdx G N e (2, v) = Fa K N (e : Int) 0 (fdx G N (e + 1) (0, v)) := by
  unfold Fa
  rw [if_neg (by decide)]
  by_cases c : e = N
  · subst c
    rw [fdx_e, if_pos (Or.inl rfl), psg_N hN (Int.le_refl _), if_neg (by decide), if_neg (by omega)]
  · have hlt : e < N := by omega
    by_cases c1 : psg K (e : Int) = 44
    · rw [if_pos c1]
      exact fdx_t hlt (by rw [hs _ (by omega), tk2, if_pos c1])
    · rw [if_neg c1, if_pos (by omega)]
      exact fdx_n hlt (by rw [hs _ (by omega), tk2, if_neg c1])
/-- behind the digits of a match -/
theorem l_ab (hs : ∀ s : Int, 0 ≤ s → sgn G s = psg K s) (hN : K 0 4 = (N : Int)) {e : Nat} {v : Int} (he : e ≤ N) (hv : ¬ (dig (psg K (e : Int)) ∧ ¬ v = 0 ∧ 10 * v + (psg K (e : Int) - 48) ≤ 30)) : (psg K (e : Int) = 97 ∨ psg K (e : Int) = 98 → e < N ∧ fdx G N e (1, v) = Fa K N ((e + 1 : Nat) : Int) 0 (fdx G N (e + 1 + 1) (0, v))) ∧ (¬ (psg K (e : Int) = 97 ∨ psg K (e : Int) = 98) → fdx G N e (1, v) = (e : Int)) := by
  constructor
  · intro c
    have hlt : e < N := Decidable.byContradiction (fun y => by
      rw [psg_N hN (show (N : Int) ≤ (e : Int) by omega)] at c
      omega)
    refine ⟨hlt, ?_⟩
    rw [fdx_t hlt (q' := (2, v)) (by rw [hs _ (by omega), tk1, if_pos c])]
    exact l_re hs hN (by omega)
  · intro c
    by_cases c1 : e = N
    · subst c1
      rw [fdx_e, if_neg (show ¬ ((1 : Int) = 2 ∨ (1 : Int) = 4) by decide)]
    · exact fdx_n (by omega) (by rw [hs _ (by omega), tk1, if_neg c, tdig_n hv])
/-- AN ACT: the class' reader and the reference's -/
theorem l_act (hs : ∀ s : Int, 0 ≤ s → sgn G s = psg K s) (hN : K 0 4 = (N : Int)) {s : Nat} (hsN : s ≤ N) (r : Int) : ∃ r' : Int, (0 ≤ (tact K (s : Int) 0).2.2.1 ∧ (tact K (s : Int) 0).2.2.1 ≤ (N : Int)) ∧ fdx G N s (0, r) = Fa K N (tact K (s : Int) 0).2.2.1 (tact K (s : Int) 0).2.2.2 (fdx G N ((tact K (s : Int) 0).2.2.1.toNat + 1) (0, r')) := by
  have z : ∀ i : Nat, N ≤ i → psg K (i : Int) = 0 := fun i hi => psg_N hN (by omega)
  have lt : ∀ i : Nat, psg K (i : Int) ≠ 0 → i < N := fun i hi => Decidable.byContradiction (fun y => hi (z i (by omega)))
  by_cases c : psg K (s : Int) = 119
  · have s1 : s < N := lt s (by omega)
    have e1 : (s : Int) + 1 = ((s + 1 : Nat) : Int) := by omega
    have e2 : ((s + 1 : Nat) : Int) + 1 = ((s + 2 : Nat) : Int) := by omega
    have e3 : ((s + 1 : Nat) : Int) + 2 = ((s + 3 : Nat) : Int) := by omega
    have ta : tact K (s : Int) 0 = (100 + (tnum K 15 ((s + 1 : Nat) : Int) 0).1, 0, (tnum K 15 ((s + 1 : Nat) : Int) 0).2.1, (tnum K 15 ((s + 1 : Nat) : Int) 0).2.2) := by
      unfold tact tactS tactW
      rw [if_pos c, if_pos c, if_pos c, e1]
    have st1 : fdx G N s (0, r) = fdx G N (s + 1) (3, r) := fdx_t s1 (by rw [hs _ (by omega), tk0, if_pos c])
    rw [ta, st1]
    dsimp only
    unfold tnum
    by_cases c1 : dig (psg K ((s + 1 : Nat) : Int))
    · have s2 : s + 1 < N := lt (s + 1) (by omega)
      have st2 : fdx G N (s + 1) (3, r) = fdx G N (s + 2) (4, psg K ((s + 1 : Nat) : Int) - 48) := fdx_t s2 (by rw [hs _ (by omega), tk3, tfst_y c1])
      rw [if_pos c1, st2, e2, e3]
      by_cases c2 : 0 < psg K ((s + 1 : Nat) : Int) - 48 ∧ dig (psg K ((s + 2 : Nat) : Int)) ∧ 10 * (psg K ((s + 1 : Nat) : Int) - 48) + psg K ((s + 2 : Nat) : Int) - 48 ≤ 15
      · have s3 : s + 2 < N := lt (s + 2) (by omega)
        have st3 : fdx G N (s + 2) (4, psg K ((s + 1 : Nat) : Int) - 48) = fdx G N (s + 3) (4, 10 * (psg K ((s + 1 : Nat) : Int) - 48) + (psg K ((s + 2 : Nat) : Int) - 48)) := fdx_t s3 (by rw [hs _ (by omega), tk4, if_neg (by omega), tdig_y ⟨c2.2.1, by dsimp only; omega, by dsimp only; omega⟩])
        rw [if_pos c2, st3]
        dsimp only
        refine ⟨10 * (psg K ((s + 1 : Nat) : Int) - 48) + (psg K ((s + 2 : Nat) : Int) - 48), by omega, ?_⟩
        rw [Int.toNat_natCast]
        exact l_wd hs hN (by omega) (fun y => by omega)
      · rw [if_neg c2]
        dsimp only
        refine ⟨psg K ((s + 1 : Nat) : Int) - 48, by omega, ?_⟩
        rw [Int.toNat_natCast]
        exact l_wd hs hN (by omega) (fun y => c2 ⟨by omega, y.1, by omega⟩)
    · rw [if_neg c1]
      dsimp only
      refine ⟨0, by omega, ?_⟩
      unfold Fa
      rw [if_pos rfl]
      by_cases c2 : s + 1 = N
      · rw [c2, fdx_e, if_neg (show ¬ ((3 : Int) = 2 ∨ (3 : Int) = 4) by decide)]
      · exact fdx_n (by omega) (by rw [hs _ (by omega), tk3, tfst_n c1])
  · have e1 : (s : Int) + 1 = ((s + 1 : Nat) : Int) := by omega
    have e2 : (s : Int) + 2 = ((s + 2 : Nat) : Int) := by omega
    unfold tact tactS tactW
    rw [if_neg c, if_neg c, if_neg c]
    dsimp only
    unfold tnum
    by_cases c1 : dig (psg K (s : Int))
    · have s1 : s < N := lt s (by omega)
      have st1 : fdx G N s (0, r) = fdx G N (s + 1) (1, psg K (s : Int) - 48) := fdx_t s1 (by rw [hs _ (by omega), tk0, if_neg c, tfst_y c1])
      rw [if_pos c1, st1, e1, e2]
      by_cases c2 : 0 < psg K (s : Int) - 48 ∧ dig (psg K ((s + 1 : Nat) : Int)) ∧ 10 * (psg K (s : Int) - 48) + psg K ((s + 1 : Nat) : Int) - 48 ≤ 30
      · have s2 : s + 1 < N := lt (s + 1) (by omega)
        have st2 : fdx G N (s + 1) (1, psg K (s : Int) - 48) = fdx G N (s + 2) (1, 10 * (psg K (s : Int) - 48) + (psg K ((s + 1 : Nat) : Int) - 48)) := fdx_t s2 (by rw [hs _ (by omega), tk1, if_neg (by omega), tdig_y ⟨c2.2.1, by dsimp only; omega, by dsimp only; omega⟩])
        rw [if_pos c2, st2]
        dsimp only
        obtain ⟨b1, b2⟩ := l_ab (e := s + 2) (v := 10 * (psg K (s : Int) - 48) + (psg K ((s + 1 : Nat) : Int) - 48)) hs hN (by omega) (fun y => by omega)
        by_cases c3 : psg K ((s + 2 : Nat) : Int) = 97 ∨ psg K ((s + 2 : Nat) : Int) = 98
        · obtain ⟨b3, b4⟩ := b1 c3
          have e3 : ((s + 2 : Nat) : Int) + 1 = ((s + 3 : Nat) : Int) := by omega
          have i1 : (if (0 : Int) = 0 ∧ (psg K ((s + 2 : Nat) : Int) = 97 ∨ psg K ((s + 2 : Nat) : Int) = 98) then (0 : Int) else 1) = 0 := if_pos ⟨rfl, c3⟩
          rw [i1, if_pos rfl, e3, b4, Int.toNat_natCast]
          exact ⟨_, by omega, rfl⟩
        · have i1 : (if (0 : Int) = 0 ∧ (psg K ((s + 2 : Nat) : Int) = 97 ∨ psg K ((s + 2 : Nat) : Int) = 98) then (0 : Int) else 1) = 1 := if_neg (fun y => c3 y.2)
          rw [i1, if_neg (show ¬ (1 : Int) = 0 by decide), b2 c3]
          refine ⟨0, by omega, ?_⟩
          unfold Fa
          rw [if_pos rfl]
      · rw [if_neg c2]
        dsimp only
        obtain ⟨b1, b2⟩ := l_ab (e := s + 1) (v := psg K (s : Int) - 48) hs hN (by omega) (fun y => c2 ⟨by omega, y.1, by omega⟩)
        by_cases c3 : psg K ((s + 1 : Nat) : Int) = 97 ∨ psg K ((s + 1 : Nat) : Int) = 98
        · obtain ⟨b3, b4⟩ := b1 c3
          have e3 : ((s + 1 : Nat) : Int) + 1 = ((s + 2 : Nat) : Int) := by omega
          have i1 : (if (0 : Int) = 0 ∧ (psg K ((s + 1 : Nat) : Int) = 97 ∨ psg K ((s + 1 : Nat) : Int) = 98) then (0 : Int) else 1) = 0 := if_pos ⟨rfl, c3⟩
          rw [i1, if_pos rfl, e3, b4, Int.toNat_natCast]
          exact ⟨_, by omega, rfl⟩
        · have i1 : (if (0 : Int) = 0 ∧ (psg K ((s + 1 : Nat) : Int) = 97 ∨ psg K ((s + 1 : Nat) : Int) = 98) then (0 : Int) else 1) = 1 := if_neg (fun y => c3 y.2)
          rw [i1, if_neg (show ¬ (1 : Int) = 0 by decide), b2 c3]
          refine ⟨0, by omega, ?_⟩
          unfold Fa
          rw [if_pos rfl]
    · rw [if_neg c1]
      dsimp only
      have i1 : (if (1 : Int) = 0 ∧ (psg K (s : Int) = 97 ∨ psg K (s : Int) = 98) then (0 : Int) else 1) = 1 := if_neg (fun y => absurd y.1 (by decide))
      rw [i1, if_neg (show ¬ (1 : Int) = 0 by decide)]
      refine ⟨0, by omega, ?_⟩
      unfold Fa
      rw [if_pos rfl]
      by_cases c2 : s = N
      · rw [c2, fdx_e, if_neg (show ¬ ((0 : Int) = 2 ∨ (0 : Int) = 4) by decide)]
      · exact fdx_n (by omega) (by rw [hs _ (by omega), tk0, if_neg c, tfst_n c1])
/-- a memory with the same text -/
def txt (K K' : PW) : Prop := K' 4 = K 4 ∧ K' 0 4 = K 0 4
theorem txt_psg {K K' : PW} (h : txt K K') {s : Int} : psg K' s = psg K s := by
  unfold psg
  rw [h.1, h.2]
theorem txt_tact {K K' : PW} (h : txt K K') {s w : Int} : tact K' s w = tact K s w := by
  unfold tact tactS tactW tnum
  simp only [txt_psg h]
theorem txt_memo {K K' : PW} (h : txt K K') {M : Nat} {a d : Int} : txt K (tmemo K' M a d) := by
  refine ⟨?_, ?_⟩
  · unfold tmemo
    rw [upd_ne (by decide), upd_ne (by decide), upd_ne (by decide)]
    exact h.1
  · exact h.2
theorem flt_val (hs : ∀ s : Int, 0 ≤ s → sgn G s = psg K s) (hN : K 0 4 = (N : Int)) (h60 : N ≤ 60) : ∀ (f : Nat) (K' : PW) (M : Nat) (e : Nat) (w r : Int), txt K K' → e ≤ N → (w = 0 ∨ w = 1) → 65 ≤ f + e → fval (flt f K' M (e : Int) w) = Fa K N (e : Int) w (fdx G N (e + 1) (0, r)) := by
  intro f
  induction f with
  | zero => intro K' M e w r _ he _ hf; omega
  | succ f ih =>
    intro K' M e w r ht he hw hf
    have ef : flt (f + 1) K' M (e : Int) w = if w = 0 ∧ psg K' (e : Int) = 44 then flt f (tmemo K' M (tact K' ((e : Int) + 1) w).1 (tact K' ((e : Int) + 1) w).2.1) (M + 1) (tact K' ((e : Int) + 1) w).2.2.1 (tact K' ((e : Int) + 1) w).2.2.2 else (K', M, (e : Int), w) := rfl
    have e1 : (e : Int) + 1 = ((e + 1 : Nat) : Int) := by omega
    rw [ef, txt_psg ht, txt_tact ht, e1]
    by_cases c : w = 0 ∧ psg K (e : Int) = 44
    · rw [if_pos c]
      have lt : e < N := Decidable.byContradiction (fun y => by
        have := psg_N hN (show (N : Int) ≤ (e : Int) by omega)
        omega)
      obtain ⟨r', ⟨b1, b2⟩, b3⟩ := l_act hs hN (s := e + 1) (by omega) r
      have w01 : (tact K ((e + 1 : Nat) : Int) w).2.2.2 = 0 ∨ (tact K ((e + 1 : Nat) : Int) w).2.2.2 = 1 := by
        have wn : ∀ m s : Int, (tnum K m s w).2.2 = 0 ∨ (tnum K m s w).2.2 = 1 := fun m s => by
          unfold tnum
          by_cases q : dig (psg K s)
          · rw [if_pos q]
            by_cases q2 : 0 < psg K s - 48 ∧ dig (psg K (s + 1)) ∧ 10 * (psg K s - 48) + psg K (s + 1) - 48 ≤ m
            · rw [if_pos q2]
              exact Or.inl c.1
            · rw [if_neg q2]
              exact Or.inl c.1
          · rw [if_neg q]
            exact Or.inr rfl
        unfold tact tactW
        by_cases q : psg K ((e + 1 : Nat) : Int) = 119
        · rw [if_pos q, if_pos q]
          exact wn _ _
        · rw [if_neg q, if_neg q]
          exact ite01
      have g0 := c.1
      subst g0
      obtain ⟨e', he'⟩ : ∃ e' : Nat, (tact K ((e + 1 : Nat) : Int) 0).2.2.1 = (e' : Int) := ⟨(tact K ((e + 1 : Nat) : Int) 0).2.2.1.toNat, by omega⟩
      have grow : e + 1 ≤ e' := by
        have q : ((e + 1 : Nat) : Int) ≤ (tact K ((e + 1 : Nat) : Int) 0).2.2.1 := by
          have tn : ∀ (m s : Int), s ≤ (tnum K m s 0).2.1 := fun m s => by
            unfold tnum
            by_cases q : dig (psg K s)
            · rw [if_pos q]
              by_cases q2 : 0 < psg K s - 48 ∧ dig (psg K (s + 1)) ∧ 10 * (psg K s - 48) + psg K (s + 1) - 48 ≤ m
              · rw [if_pos q2]
                dsimp only
                omega
              · rw [if_neg q2]
                dsimp only
                omega
            · rw [if_neg q]
              exact Int.le_refl _
          unfold tact tactS
          by_cases q : psg K ((e + 1 : Nat) : Int) = 119
          · rw [if_pos q, if_pos q]
            have := tn 15 (((e + 1 : Nat) : Int) + 1)
            dsimp only
            omega
          · rw [if_neg q, if_neg q]
            have := tn 30 ((e + 1 : Nat) : Int)
            dsimp only
            by_cases q2 : tactW K ((e + 1 : Nat) : Int) 0 = 0
            · rw [if_pos q2]
              omega
            · rw [if_neg q2]
              exact this
        omega
      rw [he', ih _ _ e' _ r' (txt_memo ht) (by omega) w01 (by omega)]
      rw [he', Int.toNat_natCast] at b3
      have hf : Fa K N (e : Int) 0 (fdx G N (e + 1) (0, r)) = fdx G N (e + 1) (0, r) := by
        unfold Fa
        rw [if_neg (by decide), if_pos c.2]
      rw [hf, b3]
    · rw [if_neg c]
      unfold fval Fa
      dsimp only
      have eK : K' 0 4 = (N : Int) := ht.2.trans hN
      rcases hw with q | q
      · subst q
        rw [if_neg (show ¬ (0 : Int) = 1 by decide), if_neg (fun y => c ⟨rfl, y⟩)]
        by_cases c2 : (e : Int) < (N : Int)
        · rw [if_pos (Or.inr (by omega)), if_pos c2]
        · rw [if_neg (fun y => y.elim (by decide) (fun y => c2 (by omega))), if_neg c2]
      · subst q
        rw [if_pos (Or.inl rfl), if_pos rfl]
theorem tact_w01 {s : Int} : (tact K s 0).2.2.2 = 0 ∨ (tact K s 0).2.2.2 = 1 := by
  have wn : ∀ m s : Int, (tnum K m s 0).2.2 = 0 ∨ (tnum K m s 0).2.2 = 1 := fun m s => by
    unfold tnum
    by_cases q : dig (psg K s)
    · rw [if_pos q]
      by_cases q2 : 0 < psg K s - 48 ∧ dig (psg K (s + 1)) ∧ 10 * (psg K s - 48) + psg K (s + 1) - 48 ≤ m
      · rw [if_pos q2]
        exact Or.inl rfl
      · rw [if_neg q2]
        exact Or.inl rfl
    · rw [if_neg q]
      exact Or.inr rfl
  unfold tact tactW
  by_cases q : psg K s = 119
  · rw [if_pos q, if_pos q]
    exact wn _ _
  · rw [if_neg q, if_neg q]
    exact ite01
/-- THE FAULT is the same -/
theorem fault_same (h : pads G K) : pfault G = fval (flt0 K) := by
  obtain ⟨-, -, -, hs⟩ := pads_ok h
  obtain ⟨N, n1, n2, n3, -⟩ := h
  obtain ⟨r', ⟨b1, b2⟩, b3⟩ := l_act hs n3 (s := 0) (Nat.zero_le _) (G 37 3)
  have b1 : 0 ≤ (tact K 0 0).2.2.1 := b1
  have b2 : (tact K 0 0).2.2.1 ≤ (N : Int) := b2
  have e : pfault G = fdx G N 0 (0, G 37 3) := by
    unfold pfault fdx
    rw [n2, Int.toNat_natCast]
    rfl
  obtain ⟨e', he'⟩ : ∃ e' : Nat, (tact K 0 0).2.2.1 = (e' : Int) := ⟨(tact K 0 0).2.2.1.toNat, by omega⟩
  have b3 : fdx G N 0 (0, G 37 3) = Fa K N (tact K 0 0).2.2.1 (tact K 0 0).2.2.2 (fdx G N ((tact K 0 0).2.2.1.toNat + 1) (0, r')) := b3
  have t0 : txt K (pm_upd K 0 33 0) := ⟨rfl, rfl⟩
  rw [e, b3]
  unfold flt0
  rw [he', Int.toNat_natCast]
  exact (flt_val hs n3 n1 65 _ _ e' _ r' (txt_memo t0) (by omega) tact_w01 (by omega)).symm
end FLT
