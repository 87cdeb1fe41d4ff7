/-! both sides: the pad -/
section PAD
variable {G K : PW}
theorem apd_38 {k : Nat} : ∀ (i : Nat) (G : PW) (N : Nat), G 37 1 = (N : Int) → ∀ j, apd k i G 38 j = if N ≤ j ∧ j < N + i then ((k / 256 ^ (i - 1 - (j - N)) % 256 : Nat) : Int) else G 38 j := by
  intro i
  induction i with
  | zero =>
    intro G N hN j
    rw [if_neg (by omega)]
    rfl
  | succ i ih =>
    intro G N hN j
    have e : apd k (i + 1) G = apd k i (pm_upd (pm_upd G 38 (G 37 1).toNat ((k / 256 ^ i % 256 : Nat) : Int)) 37 1 (G 37 1 + 1)) := rfl
    have l : pm_upd (pm_upd G 38 (G 37 1).toNat ((k / 256 ^ i % 256 : Nat) : Int)) 37 1 (G 37 1 + 1) 37 1 = ((N + 1 : Nat) : Int) := by
      rw [upd_eq, fup_eq, hN]
      omega
    have s : pm_upd (pm_upd G 38 (G 37 1).toNat ((k / 256 ^ i % 256 : Nat) : Int)) 37 1 (G 37 1 + 1) 38 = fup (G 38) N ((k / 256 ^ i % 256 : Nat) : Int) := by
      rw [upd_ne (by decide), upd_eq, hN, Int.toNat_natCast]
    rw [e, ih _ (N + 1) l j, s]
    by_cases c : j = N
    · rw [if_neg (by omega), if_pos (by omega), c, fup_eq, show i + 1 - 1 - (N - N) = i by omega]
    · by_cases c2 : N + 1 ≤ j ∧ j < N + 1 + i
      · rw [if_pos c2, if_pos (by omega), show i + 1 - 1 - (j - N) = i - 1 - (j - (N + 1)) by omega]
      · rw [if_neg c2, if_neg (by omega), fup_ne c]
theorem mpd_4 {k L c : Nat} : ∀ i, ∀ j, mpd k L c K i 4 j = if L ≤ j ∧ j < L + i then ((k / 256 ^ (c - 1 - (j - L)) % 256 : Nat) : Int) else K 4 j := by
  intro i
  induction i with
  | zero =>
    intro j
    rw [if_neg (by omega)]
    rfl
  | succ i ih =>
    intro j
    have e : mpd k L c K (i + 1) 4 = fup (mpd k L c K i 4) (L + i) ((k / 256 ^ (c - 1 - i) % 256 : Nat) : Int) := upd_eq
    rw [e]
    by_cases c1 : j = L + i
    · rw [c1, fup_eq, if_pos (by omega), show L + i - L = i by omega]
    · rw [fup_ne c1, ih j]
      by_cases c2 : L ≤ j ∧ j < L + i
      · rw [if_pos c2, if_pos (by omega)]
      · rw [if_neg c2, if_neg (by omega)]
theorem pads_ok (h : pads G K) : pad_ok G ∧ ptx K ∧ (0 ≤ G 37 3 ∧ G 37 3 ≤ 30) ∧ ∀ s : Int, 0 ≤ s → sgn G s = psg K s := by
  obtain ⟨N, n1, n2, n3, n4, n5, n6⟩ := h
  refine ⟨⟨by omega, by omega, fun j hj => (n5 j hj).1⟩, ⟨by omega, by omega, fun j hj => (n5 j hj).2⟩, n6, fun s hs => ?_⟩
  unfold sgn psg
  rw [n2, n3]
  by_cases c : s < (N : Int)
  · rw [if_pos (by omega), if_pos c]
    exact n4 s.toNat (by omega)
  · rw [if_neg (by omega), if_neg c]
theorem b_put (h : REL G K) {x : Int64} : both 82 155 [.inr (.inl x)] G K := by
  obtain ⟨po, px, -, -⟩ := pads_ok h.2.2.2.2
  obtain ⟨a, b, c, d, N, n1, n2, n3, n4, n5, n6⟩ := h
  have cr := c_put (x := x) po
  have mr := m_put (x := x) (G := K) n3 n1
  rw [n2] at cr
  have rg := chn_rg 8 (lgn x) 0 (by omega)
  by_cases c0 : chn 8 (lgn x) 0 = 0
  · rw [if_pos c0] at cr mr
    exact ⟨_, _, _, cr, mr, a, b, c, d, N, n1, n2, n3, n4, n5, n6⟩
  · rw [if_neg c0] at cr mr
    by_cases c1 : 60 < (N : Int) + chn 8 (lgn x) 0
    · rw [if_pos c1] at cr mr
      exact ⟨_, _, _, cr, mr, a, b, c, d, N, n1, n2, n3, n4, n5, n6⟩
    · rw [if_neg c1] at cr mr
      refine ⟨_, _, _, cr, mr, ?_⟩
      obtain ⟨ch, hch⟩ : ∃ ch : Nat, chn 8 (lgn x) 0 = (ch : Int) := ⟨(chn 8 (lgn x) 0).toNat, by omega⟩
      rw [hch, Int.toNat_natCast]
      rw [hch] at c0 c1 rg
      have g1 : ∀ r, r ≠ 37 → r ≠ 38 → apd (lgn x) ch G r = G r := fun r q1 q2 => apd_ne q1 q2 ch G
      have g2 : apd (lgn x) ch G 37 1 = ((N + ch : Nat) : Int) := by
        rw [apd_len, n2]
        omega
      have g3 : apd (lgn x) ch G 37 3 = G 37 3 := by
        have : ∀ (i : Nat) (G : PW), apd (lgn x) i G 37 3 = G 37 3 := by
          intro i
          induction i with
          | zero => intro G; rfl
          | succ i ih =>
            intro G
            exact (ih _).trans rfl
        exact this ch G
      have g4 := apd_38 (k := lgn x) ch G N n2
      have k1 : ∀ r, r ≠ 4 → r ≠ 0 → pm_upd (mpd (lgn x) N ch K ch) 0 4 ((N : Int) + (ch : Int)) r = K r := fun r q1 q2 => by rw [upd_ne q2, mpd_ne q1]
      have k0 : pm_upd (mpd (lgn x) N ch K ch) 0 4 ((N : Int) + (ch : Int)) 0 4 = ((N + ch : Nat) : Int) := by
        rw [upd_eq, fup_eq]
        omega
      have k4 : ∀ j, pm_upd (mpd (lgn x) N ch K ch) 0 4 ((N : Int) + (ch : Int)) 4 j = if N ≤ j ∧ j < N + ch then ((lgn x / 256 ^ (ch - 1 - (j - N)) % 256 : Nat) : Int) else K 4 j := fun j => by
        rw [upd_ne (by decide)]
        exact mpd_4 ch j
      obtain ⟨n, m, L, t, l⟩ := a
      refine ⟨⟨n, m, L, ?_, livs_of l (fun r q => g1 r (by omega) (by omega))⟩, ⟨?_, ?_⟩, ?_, ?_, N + ch, by omega, g2, k0, fun j hj => ?_, fun j hj => ?_, ?_⟩
      · rw [g1 1 (by decide) (by decide), g1 36 (by decide) (by decide), k1 1 (by decide) (by decide)]; exact t
      · rw [g1 13 (by decide) (by decide)]; exact b.1
      · rw [g1 29 (by decide) (by decide)]; exact b.2
      · have s := slo_same (G' := apd (lgn x) ch G) c (fun r q1 q2 => g1 r (by omega) (by omega))
        unfold slo at s ⊢
        rw [k1 3 (by decide) (by decide), k1 2 (by decide) (by decide)]
        exact s
      · have s := slo_same (G' := apd (lgn x) ch G) d (fun r q1 q2 => g1 r (by omega) (by omega))
        unfold slo at s ⊢
        rw [k1 3 (by decide) (by decide), k1 2 (by decide) (by decide)]
        exact s
      · rw [g4 j, k4 j]
        by_cases q : N ≤ j ∧ j < N + ch
        · rw [if_pos q, if_pos q]
        · rw [if_neg q, if_neg q]
          exact n4 j (by omega)
      · rw [g4 j, k4 j]
        by_cases q : N ≤ j ∧ j < N + ch
        · rw [if_pos q, if_pos q]
          have := Nat.mod_lt (lgn x / 256 ^ (ch - 1 - (j - N))) (show 0 < 256 by decide)
          omega
        · rw [if_neg q, if_neg q]
          exact n5 j hj
      · rw [g3]
        exact n6
/-- the pad emptied -/
theorem REL_wiped (h : REL G K) : REL (pm_upd G 37 1 0) (pm_upd K 0 4 0) := by
  obtain ⟨⟨n, m, L, t, l⟩, b, c, d, N, n1, n2, n3, n4, n5, n6⟩ := h
  have g1 : ∀ r, r ≠ 37 → pm_upd G 37 1 0 r = G r := fun r q => upd_ne q
  have k1 : ∀ r, r ≠ 0 → pm_upd K 0 4 0 r = K r := fun r q => upd_ne q
  refine ⟨⟨n, m, L, ?_, livs_of l (fun r q => g1 r (by omega))⟩, ⟨?_, ?_⟩, ?_, ?_, 0, by omega, rfl, rfl, fun j hj => absurd hj (Nat.not_lt_zero j), fun j hj => ?_, n6⟩
  · rw [g1 1 (by decide), g1 36 (by decide), k1 1 (by decide)]; exact t
  · rw [g1 13 (by decide)]; exact b.1
  · rw [g1 29 (by decide)]; exact b.2
  · have s := slo_same (G' := pm_upd G 37 1 0) c (fun r q1 q2 => g1 r (by omega))
    unfold slo at s ⊢
    rw [k1 3 (by decide), k1 2 (by decide)]
    exact s
  · have s := slo_same (G' := pm_upd G 37 1 0) d (fun r q1 q2 => g1 r (by omega))
    unfold slo at s ⊢
    rw [k1 3 (by decide), k1 2 (by decide)]
    exact s
  · rw [g1 38 (by decide), k1 4 (by decide)]
    exact n5 j hj
theorem b_wipe (h : REL G K) : both 83 156 [] G K := by
  have e : G 37 1 = K 0 4 := by
    obtain ⟨N, n1, n2, n3, -⟩ := h.2.2.2.2
    rw [n2, n3]
  have cr := c_wipe (G := G)
  rw [e] at cr
  exact ⟨_, _, _, cr, m_wipe, REL_wiped h⟩
/-- where the class' reader ends from sign s on -/
def fdx (G : PW) (N : Nat) (s : Nat) (q : Int × Int) : Int := (ffd G (N - s) (s : Int) q).1
theorem fdx_s {N s : Nat} {q : Int × Int} (h : s < N) : fdx G N s q = match tk (sgn G (s : Int)) q with
    | none => (s : Int)
    | some q' => fdx G N (s + 1) q' := by
  unfold fdx
  rw [show N - s = (N - (s + 1)) + 1 by omega]
  show (match tk (sgn G (s : Int)) q with
    | none => ((s : Int), q)
    | some q' => ffd G (N - (s + 1)) ((s : Int) + 1) q').1 = _
  cases tk (sgn G (s : Int)) q with
  | none => rfl
  | some q' =>
    have e : (s : Int) + 1 = ((s + 1 : Nat) : Int) := by omega
    rw [e]
theorem fdx_n {N s : Nat} {q : Int × Int} (h : s < N) (ht : tk (sgn G (s : Int)) q = none) : fdx G N s q = (s : Int) := by
  rw [fdx_s h, ht]
theorem fdx_t {N s : Nat} {q q' : Int × Int} (h : s < N) (ht : tk (sgn G (s : Int)) q = some q') : fdx G N s q = fdx G N (s + 1) q' := by
  rw [fdx_s h, ht]
theorem fdx_e {N : Nat} {q : Int × Int} : fdx G N N q = if q.1 = 2 ∨ q.1 = 4 then -6 else (N : Int) := by
  unfold fdx
  rw [Nat.sub_self]
  rfl
end PAD
/-- what follows an act that ends at sign e -/
def Fa (G : PW) (N : Nat) (e w r : Int) : Int := if w = 1 then e else if psg G e = 44 then r else if e < (N : Int) then e else -6
