/-! the pure machine is sound: what it says of a run, the machine does -/
-- numbers
theorem pm_rg_iff {x : Int} : pm_rg x = true ↔ -2147483648 ≤ x ∧ x ≤ 2147483647 := by
  unfold pm_rg
  rw [Bool.and_eq_true, decide_eq_true_eq, decide_eq_true_eq]
theorem pm_toI {x : Int} (h : pm_rg x = true) : (Int32.ofInt x).toInt = x := by
  obtain ⟨h1, h2⟩ := pm_rg_iff.mp h
  exact Int32.toInt_ofInt_of_le (by omega) (by omega)
theorem pm_inj {x y : Int} (hx : pm_rg x = true) (hy : pm_rg y = true) (h : Int32.ofInt x = Int32.ofInt y) : x = y := by
  have := congrArg Int32.toInt h
  rwa [pm_toI hx, pm_toI hy] at this
theorem pm_clamp {i : Int} (h0 : 0 ≤ i) (h : pm_rg i = true) : (Int32.ofInt i).toNatClampNeg = i.toNat := by
  obtain ⟨h1, h2⟩ := pm_rg_iff.mp h
  exact Int32.toNatClampNeg_ofInt_of_le (by omega) (by omega)
theorem pm_vin {i : Int} {n : Nat} (h0 : 0 ≤ i) (hn : i < (n : Int)) (h : pm_rg i = true) : vp_in (Int32.ofInt i) n := by
  unfold vp_in
  rw [pm_clamp h0 h]
  intro q
  rcases q with q | q
  · rw [Int32.lt_iff_toInt_lt, pm_toI h] at q
    have : (0 : Int32).toInt = 0 := by decide
    omega
  · omega
theorem pm_ofN {x : Int} (h0 : 0 ≤ x) : Int32.ofInt x = nI x.toNat := by
  have e : x = ((x.toNat : Nat) : Int) := by omega
  rw [e, Int32.ofInt_eq_ofNat]
  unfold nI
  congr 1
theorem pm_div {x y : Int} (hx : 0 ≤ x) (hy : 0 < y) (h1 : pm_rg x = true) (h2 : pm_rg y = true) : Int32.ofInt x / Int32.ofInt y = Int32.ofInt (x / y) := by
  obtain ⟨a1, a2⟩ := pm_rg_iff.mp h1
  obtain ⟨b1, b2⟩ := pm_rg_iff.mp h2
  have e : x / y = x.tdiv y := by rw [Int.tdiv_eq_ediv_of_nonneg hx]
  have m1 : Int32.minValue.toInt = -2147483648 := by decide
  have m2 : Int32.maxValue.toInt = 2147483647 := by decide
  rw [e, Int32.ofInt_tdiv (by omega) (by omega) (by omega) (by omega)]
theorem pm_ne0 {y : Int} (hy : 0 < y) (h : pm_rg y = true) : ¬ Int32.ofInt y = 0 := by
  intro q
  have := congrArg Int32.toInt q
  rw [pm_toI h] at this
  have e : (0 : Int32).toInt = 0 := by decide
  omega
theorem pm_div_rg {x y : Int} (hx : 0 ≤ x) (hy : 0 < y) (h1 : pm_rg x = true) : pm_rg (x / y) = true := by
  obtain ⟨a1, a2⟩ := pm_rg_iff.mp h1
  have b1 : 0 ≤ x / y := Int.ediv_nonneg hx (by omega)
  have b2 : x / y ≤ x := Int.ediv_le_self y hx
  exact pm_rg_iff.mpr ⟨by omega, by omega⟩
theorem pm_rem_rg {x y : Int} (hx : 0 ≤ x) (hy : 0 < y) (h1 : pm_rg y = true) : pm_rg (x % y) = true := by
  obtain ⟨a1, a2⟩ := pm_rg_iff.mp h1
  have b1 : 0 ≤ x % y := Int.emod_nonneg x (by omega)
  have b2 : x % y < y := Int.emod_lt_of_pos x hy
  exact pm_rg_iff.mpr ⟨by omega, by omega⟩
theorem pm_s31 : ∀ k, k < 32 → ((nI k &&& 31).toBitVec.smod 32).toNat = k := by decide +kernel
theorem pm_shr {x y : Int} (hx : 0 ≤ x) (hy : 0 ≤ y) (hy2 : y ≤ 31) (h1 : pm_rg x = true) : Int32.ofInt x >>> (Int32.ofInt y &&& 31) = Int32.ofInt (x / 2 ^ y.toNat) := by
  obtain ⟨a1, a2⟩ := pm_rg_iff.mp h1
  have e0 : (0 : Int) ≤ x / 2 ^ y.toNat := Int.ediv_nonneg hx (Int.le_of_lt (Int.pow_pos (by decide)))
  rw [pm_ofN hx, pm_ofN hy, pk_shrN (by omega) _ y.toNat (pm_s31 y.toNat (by omega)), pm_ofN e0]
  congr 1
  have e : x = ((x.toNat : Nat) : Int) := by omega
  rw [e]
  have e2 : (2 : Int) ^ y.toNat = ((2 ^ y.toNat : Nat) : Int) := by simp
  rw [e2, ← Int.natCast_ediv]
  rfl
theorem pm_and1 {x : Int} (hx : 0 ≤ x) (h1 : pm_rg x = true) : Int32.ofInt x &&& Int32.ofInt 1 = Int32.ofInt (x % 2) := by
  obtain ⟨a1, a2⟩ := pm_rg_iff.mp h1
  have e : x = ((x.toNat : Nat) : Int) := by omega
  have hn : x.toNat < 2 ^ 31 := by omega
  rw [e]
  generalize x.toNat = n at hn
  apply Int32.toBitVec.inj
  rw [Int32.toBitVec_and, Int32.toBitVec_ofInt, Int32.toBitVec_ofInt, Int32.toBitVec_ofInt]
  apply BitVec.eq_of_toNat_eq
  rw [BitVec.toNat_and]
  have e1 : (BitVec.ofInt 32 ((n : Nat) : Int)).toNat = n := by
    rw [BitVec.ofInt_natCast, BitVec.toNat_ofNat]
    omega
  have e2 : (BitVec.ofInt 32 1).toNat = 1 := by decide
  have e3 : (BitVec.ofInt 32 (((n : Nat) : Int) % 2)).toNat = n % 2 := by
    rw [show (((n : Nat) : Int) % 2) = ((n % 2 : Nat) : Int) from by omega, BitVec.ofInt_natCast, BitVec.toNat_ofNat]
    omega
  rw [e1, e2, e3, Nat.and_one_is_mod]
theorem pm_i2c {x : Int} (h : pm_fit 1 x = true) : ((Int32.ofInt x).toUInt32 % 65536).toInt32 = Int32.ofInt x := by
  have h : (decide (0 ≤ x) && decide (x ≤ 65535)) = true := h
  rw [Bool.and_eq_true, decide_eq_true_eq, decide_eq_true_eq] at h
  obtain ⟨h0, h1⟩ := h
  have e : x = ((x.toNat : Nat) : Int) := by omega
  have hn : x.toNat < 65536 := by omega
  rw [e]
  generalize x.toNat = n at hn
  apply Int32.toBitVec.inj
  apply BitVec.eq_of_toNat_eq
  have e1 : (BitVec.ofInt 32 ((n : Nat) : Int)).toNat = n := by
    rw [BitVec.ofInt_natCast, BitVec.toNat_ofNat]
    omega
  show ((BitVec.ofInt 32 ((n : Nat) : Int)) % 65536#32).toNat = (BitVec.ofInt 32 ((n : Nat) : Int)).toNat
  rw [BitVec.toNat_umod, e1]
  show n % 65536 = n
  omega
theorem pm_b8 {x : Int} (h1 : -128 ≤ x) (h2 : x ≤ 127) : (Int8.ofInt x).toInt32 = Int32.ofInt x := by
  apply Int32.toInt_inj.mp
  rw [Int8.toInt_toInt32, Int8.toInt_ofInt_of_le (by omega) (by omega), Int32.toInt_ofInt_of_le (by omega) (by omega)]
theorem pm_b16 {x : Int} (h1 : -32768 ≤ x) (h2 : x ≤ 32767) : (Int16.ofInt x).toInt32 = Int32.ofInt x := by
  apply Int32.toInt_inj.mp
  rw [Int16.toInt_toInt32, Int16.toInt_ofInt_of_le (by omega) (by omega), Int32.toInt_ofInt_of_le (by omega) (by omega)]
theorem pm_rgI (x : Int32) : pm_rg x.toInt = true := by
  have h1 := Int32.le_toInt x
  have h2 := Int32.toInt_lt x
  exact pm_rg_iff.mpr ⟨by omega, by omega⟩
-- locals
def pm_tr (A : Nat → Nat) : PV → Value
  | .inl x => .int (Int32.ofInt x)
  | .inr (.inl x) => .long x
  | .inr (.inr r) => .ref (A r)
def pm_asc (A : Nat → Nat) : Nat → PL → List (Nat × Value)
  | _, [] => []
  | i, none :: t => pm_asc A (i + 1) t
  | i, some v :: t => (i, pm_tr A v) :: pm_asc A (i + 1) t
theorem pm_asc_mem {A : Nat → Nat} : ∀ (P : PL) (i : Nat) (q : Nat × Value), q ∈ pm_asc A i P ↔ ∃ (j : Nat) (v : PV), pm_lk P j = some v ∧ q = (i + j, pm_tr A v) := by
  intro P
  induction P with
  | nil => intro i q; simp [pm_asc, pm_lk]
  | cons a t ih =>
    intro i q
    have key : (q ∈ pm_asc A (i + 1) t) ↔ ∃ (j : Nat) (v : PV), pm_lk (a :: t) (j + 1) = some v ∧ q = (i + (j + 1), pm_tr A v) := by
      rw [ih (i + 1) q]
      constructor
      · rintro ⟨j, v, h1, h2⟩
        exact ⟨j, v, h1, by rw [h2]; congr 1; omega⟩
      · rintro ⟨j, v, h1, h2⟩
        exact ⟨j, v, h1, by rw [h2]; congr 1; omega⟩
    cases a with
    | none =>
      show q ∈ pm_asc A (i + 1) t ↔ _
      rw [key]
      constructor
      · rintro ⟨j, v, h⟩; exact ⟨j + 1, v, h⟩
      · rintro ⟨j, v, h1, h2⟩
        cases j with
        | zero => cases h1
        | succ j => exact ⟨j, v, h1, h2⟩
    | some b =>
      show q ∈ (i, pm_tr A b) :: pm_asc A (i + 1) t ↔ _
      rw [List.mem_cons, key]
      constructor
      · rintro (h | ⟨j, v, h⟩)
        · exact ⟨0, b, rfl, h⟩
        · exact ⟨j + 1, v, h⟩
      · rintro ⟨j, v, h1, h2⟩
        cases j with
        | zero => cases h1; exact Or.inl h2
        | succ j => exact Or.inr ⟨j, v, h1, h2⟩
theorem pm_lk_len : ∀ (P : PL) (j : Nat) (v : PV), pm_lk P j = some v → j < P.length := by
  intro P
  induction P with
  | nil => intro j v h; cases h
  | cons a t ih =>
    intro j v h
    cases j with
    | zero => exact Nat.succ_pos _
    | succ j => exact Nat.succ_lt_succ (ih j v h)
theorem pm_lk_st : ∀ (P : PL) (i : Nat) (o : Option PV) (j : Nat), pm_lk (pm_st P i o) j = if j = i ∧ i < P.length then o else pm_lk P j := by
  intro P
  induction P with
  | nil => intro i o j; simp [pm_st]
  | cons a t ih =>
    intro i o j
    cases i with
    | zero =>
      cases j with
      | zero => simp [pm_st, pm_lk]
      | succ j => simp [pm_st, pm_lk]
    | succ i =>
      cases j with
      | zero => simp [pm_st, pm_lk]
      | succ j =>
        show pm_lk (pm_st t i o) j = _
        rw [ih i o j]
        simp [pm_lk]
theorem pm_lk_c1 {P : PL} {i j : Nat} {w : PV} (h : pm_lk (pm_c1 P i) j = some w) : pm_lk P j = some w ∧ (j + 1 = i → ∀ x, w ≠ .inr (.inl x)) := by
  unfold pm_c1 at h
  cases i with
  | zero => exact ⟨h, fun q => absurd q (by omega)⟩
  | succ i =>
    dsimp only at h
    split at h
    · rename_i x hx
      rw [pm_lk_st] at h
      split at h
      · cases h
      · rename_i hne
        refine ⟨h, fun q y hy => ?_⟩
        have : j = i := by omega
        subst this
        exact hne ⟨rfl, pm_lk_len _ _ _ hx⟩
    · rename_i hno
      refine ⟨h, fun q y hy => ?_⟩
      have : j = i := by omega
      subst this
      rw [hy] at h
      exact hno y h
theorem pm_lk_sto {P : PL} {i j : Nat} {v w : PV} (h : pm_lk (pm_sto P i v) j = some w) : (j = i ∧ w = v) ∨ (j ≠ i ∧ pm_lk P j = some w ∧ (j + 1 = i → ∀ x, w ≠ .inr (.inl x))) := by
  unfold pm_sto at h
  rw [pm_lk_st] at h
  split at h
  · rename_i hq
    cases h
    exact Or.inl ⟨hq.1, rfl⟩
  · rename_i hq
    obtain ⟨h1, h2⟩ := pm_lk_c1 h
    by_cases hj : j = i
    · subst hj
      exfalso
      apply hq
      refine ⟨rfl, ?_⟩
      have := pm_lk_len _ _ _ h
      exact this
    · exact Or.inr ⟨hj, h1, h2⟩
theorem pm_lk_stl {P : PL} {i j : Nat} {x : Int64} {w : PV} (h : pm_lk (pm_stl P i x) j = some w) : (j = i ∧ w = .inr (.inl x)) ∨ (j ≠ i ∧ j ≠ i + 1 ∧ pm_lk P j = some w ∧ (j + 1 = i → ∀ x, w ≠ .inr (.inl x))) := by
  unfold pm_stl at h
  rw [pm_lk_st] at h
  split at h
  · rename_i hq
    cases h
    exact Or.inl ⟨hq.1, rfl⟩
  · rename_i hq
    have hl := pm_lk_len _ _ _ h
    rw [pm_lk_st] at h
    split at h
    · cases h
    · rename_i hr
      obtain ⟨h1, h2⟩ := pm_lk_c1 h
      refine Or.inr ⟨fun e => hq ⟨e, by rw [e] at hl; exact hl⟩, fun e => hr ⟨e, ?_⟩, h1, h2⟩
      have := pm_lk_len _ _ _ h
      rw [← e]
      exact this
theorem pm_asc_at {A : Nat → Nat} {ls : Array Slot} {n : Nat} {P : PL} (h : lv_has ls n (pm_asc A 0 P)) {j : Nat} {v : PV} (hl : pm_lk P j = some v) : ls[j]? = some (.val (pm_tr A v)) := by
  have := h.2.2 (j, pm_tr A v) ((pm_asc_mem P 0 _).mpr ⟨j, v, hl, by rw [Nat.zero_add]⟩)
  exact this
theorem pm_cat {A : Nat → Nat} {w : PV} (h : ∀ x, w ≠ .inr (.inl x)) : ¬ (pm_tr A w).category = 2 := by
  rcases w with x | x | x
  · exact (by decide : ¬ (1 : Nat) = 2)
  · exact absurd rfl (h x)
  · exact (by decide : ¬ (1 : Nat) = 2)
theorem pm_asc_sto {A : Nat → Nat} {ls : Array Slot} {n : Nat} {P : PL} {i : Nat} {v : PV} (h : lv_has ls n ((i, pm_tr A v) :: (pm_asc A 0 P).filter (fun q => !(q.1 == i) && !(q.1 + 1 == i && q.2.category == 2)))) : lv_has ls n (pm_asc A 0 (pm_sto P i v)) := by
  refine ⟨h.1, h.2.1, fun q hq => h.2.2 q ?_⟩
  obtain ⟨j, w, h1, rfl⟩ := (pm_asc_mem _ 0 q).mp hq
  rw [Nat.zero_add] at hq ⊢
  rcases pm_lk_sto h1 with ⟨rfl, rfl⟩ | ⟨hj, h2, h3⟩
  · exact List.mem_cons_self
  · refine List.mem_cons_of_mem _ (List.mem_filter.mpr ⟨(pm_asc_mem _ 0 _).mpr ⟨j, w, h2, by rw [Nat.zero_add]⟩, ?_⟩)
    by_cases hji : j + 1 = i
    · have hc := pm_cat (A := A) (h3 hji)
      simp [hj, hc]
    · simp [hj, hji]
theorem pm_asc_stl {A : Nat → Nat} {ls : Array Slot} {n : Nat} {P : PL} {i : Nat} {x : Int64} (h : lv_has ls n ((i, Value.long x) :: (pm_asc A 0 P).filter (fun q => !(q.1 == i) && (!(q.1 == i + 1) && !(q.1 + 1 == i && q.2.category == 2))))) : lv_has ls n (pm_asc A 0 (pm_stl P i x)) := by
  refine ⟨h.1, h.2.1, fun q hq => h.2.2 q ?_⟩
  obtain ⟨j, w, h1, rfl⟩ := (pm_asc_mem _ 0 q).mp hq
  rw [Nat.zero_add] at hq ⊢
  rcases pm_lk_stl h1 with ⟨rfl, rfl⟩ | ⟨hj, hj2, h2, h3⟩
  · exact List.mem_cons_self
  · refine List.mem_cons_of_mem _ (List.mem_filter.mpr ⟨(pm_asc_mem _ 0 _).mpr ⟨j, w, h2, by rw [Nat.zero_add]⟩, ?_⟩)
    by_cases hji : j + 1 = i
    · have hc := pm_cat (A := A) (h3 hji)
      simp [hj, hj2, hc]
    · simp [hj, hj2, hji]
-- the entry
theorem pm_lk_app : ∀ (P P2 : PL) (j : Nat) (v : PV), pm_lk (P ++ P2) j = some v → pm_lk P j = some v ∨ (P.length ≤ j ∧ pm_lk P2 (j - P.length) = some v) := by
  intro P
  induction P with
  | nil => intro P2 j v h; exact Or.inr ⟨Nat.zero_le _, h⟩
  | cons a t ih =>
    intro P2 j v h
    cases j with
    | zero => exact Or.inl h
    | succ j =>
      rcases ih P2 j v h with h | ⟨h1, h2⟩
      · exact Or.inl h
      · refine Or.inr ⟨Nat.succ_le_succ h1, ?_⟩
        rw [List.length_cons, Nat.succ_sub_succ]
        exact h2
theorem pm_lk_rep : ∀ (n j : Nat), pm_lk (List.replicate n (none : Option PV)) j = none := by
  intro n
  induction n with
  | zero => intro j; rfl
  | succ n ih =>
    intro j
    cases j with
    | zero => rfl
    | succ j => exact ih j
theorem pm_lk_en {n : Nat} {as : List PV} {j : Nat} {v : PV} (h : pm_lk (pm_en n as) j = some v) : pm_lk (pm_ent as) j = some v := by
  rcases pm_lk_app _ _ _ _ h with h | ⟨-, h⟩
  · exact h
  · rw [pm_lk_rep] at h
    cases h
theorem pm_ent_args {A : Nat → Nat} : ∀ (as : List PV) (i j : Nat) (v : PV), pm_lk (pm_ent as) j = some v → (i + j, pm_tr A v) ∈ lv_args i (as.map (pm_tr A)) := by
  intro as
  induction as with
  | nil => intro i j v h; cases h
  | cons a t ih =>
    intro i j v h
    rcases a with x | x | x
    · cases j with
      | zero => cases h; exact List.mem_cons_self
      | succ j =>
        refine List.mem_cons_of_mem _ ?_
        have := ih (i + 1) j v h
        rw [show i + (j + 1) = i + 1 + j from by omega]
        exact this
    · cases j with
      | zero => cases h; exact List.mem_cons_self
      | succ j =>
        cases j with
        | zero => cases h
        | succ j =>
          refine List.mem_cons_of_mem _ ?_
          have := ih (i + 2) j v h
          rw [show i + (j + 1 + 1) = i + 2 + j from by omega]
          exact this
    · cases j with
      | zero => cases h; exact List.mem_cons_self
      | succ j =>
        refine List.mem_cons_of_mem _ ?_
        have := ih (i + 1) j v h
        rw [show i + (j + 1) = i + 1 + j from by omega]
        exact this
theorem pm_ent_len {A : Nat → Nat} : ∀ (as : List PV), (lg_sl (as.map (pm_tr A))).length = (pm_ent as).length := by
  intro as
  induction as with
  | nil => rfl
  | cons a t ih =>
    unfold lg_sl at ih ⊢
    rw [List.map_cons, List.flatMap_cons, List.length_append, ih]
    rcases a with x | x | x
    · show 1 + _ = _ + 1
      omega
    · show 2 + _ = _ + 1 + 1
      omega
    · show 1 + _ = _ + 1
      omega
-- the world
def pm_fs (A : Nat → Nat) (W : PW) (r : Nat) : Nat → List (Option Nat) → List Value
  | _, [] => []
  | j, some q :: t => .ref (A q) :: pm_fs A W r (j + 1) t
  | j, none :: t => .int (Int32.ofInt (W r j)) :: pm_fs A W r (j + 1) t
def pm_cell (A : Nat → Nat) (cA : Nat → ClassId) (S : PS) (W : PW) (r : Nat) : va_E := match S r with
  | some (.inl (t, n)) => .inl (cA t, n, .inl (fun j => Int32.ofInt (W r j)))
  | some (.inr (ci, fs)) => .inr (ci, pm_fs A W r 0 fs)
  | none => .inr (0, [])
def pm_ws (A : Nat → Nat) (cA : Nat → ClassId) (S : PS) (N : Nat) (W : PW) : va_W := (List.range N).map (fun r => (A r, pm_cell A cA S W r))
def pm_tys (cA : Nat → ClassId) : List (ClassId × FieldType) := [(cA 0, .int), (cA 1, .char)]
theorem pm_ws_at {A : Nat → Nat} {cA : Nat → ClassId} {S : PS} {N : Nat} {W : PW} {r : Nat} (h : r < N) : (pm_ws A cA S N W)[r]? = some (A r, pm_cell A cA S W r) := by
  unfold pm_ws
  rw [List.getElem?_map, List.getElem?_range h]
  rfl
theorem pm_ws_in {A : Nat → Nat} {cA : Nat → ClassId} {S : PS} {N : Nat} {W : PW} {k : Nat} {q : Nat × va_E} (h : (pm_ws A cA S N W)[k]? = some q) : k < N ∧ q = (A k, pm_cell A cA S W k) := by
  have hk : k < N := by
    have := (List.getElem?_eq_some_iff.mp h).1
    unfold pm_ws at this
    rw [List.length_map, List.length_range] at this
    exact this
  rw [pm_ws_at hk] at h
  exact ⟨hk, (Option.some.inj h).symm⟩
theorem pm_fs_at {A : Nat → Nat} {W : PW} {r : Nat} : ∀ (fs : List (Option Nat)) (i j : Nat) (o : Option Nat), fs[j]? = some o → (pm_fs A W r i fs)[j]? = some (match o with | some q => .ref (A q) | none => .int (Int32.ofInt (W r (i + j)))) := by
  intro fs
  induction fs with
  | nil => intro i j o h; simp at h
  | cons a t ih =>
    intro i j o h
    cases j with
    | zero =>
      rw [List.getElem?_cons_zero] at h
      cases h
      cases a <;> rfl
    | succ j =>
      rw [List.getElem?_cons_succ] at h
      have := ih (i + 1) j o h
      rw [show i + (j + 1) = i + 1 + j from by omega]
      cases a <;> exact this
theorem pm_fs_len {A : Nat → Nat} {W : PW} {r : Nat} : ∀ (fs : List (Option Nat)) (i : Nat), (pm_fs A W r i fs).length = fs.length := by
  intro fs
  induction fs with
  | nil => intro i; rfl
  | cons a t ih =>
    intro i
    cases a
    · show _ + 1 = _ + 1; rw [ih]
    · show _ + 1 = _ + 1; rw [ih]
theorem pm_upd_eq (W : PW) (k j : Nat) (x : Int) (a b : Nat) : pm_upd W k j x a b = if a = k ∧ b = j then x else W a b := by
  unfold pm_upd
  by_cases h1 : a = k
  · by_cases h2 : b = j
    · subst h1; subst h2; simp
    · have : Nat.beq b j = false := by
        cases hq : Nat.beq b j with
        | false => rfl
        | true => exact absurd (Nat.eq_of_beq_eq_true hq) h2
      simp [h2, this]
  · have : Nat.beq a k = false := by
      cases hq : Nat.beq a k with
      | false => rfl
      | true => exact absurd (Nat.eq_of_beq_eq_true hq) h1
    simp [h1, this]
theorem pm_fs_congr {A : Nat → Nat} {W W' : PW} {r : Nat} : ∀ (fs : List (Option Nat)) (i : Nat), (∀ j, i ≤ j → W r j = W' r j) → pm_fs A W r i fs = pm_fs A W' r i fs := by
  intro fs
  induction fs with
  | nil => intro i _; rfl
  | cons a t ih =>
    intro i h
    have := ih (i + 1) (fun j hj => h j (by omega))
    cases a
    · show _ :: _ = _ :: _
      rw [this, h i (Nat.le_refl i)]
    · show _ :: _ = _ :: _
      rw [this]
theorem pm_fs_upd {A : Nat → Nat} {W : PW} {r : Nat} {x : Int} : ∀ (fs : List (Option Nat)) (i j : Nat), fs[j]? = some none → pm_fs A (pm_upd W r (i + j) x) r i fs = (pm_fs A W r i fs).set j (.int (Int32.ofInt x)) := by
  intro fs
  induction fs with
  | nil => intro i j h; simp at h
  | cons a t ih =>
    intro i j h
    cases j with
    | zero =>
      rw [List.getElem?_cons_zero] at h
      cases h
      show Value.int (Int32.ofInt (pm_upd W r (i + 0) x r i)) :: pm_fs A _ r (i + 1) t = Value.int (Int32.ofInt x) :: pm_fs A W r (i + 1) t
      rw [pm_fs_congr (W := pm_upd W r (i + 0) x) (W' := W) t (i + 1) (fun j hj => by rw [pm_upd_eq, if_neg (by omega)]), pm_upd_eq, if_pos ⟨rfl, by omega⟩]
    | succ j =>
      rw [List.getElem?_cons_succ] at h
      have e := ih (i + 1) j h
      rw [show i + 1 + j = i + (j + 1) from by omega] at e
      cases a with
      | none =>
        show Value.int (Int32.ofInt (pm_upd W r (i + (j + 1)) x r i)) :: pm_fs A _ r (i + 1) t = Value.int _ :: (pm_fs A W r (i + 1) t).set j _
        rw [e, pm_upd_eq, if_neg (by omega)]
      | some q =>
        show Value.ref (A q) :: pm_fs A _ r (i + 1) t = Value.ref (A q) :: (pm_fs A W r (i + 1) t).set j _
        rw [e]
theorem pm_cell_ne {A : Nat → Nat} {cA : Nat → ClassId} {S : PS} {W : PW} {r k j : Nat} {x : Int} (h : r ≠ k) : pm_cell A cA S (pm_upd W k j x) r = pm_cell A cA S W r := by
  have e : ∀ b, pm_upd W k j x r b = W r b := fun b => by rw [pm_upd_eq, if_neg (fun q => h q.1)]
  unfold pm_cell
  cases S r with
  | none => rfl
  | some s =>
    rcases s with ⟨t, n⟩ | ⟨ci, fs⟩
    · simp only [e]
    · simp only [pm_fs_congr (W := pm_upd W k j x) (W' := W) fs 0 (fun j _ => e j)]
theorem pm_ws_set {A : Nat → Nat} {cA : Nat → ClassId} {S : PS} {N : Nat} {W : PW} {r j : Nat} {x : Int} {e : va_E} (he : pm_cell A cA S (pm_upd W r j x) r = e) : (pm_ws A cA S N W).set r (A r, e) = pm_ws A cA S N (pm_upd W r j x) := by
  apply List.ext_getElem?
  intro i
  rw [List.getElem?_set]
  unfold pm_ws
  rw [List.length_map, List.length_range, List.getElem?_map, List.getElem?_map]
  by_cases hi : i < N
  · rw [List.getElem?_range hi]
    by_cases hr : r = i
    · subst hr
      rw [if_pos rfl, if_pos hi, ← he]
      rfl
    · rw [if_neg hr]
      simp only [Option.map_some]
      rw [pm_cell_ne (fun q => hr q.symm)]
  · rw [List.getElem?_eq_none (by rw [List.length_range]; omega)]
    by_cases hr : r = i
    · subst hr
      rw [if_pos rfl, if_neg hi]
      rfl
    · rw [if_neg hr]
      rfl
theorem pm_ws_D {A : Nat → Nat} {cA : Nat → ClassId} {S : PS} {N : Nat} {W W' : PW} {A0 A1 : Nat → Prop} (h : va_D A0 (pm_ws A cA S N W)) (h1 : ∀ r, r < N → A1 (A r)) : va_D A1 (pm_ws A cA S N W') := by
  refine ⟨fun i j p q hi hj e => ?_, fun k q hk => ?_⟩
  · obtain ⟨a1, rfl⟩ := pm_ws_in hi
    obtain ⟨b1, rfl⟩ := pm_ws_in hj
    exact h.1 i j _ _ (pm_ws_at a1) (pm_ws_at b1) e
  · obtain ⟨a1, rfl⟩ := pm_ws_in hk
    exact h1 k a1
theorem pm_ws_A {A : Nat → Nat} {cA : Nat → ClassId} {S : PS} {N : Nat} {W : PW} {A0 : Nat → Prop} (h : va_D A0 (pm_ws A cA S N W)) (r : Nat) (hr : r < N) : A0 (A r) := h.2 r _ (pm_ws_at hr)
theorem pm_ws_va {A : Nat → Nat} {cA : Nat → ClassId} {S : PS} {N : Nat} {W : PW} {sz q : Nat} (h : va_A (pm_ws A cA S N W) sz q) : (∃ r, r < N ∧ q = A r) ∨ sz ≤ q := by
  rcases h with ⟨k, e, h⟩ | h
  · obtain ⟨h1, h2⟩ := pm_ws_in h
    exact Or.inl ⟨k, h1, congrArg Prod.fst h2⟩
  · exact Or.inr h
theorem pm_va_ws {A : Nat → Nat} {cA : Nat → ClassId} {S : PS} {N : Nat} {W : PW} {sz r : Nat} (h : r < N) : va_A (pm_ws A cA S N W) sz (A r) := Or.inl ⟨r, _, pm_ws_at h⟩
