/-! the pure machine: ints are whole numbers, a reference is the place of a cell, the memory is a function of place and index -/
abbrev PV : Type := Int ⊕ (Int64 ⊕ Nat)
abbrev PW : Type := Nat → Nat → Int
abbrev PL : Type := List (Option PV)
abbrev PS : Type := Nat → Option ((Nat × Nat) ⊕ (Nat × List (Option Nat)))
abbrev PA : Type := (Nat × PL × List PV × PW) ⊕ ((Nat × List PV × Nat × PL × List PV) ⊕ Option PV)
abbrev PR : Type := Option PV × PW
def pm_rg (x : Int) : Bool := decide (-2147483648 ≤ x) && decide (x ≤ 2147483647)
def pm_lk : PL → Nat → Option PV
  | [], _ => none
  | a :: _, 0 => a
  | _ :: t, n + 1 => pm_lk t n
def pm_st : PL → Nat → Option PV → PL
  | [], _, _ => []
  | _ :: t, 0, v => v :: t
  | a :: t, n + 1, v => a :: pm_st t n v
def pm_c1 (P : PL) (i : Nat) : PL := match i with
  | 0 => P
  | j + 1 => match pm_lk P j with
    | some (.inr (.inl _)) => pm_st P j none
    | _ => P
def pm_sto (P : PL) (i : Nat) (v : PV) : PL := pm_st (pm_c1 P i) i (some v)
def pm_stl (P : PL) (i : Nat) (x : Int64) : PL := pm_st (pm_st (pm_c1 P i) (i + 1) none) i (some (.inr (.inl x)))
def pm_upd (W : PW) (k j : Nat) (x : Int) : PW := fun a b => bif Nat.beq a k && Nat.beq b j then x else W a b
def pm_ent : List PV → PL
  | [] => []
  | .inl x :: t => some (.inl x) :: pm_ent t
  | .inr (.inl x) :: t => some (.inr (.inl x)) :: none :: pm_ent t
  | .inr (.inr x) :: t => some (.inr (.inr x)) :: pm_ent t
def pm_en (n : Nat) (as : List PV) : PL := pm_ent as ++ List.replicate (n - (pm_ent as).length) none
def pm_fd (S : PS) (ci j r : Nat) : Option (Option Nat) := match S r with
  | some (.inr (c, fs)) => bif Nat.beq c ci then fs[j]? else none
  | _ => none
def pm_ar (S : PS) (t r : Nat) : Option Nat := match S r with
  | some (.inl (t', n)) => bif Nat.beq t' t then some n else none
  | _ => none
def pm_al (S : PS) (r : Nat) : Option Nat := match S r with
  | some (.inl (_, n)) => bif Nat.ble n 1000 then some n else none
  | _ => none
def pm_cls (S : PS) (r : Nat) : Option Nat := match S r with
  | some (.inr (c, _)) => some c
  | _ => none
def pm_pop : Nat → List PV → List PV → Option (List PV × List PV)
  | 0, st, acc => some (acc, st)
  | _ + 1, [], _ => none
  | n + 1, v :: st, acc => pm_pop n st (v :: acc)
def pm_cmp (c : ClassFile.Cond) (x y : Int) : Bool := match c with
  | .eq => decide (x = y)
  | .ne => decide (x ≠ y)
  | .lt => decide (x < y)
  | .ge => decide (y ≤ x)
  | .gt => decide (y < x)
  | .le => decide (x ≤ y)
def pm_tg (pc : Nat) (off : Int) : Option Nat := bif decide (0 ≤ (pc : Int) + off) then some ((pc : Int) + off).toNat else none
def pm_tgs (pc : Nat) : List Int → Option (List Nat)
  | [] => some []
  | a :: t => match pm_tg pc a, pm_tgs pc t with
    | some x, some y => some (x :: y)
    | _, _ => none
-- what a value may be in an array or a field of a type (0 int, 1 char, 2 boolean)
def pm_fit (t : Nat) (x : Int) : Bool := match t with
  | 0 => true
  | 1 => decide (0 ≤ x) && decide (x ≤ 65535)
  | 2 => decide (0 ≤ x) && decide (x ≤ 1)
  | _ => false
-- the operations
def pm_oIL (j n : Nat) (P : PL) (st : List PV) (W : PW) : Option PA := match pm_lk P j with
  | some (.inl x) => some (.inl (n, P, .inl x :: st, W))
  | _ => none
def pm_oLL (j n : Nat) (P : PL) (st : List PV) (W : PW) : Option PA := match pm_lk P j with
  | some (.inr (.inl x)) => some (.inl (n, P, .inr (.inl x) :: st, W))
  | _ => none
def pm_oAL (j n : Nat) (P : PL) (st : List PV) (W : PW) : Option PA := match pm_lk P j with
  | some (.inr (.inr x)) => some (.inl (n, P, .inr (.inr x) :: st, W))
  | _ => none
def pm_oIS (j n : Nat) (P : PL) (st : List PV) (W : PW) : Option PA := match st with
  | .inl x :: t => some (.inl (n, pm_sto P j (.inl x), t, W))
  | _ => none
def pm_oAS (j n : Nat) (P : PL) (st : List PV) (W : PW) : Option PA := match st with
  | .inr (.inr x) :: t => some (.inl (n, pm_sto P j (.inr (.inr x)), t, W))
  | _ => none
def pm_oLS (j n : Nat) (P : PL) (st : List PV) (W : PW) : Option PA := match st with
  | .inr (.inl x) :: t => some (.inl (n, pm_stl P j x, t, W))
  | _ => none
def pm_oK (x : Int) (n : Nat) (P : PL) (st : List PV) (W : PW) : Option PA := some (.inl (n, P, .inl x :: st, W))
def pm_oKL (x : Int64) (n : Nat) (P : PL) (st : List PV) (W : PW) : Option PA := some (.inl (n, P, .inr (.inl x) :: st, W))
def pm_oAdd (n : Nat) (P : PL) (st : List PV) (W : PW) : Option PA := match st with
  | .inl y :: .inl x :: t => bif pm_rg (x + y) then some (.inl (n, P, .inl (x + y) :: t, W)) else none
  | _ => none
def pm_oSub (n : Nat) (P : PL) (st : List PV) (W : PW) : Option PA := match st with
  | .inl y :: .inl x :: t => bif pm_rg (x - y) then some (.inl (n, P, .inl (x - y) :: t, W)) else none
  | _ => none
def pm_oMul (n : Nat) (P : PL) (st : List PV) (W : PW) : Option PA := match st with
  | .inl y :: .inl x :: t => bif pm_rg (x * y) then some (.inl (n, P, .inl (x * y) :: t, W)) else none
  | _ => none
def pm_oDiv (n : Nat) (P : PL) (st : List PV) (W : PW) : Option PA := match st with
  | .inl y :: .inl x :: t => bif decide (0 ≤ x) && decide (0 < y) then some (.inl (n, P, .inl (x / y) :: t, W)) else none
  | _ => none
def pm_oRem (n : Nat) (P : PL) (st : List PV) (W : PW) : Option PA := match st with
  | .inl y :: .inl x :: t => bif decide (0 ≤ x) && decide (0 < y) then some (.inl (n, P, .inl (x % y) :: t, W)) else none
  | _ => none
def pm_oShr (n : Nat) (P : PL) (st : List PV) (W : PW) : Option PA := match st with
  | .inl y :: .inl x :: t => bif decide (0 ≤ x) && (decide (0 ≤ y) && decide (y ≤ 31)) then some (.inl (n, P, .inl (x / 2 ^ y.toNat) :: t, W)) else none
  | _ => none
def pm_oAnd (n : Nat) (P : PL) (st : List PV) (W : PW) : Option PA := match st with
  | .inl y :: .inl x :: t => bif decide (0 ≤ x) && decide (y = 1) then some (.inl (n, P, .inl (x % 2) :: t, W)) else none
  | _ => none
def pm_oOr (n : Nat) (P : PL) (st : List PV) (W : PW) : Option PA := match st with
  | .inl y :: .inl x :: t => bif (decide (0 ≤ x) && decide (x ≤ 1)) && (decide (0 ≤ y) && decide (y ≤ 1)) then some (.inl (n, P, .inl (x + y - x * y) :: t, W)) else none
  | _ => none
def pm_oL2i (n : Nat) (P : PL) (st : List PV) (W : PW) : Option PA := match st with
  | .inr (.inl x) :: t => some (.inl (n, P, .inl x.toInt32.toInt :: t, W))
  | _ => none
def pm_oI2c (n : Nat) (P : PL) (st : List PV) (W : PW) : Option PA := match st with
  | .inl x :: t => bif pm_fit 1 x then some (.inl (n, P, .inl x :: t, W)) else none
  | _ => none
def pm_oLand (n : Nat) (P : PL) (st : List PV) (W : PW) : Option PA := match st with
  | .inr (.inl y) :: .inr (.inl x) :: t => some (.inl (n, P, .inr (.inl (x &&& y)) :: t, W))
  | _ => none
def pm_lus (x : Int64) (y : Int) : Int64 := (x.toUInt64 >>> ((Int32.ofInt y).toInt64.toUInt64 &&& Int64.toUInt64 63)).toInt64
def pm_lsh (x : Int64) (y : Int) : Int64 := x >>> ((Int32.ofInt y).toInt64 &&& 63)
def pm_oLus (n : Nat) (P : PL) (st : List PV) (W : PW) : Option PA := match st with
  | .inl y :: .inr (.inl x) :: t => some (.inl (n, P, .inr (.inl (pm_lus x y)) :: t, W))
  | _ => none
def pm_oLsh (n : Nat) (P : PL) (st : List PV) (W : PW) : Option PA := match st with
  | .inl y :: .inr (.inl x) :: t => some (.inl (n, P, .inr (.inl (pm_lsh x y)) :: t, W))
  | _ => none
def pm_oLcm (n : Nat) (P : PL) (st : List PV) (W : PW) : Option PA := match st with
  | .inr (.inl y) :: .inr (.inl x) :: t => some (.inl (n, P, .inl (lg_cmp x y).toInt :: t, W))
  | _ => none
def pm_br (b : Bool) (tg n : Nat) (P : PL) (st : List PV) (W : PW) : Option PA := bif b then some (.inl (tg, P, st, W)) else some (.inl (n, P, st, W))
def pm_oIf (c : ClassFile.Cond) (tg : Option Nat) (n : Nat) (P : PL) (st : List PV) (W : PW) : Option PA := match tg, st with
  | some g, .inl x :: t => pm_br (pm_cmp c x 0) g n P t W
  | _, _ => none
def pm_oIc (c : ClassFile.Cond) (tg : Option Nat) (n : Nat) (P : PL) (st : List PV) (W : PW) : Option PA := match tg, st with
  | some g, .inl y :: .inl x :: t => pm_br (pm_cmp c x y) g n P t W
  | _, _ => none
def pm_oGo (tg : Option Nat) (P : PL) (st : List PV) (W : PW) : Option PA := match tg with
  | some g => some (.inl (g, P, st, W))
  | none => none
def pm_oSw (lo hi : Int) (df : Option Nat) (tg : Option (List Nat)) (P : PL) (st : List PV) (W : PW) : Option PA := match df, tg, st with
  | some d, some gs, .inl x :: t => bif decide (lo ≤ x) && decide (x ≤ hi) then (match gs[(x - lo).toNat]? with
      | some g => some (.inl (g, P, t, W))
      | none => none) else some (.inl (d, P, t, W))
  | _, _, _ => none
def pm_oGf (S : PS) (ci j n : Nat) (P : PL) (st : List PV) (W : PW) : Option PA := match st with
  | .inr (.inr r) :: t => (match pm_fd S ci j r with
    | some (some q) => some (.inl (n, P, .inr (.inr q) :: t, W))
    | some none => some (.inl (n, P, .inl (W r j) :: t, W))
    | none => none)
  | _ => none
def pm_oPf (S : PS) (ci j ty n : Nat) (P : PL) (st : List PV) (W : PW) : Option PA := match st with
  | .inl x :: .inr (.inr r) :: t => (match pm_fd S ci j r with
    | some none => bif pm_fit ty x then some (.inl (n, P, t, pm_upd W r j x)) else none
    | _ => none)
  | _ => none
def pm_oAld (S : PS) (ty n : Nat) (P : PL) (st : List PV) (W : PW) : Option PA := match st with
  | .inl i :: .inr (.inr r) :: t => (match pm_ar S ty r with
    | some N => bif decide (0 ≤ i) && decide (i < (N : Int)) then some (.inl (n, P, .inl (W r i.toNat) :: t, W)) else none
    | none => none)
  | _ => none
def pm_oAst (S : PS) (ty n : Nat) (P : PL) (st : List PV) (W : PW) : Option PA := match st with
  | .inl x :: .inl i :: .inr (.inr r) :: t => (match pm_ar S ty r with
    | some N => bif (decide (0 ≤ i) && decide (i < (N : Int))) && pm_fit ty x then some (.inl (n, P, t, pm_upd W r i.toNat x)) else none
    | none => none)
  | _ => none
def pm_oLen (S : PS) (n : Nat) (P : PL) (st : List PV) (W : PW) : Option PA := match st with
  | .inr (.inr r) :: t => (match pm_al S r with
    | some N => some (.inl (n, P, .inl (N : Int) :: t, W))
    | none => none)
  | _ => none
def pm_oDup (n : Nat) (P : PL) (st : List PV) (W : PW) : Option PA := match st with
  | .inl x :: t => some (.inl (n, P, .inl x :: .inl x :: t, W))
  | .inr (.inr x) :: t => some (.inl (n, P, .inr (.inr x) :: .inr (.inr x) :: t, W))
  | _ => none
def pm_oDu2 (n : Nat) (P : PL) (st : List PV) (W : PW) : Option PA := match st with
  | .inl x :: .inr (.inr y) :: t => some (.inl (n, P, .inl x :: .inr (.inr y) :: .inl x :: .inr (.inr y) :: t, W))
  | _ => none
def pm_oPop (n : Nat) (P : PL) (st : List PV) (W : PW) : Option PA := match st with
  | .inl _ :: t => some (.inl (n, P, t, W))
  | _ => none
def pm_oInc (j : Nat) (a : Int) (n : Nat) (P : PL) (st : List PV) (W : PW) : Option PA := match pm_lk P j with
  | some (.inl x) => bif pm_rg (x + a) then some (.inl (n, pm_sto P j (.inl (x + a)), st, W)) else none
  | _ => none
def pm_oCs (k na nl n : Nat) (P : PL) (st : List PV) (_ : PW) : Option PA := match pm_pop na st [] with
  | some (as, t) => bif Nat.ble t.length 4 && Nat.ble (pm_ent as).length nl then some (.inr (.inl (k, as, n, P, t))) else none
  | none => none
def pm_oCv (S : PS) (k na nl ci n : Nat) (P : PL) (st : List PV) (_ : PW) : Option PA := match pm_pop (na + 1) st [] with
  | some (.inr (.inr r) :: as, t) => (match pm_cls S r with
    | some c => bif Nat.beq c ci && (Nat.ble t.length 4 && Nat.ble ((pm_ent as).length + 1) nl) then some (.inr (.inl (k, .inr (.inr r) :: as, n, P, t))) else none
    | none => none)
  | _ => none
def pm_oRv (_ : PL) (st : List PV) (_ : PW) : Option PA := match st with
  | [] => some (.inr (.inr none))
  | _ => none
def pm_oRi (ty : Nat) (_ : PL) (st : List PV) (_ : PW) : Option PA := match st with
  | [.inl x] => bif pm_fit ty x then some (.inr (.inr (some (.inl x)))) else none
  | _ => none
/-- a call's link: the method, and whether its room fits -/
def pm_rm (k k' : Nat) : Bool := Nat.ble (pm_fr k' + 1) (pm_fr k) && Nat.ble (19 + pm_nl k' + pm_lo k') (pm_lo k)
def pm_stp (S : PS) (k pc : Nat) (i : Instr) (len : Nat) (P : PL) (st : List PV) (W : PW) : Option PA := match i, len with
  | .iload j, 2 => pm_oIL j (pc + 2) P st W
  | .iload_n j, 1 => pm_oIL j.val (pc + 1) P st W
  | .lload j, 2 => pm_oLL j (pc + 2) P st W
  | .lload_n j, 1 => pm_oLL j.val (pc + 1) P st W
  | .aload j, 2 => pm_oAL j (pc + 2) P st W
  | .aload_n j, 1 => pm_oAL j.val (pc + 1) P st W
  | .istore j, 2 => pm_oIS j (pc + 2) P st W
  | .istore_n j, 1 => pm_oIS j.val (pc + 1) P st W
  | .lstore j, 2 => pm_oLS j (pc + 2) P st W
  | .lstore_n j, 1 => pm_oLS j.val (pc + 1) P st W
  | .astore j, 2 => pm_oAS j (pc + 2) P st W
  | .astore_n j, 1 => pm_oAS j.val (pc + 1) P st W
  | .iconst x, 1 => bif decide (-128 ≤ x) && decide (x ≤ 127) then pm_oK x (pc + 1) P st W else none
  | .bipush x, 2 => bif decide (-128 ≤ x) && decide (x ≤ 127) then pm_oK x (pc + 2) P st W else none
  | .sipush x, 3 => bif decide (-32768 ≤ x) && decide (x ≤ 32767) then pm_oK x (pc + 3) P st W else none
  | .lconst x, 1 => pm_oKL (Int64.ofNat (x : Nat)) (pc + 1) P st W
  | .ldc2_w ix, 3 => (match pm_cl (pm_ow k) ix with
    | some (x, _) => pm_oKL x (pc + 3) P st W
    | none => none)
  | .iadd, 1 => pm_oAdd (pc + 1) P st W
  | .isub, 1 => pm_oSub (pc + 1) P st W
  | .imul, 1 => pm_oMul (pc + 1) P st W
  | .idiv, 1 => pm_oDiv (pc + 1) P st W
  | .irem, 1 => pm_oRem (pc + 1) P st W
  | .ishr, 1 => pm_oShr (pc + 1) P st W
  | .iand, 1 => pm_oAnd (pc + 1) P st W
  | .l2i, 1 => pm_oL2i (pc + 1) P st W
  | .i2c, 1 => pm_oI2c (pc + 1) P st W
  | .land, 1 => pm_oLand (pc + 1) P st W
  | .lushr, 1 => pm_oLus (pc + 1) P st W
  | .lshr, 1 => pm_oLsh (pc + 1) P st W
  | .lcmp, 1 => pm_oLcm (pc + 1) P st W
  | .ifCond c off, 3 => pm_oIf c (pm_tg pc off) (pc + 3) P st W
  | .if_icmp c off, 3 => pm_oIc c (pm_tg pc off) (pc + 3) P st W
  | .goto off, 3 => pm_oGo (pm_tg pc off) P st W
  | .tableswitch d lo hi offs, _ => pm_oSw lo hi (pm_tg pc d) (pm_tgs pc offs.toList) P st W
  | .getfield ix, 3 => (match pm_fl (pm_ow k) ix with
    | some (ci, j, _) => pm_oGf S ci j (pc + 3) P st W
    | none => none)
  | .putfield ix, 3 => (match pm_fl (pm_ow k) ix with
    | some (ci, j, _) => bif (pm_tx ci j).2.2.2 then none else (match pm_ty ci j with
      | .int => pm_oPf S ci j 0 (pc + 3) P st W
      | .boolean => pm_oPf S ci j 2 (pc + 3) P st W
      | _ => none)
    | none => none)
  | .iaload, 1 => pm_oAld S 0 (pc + 1) P st W
  | .caload, 1 => pm_oAld S 1 (pc + 1) P st W
  | .ior, 1 => pm_oOr (pc + 1) P st W
  | .iastore, 1 => pm_oAst S 0 (pc + 1) P st W
  | .castore, 1 => pm_oAst S 1 (pc + 1) P st W
  | .arraylength, 1 => pm_oLen S (pc + 1) P st W
  | .dup, 1 => pm_oDup (pc + 1) P st W
  | .dup2, 1 => pm_oDu2 (pc + 1) P st W
  | .pop, 1 => pm_oPop (pc + 1) P st W
  | .iinc j a, 3 => pm_oInc j a (pc + 3) P st W
  | .invokevirtual ix, 3 => (match pm_ml (pm_ow k) ix with
    | some (k', 0, _) => bif pm_rm k k' then pm_oCv S k' (pm_na k') (pm_nl k') (pm_ow k') (pc + 3) P st W else none
    | _ => none)
  | .invokestatic ix, 3 => (match pm_ml (pm_ow k) ix with
    | some (k', 1, _) => bif pm_rm k k' then pm_oCs k' (pm_na k') (pm_nl k') (pc + 3) P st W else none
    | some (k', 2, _) => bif pm_rm k k' then pm_oCs k' (pm_na k') (pm_nl k') (pc + 3) P st W else none
    | _ => none)
  | .return_, 1 => bif Nat.beq (pm_rt k) 0 then pm_oRv P st W else none
  | .ireturn, 1 => (match pm_rt k with
    | 1 => pm_oRi 0 P st W
    | 2 => pm_oRi 2 P st W
    | 3 => pm_oRi 1 P st W
    | _ => none)
  | _, _ => none
def pm_ex (S : PS) : Nat → Nat → Nat → PL → List PV → PW → Option PR
  | 0, _, _, _, _, _ => none
  | n + 1, k, pc, P, st, W => match pm_ins k pc with
    | none => none
    | some (i, len) => match pm_stp S k pc i len P st W with
      | none => none
      | some (.inl (pc', P', st', W')) => pm_ex S n k pc' P' st' W'
      | some (.inr (.inl (k', as, pc', P', st'))) => (match pm_ex S n k' 0 (pm_en (pm_nl k') as) [] W with
        | none => none
        | some (r, W') => pm_ex S n k pc' P' (r.toList ++ st') W')
      | some (.inr (.inr v)) => some (v, W)
theorem pm_ex_mono (S : PS) : ∀ (n : Nat) (k pc : Nat) (P : PL) (st : List PV) (W : PW) (r : PR), pm_ex S n k pc P st W = some r → ∀ m, n ≤ m → pm_ex S m k pc P st W = some r := by
  intro n
  induction n with
  | zero => intro k pc P st W r h; simp [pm_ex] at h
  | succ n ih =>
    intro k pc P st W r h m hm
    obtain ⟨m, rfl⟩ : ∃ m', m = m' + 1 := ⟨m - 1, by omega⟩
    simp only [pm_ex] at h ⊢
    cases hi : pm_ins k pc with
    | none => rw [hi] at h; cases h
    | some q =>
      obtain ⟨i, len⟩ := q
      rw [hi] at h
      dsimp only at h ⊢
      cases ha : pm_stp S k pc i len P st W with
      | none => rw [ha] at h; cases h
      | some a =>
        rw [ha] at h
        rcases a with ⟨pc', P', st', W'⟩ | ⟨k', as, pc', P', st'⟩ | v
        · exact ih _ _ _ _ _ _ h _ (by omega)
        · dsimp only at h ⊢
          cases hc : pm_ex S n k' 0 (pm_en (pm_nl k') as) [] W with
          | none => rw [hc] at h; cases h
          | some rw' =>
            obtain ⟨r1, W1⟩ := rw'
            rw [hc] at h
            rw [ih _ _ _ _ _ _ hc m (by omega)]
            exact ih _ _ _ _ _ _ h _ (by omega)
        · exact h
noncomputable section
/-- what a run comes to, if it comes to an end -/
def pm_dn (S : PS) (k pc : Nat) (P : PL) (st : List PV) (W : PW) : Option PR :=
  (Classical.propDecidable (∃ n r, pm_ex S n k pc P st W = some r)).casesOn (fun _ => none) (fun h => some h.choose_spec.choose)
end
theorem pm_dn_of {S : PS} {n k pc : Nat} {P : PL} {st : List PV} {W : PW} {r : PR} (h : pm_ex S n k pc P st W = some r) : pm_dn S k pc P st W = some r := by
  unfold pm_dn
  cases hd : Classical.propDecidable (∃ n r, pm_ex S n k pc P st W = some r) with
  | isFalse hn => exact absurd ⟨n, r, h⟩ hn
  | isTrue hp =>
    have h1 := hp.choose_spec.choose_spec
    have h2 := pm_ex_mono S _ _ _ _ _ _ _ h1 (hp.choose + n) (by omega)
    have h3 := pm_ex_mono S _ _ _ _ _ _ _ h (hp.choose + n) (by omega)
    show some hp.choose_spec.choose = some r
    exact h2.symm.trans h3
theorem pm_dn_ex {S : PS} {k pc : Nat} {P : PL} {st : List PV} {W : PW} {r : PR} (h : pm_dn S k pc P st W = some r) : ∃ n, pm_ex S n k pc P st W = some r := by
  unfold pm_dn at h
  cases hd : Classical.propDecidable (∃ n r, pm_ex S n k pc P st W = some r) with
  | isFalse hn => rw [hd] at h; cases h
  | isTrue hp =>
    rw [hd] at h
    have h1 := hp.choose_spec.choose_spec
    have h2 : hp.choose_spec.choose = r := Option.some.inj h
    rw [h2] at h1
    exact ⟨_, h1⟩
/-- what follows a step -/
noncomputable def pm_go (S : PS) (k : Nat) (W : PW) (a : Option PA) : Option PR := match a with
  | none => none
  | some (.inl (pc', P', st', W')) => pm_dn S k pc' P' st' W'
  | some (.inr (.inl (k', as, pc', P', st'))) => (match pm_dn S k' 0 (pm_en (pm_nl k') as) [] W with
    | none => none
    | some (r, W') => pm_dn S k pc' P' (r.toList ++ st') W')
  | some (.inr (.inr v)) => some (v, W)
theorem pm_ext {a b : Option PR} (h1 : ∀ r, a = some r → b = some r) (h2 : ∀ r, b = some r → a = some r) : a = b := by
  cases a with
  | none => cases b with
    | none => rfl
    | some r => exact absurd (h2 r rfl) (by simp)
  | some r => exact (h1 r rfl).symm
theorem pm_dn_eq {S : PS} {k pc : Nat} {P : PL} {st : List PV} {W : PW} {i : Instr} {len : Nat} (hi : pm_ins k pc = some (i, len)) : pm_dn S k pc P st W = pm_go S k W (pm_stp S k pc i len P st W) := by
  refine pm_ext (fun r h => ?_) (fun r h => ?_)
  · obtain ⟨n, hn⟩ := pm_dn_ex h
    cases n with
    | zero => simp [pm_ex] at hn
    | succ n =>
      simp only [pm_ex, hi] at hn
      unfold pm_go
      cases ha : pm_stp S k pc i len P st W with
      | none => rw [ha] at hn; cases hn
      | some a =>
        rw [ha] at hn
        rcases a with ⟨pc', P', st', W'⟩ | ⟨k', as, pc', P', st'⟩ | v
        · exact pm_dn_of hn
        · dsimp only at hn ⊢
          cases hc : pm_ex S n k' 0 (pm_en (pm_nl k') as) [] W with
          | none => rw [hc] at hn; cases hn
          | some rw' =>
            obtain ⟨r1, W1⟩ := rw'
            rw [hc] at hn
            rw [pm_dn_of hc]
            exact pm_dn_of hn
        · exact hn
  · unfold pm_go at h
    cases ha : pm_stp S k pc i len P st W with
    | none => rw [ha] at h; cases h
    | some a =>
      rw [ha] at h
      rcases a with ⟨pc', P', st', W'⟩ | ⟨k', as, pc', P', st'⟩ | v
      · obtain ⟨n, hn⟩ := pm_dn_ex h
        exact pm_dn_of (n := n + 1) (by simp only [pm_ex, hi, ha]; exact hn)
      · dsimp only at h
        cases hc : pm_dn S k' 0 (pm_en (pm_nl k') as) [] W with
        | none => rw [hc] at h; cases h
        | some rw' =>
          obtain ⟨r1, W1⟩ := rw'
          rw [hc] at h
          obtain ⟨n1, hn1⟩ := pm_dn_ex hc
          obtain ⟨n2, hn2⟩ := pm_dn_ex h
          refine pm_dn_of (n := n1 + n2 + 1) ?_
          simp only [pm_ex, hi, ha]
          rw [pm_ex_mono S _ _ _ _ _ _ _ hn1 (n1 + n2) (by omega)]
          exact pm_ex_mono S _ _ _ _ _ _ _ hn2 (n1 + n2) (by omega)
      · exact pm_dn_of (n := 1) (by simp only [pm_ex, hi, ha]; exact h)
