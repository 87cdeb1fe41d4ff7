/-! rows for running the pure machine by rewriting -/
noncomputable def pm_ca (S : PS) (k : Nat) (as : List PV) (G : PW) : Option PR := pm_dn S k 0 (pm_en (pm_nl k) as) [] G
theorem pm_go_n {S : PS} {k pc' : Nat} {G G' : PW} {P' : PL} {st' : List PV} : pm_go S k G (some (.inl (pc', P', st', G'))) = pm_dn S k pc' P' st' G' := rfl
theorem pm_go_c {S : PS} {k k' pc' : Nat} {G : PW} {as : List PV} {P' : PL} {st' : List PV} : pm_go S k G (some (.inr (.inl (k', as, pc', P', st')))) = (match pm_ca S k' as G with
    | none => none
    | some (r, W') => pm_dn S k pc' P' (r.toList ++ st') W') := rfl
theorem pm_go_r {S : PS} {k : Nat} {G : PW} {v : Option PV} : pm_go S k G (some (.inr (.inr v))) = some (v, G) := rfl
theorem pm_go_i {S : PS} {k : Nat} {G : PW} {c : Prop} [Decidable c] {a b : Option PA} : pm_go S k G (if c then a else b) = if c then pm_go S k G a else pm_go S k G b := by
  by_cases h : c
  · rw [if_pos h, if_pos h]
  · rw [if_neg h, if_neg h]
theorem pm_ald_ok {S : PS} {ty n N r : Nat} {P : PL} {t : List PV} {G : PW} {i : Int} (hr : pm_ar S ty r = some N) (h0 : 0 ≤ i) (h1 : i < (N : Int)) : pm_oAld S ty n P (.inl i :: .inr (.inr r) :: t) G = some (.inl (n, P, .inl (G r i.toNat) :: t, G)) := by
  unfold pm_oAld
  simp only [hr]
  rw [decide_eq_true h0, decide_eq_true h1]
  rfl
theorem pm_ast_ok {S : PS} {ty n N r : Nat} {P : PL} {t : List PV} {G : PW} {i x : Int} (hr : pm_ar S ty r = some N) (h0 : 0 ≤ i) (h1 : i < (N : Int)) (h2 : pm_fit ty x = true) : pm_oAst S ty n P (.inl x :: .inl i :: .inr (.inr r) :: t) G = some (.inl (n, P, t, pm_upd G r i.toNat x)) := by
  unfold pm_oAst
  simp only [hr]
  rw [decide_eq_true h0, decide_eq_true h1, h2]
  rfl
theorem pm_fit1 {x : Int} (h2 : 0 ≤ x) (h3 : x ≤ 65535) : pm_fit 1 x = true := by
  show (decide (0 ≤ x) && decide (x ≤ 65535)) = true
  rw [decide_eq_true h2, decide_eq_true h3]
  rfl
theorem pm_fit2 {x : Int} (h2 : 0 ≤ x) (h3 : x ≤ 1) : pm_fit 2 x = true := by
  show (decide (0 ≤ x) && decide (x ≤ 1)) = true
  rw [decide_eq_true h2, decide_eq_true h3]
  rfl
section EV
variable {n g j : Nat} {P : PL} {st t : List PV} {G : PW} {x y : Int}
theorem pe_add (h1 : -2147483648 ≤ x + y) (h2 : x + y ≤ 2147483647) : pm_oAdd n P (.inl y :: .inl x :: t) G = some (.inl (n, P, .inl (x + y) :: t, G)) := by
  unfold pm_oAdd
  simp only [pm_rg_iff.mpr ⟨h1, h2⟩, cond_true]
theorem pe_sub (h1 : -2147483648 ≤ x - y) (h2 : x - y ≤ 2147483647) : pm_oSub n P (.inl y :: .inl x :: t) G = some (.inl (n, P, .inl (x - y) :: t, G)) := by
  unfold pm_oSub
  simp only [pm_rg_iff.mpr ⟨h1, h2⟩, cond_true]
theorem pe_mul (h1 : -2147483648 ≤ x * y) (h2 : x * y ≤ 2147483647) : pm_oMul n P (.inl y :: .inl x :: t) G = some (.inl (n, P, .inl (x * y) :: t, G)) := by
  unfold pm_oMul
  simp only [pm_rg_iff.mpr ⟨h1, h2⟩, cond_true]
theorem pe_div (h1 : 0 ≤ x) (h2 : 0 < y) : pm_oDiv n P (.inl y :: .inl x :: t) G = some (.inl (n, P, .inl (x / y) :: t, G)) := by
  unfold pm_oDiv
  simp only [decide_eq_true h1, decide_eq_true h2, Bool.and_self, cond_true]
theorem pe_rem (h1 : 0 ≤ x) (h2 : 0 < y) : pm_oRem n P (.inl y :: .inl x :: t) G = some (.inl (n, P, .inl (x % y) :: t, G)) := by
  unfold pm_oRem
  simp only [decide_eq_true h1, decide_eq_true h2, Bool.and_self, cond_true]
theorem pe_shr (h1 : 0 ≤ x) (h2 : 0 ≤ y) (h3 : y ≤ 31) : pm_oShr n P (.inl y :: .inl x :: t) G = some (.inl (n, P, .inl (x / 2 ^ y.toNat) :: t, G)) := by
  unfold pm_oShr
  simp only [decide_eq_true h1, decide_eq_true h2, decide_eq_true h3, Bool.and_self, cond_true]
theorem pe_and (h1 : 0 ≤ x) : pm_oAnd n P (.inl 1 :: .inl x :: t) G = some (.inl (n, P, .inl (x % 2) :: t, G)) := by
  unfold pm_oAnd
  simp only [decide_eq_true h1, decide_true, Bool.and_self, cond_true]
theorem pm_or_ok (h1 : x = 0 ∨ x = 1) (h2 : y = 0 ∨ y = 1) : pm_oOr n P (.inl y :: .inl x :: t) G = some (.inl (n, P, .inl (x + y - x * y) :: t, G)) := by
  rcases h1 with rfl | rfl <;> rcases h2 with rfl | rfl <;> rfl
theorem pe_inc {a : Int} (hl : pm_lk P j = some (.inl x)) (h1 : -2147483648 ≤ x + a) (h2 : x + a ≤ 2147483647) : pm_oInc j a n P st G = some (.inl (n, pm_sto P j (.inl (x + a)), st, G)) := by
  unfold pm_oInc
  rw [hl]
  simp only [pm_rg_iff.mpr ⟨h1, h2⟩, cond_true]
theorem pe_rgb {α : Type} {a b : α} (h1 : -2147483648 ≤ x) (h2 : x ≤ 2147483647) : (bif pm_rg x then a else b) = a := by rw [pm_rg_iff.mpr ⟨h1, h2⟩]; rfl
theorem pe_if (c : ClassFile.Cond) : pm_oIf c (some g) n P (.inl x :: t) G = if pm_cmp c x 0 = true then some (.inl (g, P, t, G)) else some (.inl (n, P, t, G)) := by
  show pm_br _ _ _ _ _ _ = _
  unfold pm_br
  cases pm_cmp c x 0 <;> rfl
theorem pe_ic (c : ClassFile.Cond) : pm_oIc c (some g) n P (.inl y :: .inl x :: t) G = if pm_cmp c x y = true then some (.inl (g, P, t, G)) else some (.inl (n, P, t, G)) := by
  show pm_br _ _ _ _ _ _ = _
  unfold pm_br
  cases pm_cmp c x y <;> rfl
theorem pe_eq : (pm_cmp .eq x y = true) = (x = y) := by unfold pm_cmp; simp
theorem pe_ne : (pm_cmp .ne x y = true) = (¬ x = y) := by unfold pm_cmp; simp
theorem pe_lt : (pm_cmp .lt x y = true) = (x < y) := by unfold pm_cmp; simp
theorem pe_ge : (pm_cmp .ge x y = true) = (y ≤ x) := by unfold pm_cmp; simp
theorem pe_gt : (pm_cmp .gt x y = true) = (y < x) := by unfold pm_cmp; simp
theorem pe_le : (pm_cmp .le x y = true) = (x ≤ y) := by unfold pm_cmp; simp
theorem pe_go : pm_oGo (some g) P st G = some (.inl (g, P, st, G)) := rfl
theorem pe_ri0 : pm_oRi 0 P [.inl x] G = some (.inr (.inr (some (.inl x)))) := rfl
theorem pe_ri2 (h2 : 0 ≤ x) (h3 : x ≤ 1) : pm_oRi 2 P [.inl x] G = some (.inr (.inr (some (.inl x)))) := by
  unfold pm_oRi
  simp only [pm_fit2 h2 h3, cond_true]
theorem pe_ri1 (h2 : 0 ≤ x) (h3 : x ≤ 65535) : pm_oRi 1 P [.inl x] G = some (.inr (.inr (some (.inl x)))) := by
  unfold pm_oRi
  simp only [pm_fit1 h2 h3, cond_true]
theorem pe_i2c (h2 : 0 ≤ x) (h3 : x ≤ 65535) : pm_oI2c n P (.inl x :: t) G = some (.inl (n, P, .inl x :: t, G)) := by
  unfold pm_oI2c
  simp only [pm_fit1 h2 h3, cond_true]
theorem pe_pf0 {S : PS} {ci r : Nat} (hf : pm_fd S ci j r = some none) : pm_oPf S ci j 0 n P (.inl x :: .inr (.inr r) :: t) G = some (.inl (n, P, t, pm_upd G r j x)) := by
  unfold pm_oPf
  simp only [hf]
  rfl
theorem pe_pf2 {S : PS} {ci r : Nat} (hf : pm_fd S ci j r = some none) (h2 : 0 ≤ x) (h3 : x ≤ 1) : pm_oPf S ci j 2 n P (.inl x :: .inr (.inr r) :: t) G = some (.inl (n, P, t, pm_upd G r j x)) := by
  unfold pm_oPf
  simp only [hf, pm_fit2 h2 h3, cond_true]
theorem lk_0 {a : Option PV} {P : PL} : pm_lk (a :: P) 0 = a := rfl
theorem lk_1 {a b : Option PV} {P : PL} : pm_lk (a :: b :: P) 1 = b := rfl
theorem lk_2 {a b c : Option PV} {P : PL} : pm_lk (a :: b :: c :: P) 2 = c := rfl
theorem lk_3 {a b c d : Option PV} {P : PL} : pm_lk (a :: b :: c :: d :: P) 3 = d := rfl
theorem lk_4 {a b c d e : Option PV} {P : PL} : pm_lk (a :: b :: c :: d :: e :: P) 4 = e := rfl
theorem lk_5 {a b c d e f : Option PV} {P : PL} : pm_lk (a :: b :: c :: d :: e :: f :: P) 5 = f := rfl
theorem lk_6 {a b c d e f g : Option PV} {P : PL} : pm_lk (a :: b :: c :: d :: e :: f :: g :: P) 6 = g := rfl
theorem lk_7 {a b c d e f g h : Option PV} {P : PL} : pm_lk (a :: b :: c :: d :: e :: f :: g :: h :: P) 7 = h := rfl
theorem lk_8 {a b c d e f g h i : Option PV} {P : PL} : pm_lk (a :: b :: c :: d :: e :: f :: g :: h :: i :: P) 8 = i := rfl
theorem lk_9 {x0 x1 x2 x3 x4 x5 x6 x7 x8 x9 : Option PV} {P : PL} : pm_lk (x0 :: x1 :: x2 :: x3 :: x4 :: x5 :: x6 :: x7 :: x8 :: x9 :: P) 9 = x9 := rfl
theorem lk_10 {x0 x1 x2 x3 x4 x5 x6 x7 x8 x9 x10 : Option PV} {P : PL} : pm_lk (x0 :: x1 :: x2 :: x3 :: x4 :: x5 :: x6 :: x7 :: x8 :: x9 :: x10 :: P) 10 = x10 := rfl
theorem lk_11 {x0 x1 x2 x3 x4 x5 x6 x7 x8 x9 x10 x11 : Option PV} {P : PL} : pm_lk (x0 :: x1 :: x2 :: x3 :: x4 :: x5 :: x6 :: x7 :: x8 :: x9 :: x10 :: x11 :: P) 11 = x11 := rfl
theorem lk_12 {x0 x1 x2 x3 x4 x5 x6 x7 x8 x9 x10 x11 x12 : Option PV} {P : PL} : pm_lk (x0 :: x1 :: x2 :: x3 :: x4 :: x5 :: x6 :: x7 :: x8 :: x9 :: x10 :: x11 :: x12 :: P) 12 = x12 := rfl
theorem lk_13 {x0 x1 x2 x3 x4 x5 x6 x7 x8 x9 x10 x11 x12 x13 : Option PV} {P : PL} : pm_lk (x0 :: x1 :: x2 :: x3 :: x4 :: x5 :: x6 :: x7 :: x8 :: x9 :: x10 :: x11 :: x12 :: x13 :: P) 13 = x13 := rfl
theorem lk_14 {x0 x1 x2 x3 x4 x5 x6 x7 x8 x9 x10 x11 x12 x13 x14 : Option PV} {P : PL} : pm_lk (x0 :: x1 :: x2 :: x3 :: x4 :: x5 :: x6 :: x7 :: x8 :: x9 :: x10 :: x11 :: x12 :: x13 :: x14 :: P) 14 = x14 := rfl
theorem st_0 {a : Option PV} {v : PV} : pm_sto (a :: P) 0 v = some v :: P := rfl
theorem st_1n {b : Option PV} {v : PV} : pm_sto (none :: b :: P) 1 v = none :: some v :: P := rfl
theorem st_1i {b : Option PV} {v : PV} : pm_sto (some (.inl x) :: b :: P) 1 v = some (.inl x) :: some v :: P := rfl
theorem st_1r {b : Option PV} {v : PV} {r : Nat} : pm_sto (some (.inr (.inr r)) :: b :: P) 1 v = some (.inr (.inr r)) :: some v :: P := rfl
theorem st_s {a : Option PV} {v : PV} {i : Nat} : pm_sto (a :: P) (i + 2) v = a :: pm_sto P (i + 1) v := by
  unfold pm_sto pm_c1
  cases h : pm_lk (a :: P) (i + 1) with
  | none =>
    have h2 : pm_lk P i = none := h
    dsimp only
    rw [h, h2]
    rfl
  | some w =>
    have h2 : pm_lk P i = some w := h
    dsimp only
    rw [h, h2]
    rcases w with x | x | x <;> rfl
theorem st_2 {a : Option PV} {v : PV} : pm_sto (a :: P) 2 v = a :: pm_sto P 1 v := st_s
theorem st_3 {a : Option PV} {v : PV} : pm_sto (a :: P) 3 v = a :: pm_sto P 2 v := st_s
theorem st_4 {a : Option PV} {v : PV} : pm_sto (a :: P) 4 v = a :: pm_sto P 3 v := st_s
theorem st_5 {a : Option PV} {v : PV} : pm_sto (a :: P) 5 v = a :: pm_sto P 4 v := st_s
theorem st_6 {a : Option PV} {v : PV} : pm_sto (a :: P) 6 v = a :: pm_sto P 5 v := st_s
theorem st_7 {a : Option PV} {v : PV} : pm_sto (a :: P) 7 v = a :: pm_sto P 6 v := st_s
theorem st_8 {a : Option PV} {v : PV} : pm_sto (a :: P) 8 v = a :: pm_sto P 7 v := st_s
theorem st_9 {a : Option PV} {v : PV} : pm_sto (a :: P) 9 v = a :: pm_sto P 8 v := st_s
theorem st_10 {a : Option PV} {v : PV} : pm_sto (a :: P) 10 v = a :: pm_sto P 9 v := st_s
theorem st_11 {a : Option PV} {v : PV} : pm_sto (a :: P) 11 v = a :: pm_sto P 10 v := st_s
theorem st_12 {a : Option PV} {v : PV} : pm_sto (a :: P) 12 v = a :: pm_sto P 11 v := st_s
theorem st_13 {a : Option PV} {v : PV} : pm_sto (a :: P) 13 v = a :: pm_sto P 12 v := st_s
theorem st_14 {a : Option PV} {v : PV} : pm_sto (a :: P) 14 v = a :: pm_sto P 13 v := st_s
theorem pop_0 {acc : List PV} : pm_pop 0 st acc = some (acc, st) := rfl
theorem pop_1 {a : PV} {acc : List PV} : pm_pop 1 (a :: st) acc = some (a :: acc, st) := rfl
theorem pop_2 {a b : PV} {acc : List PV} : pm_pop 2 (a :: b :: st) acc = some (b :: a :: acc, st) := rfl
theorem pop_3 {a b c : PV} {acc : List PV} : pm_pop 3 (a :: b :: c :: st) acc = some (c :: b :: a :: acc, st) := rfl
theorem pop_4 {a b c d : PV} {acc : List PV} : pm_pop 4 (a :: b :: c :: d :: st) acc = some (d :: c :: b :: a :: acc, st) := rfl
theorem pop_5 {a b c d e : PV} {acc : List PV} : pm_pop 5 (a :: b :: c :: d :: e :: st) acc = some (e :: d :: c :: b :: a :: acc, st) := rfl
/-- a call, once its arguments are off the stack -/
theorem pe_cv {S : PS} {k na nl ci r : Nat} {as : List PV} {c : Nat} (hp : pm_pop (na + 1) st [] = some (.inr (.inr r) :: as, t)) (hc : pm_cls S r = some c) (h1 : Nat.beq c ci = true) (h2 : Nat.ble t.length 4 = true) (h3 : Nat.ble ((pm_ent as).length + 1) nl = true) : pm_oCv S k na nl ci n P st G = some (.inr (.inl (k, .inr (.inr r) :: as, n, P, t))) := by
  unfold pm_oCv
  simp only [hp, hc, h1, h2, h3, Bool.and_self, cond_true]
theorem pe_cs {k na nl : Nat} {as : List PV} (hp : pm_pop na st [] = some (as, t)) (h2 : Nat.ble t.length 4 = true) (h3 : Nat.ble (pm_ent as).length nl = true) : pm_oCs k na nl n P st G = some (.inr (.inl (k, as, n, P, t))) := by
  unfold pm_oCs
  simp only [hp, h2, h3, Bool.and_self, cond_true]
end EV
/-- how long an array of ints is -/
def pm_len (S : PS) (r : Nat) : Int := match pm_ar S 0 r with
  | some n => (n : Int)
  | none => 0
def pm_atv (S : PS) (G : PW) (r : Nat) (i : Int) : Int := if 0 ≤ i ∧ i < pm_len S r then G r i.toNat else -6
def pm_stv (S : PS) (G : PW) (r : Nat) (i x : Int) : PW := if 0 ≤ i ∧ i < pm_len S r then pm_upd G r i.toNat x else G
theorem pe_b1 {c : Prop} [Decidable c] : ((if c then (1 : Int) else 0) = 0) = ¬ c := by
  by_cases h : c
  · rw [if_pos h]; simp [h]
  · rw [if_neg h]; simp [h]
theorem pe_nn {c : Prop} : (¬ ¬ c) = c := propext Classical.not_not

theorem pl_go_n {X : LX} {k pc' f : Nat} {G G' : PW} {P' : PL} {st' : List PV} : pl_go X k G f (some (.inl (pc', P', st', G'))) = pl_dn X k pc' P' st' G' f := rfl
theorem pl_go_c {X : LX} {k k' pc' f : Nat} {G : PW} {as : List PV} {P' : PL} {st' : List PV} : pl_go X k G f (some (.inr (.inl (k', as, pc', P', st')))) = (match X k' as G with
    | none => none
    | some ((r, W'), d) => pl_dn X k pc' P' (r.toList ++ st') W' (f + d)) := rfl
theorem pl_go_r {X : LX} {k f : Nat} {G : PW} {v : Option PV} : pl_go X k G f (some (.inr (.inr v))) = some ((v, G), f) := rfl
theorem pl_go_i {X : LX} {k f : Nat} {G : PW} {c : Prop} [Decidable c] {a b : Option PA} : pl_go X k G f (if c then a else b) = if c then pl_go X k G f a else pl_go X k G f b := by
  by_cases h : c
  · rw [if_pos h, if_pos h]
  · rw [if_neg h, if_neg h]
