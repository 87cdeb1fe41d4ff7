/-! the steps together: ranges are kept, and each step is one of the machine's -/
def pm_vok (v : PV) : Prop := ∀ x, v = .inl x → pm_rg x = true
def pm_sok (st : List PV) : Prop := ∀ v ∈ st, pm_vok v
def pm_pok (P : PL) : Prop := ∀ j v, pm_lk P j = some v → pm_vok v
def pm_wok (G : PW) : Prop := ∀ r j, pm_rg (G r j) = true
theorem pm_vok_r {r : Nat} : pm_vok (.inr (.inr r)) := fun x h => by cases h
theorem pm_vok_l {x : Int64} : pm_vok (.inr (.inl x)) := fun x h => by cases h
theorem pm_vok_i {x : Int} (h : pm_rg x = true) : pm_vok (.inl x) := fun y e => by cases e; exact h
theorem pm_sok_c {v : PV} {st : List PV} (h1 : pm_vok v) (h2 : pm_sok st) : pm_sok (v :: st) := fun w hw => by
  rcases List.mem_cons.mp hw with rfl | h
  · exact h1
  · exact h2 w h
theorem pm_sok_h {v : PV} {st : List PV} (h : pm_sok (v :: st)) : pm_vok v := h v List.mem_cons_self
theorem pm_sok_t {v : PV} {st : List PV} (h : pm_sok (v :: st)) : pm_sok st := fun w hw => h w (List.mem_cons_of_mem _ hw)
theorem pm_pok_sto {P : PL} {i : Nat} {v : PV} (h : pm_pok P) (hv : pm_vok v) : pm_pok (pm_sto P i v) := fun j w hw => by
  rcases pm_lk_sto hw with ⟨-, rfl⟩ | ⟨-, h2, -⟩
  · exact hv
  · exact h j w h2
theorem pm_pok_stl {P : PL} {i : Nat} {x : Int64} (h : pm_pok P) : pm_pok (pm_stl P i x) := fun j w hw => by
  rcases pm_lk_stl hw with ⟨-, rfl⟩ | ⟨-, -, h2, -⟩
  · exact pm_vok_l
  · exact h j w h2
theorem pm_wok_upd {G : PW} {k j : Nat} {x : Int} (h : pm_wok G) (hx : pm_rg x = true) : pm_wok (pm_upd G k j x) := fun a b => by
  rw [pm_upd_eq]
  by_cases q : a = k ∧ b = j
  · rw [if_pos q]; exact hx
  · rw [if_neg q]; exact h a b
def pm_aok (P : PL) (st : List PV) (G : PW) : PA → Prop
  | .inl (_, P', st', G') => pm_sok st' ∧ pm_pok P' ∧ pm_wok G'
  | .inr (.inl (_, as, _, P', st')) => pm_sok as ∧ pm_sok st' ∧ pm_pok P'
  | .inr (.inr v) => ∀ w, v = some w → pm_vok w
theorem pm_fit_rg {ty : Nat} {x : Int} (_ : pm_fit ty x = true) (h : pm_rg x = true) : pm_rg x = true := h
theorem pm_pop_ok : ∀ (n : Nat) (st acc as t : List PV), pm_pop n st acc = some (as, t) → pm_sok st → pm_sok acc → pm_sok as ∧ pm_sok t := by
  intro n
  induction n with
  | zero => intro st acc as t h h1 h2; cases h; exact ⟨h2, h1⟩
  | succ n ih =>
    intro st acc as t h h1 h2
    cases st with
    | nil => cases h
    | cons v st => exact ih st (v :: acc) as t h (pm_sok_t h1) (pm_sok_c (pm_sok_h h1) h2)
theorem pm_pop_eq : ∀ (n : Nat) (st acc as t : List PV), pm_pop n st acc = some (as, t) → as.reverse ++ t = acc.reverse ++ st ∧ as.length = acc.length + n := by
  intro n
  induction n with
  | zero => intro st acc as t h; cases h; exact ⟨rfl, rfl⟩
  | succ n ih =>
    intro st acc as t h
    cases st with
    | nil => cases h
    | cons v st =>
      obtain ⟨h1, h2⟩ := ih st (v :: acc) as t h
      refine ⟨by rw [h1, List.reverse_cons, List.append_assoc]; rfl, by rw [h2, List.length_cons]; omega⟩
theorem pm_bif {α : Type} {b : Bool} {x y : Option α} {a : α} (h : (bif b then x else y) = some a) (hn : y = none) : b = true ∧ x = some a := by
  cases b with
  | false => rw [hn] at h; cases h
  | true => exact ⟨rfl, h⟩
theorem pm_and2 {a b : Bool} (h : (a && b) = true) : a = true ∧ b = true := by rwa [Bool.and_eq_true] at h
section PMA
variable {S : PS} {k pc n j : Nat} {P : PL} {st : List PV} {G : PW} {a : PA}
theorem pm_a_il (h : pm_oIL j n P st G = some a) : ∃ x, pm_lk P j = some (.inl x) ∧ a = .inl (n, P, .inl x :: st, G) := by
  unfold pm_oIL at h; split at h
  · rename_i x hx; exact ⟨x, hx, (Option.some.inj h).symm⟩
  · cases h
theorem pm_a_ll (h : pm_oLL j n P st G = some a) : ∃ x, pm_lk P j = some (.inr (.inl x)) ∧ a = .inl (n, P, .inr (.inl x) :: st, G) := by
  unfold pm_oLL at h; split at h
  · rename_i x hx; exact ⟨x, hx, (Option.some.inj h).symm⟩
  · cases h
theorem pm_a_al (h : pm_oAL j n P st G = some a) : ∃ x, pm_lk P j = some (.inr (.inr x)) ∧ a = .inl (n, P, .inr (.inr x) :: st, G) := by
  unfold pm_oAL at h; split at h
  · rename_i x hx; exact ⟨x, hx, (Option.some.inj h).symm⟩
  · cases h
theorem pm_a_is (h : pm_oIS j n P st G = some a) : ∃ x t, st = .inl x :: t ∧ a = .inl (n, pm_sto P j (.inl x), t, G) := by
  unfold pm_oIS at h; split at h
  · rename_i x t; exact ⟨x, t, rfl, (Option.some.inj h).symm⟩
  · cases h
theorem pm_a_as (h : pm_oAS j n P st G = some a) : ∃ x t, st = .inr (.inr x) :: t ∧ a = .inl (n, pm_sto P j (.inr (.inr x)), t, G) := by
  unfold pm_oAS at h; split at h
  · rename_i x t; exact ⟨x, t, rfl, (Option.some.inj h).symm⟩
  · cases h
theorem pm_a_ls (h : pm_oLS j n P st G = some a) : ∃ x t, st = .inr (.inl x) :: t ∧ a = .inl (n, pm_stl P j x, t, G) := by
  unfold pm_oLS at h; split at h
  · rename_i x t; exact ⟨x, t, rfl, (Option.some.inj h).symm⟩
  · cases h
theorem pm_a_add (h : pm_oAdd n P st G = some a) : ∃ x y t, st = .inl y :: .inl x :: t ∧ pm_rg (x + y) = true ∧ a = .inl (n, P, .inl (x + y) :: t, G) := by
  unfold pm_oAdd at h; split at h
  · rename_i y x t; obtain ⟨h1, h2⟩ := pm_bif h rfl; exact ⟨x, y, t, rfl, h1, (Option.some.inj h2).symm⟩
  · cases h
theorem pm_a_sub (h : pm_oSub n P st G = some a) : ∃ x y t, st = .inl y :: .inl x :: t ∧ pm_rg (x - y) = true ∧ a = .inl (n, P, .inl (x - y) :: t, G) := by
  unfold pm_oSub at h; split at h
  · rename_i y x t; obtain ⟨h1, h2⟩ := pm_bif h rfl; exact ⟨x, y, t, rfl, h1, (Option.some.inj h2).symm⟩
  · cases h
theorem pm_a_mul (h : pm_oMul n P st G = some a) : ∃ x y t, st = .inl y :: .inl x :: t ∧ pm_rg (x * y) = true ∧ a = .inl (n, P, .inl (x * y) :: t, G) := by
  unfold pm_oMul at h; split at h
  · rename_i y x t; obtain ⟨h1, h2⟩ := pm_bif h rfl; exact ⟨x, y, t, rfl, h1, (Option.some.inj h2).symm⟩
  · cases h
theorem pm_a_div (h : pm_oDiv n P st G = some a) : ∃ x y t, st = .inl y :: .inl x :: t ∧ 0 ≤ x ∧ 0 < y ∧ a = .inl (n, P, .inl (x / y) :: t, G) := by
  unfold pm_oDiv at h; split at h
  · rename_i y x t; obtain ⟨h1, h2⟩ := pm_bif h rfl; obtain ⟨h3, h4⟩ := pm_and2 h1; exact ⟨x, y, t, rfl, of_decide_eq_true h3, of_decide_eq_true h4, (Option.some.inj h2).symm⟩
  · cases h
theorem pm_a_rem (h : pm_oRem n P st G = some a) : ∃ x y t, st = .inl y :: .inl x :: t ∧ 0 ≤ x ∧ 0 < y ∧ a = .inl (n, P, .inl (x % y) :: t, G) := by
  unfold pm_oRem at h; split at h
  · rename_i y x t; obtain ⟨h1, h2⟩ := pm_bif h rfl; obtain ⟨h3, h4⟩ := pm_and2 h1; exact ⟨x, y, t, rfl, of_decide_eq_true h3, of_decide_eq_true h4, (Option.some.inj h2).symm⟩
  · cases h
theorem pm_a_shr (h : pm_oShr n P st G = some a) : ∃ x y t, st = .inl y :: .inl x :: t ∧ 0 ≤ x ∧ 0 ≤ y ∧ y ≤ 31 ∧ a = .inl (n, P, .inl (x / 2 ^ y.toNat) :: t, G) := by
  unfold pm_oShr at h; split at h
  · rename_i y x t; obtain ⟨h1, h2⟩ := pm_bif h rfl; obtain ⟨h3, h4⟩ := pm_and2 h1; obtain ⟨h5, h6⟩ := pm_and2 h4; exact ⟨x, y, t, rfl, of_decide_eq_true h3, of_decide_eq_true h5, of_decide_eq_true h6, (Option.some.inj h2).symm⟩
  · cases h
theorem pm_a_and (h : pm_oAnd n P st G = some a) : ∃ x y t, st = .inl y :: .inl x :: t ∧ 0 ≤ x ∧ y = 1 ∧ a = .inl (n, P, .inl (x % 2) :: t, G) := by
  unfold pm_oAnd at h; split at h
  · rename_i y x t; obtain ⟨h1, h2⟩ := pm_bif h rfl; obtain ⟨h3, h4⟩ := pm_and2 h1; exact ⟨x, y, t, rfl, of_decide_eq_true h3, of_decide_eq_true h4, (Option.some.inj h2).symm⟩
  · cases h
theorem pm_a_or (h : pm_oOr n P st G = some a) : ∃ x y t, st = .inl y :: .inl x :: t ∧ (x = 0 ∨ x = 1) ∧ (y = 0 ∨ y = 1) ∧ a = .inl (n, P, .inl (x + y - x * y) :: t, G) := by
  unfold pm_oOr at h; split at h
  · rename_i y x t; obtain ⟨h1, h2⟩ := pm_bif h rfl; obtain ⟨h3, h4⟩ := pm_and2 h1; obtain ⟨h5, h6⟩ := pm_and2 h3; obtain ⟨h7, h8⟩ := pm_and2 h4; have h5 := of_decide_eq_true h5; have h6 := of_decide_eq_true h6; have h7 := of_decide_eq_true h7; have h8 := of_decide_eq_true h8; exact ⟨x, y, t, rfl, by omega, by omega, (Option.some.inj h2).symm⟩
  · cases h
theorem pm_a_l2i (h : pm_oL2i n P st G = some a) : ∃ x t, st = .inr (.inl x) :: t ∧ a = .inl (n, P, .inl x.toInt32.toInt :: t, G) := by
  unfold pm_oL2i at h; split at h
  · rename_i x t; exact ⟨x, t, rfl, (Option.some.inj h).symm⟩
  · cases h
theorem pm_a_i2c (h : pm_oI2c n P st G = some a) : ∃ x t, st = .inl x :: t ∧ pm_fit 1 x = true ∧ a = .inl (n, P, .inl x :: t, G) := by
  unfold pm_oI2c at h; split at h
  · rename_i x t; obtain ⟨h1, h2⟩ := pm_bif h rfl; exact ⟨x, t, rfl, h1, (Option.some.inj h2).symm⟩
  · cases h
theorem pm_a_land (h : pm_oLand n P st G = some a) : ∃ x y t, st = .inr (.inl y) :: .inr (.inl x) :: t ∧ a = .inl (n, P, .inr (.inl (x &&& y)) :: t, G) := by
  unfold pm_oLand at h; split at h
  · rename_i y x t; exact ⟨x, y, t, rfl, (Option.some.inj h).symm⟩
  · cases h
theorem pm_a_lus (h : pm_oLus n P st G = some a) : ∃ x y t, st = .inl y :: .inr (.inl x) :: t ∧ a = .inl (n, P, .inr (.inl (pm_lus x y)) :: t, G) := by
  unfold pm_oLus at h; split at h
  · rename_i y x t; exact ⟨x, y, t, rfl, (Option.some.inj h).symm⟩
  · cases h
theorem pm_a_lsh (h : pm_oLsh n P st G = some a) : ∃ x y t, st = .inl y :: .inr (.inl x) :: t ∧ a = .inl (n, P, .inr (.inl (pm_lsh x y)) :: t, G) := by
  unfold pm_oLsh at h; split at h
  · rename_i y x t; exact ⟨x, y, t, rfl, (Option.some.inj h).symm⟩
  · cases h
theorem pm_a_lcm (h : pm_oLcm n P st G = some a) : ∃ x y t, st = .inr (.inl y) :: .inr (.inl x) :: t ∧ a = .inl (n, P, .inl (lg_cmp x y).toInt :: t, G) := by
  unfold pm_oLcm at h; split at h
  · rename_i y x t; exact ⟨x, y, t, rfl, (Option.some.inj h).symm⟩
  · cases h
theorem pm_a_br {b : Bool} {g : Nat} (h : pm_br b g n P st G = some a) : (b = true ∧ a = .inl (g, P, st, G)) ∨ (b = false ∧ a = .inl (n, P, st, G)) := by
  unfold pm_br at h
  cases b with
  | false => exact Or.inr ⟨rfl, (Option.some.inj h).symm⟩
  | true => exact Or.inl ⟨rfl, (Option.some.inj h).symm⟩
theorem pm_a_if {cc : ClassFile.Cond} {tg : Option Nat} (h : pm_oIf cc tg n P st G = some a) : ∃ g x t, tg = some g ∧ st = .inl x :: t ∧ pm_br (pm_cmp cc x 0) g n P t G = some a := by
  unfold pm_oIf at h; split at h
  · rename_i g x t; exact ⟨g, x, t, rfl, rfl, h⟩
  · cases h
theorem pm_a_icm {cc : ClassFile.Cond} {tg : Option Nat} (h : pm_oIc cc tg n P st G = some a) : ∃ g x y t, tg = some g ∧ st = .inl y :: .inl x :: t ∧ pm_br (pm_cmp cc x y) g n P t G = some a := by
  unfold pm_oIc at h; split at h
  · rename_i g y x t; exact ⟨g, x, y, t, rfl, rfl, h⟩
  · cases h
theorem pm_a_go {tg : Option Nat} (h : pm_oGo tg P st G = some a) : ∃ g, tg = some g ∧ a = .inl (g, P, st, G) := by
  unfold pm_oGo at h; split at h
  · rename_i g; exact ⟨g, rfl, (Option.some.inj h).symm⟩
  · cases h
theorem pm_a_sw {lo hi : Int} {df : Option Nat} {tg : Option (List Nat)} (h : pm_oSw lo hi df tg P st G = some a) : ∃ d gs x t g, df = some d ∧ tg = some gs ∧ st = .inl x :: t ∧ ((lo ≤ x ∧ x ≤ hi ∧ gs[(x - lo).toNat]? = some g) ∨ ((x < lo ∨ hi < x) ∧ g = d)) ∧ a = .inl (g, P, t, G) := by
  unfold pm_oSw at h; split at h
  · rename_i d gs x t
    cases hb : (decide (lo ≤ x) && decide (x ≤ hi)) with
    | false =>
      rw [hb] at h
      refine ⟨d, gs, x, t, d, rfl, rfl, rfl, Or.inr ⟨?_, rfl⟩, (Option.some.inj h).symm⟩
      rw [Bool.and_eq_false_iff, decide_eq_false_iff_not, decide_eq_false_iff_not] at hb
      omega
    | true =>
      rw [hb] at h
      obtain ⟨h3, h4⟩ := pm_and2 hb
      dsimp only [cond_true] at h
      split at h
      · rename_i g hg
        exact ⟨d, gs, x, t, g, rfl, rfl, rfl, Or.inl ⟨of_decide_eq_true h3, of_decide_eq_true h4, hg⟩, (Option.some.inj h).symm⟩
      · cases h
  · cases h
theorem pm_a_gf {ci : Nat} (h : pm_oGf S ci j n P st G = some a) : ∃ r t o, st = .inr (.inr r) :: t ∧ pm_fd S ci j r = some o ∧ a = .inl (n, P, (match o with | some q => .inr (.inr q) | none => .inl (G r j)) :: t, G) := by
  unfold pm_oGf at h; split at h
  · rename_i r t
    split at h
    · rename_i q hq; exact ⟨r, t, some q, rfl, hq, (Option.some.inj h).symm⟩
    · rename_i hq; exact ⟨r, t, none, rfl, hq, (Option.some.inj h).symm⟩
    · cases h
  · cases h
theorem pm_a_pf {ci ty : Nat} (h : pm_oPf S ci j ty n P st G = some a) : ∃ x r t, st = .inl x :: .inr (.inr r) :: t ∧ pm_fd S ci j r = some none ∧ pm_fit ty x = true ∧ a = .inl (n, P, t, pm_upd G r j x) := by
  unfold pm_oPf at h; split at h
  · rename_i x r t
    split at h
    · rename_i hq; obtain ⟨h1, h2⟩ := pm_bif h rfl; exact ⟨x, r, t, rfl, hq, h1, (Option.some.inj h2).symm⟩
    · cases h
  · cases h
theorem pm_a_ald {ty : Nat} (h : pm_oAld S ty n P st G = some a) : ∃ i r t N, st = .inl i :: .inr (.inr r) :: t ∧ pm_ar S ty r = some N ∧ 0 ≤ i ∧ i < (N : Int) ∧ a = .inl (n, P, .inl (G r i.toNat) :: t, G) := by
  unfold pm_oAld at h; split at h
  · rename_i i r t
    split at h
    · rename_i N hq; obtain ⟨h1, h2⟩ := pm_bif h rfl; obtain ⟨h3, h4⟩ := pm_and2 h1; exact ⟨i, r, t, N, rfl, hq, of_decide_eq_true h3, of_decide_eq_true h4, (Option.some.inj h2).symm⟩
    · cases h
  · cases h
theorem pm_a_ast {ty : Nat} (h : pm_oAst S ty n P st G = some a) : ∃ x i r t N, st = .inl x :: .inl i :: .inr (.inr r) :: t ∧ pm_ar S ty r = some N ∧ 0 ≤ i ∧ i < (N : Int) ∧ pm_fit ty x = true ∧ a = .inl (n, P, t, pm_upd G r i.toNat x) := by
  unfold pm_oAst at h; split at h
  · rename_i x i r t
    split at h
    · rename_i N hq; obtain ⟨h1, h2⟩ := pm_bif h rfl; obtain ⟨h0, h5⟩ := pm_and2 h1; obtain ⟨h3, h4⟩ := pm_and2 h0; exact ⟨x, i, r, t, N, rfl, hq, of_decide_eq_true h3, of_decide_eq_true h4, h5, (Option.some.inj h2).symm⟩
    · cases h
  · cases h
theorem pm_a_len (h : pm_oLen S n P st G = some a) : ∃ r t N, st = .inr (.inr r) :: t ∧ pm_al S r = some N ∧ a = .inl (n, P, .inl (N : Int) :: t, G) := by
  unfold pm_oLen at h; split at h
  · rename_i r t
    split at h
    · rename_i N hq; exact ⟨r, t, N, rfl, hq, (Option.some.inj h).symm⟩
    · cases h
  · cases h
theorem pm_a_dup (h : pm_oDup n P st G = some a) : ∃ v t, st = v :: t ∧ (∀ x, v ≠ .inr (.inl x)) ∧ a = .inl (n, P, v :: v :: t, G) := by
  unfold pm_oDup at h; split at h
  · rename_i x t; exact ⟨.inl x, t, rfl, (fun _ q => by cases q), (Option.some.inj h).symm⟩
  · rename_i x t; exact ⟨.inr (.inr x), t, rfl, (fun _ q => by cases q), (Option.some.inj h).symm⟩
  · cases h
theorem pm_a_du2 (h : pm_oDu2 n P st G = some a) : ∃ v w t, st = v :: w :: t ∧ (∀ x, v ≠ .inr (.inl x)) ∧ (∀ x, w ≠ .inr (.inl x)) ∧ a = .inl (n, P, v :: w :: v :: w :: t, G) := by
  unfold pm_oDu2 at h; split at h
  · rename_i x y t; exact ⟨.inl x, .inr (.inr y), t, rfl, (fun _ q => by cases q), (fun _ q => by cases q), (Option.some.inj h).symm⟩
  · cases h
theorem pm_a_pop (h : pm_oPop n P st G = some a) : ∃ v t, st = v :: t ∧ (∀ x, v ≠ .inr (.inl x)) ∧ a = .inl (n, P, t, G) := by
  unfold pm_oPop at h; split at h
  · rename_i x t; exact ⟨.inl x, t, rfl, (fun _ q => by cases q), (Option.some.inj h).symm⟩
  · cases h
theorem pm_a_inc {b : Int} (h : pm_oInc j b n P st G = some a) : ∃ x, pm_lk P j = some (.inl x) ∧ pm_rg (x + b) = true ∧ a = .inl (n, pm_sto P j (.inl (x + b)), st, G) := by
  unfold pm_oInc at h; split at h
  · rename_i x hx; obtain ⟨h1, h2⟩ := pm_bif h rfl; exact ⟨x, hx, h1, (Option.some.inj h2).symm⟩
  · cases h
theorem pm_a_cs {k' na nl : Nat} (h : pm_oCs k' na nl n P st G = some a) : ∃ as t, pm_pop na st [] = some (as, t) ∧ t.length ≤ 4 ∧ (pm_ent as).length ≤ nl ∧ a = .inr (.inl (k', as, n, P, t)) := by
  unfold pm_oCs at h; split at h
  · rename_i as t hp; obtain ⟨h1, h2⟩ := pm_bif h rfl; obtain ⟨h3, h4⟩ := pm_and2 h1; exact ⟨as, t, hp, Nat.le_of_ble_eq_true h3, Nat.le_of_ble_eq_true h4, (Option.some.inj h2).symm⟩
  · cases h
theorem pm_a_cv {k' na nl ci : Nat} (h : pm_oCv S k' na nl ci n P st G = some a) : ∃ r as t, pm_pop (na + 1) st [] = some (.inr (.inr r) :: as, t) ∧ pm_cls S r = some ci ∧ t.length ≤ 4 ∧ (pm_ent as).length + 1 ≤ nl ∧ a = .inr (.inl (k', .inr (.inr r) :: as, n, P, t)) := by
  unfold pm_oCv at h; split at h
  · rename_i r as t hp
    split at h
    · rename_i c hc
      obtain ⟨h1, h2⟩ := pm_bif h rfl; obtain ⟨h0, h5⟩ := pm_and2 h1; obtain ⟨h3, h4⟩ := pm_and2 h5
      have := Nat.eq_of_beq_eq_true h0
      subst this
      exact ⟨r, as, t, hp, hc, Nat.le_of_ble_eq_true h3, Nat.le_of_ble_eq_true h4, (Option.some.inj h2).symm⟩
    · cases h
  · cases h
theorem pm_a_rv (h : pm_oRv P st G = some a) : st = [] ∧ a = .inr (.inr none) := by
  unfold pm_oRv at h; split at h
  · exact ⟨rfl, (Option.some.inj h).symm⟩
  · cases h
theorem pm_a_ri {ty : Nat} (h : pm_oRi ty P st G = some a) : ∃ x, st = [.inl x] ∧ pm_fit ty x = true ∧ a = .inr (.inr (some (.inl x))) := by
  unfold pm_oRi at h; split at h
  · rename_i x; obtain ⟨h1, h2⟩ := pm_bif h rfl; exact ⟨x, rfl, h1, (Option.some.inj h2).symm⟩
  · cases h
end PMA
theorem pm_gd {a b c d : Nat} (h : (Nat.ble a c || Nat.ble b d) = false) : c < a ∧ d < b := by
  rw [Bool.or_eq_false_iff] at h
  refine ⟨Nat.lt_of_not_le (fun q => ?_), Nat.lt_of_not_le (fun q => ?_)⟩
  · rw [Nat.ble_eq_true_of_le q] at h; exact absurd h.1 (by decide)
  · rw [Nat.ble_eq_true_of_le q] at h; exact absurd h.2 (by decide)
theorem pm_bif0 {α : Type} {b : Bool} {y : Option α} {a : α} (h : (bif b then none else y) = some a) : b = false ∧ y = some a := by
  cases b with
  | true => cases h
  | false => exact ⟨rfl, h⟩
theorem pm_fl_lt {c ix : Nat} {q : Nat × Nat × Nat} (h : pm_fl c ix = some q) : c < 7 ∧ ix < 400 := by
  unfold pm_fl at h
  exact pm_gd (pm_bif0 h).1
theorem pm_ml_lt {c ix : Nat} {q : Nat × Nat × Nat × Nat × Nat} (h : pm_ml c ix = some q) : c < 7 ∧ ix < 400 := by
  unfold pm_ml at h
  exact pm_gd (pm_bif0 h).1
theorem pm_cl_lt {c ix : Nat} {q : Int64 × Nat} (h : pm_cl c ix = some q) : c < 7 ∧ ix < 400 := by
  unfold pm_cl at h
  exact pm_gd (pm_bif0 h).1
theorem pm_ins_lt {k pc : Nat} {q : Instr × Nat} (h : pm_ins k pc = some q) : k < 89 ∧ pc < 1200 := by
  unfold pm_ins at h
  exact pm_gd (pm_bif0 h).1
theorem pm_ins_ok {k pc len : Nat} {i : Instr} (h : pm_ins k pc = some (i, len)) : decode (pm_cc k) pc = .ok (i, len) ∧ pm_sOK (pm_nl k) i = true := by
  obtain ⟨h1, h2⟩ := pm_ins_lt h
  have h3 := pm_iOK_all k (by omega)
  unfold pm_iOK at h3
  have h4 := List.all_eq_true.mp h3 pc (List.mem_range.mpr h2)
  rw [h] at h4
  obtain ⟨h5, h6⟩ := pm_and2 h4
  exact ⟨of_decide_eq_true h5, h6⟩
set_option maxHeartbeats 4000000 in
theorem pm_pres {S : PS} {k pc len : Nat} {i : Instr} {P : PL} {st : List PV} {G : PW} {a : PA} (ha : pm_stp S k pc i len P st G = some a) (h1 : pm_sok st) (h2 : pm_pok P) (h3 : pm_wok G) : pm_aok P st G a := by
  unfold pm_stp at ha
  split at ha
  · rename_i j
    obtain ⟨x, hx', rfl⟩ := pm_a_il ha
    exact ⟨pm_sok_c (h2 _ _ hx') h1, h2, h3⟩
  · rename_i j
    obtain ⟨x, hx', rfl⟩ := pm_a_il ha
    exact ⟨pm_sok_c (h2 _ _ hx') h1, h2, h3⟩
  · rename_i j
    obtain ⟨x, hx', rfl⟩ := pm_a_ll ha
    exact ⟨pm_sok_c pm_vok_l h1, h2, h3⟩
  · rename_i j
    obtain ⟨x, hx', rfl⟩ := pm_a_ll ha
    exact ⟨pm_sok_c pm_vok_l h1, h2, h3⟩
  · rename_i j
    obtain ⟨x, hx', rfl⟩ := pm_a_al ha
    exact ⟨pm_sok_c pm_vok_r h1, h2, h3⟩
  · rename_i j
    obtain ⟨x, hx', rfl⟩ := pm_a_al ha
    exact ⟨pm_sok_c pm_vok_r h1, h2, h3⟩
  · rename_i j
    obtain ⟨x, t, rfl, rfl⟩ := pm_a_is ha
    exact ⟨pm_sok_t h1, pm_pok_sto h2 (pm_sok_h h1), h3⟩
  · rename_i j
    obtain ⟨x, t, rfl, rfl⟩ := pm_a_is ha
    exact ⟨pm_sok_t h1, pm_pok_sto h2 (pm_sok_h h1), h3⟩
  · rename_i j
    obtain ⟨x, t, rfl, rfl⟩ := pm_a_ls ha
    exact ⟨pm_sok_t h1, pm_pok_stl h2, h3⟩
  · rename_i j
    obtain ⟨x, t, rfl, rfl⟩ := pm_a_ls ha
    exact ⟨pm_sok_t h1, pm_pok_stl h2, h3⟩
  · rename_i j
    obtain ⟨x, t, rfl, rfl⟩ := pm_a_as ha
    exact ⟨pm_sok_t h1, pm_pok_sto h2 (pm_sok_h h1), h3⟩
  · rename_i j
    obtain ⟨x, t, rfl, rfl⟩ := pm_a_as ha
    exact ⟨pm_sok_t h1, pm_pok_sto h2 (pm_sok_h h1), h3⟩
  · rename_i x
    obtain ⟨q, hq⟩ := pm_bif ha rfl
    obtain ⟨q1, q2⟩ := pm_and2 q
    cases hq
    have q1 := of_decide_eq_true q1
    have q2 := of_decide_eq_true q2
    exact ⟨pm_sok_c (pm_vok_i (pm_rg_iff.mpr ⟨by omega, by omega⟩)) h1, h2, h3⟩
  · rename_i x
    obtain ⟨q, hq⟩ := pm_bif ha rfl
    obtain ⟨q1, q2⟩ := pm_and2 q
    cases hq
    have q1 := of_decide_eq_true q1
    have q2 := of_decide_eq_true q2
    exact ⟨pm_sok_c (pm_vok_i (pm_rg_iff.mpr ⟨by omega, by omega⟩)) h1, h2, h3⟩
  · rename_i x
    obtain ⟨q, hq⟩ := pm_bif ha rfl
    obtain ⟨q1, q2⟩ := pm_and2 q
    cases hq
    have q1 := of_decide_eq_true q1
    have q2 := of_decide_eq_true q2
    exact ⟨pm_sok_c (pm_vok_i (pm_rg_iff.mpr ⟨by omega, by omega⟩)) h1, h2, h3⟩
  · rename_i x
    cases ha
    exact ⟨pm_sok_c pm_vok_l h1, h2, h3⟩
  · rename_i ix
    split at ha
    · cases ha
      exact ⟨pm_sok_c pm_vok_l h1, h2, h3⟩
    · cases ha
  · obtain ⟨x, y, t, rfl, q, rfl⟩ := pm_a_add ha
    exact ⟨pm_sok_c (pm_vok_i q) (pm_sok_t (pm_sok_t h1)), h2, h3⟩
  · obtain ⟨x, y, t, rfl, q, rfl⟩ := pm_a_sub ha
    exact ⟨pm_sok_c (pm_vok_i q) (pm_sok_t (pm_sok_t h1)), h2, h3⟩
  · obtain ⟨x, y, t, rfl, q, rfl⟩ := pm_a_mul ha
    exact ⟨pm_sok_c (pm_vok_i q) (pm_sok_t (pm_sok_t h1)), h2, h3⟩
  · obtain ⟨x, y, t, rfl, q1, q2, rfl⟩ := pm_a_div ha
    exact ⟨pm_sok_c (pm_vok_i (pm_div_rg q1 q2 (pm_sok_h (pm_sok_t h1) _ rfl))) (pm_sok_t (pm_sok_t h1)), h2, h3⟩
  · obtain ⟨x, y, t, rfl, q1, q2, rfl⟩ := pm_a_rem ha
    exact ⟨pm_sok_c (pm_vok_i (pm_rem_rg q1 q2 (pm_sok_h h1 _ rfl))) (pm_sok_t (pm_sok_t h1)), h2, h3⟩
  · obtain ⟨x, y, t, rfl, q1, q2, q3, rfl⟩ := pm_a_shr ha
    exact ⟨pm_sok_c (pm_vok_i (pm_div_rg q1 (Int.pow_pos (by decide)) (pm_sok_h (pm_sok_t h1) _ rfl))) (pm_sok_t (pm_sok_t h1)), h2, h3⟩
  · obtain ⟨x, y, t, rfl, q1, q2, rfl⟩ := pm_a_and ha
    exact ⟨pm_sok_c (pm_vok_i (pm_rem_rg q1 (by decide) (by decide))) (pm_sok_t (pm_sok_t h1)), h2, h3⟩
  · obtain ⟨x, t, rfl, rfl⟩ := pm_a_l2i ha
    exact ⟨pm_sok_c (pm_vok_i (pm_rgI _)) (pm_sok_t h1), h2, h3⟩
  · obtain ⟨x, t, rfl, q, rfl⟩ := pm_a_i2c ha
    exact ⟨h1, h2, h3⟩
  · obtain ⟨x, y, t, rfl, rfl⟩ := pm_a_land ha
    exact ⟨pm_sok_c pm_vok_l (pm_sok_t (pm_sok_t h1)), h2, h3⟩
  · obtain ⟨x, y, t, rfl, rfl⟩ := pm_a_lus ha
    exact ⟨pm_sok_c pm_vok_l (pm_sok_t (pm_sok_t h1)), h2, h3⟩
  · obtain ⟨x, y, t, rfl, rfl⟩ := pm_a_lsh ha
    exact ⟨pm_sok_c pm_vok_l (pm_sok_t (pm_sok_t h1)), h2, h3⟩
  · obtain ⟨x, y, t, rfl, rfl⟩ := pm_a_lcm ha
    exact ⟨pm_sok_c (pm_vok_i (pm_rgI _)) (pm_sok_t (pm_sok_t h1)), h2, h3⟩
  · rename_i cc off
    obtain ⟨g, x, t, hg, rfl, hbr⟩ := pm_a_if ha
    rcases pm_a_br hbr with ⟨-, rfl⟩ | ⟨-, rfl⟩
    · exact ⟨pm_sok_t h1, h2, h3⟩
    · exact ⟨pm_sok_t h1, h2, h3⟩
  · rename_i cc off
    obtain ⟨g, x, y, t, hg, rfl, hbr⟩ := pm_a_icm ha
    rcases pm_a_br hbr with ⟨-, rfl⟩ | ⟨-, rfl⟩
    · exact ⟨pm_sok_t (pm_sok_t h1), h2, h3⟩
    · exact ⟨pm_sok_t (pm_sok_t h1), h2, h3⟩
  · rename_i off
    obtain ⟨g, hg, rfl⟩ := pm_a_go ha
    exact ⟨h1, h2, h3⟩
  · obtain ⟨d, gs, x, t, g, q1, q2, rfl, q3, rfl⟩ := pm_a_sw ha
    exact ⟨pm_sok_t h1, h2, h3⟩
  · rename_i ix
    split at ha
    · obtain ⟨r, t, o, rfl, q, rfl⟩ := pm_a_gf ha
      refine ⟨pm_sok_c ?_ (pm_sok_t h1), h2, h3⟩
      cases o
      · exact pm_vok_i (h3 _ _)
      · exact pm_vok_r
    · cases ha
  · rename_i ix
    split at ha
    · obtain ⟨q, hq⟩ := pm_bif0 ha
      split at hq
      · obtain ⟨x, r, t, rfl, q1, q2, rfl⟩ := pm_a_pf hq
        exact ⟨pm_sok_t (pm_sok_t h1), h2, pm_wok_upd h3 (pm_sok_h h1 _ rfl)⟩
      · obtain ⟨x, r, t, rfl, q1, q2, rfl⟩ := pm_a_pf hq
        exact ⟨pm_sok_t (pm_sok_t h1), h2, pm_wok_upd h3 (pm_sok_h h1 _ rfl)⟩
      · cases hq
    · cases ha
  · obtain ⟨i, r, t, n, rfl, q1, q2, q3, rfl⟩ := pm_a_ald ha
    exact ⟨pm_sok_c (pm_vok_i (h3 _ _)) (pm_sok_t (pm_sok_t h1)), h2, h3⟩
  · obtain ⟨i, r, t, n, rfl, q1, q2, q3, rfl⟩ := pm_a_ald ha
    exact ⟨pm_sok_c (pm_vok_i (h3 _ _)) (pm_sok_t (pm_sok_t h1)), h2, h3⟩
  · obtain ⟨x, y, t, rfl, q1, q2, rfl⟩ := pm_a_or ha
    exact ⟨pm_sok_c (pm_vok_i (by rcases q1 with rfl | rfl <;> rcases q2 with rfl | rfl <;> decide)) (pm_sok_t (pm_sok_t h1)), h2, h3⟩
  · obtain ⟨x, i, r, t, n, rfl, q1, q2, q3, q4, rfl⟩ := pm_a_ast ha
    exact ⟨pm_sok_t (pm_sok_t (pm_sok_t h1)), h2, pm_wok_upd h3 (pm_sok_h h1 _ rfl)⟩
  · obtain ⟨x, i, r, t, n, rfl, q1, q2, q3, q4, rfl⟩ := pm_a_ast ha
    exact ⟨pm_sok_t (pm_sok_t (pm_sok_t h1)), h2, pm_wok_upd h3 (pm_sok_h h1 _ rfl)⟩
  · obtain ⟨r, t, n, rfl, q, rfl⟩ := pm_a_len ha
    obtain ⟨ty, -, q2⟩ := pm_al_some q
    exact ⟨pm_sok_c (pm_vok_i (pm_rg_iff.mpr ⟨by omega, by omega⟩)) (pm_sok_t h1), h2, h3⟩
  · obtain ⟨v, t, rfl, q, rfl⟩ := pm_a_dup ha
    exact ⟨pm_sok_c (pm_sok_h h1) h1, h2, h3⟩
  · obtain ⟨v, w, t, rfl, q, q2, rfl⟩ := pm_a_du2 ha
    exact ⟨pm_sok_c (pm_sok_h h1) (pm_sok_c (pm_sok_h (pm_sok_t h1)) h1), h2, h3⟩
  · obtain ⟨v, t, rfl, q, rfl⟩ := pm_a_pop ha
    exact ⟨pm_sok_t h1, h2, h3⟩
  · rename_i j b
    obtain ⟨x, hx', q, rfl⟩ := pm_a_inc ha
    exact ⟨h1, pm_pok_sto h2 (pm_vok_i q), h3⟩
  · rename_i ix
    split at ha
    · obtain ⟨-, hq⟩ := pm_bif ha rfl
      obtain ⟨r, as, t, q1, q2, q3, q4, rfl⟩ := pm_a_cv hq
      obtain ⟨o1, o2⟩ := pm_pop_ok _ _ _ _ _ q1 h1 (fun _ h => by cases h)
      exact ⟨o1, o2, h2⟩
    · cases ha
  · rename_i ix
    split at ha
    · obtain ⟨-, hq⟩ := pm_bif ha rfl
      obtain ⟨as, t, q1, q2, q3, rfl⟩ := pm_a_cs hq
      obtain ⟨o1, o2⟩ := pm_pop_ok _ _ _ _ _ q1 h1 (fun _ h => by cases h)
      exact ⟨o1, o2, h2⟩
    · obtain ⟨-, hq⟩ := pm_bif ha rfl
      obtain ⟨as, t, q1, q2, q3, rfl⟩ := pm_a_cs hq
      obtain ⟨o1, o2⟩ := pm_pop_ok _ _ _ _ _ q1 h1 (fun _ h => by cases h)
      exact ⟨o1, o2, h2⟩
    · cases ha
  · obtain ⟨-, hq⟩ := pm_bif ha rfl
    obtain ⟨rfl, rfl⟩ := pm_a_rv hq
    exact fun w h => by cases h
  · split at ha
    · obtain ⟨x, rfl, q, rfl⟩ := pm_a_ri ha
      exact fun w h => by cases h; exact pm_sok_h h1
    · obtain ⟨x, rfl, q, rfl⟩ := pm_a_ri ha
      exact fun w h => by cases h; exact pm_sok_h h1
    · obtain ⟨x, rfl, q, rfl⟩ := pm_a_ri ha
      exact fun w h => by cases h; exact pm_sok_h h1
    · cases ha
  · cases ha
def pm_fin (S : PS) (k pc : Nat) (i : Instr) (len : Nat) (P : PL) (st : List PV) (a : PA) : Prop :=
  (∃ ix k' p1 p2 p3 r as t, i = .invokevirtual ix ∧ len = 3 ∧ pm_ml (pm_ow k) ix = some (k', 0, p1, p2, p3) ∧ pm_rm k k' = true ∧ pm_pop (pm_na k' + 1) st [] = some (.inr (.inr r) :: as, t) ∧ pm_cls S r = some (pm_ow k') ∧ t.length ≤ 4 ∧ (pm_ent as).length + 1 ≤ pm_nl k' ∧ a = .inr (.inl (k', .inr (.inr r) :: as, pc + 3, P, t)))
  ∨ (∃ ix k' kd p1 p2 p3 as t, i = .invokestatic ix ∧ len = 3 ∧ (kd = 1 ∨ kd = 2) ∧ pm_ml (pm_ow k) ix = some (k', kd, p1, p2, p3) ∧ pm_rm k k' = true ∧ pm_pop (pm_na k') st [] = some (as, t) ∧ t.length ≤ 4 ∧ (pm_ent as).length ≤ pm_nl k' ∧ a = .inr (.inl (k', as, pc + 3, P, t)))
  ∨ (i = .return_ ∧ len = 1 ∧ pm_rt k = 0 ∧ st = [] ∧ a = .inr (.inr none))
  ∨ (∃ x ty, i = .ireturn ∧ len = 1 ∧ ((pm_rt k = 1 ∧ ty = 0) ∨ (pm_rt k = 2 ∧ ty = 2) ∨ (pm_rt k = 3 ∧ ty = 1)) ∧ st = [.inl x] ∧ pm_fit ty x = true ∧ a = .inr (.inr (some (.inl x))))
set_option maxHeartbeats 4000000 in
theorem pm_ends {S : PS} {k pc len : Nat} {i : Instr} {P : PL} {st : List PV} {G : PW} {a : PA} (ha : pm_stp S k pc i len P st G = some a) (hn : ∀ q, a ≠ .inl q) : pm_fin S k pc i len P st a := by
  unfold pm_stp at ha
  split at ha
  · rename_i j
    obtain ⟨x, hx', rfl⟩ := pm_a_il ha
    exact absurd rfl (hn _)
  · rename_i j
    obtain ⟨x, hx', rfl⟩ := pm_a_il ha
    exact absurd rfl (hn _)
  · rename_i j
    obtain ⟨x, hx', rfl⟩ := pm_a_ll ha
    exact absurd rfl (hn _)
  · rename_i j
    obtain ⟨x, hx', rfl⟩ := pm_a_ll ha
    exact absurd rfl (hn _)
  · rename_i j
    obtain ⟨x, hx', rfl⟩ := pm_a_al ha
    exact absurd rfl (hn _)
  · rename_i j
    obtain ⟨x, hx', rfl⟩ := pm_a_al ha
    exact absurd rfl (hn _)
  · rename_i j
    obtain ⟨x, t, rfl, rfl⟩ := pm_a_is ha
    exact absurd rfl (hn _)
  · rename_i j
    obtain ⟨x, t, rfl, rfl⟩ := pm_a_is ha
    exact absurd rfl (hn _)
  · rename_i j
    obtain ⟨x, t, rfl, rfl⟩ := pm_a_ls ha
    exact absurd rfl (hn _)
  · rename_i j
    obtain ⟨x, t, rfl, rfl⟩ := pm_a_ls ha
    exact absurd rfl (hn _)
  · rename_i j
    obtain ⟨x, t, rfl, rfl⟩ := pm_a_as ha
    exact absurd rfl (hn _)
  · rename_i j
    obtain ⟨x, t, rfl, rfl⟩ := pm_a_as ha
    exact absurd rfl (hn _)
  · rename_i x
    obtain ⟨q, hq⟩ := pm_bif ha rfl
    obtain ⟨q1, q2⟩ := pm_and2 q
    cases hq
    exact absurd rfl (hn _)
  · rename_i x
    obtain ⟨q, hq⟩ := pm_bif ha rfl
    obtain ⟨q1, q2⟩ := pm_and2 q
    cases hq
    exact absurd rfl (hn _)
  · rename_i x
    obtain ⟨q, hq⟩ := pm_bif ha rfl
    obtain ⟨q1, q2⟩ := pm_and2 q
    cases hq
    exact absurd rfl (hn _)
  · rename_i x
    cases ha
    exact absurd rfl (hn _)
  · rename_i ix
    split at ha
    · cases ha
      exact absurd rfl (hn _)
    · cases ha
  · obtain ⟨x, y, t, rfl, q, rfl⟩ := pm_a_add ha
    exact absurd rfl (hn _)
  · obtain ⟨x, y, t, rfl, q, rfl⟩ := pm_a_sub ha
    exact absurd rfl (hn _)
  · obtain ⟨x, y, t, rfl, q, rfl⟩ := pm_a_mul ha
    exact absurd rfl (hn _)
  · obtain ⟨x, y, t, rfl, q1, q2, rfl⟩ := pm_a_div ha
    exact absurd rfl (hn _)
  · obtain ⟨x, y, t, rfl, q1, q2, rfl⟩ := pm_a_rem ha
    exact absurd rfl (hn _)
  · obtain ⟨x, y, t, rfl, q1, q2, q3, rfl⟩ := pm_a_shr ha
    exact absurd rfl (hn _)
  · obtain ⟨x, y, t, rfl, q1, q2, rfl⟩ := pm_a_and ha
    exact absurd rfl (hn _)
  · obtain ⟨x, t, rfl, rfl⟩ := pm_a_l2i ha
    exact absurd rfl (hn _)
  · obtain ⟨x, t, rfl, q, rfl⟩ := pm_a_i2c ha
    exact absurd rfl (hn _)
  · obtain ⟨x, y, t, rfl, rfl⟩ := pm_a_land ha
    exact absurd rfl (hn _)
  · obtain ⟨x, y, t, rfl, rfl⟩ := pm_a_lus ha
    exact absurd rfl (hn _)
  · obtain ⟨x, y, t, rfl, rfl⟩ := pm_a_lsh ha
    exact absurd rfl (hn _)
  · obtain ⟨x, y, t, rfl, rfl⟩ := pm_a_lcm ha
    exact absurd rfl (hn _)
  · rename_i cc off
    obtain ⟨g, x, t, hg, rfl, hbr⟩ := pm_a_if ha
    rcases pm_a_br hbr with ⟨-, rfl⟩ | ⟨-, rfl⟩
    · exact absurd rfl (hn _)
    · exact absurd rfl (hn _)
  · rename_i cc off
    obtain ⟨g, x, y, t, hg, rfl, hbr⟩ := pm_a_icm ha
    rcases pm_a_br hbr with ⟨-, rfl⟩ | ⟨-, rfl⟩
    · exact absurd rfl (hn _)
    · exact absurd rfl (hn _)
  · rename_i off
    obtain ⟨g, hg, rfl⟩ := pm_a_go ha
    exact absurd rfl (hn _)
  · obtain ⟨d, gs, x, t, g, q1, q2, rfl, q3, rfl⟩ := pm_a_sw ha
    exact absurd rfl (hn _)
  · rename_i ix
    split at ha
    · obtain ⟨r, t, o, rfl, q, rfl⟩ := pm_a_gf ha
      exact absurd rfl (hn _)
    · cases ha
  · rename_i ix
    split at ha
    · obtain ⟨q, hq⟩ := pm_bif0 ha
      split at hq
      · obtain ⟨x, r, t, rfl, q1, q2, rfl⟩ := pm_a_pf hq
        exact absurd rfl (hn _)
      · obtain ⟨x, r, t, rfl, q1, q2, rfl⟩ := pm_a_pf hq
        exact absurd rfl (hn _)
      · cases hq
    · cases ha
  · obtain ⟨i, r, t, n, rfl, q1, q2, q3, rfl⟩ := pm_a_ald ha
    exact absurd rfl (hn _)
  · obtain ⟨i, r, t, n, rfl, q1, q2, q3, rfl⟩ := pm_a_ald ha
    exact absurd rfl (hn _)
  · obtain ⟨x, y, t, rfl, q1, q2, rfl⟩ := pm_a_or ha
    exact absurd rfl (hn _)
  · obtain ⟨x, i, r, t, n, rfl, q1, q2, q3, q4, rfl⟩ := pm_a_ast ha
    exact absurd rfl (hn _)
  · obtain ⟨x, i, r, t, n, rfl, q1, q2, q3, q4, rfl⟩ := pm_a_ast ha
    exact absurd rfl (hn _)
  · obtain ⟨r, t, n, rfl, q, rfl⟩ := pm_a_len ha
    obtain ⟨ty, -, q2⟩ := pm_al_some q
    exact absurd rfl (hn _)
  · obtain ⟨v, t, rfl, q, rfl⟩ := pm_a_dup ha
    exact absurd rfl (hn _)
  · obtain ⟨v, w, t, rfl, q, q2, rfl⟩ := pm_a_du2 ha
    exact absurd rfl (hn _)
  · obtain ⟨v, t, rfl, q, rfl⟩ := pm_a_pop ha
    exact absurd rfl (hn _)
  · rename_i j b
    obtain ⟨x, hx', q, rfl⟩ := pm_a_inc ha
    exact absurd rfl (hn _)
  · rename_i ix
    split at ha
    · rename_i k' q hf
      obtain ⟨p1, p2, p3⟩ := q
      obtain ⟨hr, hq⟩ := pm_bif ha rfl
      obtain ⟨r, as, t, q1, q2, q3, q4, rfl⟩ := pm_a_cv hq
      exact Or.inl ⟨ix, k', p1, p2, p3, r, as, t, rfl, rfl, hf, hr, q1, q2, q3, q4, rfl⟩
    · cases ha
  · rename_i ix
    split at ha
    · rename_i k' q hf
      obtain ⟨p1, p2, p3⟩ := q
      obtain ⟨hr, hq⟩ := pm_bif ha rfl
      obtain ⟨as, t, q1, q2, q3, rfl⟩ := pm_a_cs hq
      exact Or.inr (Or.inl ⟨ix, k', 1, p1, p2, p3, as, t, rfl, rfl, Or.inl rfl, hf, hr, q1, q2, q3, rfl⟩)
    · rename_i k' q hf
      obtain ⟨p1, p2, p3⟩ := q
      obtain ⟨hr, hq⟩ := pm_bif ha rfl
      obtain ⟨as, t, q1, q2, q3, rfl⟩ := pm_a_cs hq
      exact Or.inr (Or.inl ⟨ix, k', 2, p1, p2, p3, as, t, rfl, rfl, Or.inr rfl, hf, hr, q1, q2, q3, rfl⟩)
    · cases ha
  · obtain ⟨h0, hq⟩ := pm_bif ha rfl
    obtain ⟨rfl, rfl⟩ := pm_a_rv hq
    exact Or.inr (Or.inr (Or.inl ⟨rfl, rfl, Nat.eq_of_beq_eq_true h0, rfl, rfl⟩))
  · split at ha
    · rename_i hq
      obtain ⟨x, rfl, q, rfl⟩ := pm_a_ri ha
      exact Or.inr (Or.inr (Or.inr ⟨x, 0, rfl, rfl, Or.inl ⟨hq, rfl⟩, rfl, q, rfl⟩))
    · rename_i hq
      obtain ⟨x, rfl, q, rfl⟩ := pm_a_ri ha
      exact Or.inr (Or.inr (Or.inr ⟨x, 2, rfl, rfl, Or.inr (Or.inl ⟨hq, rfl⟩), rfl, q, rfl⟩))
    · rename_i hq
      obtain ⟨x, rfl, q, rfl⟩ := pm_a_ri ha
      exact Or.inr (Or.inr (Or.inr ⟨x, 1, rfl, rfl, Or.inr (Or.inr ⟨hq, rfl⟩), rfl, q, rfl⟩))
    · cases ha
  · cases ha
def pm_res (F : Nat → PL → List PV → PW → Prop) (B : Prop) (a : PA) : Prop := match a with
  | .inl (pc', P', st', G') => F pc' P' st' G' → B
  | _ => True
section PMT
variable {p : Program} {l : Launch} {e : Env} {R : Room} {s : State} {m : MethodId} {args : Array Value} {below : List Frame} {meth : Method} {c : Code} {ce sl : Nat} {Q : State → Prop} {A0 : Nat → Prop} {H0 : Heap} {A : Nat → Nat} {cA : Nat → ClassId} {D : va_G} {S : PS} {N k : Nat}
set_option maxHeartbeats 4000000 in
theorem pm_stepW {pc len : Nat} {i : Instr} {P : PL} {st : List PV} {G : PW} {a : PA} (hx : p.tables.exec = Jvm.exec) (hb : c.code = pm_cc k) (hts : ∀ w ∈ pm_gw, w.before args s = true) (hown : s.vm.findClass (pm_rc (pm_ow k)) = some m.cls) (hK : va_K D vwCl (pm_tys cA) s) (hD : ∀ G, va_D A0 (pm_ws A cA S N G)) (hN : ∀ r, (S r).isSome = true → r < N) (hT : ∀ r ty n, S r = some (.inl (ty, n)) → ty < 2) (hs : pm_sOK (pm_nl k) i = true) (hd : decode (pm_cc k) pc = .ok (i, len)) (ha : pm_stp S k pc i len P st G = some a) (h1 : pm_sok st) (h2 : pm_pok P) (h3 : pm_wok G) : pm_res (fun pc' P' st' G' => pm_At p l e R s m args below meth c ce sl Q A0 H0 A cA D S N k pc' P' st' G') (pm_At p l e R s m args below meth c ce sl Q A0 H0 A cA D S N k pc P st G) a := by
  unfold pm_stp at ha
  split at ha
  · rename_i j
    obtain ⟨x, hx', rfl⟩ := pm_a_il ha
    exact fun nx => pm_w_il hx hb hd hx' nx
  · rename_i j
    obtain ⟨x, hx', rfl⟩ := pm_a_il ha
    exact fun nx => pm_w_iln hx hb hd hx' nx
  · rename_i j
    obtain ⟨x, hx', rfl⟩ := pm_a_ll ha
    exact fun nx => pm_w_ll hx hb hd hx' nx
  · rename_i j
    obtain ⟨x, hx', rfl⟩ := pm_a_ll ha
    exact fun nx => pm_w_lln hx hb hd hx' nx
  · rename_i j
    obtain ⟨x, hx', rfl⟩ := pm_a_al ha
    exact fun nx => pm_w_al hx hb hd hx' nx
  · rename_i j
    obtain ⟨x, hx', rfl⟩ := pm_a_al ha
    exact fun nx => pm_w_aln hx hb hd hx' nx
  · rename_i j
    obtain ⟨x, t, rfl, rfl⟩ := pm_a_is ha
    exact fun nx => pm_w_is hx hb hd (Nat.le_of_ble_eq_true hs) nx
  · rename_i j
    obtain ⟨x, t, rfl, rfl⟩ := pm_a_is ha
    exact fun nx => pm_w_isn hx hb hd (Nat.le_of_ble_eq_true hs) nx
  · rename_i j
    obtain ⟨x, t, rfl, rfl⟩ := pm_a_ls ha
    exact fun nx => pm_w_ls hx hb hd (Nat.le_of_ble_eq_true hs) nx
  · rename_i j
    obtain ⟨x, t, rfl, rfl⟩ := pm_a_ls ha
    exact fun nx => pm_w_lsn hx hb hd (Nat.le_of_ble_eq_true hs) nx
  · rename_i j
    obtain ⟨x, t, rfl, rfl⟩ := pm_a_as ha
    exact fun nx => pm_w_as hx hb hd (Nat.le_of_ble_eq_true hs) nx
  · rename_i j
    obtain ⟨x, t, rfl, rfl⟩ := pm_a_as ha
    exact fun nx => pm_w_asn hx hb hd (Nat.le_of_ble_eq_true hs) nx
  · rename_i x
    obtain ⟨q, hq⟩ := pm_bif ha rfl
    obtain ⟨q1, q2⟩ := pm_and2 q
    cases hq
    exact fun nx => pm_w_ic hx hb hd nx
  · rename_i x
    obtain ⟨q, hq⟩ := pm_bif ha rfl
    obtain ⟨q1, q2⟩ := pm_and2 q
    cases hq
    exact fun nx => pm_w_bp hx hb hd (of_decide_eq_true q1) (of_decide_eq_true q2) nx
  · rename_i x
    obtain ⟨q, hq⟩ := pm_bif ha rfl
    obtain ⟨q1, q2⟩ := pm_and2 q
    cases hq
    exact fun nx => pm_w_sp hx hb hd (of_decide_eq_true q1) (of_decide_eq_true q2) nx
  · rename_i x
    cases ha
    exact fun nx => pm_w_lc hx hb hd nx
  · rename_i ix
    split at ha
    · rename_i x pl hc
      cases ha
      obtain ⟨g1, g2⟩ := pm_cl_lt hc
      have hok := pm_cOK_all (pm_ow k) ix g1 g2
      unfold pm_cOK at hok
      rw [hc] at hok
      exact fun nx => pm_w_ld hx hb hown (hts _ (pm_has_mem hok)) hd nx
    · cases ha
  · obtain ⟨x, y, t, rfl, q, rfl⟩ := pm_a_add ha
    exact fun nx => pm_w_add hx hb hd nx
  · obtain ⟨x, y, t, rfl, q, rfl⟩ := pm_a_sub ha
    exact fun nx => pm_w_sub hx hb hd nx
  · obtain ⟨x, y, t, rfl, q, rfl⟩ := pm_a_mul ha
    exact fun nx => pm_w_mul hx hb hd nx
  · obtain ⟨x, y, t, rfl, q1, q2, rfl⟩ := pm_a_div ha
    exact fun nx => pm_w_div hx hb q1 q2 (pm_sok_h (pm_sok_t h1) _ rfl) (pm_sok_h h1 _ rfl) hd nx
  · obtain ⟨x, y, t, rfl, q1, q2, rfl⟩ := pm_a_rem ha
    exact fun nx => pm_w_rem hx hb q1 q2 (pm_sok_h (pm_sok_t h1) _ rfl) (pm_sok_h h1 _ rfl) hd nx
  · obtain ⟨x, y, t, rfl, q1, q2, q3, rfl⟩ := pm_a_shr ha
    exact fun nx => pm_w_shr hx hb q1 q2 q3 (pm_sok_h (pm_sok_t h1) _ rfl) hd nx
  · obtain ⟨x, y, t, rfl, q1, q2, rfl⟩ := pm_a_and ha
    exact fun nx => pm_w_and hx hb q1 q2 (pm_sok_h (pm_sok_t h1) _ rfl) hd nx
  · obtain ⟨x, t, rfl, rfl⟩ := pm_a_l2i ha
    exact fun nx => pm_w_l2i hx hb hd nx
  · obtain ⟨x, t, rfl, q, rfl⟩ := pm_a_i2c ha
    exact fun nx => pm_w_i2c hx hb q hd nx
  · obtain ⟨x, y, t, rfl, rfl⟩ := pm_a_land ha
    exact fun nx => pm_w_land hx hb hd nx
  · obtain ⟨x, y, t, rfl, rfl⟩ := pm_a_lus ha
    exact fun nx => pm_w_lus hx hb hd nx
  · obtain ⟨x, y, t, rfl, rfl⟩ := pm_a_lsh ha
    exact fun nx => pm_w_lsh hx hb hd nx
  · obtain ⟨x, y, t, rfl, rfl⟩ := pm_a_lcm ha
    exact fun nx => pm_w_lcm hx hb hd nx
  · rename_i cc off
    obtain ⟨g, x, t, hg, rfl, hbr⟩ := pm_a_if ha
    rcases pm_a_br hbr with ⟨hc, rfl⟩ | ⟨hc, rfl⟩
    · exact fun nx => pm_w_if hx hb (pm_sok_h h1 _ rfl) hg hd (fun _ => nx) (fun q => absurd (hc.symm.trans q) (by decide))
    · exact fun nx => pm_w_if hx hb (pm_sok_h h1 _ rfl) hg hd (fun q => absurd (hc.symm.trans q) (by decide)) (fun _ => nx)
  · rename_i cc off
    obtain ⟨g, x, y, t, hg, rfl, hbr⟩ := pm_a_icm ha
    rcases pm_a_br hbr with ⟨hc, rfl⟩ | ⟨hc, rfl⟩
    · exact fun nx => pm_w_icm hx hb (pm_sok_h (pm_sok_t h1) _ rfl) (pm_sok_h h1 _ rfl) hg hd (fun _ => nx) (fun q => absurd (hc.symm.trans q) (by decide))
    · exact fun nx => pm_w_icm hx hb (pm_sok_h (pm_sok_t h1) _ rfl) (pm_sok_h h1 _ rfl) hg hd (fun q => absurd (hc.symm.trans q) (by decide)) (fun _ => nx)
  · rename_i off
    obtain ⟨g, hg, rfl⟩ := pm_a_go ha
    exact fun nx => pm_w_go hx hb hg hd nx
  · obtain ⟨d, gs, x, t, g, q1, q2, rfl, q3, rfl⟩ := pm_a_sw ha
    exact fun nx => pm_w_sw hx hb (pm_sok_h h1 _ rfl) q1 q2 hd q3 nx
  · rename_i ix
    split at ha
    · rename_i ci j pl hf
      obtain ⟨r, t, o, rfl, q, rfl⟩ := pm_a_gf ha
      obtain ⟨g1, g2⟩ := pm_fl_lt hf
      exact fun nx => pm_w_gf hx hb hts hown g1 hK hN g2 hf q hd (by cases o <;> exact nx)
    · cases ha
  · rename_i ix
    split at ha
    · rename_i ci j pl hf
      obtain ⟨g1, g2⟩ := pm_fl_lt hf
      obtain ⟨q, hq⟩ := pm_bif0 ha
      split at hq
      · rename_i hty
        obtain ⟨x, r, t, rfl, q1, q2, rfl⟩ := pm_a_pf hq
        exact fun nx => pm_w_pf hx hb hts hown g1 hK hD hN g2 hf q1 q hty rfl rfl hd nx
      · rename_i hty
        obtain ⟨x, r, t, rfl, q1, q2, rfl⟩ := pm_a_pf hq
        exact fun nx => pm_w_pf hx hb hts hown g1 hK hD hN g2 hf q1 q hty (pm_nar2 q2).2.1 (pm_nar2 q2).2.2 hd nx
      · cases hq
    · cases ha
  · obtain ⟨i, r, t, n, rfl, q1, q2, q3, rfl⟩ := pm_a_ald ha
    exact fun nx => pm_w_ald hx hb hK hN q1 q2 q3 (pm_sok_h h1 _ rfl) (Or.inl ⟨rfl, rfl⟩) hd nx
  · obtain ⟨i, r, t, n, rfl, q1, q2, q3, rfl⟩ := pm_a_ald ha
    exact fun nx => pm_w_ald hx hb hK hN q1 q2 q3 (pm_sok_h h1 _ rfl) (Or.inr ⟨rfl, rfl⟩) hd nx
  · obtain ⟨x, y, t, rfl, q1, q2, rfl⟩ := pm_a_or ha
    exact fun nx => pm_w_or hx hb q1 q2 hd nx
  · obtain ⟨x, i, r, t, n, rfl, q1, q2, q3, q4, rfl⟩ := pm_a_ast ha
    exact fun nx => pm_w_ast hx hb hK hD hN q1 q2 q3 (pm_sok_h (pm_sok_t h1) _ rfl) q4 (Or.inl ⟨rfl, rfl⟩) hd nx
  · obtain ⟨x, i, r, t, n, rfl, q1, q2, q3, q4, rfl⟩ := pm_a_ast ha
    exact fun nx => pm_w_ast hx hb hK hD hN q1 q2 q3 (pm_sok_h (pm_sok_t h1) _ rfl) q4 (Or.inr ⟨rfl, rfl⟩) hd nx
  · obtain ⟨r, t, n, rfl, q, rfl⟩ := pm_a_len ha
    exact fun nx => pm_w_len hx hb hK hN hT q hd nx
  · obtain ⟨v, t, rfl, q, rfl⟩ := pm_a_dup ha
    exact fun nx => pm_w_dup hx hb q hd nx
  · obtain ⟨v, w, t, rfl, q, q2, rfl⟩ := pm_a_du2 ha
    exact fun nx => pm_w_du2 hx hb q q2 hd nx
  · obtain ⟨v, t, rfl, q, rfl⟩ := pm_a_pop ha
    exact fun nx => pm_w_pop hx hb q hd nx
  · rename_i j b
    obtain ⟨x, hx', q, rfl⟩ := pm_a_inc ha
    exact fun nx => pm_w_inc hx hb hd (Nat.le_of_ble_eq_true hs) hx' nx
  · rename_i ix
    split at ha
    · obtain ⟨-, hq⟩ := pm_bif ha rfl
      obtain ⟨r, as, t, q1, q2, q3, q4, rfl⟩ := pm_a_cv hq
      exact trivial
    · cases ha
  · rename_i ix
    split at ha
    · obtain ⟨-, hq⟩ := pm_bif ha rfl
      obtain ⟨as, t, q1, q2, q3, rfl⟩ := pm_a_cs hq
      exact trivial
    · obtain ⟨-, hq⟩ := pm_bif ha rfl
      obtain ⟨as, t, q1, q2, q3, rfl⟩ := pm_a_cs hq
      exact trivial
    · cases ha
  · obtain ⟨-, hq⟩ := pm_bif ha rfl
    obtain ⟨rfl, rfl⟩ := pm_a_rv hq
    exact trivial
  · split at ha
    · obtain ⟨x, rfl, q, rfl⟩ := pm_a_ri ha
      exact trivial
    · obtain ⟨x, rfl, q, rfl⟩ := pm_a_ri ha
      exact trivial
    · obtain ⟨x, rfl, q, rfl⟩ := pm_a_ri ha
      exact trivial
    · cases ha
  · cases ha
end PMT
