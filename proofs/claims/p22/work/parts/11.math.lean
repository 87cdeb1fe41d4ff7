/-! the tournament in numbers: sides, how each match is decided, who won it -/
def fup (f : Nat → Int) (k : Nat) (x : Int) : Nat → Int := fun j => if j = k then x else f j
abbrev BB : Type := (Nat → Int) × (Nat → Int) × (Nat → Int)
abbrev gon (g : Nat → Int) (p : Int) : Prop := 0 ≤ p ∧ p < 16 ∧ g p.toNat = 1
def bput (f : Nat → Int) (i v : Int) : Nat → Int := if 0 ≤ i ∧ i < 62 then fup f i.toNat v else f
/-- WS, LS: where winners and losers go; F: the number of matches -/
def bdec (WS LS : Nat → Int) (F m : Nat) (sd kd : Int) (B : BB) : BB :=
  (if m + 2 = F ∧ sd = 1 then fup (fup (bput (bput B.1 (WS m) (B.1 (2 * m + sd.toNat))) (LS m) (B.1 (2 * m + (1 - sd).toNat))) (2 * (m + 1)) (B.1 (2 * m + (1 - sd).toNat))) (2 * (m + 1) + 1) (B.1 (2 * m + sd.toNat)) else bput (bput B.1 (WS m) (B.1 (2 * m + sd.toNat))) (LS m) (B.1 (2 * m + (1 - sd).toNat)), fup B.2.1 m kd, fup B.2.2 m sd)
def bstep (WS LS : Nat → Int) (F : Nat) (R g : Nat → Int) (m : Nat) (B : BB) : BB :=
  if B.2.1 m ≠ 0 ∨ B.1 (2 * m) = -6 ∨ B.1 (2 * m + 1) = -6 then B
  else if B.1 (2 * m) = 16 ∨ B.1 (2 * m + 1) = 16 then bdec WS LS F m (if B.1 (2 * m + 1) = 16 then 0 else 1) 1 B
  else if R m ≠ -6 then bdec WS LS F m (R m) 3 B
  else if gon g (B.1 (2 * m)) ∨ gon g (B.1 (2 * m + 1)) then bdec WS LS F m (if gon g (B.1 (2 * m + 1)) then 0 else 1) 2 B
  else B
def bini (sz : Nat) (ini : Nat → Int) : BB := (fun s => if s < sz then ini s else -6, fun _ => 0, fun _ => -6)
def bruns (WS LS : Nat → Int) (F : Nat) (R g : Nat → Int) (B : BB) : Nat → BB
  | 0 => B
  | m + 1 => bstep WS LS F R g m (bruns WS LS F R g B m)
def beq (B B' : BB) : Prop := (∀ s, s < 62 → B.1 s = B'.1 s) ∧ ∀ m, m < 31 → B.2.1 m = B'.2.1 m ∧ B.2.2 m = B'.2.2 m
/-- the first from i on -/
def ffrom (p : Nat → Bool) : Nat → Nat → Int
  | 0, _ => -6
  | f + 1, i => bif p i then (i : Int) else ffrom p f (i + 1)
/-- how many below -/
def cnt (p : Nat → Bool) : Nat → Int
  | 0 => 0
  | k + 1 => cnt p k + (bif p k then 1 else 0)
/-- rows of a memory anew -/
def pm_b3 (G : PW) (b : Nat) (B : BB) : PW := fun r j => if r = b + 13 then B.1 j else if r = b + 14 then B.2.1 j else if r = b + 15 then B.2.2 j else G r j
def pm_rows (G : PW) (b : Nat) : BB := (G (b + 13), G (b + 14), G (b + 15))
theorem fup_at {f : Nat → Int} {k j : Nat} {x : Int} : fup f k x j = if j = k then x else f j := rfl
/-- a plan in the memory -/
def pm_plan (G : PW) (p : Nat) (n x sz rd F : Nat) (part round index WS LS best last seed : Nat → Int) : Prop :=
  (G p 0 = n ∧ G p 1 = x ∧ G p 2 = sz ∧ G p 3 = rd ∧ G p 4 = F) ∧ (∀ m, m < F → G (p + 1) m = part m ∧ G (p + 2) m = round m ∧ G (p + 3) m = index m ∧ G (p + 4) m = WS m ∧ G (p + 5) m = LS m ∧ G (p + 6) m = best m ∧ G (p + 7) m = last m) ∧ ∀ s, s < sz → G (p + 8) s = seed s
def stf (N : Int) (f : Nat → Int) (i x : Int) : Nat → Int := if 0 ≤ i ∧ i < N then fup f i.toNat x else f
theorem stv_ne {S : PS} {G : PW} {r a : Nat} {i x : Int} (h : a ≠ r) : pm_stv S G r i x a = G a := by
  unfold pm_stv
  by_cases q : 0 ≤ i ∧ i < pm_len S r
  · rw [if_pos q]
    funext j
    rw [pm_upd_eq, if_neg (fun z => h z.1)]
  · rw [if_neg q]
theorem stv_eq {S : PS} {G : PW} {r : Nat} {i x : Int} : pm_stv S G r i x r = stf (pm_len S r) (G r) i x := by
  unfold pm_stv stf
  by_cases q : 0 ≤ i ∧ i < pm_len S r
  · rw [if_pos q, if_pos q]
    funext j
    rw [pm_upd_eq]
    unfold fup
    by_cases z : j = i.toNat
    · rw [if_pos ⟨rfl, z⟩, if_pos z]
    · rw [if_neg (fun y => z y.2), if_neg z]
  · rw [if_neg q, if_neg q]
theorem upd_ne {G : PW} {r a j : Nat} {x : Int} (h : a ≠ r) : pm_upd G r j x a = G a := by
  funext b
  rw [pm_upd_eq, if_neg (fun z => h z.1)]
theorem upd_eq {G : PW} {r j : Nat} {x : Int} : pm_upd G r j x r = fup (G r) j x := by
  funext b
  rw [pm_upd_eq]
  unfold fup
  by_cases z : b = j
  · rw [if_pos ⟨rfl, z⟩, if_pos z]
  · rw [if_neg (fun y => z y.2), if_neg z]
theorem atv_ne {S : PS} {G : PW} {r a : Nat} {i x j : Int} (h : a ≠ r) : pm_atv S (pm_stv S G r i x) a j = pm_atv S G a j := by
  unfold pm_atv
  rw [stv_ne h]
theorem atv_in {S : PS} {G : PW} {r : Nat} {i N : Int} (hl : pm_len S r = N) (h0 : 0 ≤ i) (h1 : i < N) : pm_atv S G r i = G r i.toNat := by
  unfold pm_atv
  rw [hl, if_pos ⟨h0, h1⟩]
theorem stf_in {N : Int} {f : Nat → Int} {i x : Int} (h0 : 0 ≤ i) (h1 : i < N) : stf N f i x = fup f i.toNat x := by
  unfold stf
  rw [if_pos ⟨h0, h1⟩]
theorem stf_bput {f : Nat → Int} {i x : Int} : stf 62 f i x = bput f i x := rfl
theorem pm_b3_of {M G : PW} {b : Nat} {B : BB} (h0 : ∀ r, r ≠ b + 13 → r ≠ b + 14 → r ≠ b + 15 → M r = G r) (h1 : M (b + 13) = B.1) (h2 : M (b + 14) = B.2.1) (h3 : M (b + 15) = B.2.2) : M = pm_b3 G b B := by
  funext r j
  unfold pm_b3
  by_cases q1 : r = b + 13
  · rw [if_pos q1, q1, h1]
  · rw [if_neg q1]
    by_cases q2 : r = b + 14
    · rw [if_pos q2, q2, h2]
    · rw [if_neg q2]
      by_cases q3 : r = b + 15
      · rw [if_pos q3, q3, h3]
      · rw [if_neg q3, h0 r q1 q2 q3]
theorem pm_b3_id {G : PW} {b : Nat} : pm_b3 G b (pm_rows G b) = G := (pm_b3_of (fun _ _ _ _ => rfl) rfl rfl rfl).symm
theorem pm_b3_ne {G : PW} {b r : Nat} {B : BB} (h1 : r ≠ b + 13) (h2 : r ≠ b + 14) (h3 : r ≠ b + 15) : pm_b3 G b B r = G r := by
  funext j
  unfold pm_b3
  rw [if_neg h1, if_neg h2, if_neg h3]
theorem pm_b3_1 {G : PW} {b : Nat} {B : BB} : pm_b3 G b B (b + 13) = B.1 := by
  funext j
  unfold pm_b3
  rw [if_pos rfl]
theorem pm_b3_2 {G : PW} {b : Nat} {B : BB} : pm_b3 G b B (b + 14) = B.2.1 := by
  funext j
  unfold pm_b3
  rw [if_neg (by omega), if_pos rfl]
theorem pm_b3_3 {G : PW} {b : Nat} {B : BB} : pm_b3 G b B (b + 15) = B.2.2 := by
  funext j
  unfold pm_b3
  rw [if_neg (by omega), if_neg (by omega), if_pos rfl]
theorem pm_rows_b3 {G : PW} {b : Nat} {B : BB} : pm_rows (pm_b3 G b B) b = B := by
  unfold pm_rows
  rw [pm_b3_1, pm_b3_2, pm_b3_3]
theorem pm_b3_b3 {G : PW} {b : Nat} {B B' : BB} : pm_b3 (pm_b3 G b B) b B' = pm_b3 G b B' := by
  refine pm_b3_of (fun r h1 h2 h3 => ?_) pm_b3_1 pm_b3_2 pm_b3_3
  rw [pm_b3_ne h1 h2 h3, pm_b3_ne h1 h2 h3]
