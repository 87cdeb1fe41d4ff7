/-! the tournament in numbers: sides, how each match is decided, who won it -/
def fup (f : Nat → Int) (k : Nat) (x : Int) : Nat → Int := fun j => if j = k then x else f j
abbrev BB : Type := (Nat → Int) × (Nat → Int) × (Nat → Int)
abbrev gon (g : Nat → Int) (p : Int) : Prop := 0 ≤ p ∧ p < 16 ∧ g p.toNat = 1
def bput (f : Nat → Int) (i v : Int) : Nat → Int := if 0 ≤ i ∧ i < 62 then fup f i.toNat v else f
/-- WS, LS: where winners and losers go; F: the number of matches -/
def bdec (WS LS : Nat → Int) (F m : Nat) (sd kd : Int) (B : BB) : BB :=
  (if m + 2 = F ∧ sd = 1 then fup (fup (bput (bput B.1 (WS m) (B.1 (2 * m + sd.toNat))) (LS m) (B.1 (2 * m + (1 - sd).toNat))) (2 * (m + 1)) (B.1 (2 * m + (1 - sd).toNat))) (2 * (m + 1) + 1) (B.1 (2 * m + sd.toNat)) else bput (bput B.1 (WS m) (B.1 (2 * m + sd.toNat))) (LS m) (B.1 (2 * m + (1 - sd).toNat)), fup B.2.1 m kd, fup B.2.2 m sd)
def bstep (WS LS : Nat → Int) (F : Nat) (R g : Nat → Int) (m : Nat) (B : BB) : BB :=
  if B.2.1 m ≠ 0 ∨ B.1 (2 * m) = -6 ∨ B.1 (2 * m + 1) = -6 then B
  else if B.1 (2 * m) = 16 ∨ B.1 (2 * m + 1) = 16 then bdec WS LS F m (if B.1 (2 * m + 1) = 16 then 0 else 1) 1 B
  else if R m ≠ -6 then bdec WS LS F m (R m) 3 B
  else if gon g (B.1 (2 * m)) ∨ gon g (B.1 (2 * m + 1)) then bdec WS LS F m (if gon g (B.1 (2 * m + 1)) then 0 else 1) 2 B
  else B
def bini (sz : Nat) (ini : Nat → Int) : BB := (fun s => if s < sz then ini s else -6, fun _ => 0, fun _ => -6)
def bruns (WS LS : Nat → Int) (F : Nat) (R g : Nat → Int) (B : BB) : Nat → BB
  | 0 => B
  | m + 1 => bstep WS LS F R g m (bruns WS LS F R g B m)
def beq (B B' : BB) : Prop := (∀ s, s < 62 → B.1 s = B'.1 s) ∧ ∀ m, m < 31 → B.2.1 m = B'.2.1 m ∧ B.2.2 m = B'.2.2 m
/-- the first from i on -/
def ffrom (p : Nat → Bool) : Nat → Nat → Int
  | 0, _ => -6
  | f + 1, i => bif p i then (i : Int) else ffrom p f (i + 1)
/-- how many below -/
def cnt (p : Nat → Bool) : Nat → Int
  | 0 => 0
  | k + 1 => cnt p k + (bif p k then 1 else 0)
/-- rows of a memory anew -/
def pm_b3 (G : PW) (b : Nat) (B : BB) : PW := fun r j => if r = b + 13 then B.1 j else if r = b + 14 then B.2.1 j else if r = b + 15 then B.2.2 j else G r j
def pm_rows (G : PW) (b : Nat) : BB := (G (b + 13), G (b + 14), G (b + 15))
theorem fup_at {f : Nat → Int} {k j : Nat} {x : Int} : fup f k x j = if j = k then x else f j := rfl
/-- a plan in the memory -/
def pm_plan (G : PW) (p : Nat) (n x sz rd F : Nat) (part round index WS LS best last seed : Nat → Int) : Prop :=
  (G p 0 = n ∧ G p 1 = x ∧ G p 2 = sz ∧ G p 3 = rd ∧ G p 4 = F) ∧ (∀ m, m < F → G (p + 1) m = part m ∧ G (p + 2) m = round m ∧ G (p + 3) m = index m ∧ G (p + 4) m = WS m ∧ G (p + 5) m = LS m ∧ G (p + 6) m = best m ∧ G (p + 7) m = last m) ∧ ∀ s, s < sz → G (p + 8) s = seed s
