/-! a step of the pure machine is a step of the machine -/
section PMS
variable {p : Program} {l : Launch} {e : Env} {R : Room} {s : State} {m : MethodId} {args : Array Value} {below : List Frame} {meth : Method} {c : Code} {ce sl : Nat} {Q : State → Prop} {A0 : Nat → Prop} {H0 : Heap} {A : Nat → Nat} {cA : Nat → ClassId} {D : va_G} {S : PS} {N k : Nat}
/-- from this pure state on the machine comes to Q -/
def pm_At (p : Program) (l : Launch) (e : Env) (R : Room) (s : State) (m : MethodId) (args : Array Value) (below : List Frame) (meth : Method) (c : Code) (ce sl : Nat) (Q : State → Prop) (A0 : Nat → Prop) (H0 : Heap) (A : Nat → Nat) (cA : Nat → ClassId) (D : va_G) (S : PS) (N k pc : Nat) (P : PL) (st : List PV) (G : PW) : Prop :=
  ∀ (H : Heap) (locs : List Loc) (ls : Array Slot), lv_has ls (pm_nl k) (pm_asc A 0 P) → va_P D vwCl (pm_ws A cA S N G) H → va_S A0 H0 H locs → W p l e R s m args below meth c H locs ce sl Q (F0 m pc ls (st.map (pm_tr A)))
variable {pc pc' : Nat} {P : PL} {st t : List PV} {G : PW} (hx : p.tables.exec = Jvm.exec) (hb : c.code = pm_cc k)
theorem pm_w_il {j : Nat} {x : Int} (hx : p.tables.exec = Jvm.exec) (hb : c.code = pm_cc k) (hd : decode (pm_cc k) pc = .ok (.iload j, 2)) (hl : pm_lk P j = some (.inl x)) (nx : pm_At p l e R s m args below meth c ce sl Q A0 H0 A cA D S N k (pc + 2) P (.inl x :: st) G) : pm_At p l e R s m args below meth c ce sl Q A0 H0 A cA D S N k pc P st G := fun H locs ls h1 h2 h3 =>
  lv_iload hx hb hd (pm_asc_at h1 hl) (nx H locs ls h1 h2 h3)
theorem pm_w_iln {j : Fin 4} {x : Int} (hx : p.tables.exec = Jvm.exec) (hb : c.code = pm_cc k) (hd : decode (pm_cc k) pc = .ok (.iload_n j, 1)) (hl : pm_lk P j.val = some (.inl x)) (nx : pm_At p l e R s m args below meth c ce sl Q A0 H0 A cA D S N k (pc + 1) P (.inl x :: st) G) : pm_At p l e R s m args below meth c ce sl Q A0 H0 A cA D S N k pc P st G := fun H locs ls h1 h2 h3 =>
  lv_iload_n hx hb hd rfl (pm_asc_at h1 hl) (nx H locs ls h1 h2 h3)
theorem pm_w_ll {j : Nat} {x : Int64} (hx : p.tables.exec = Jvm.exec) (hb : c.code = pm_cc k) (hd : decode (pm_cc k) pc = .ok (.lload j, 2)) (hl : pm_lk P j = some (.inr (.inl x))) (nx : pm_At p l e R s m args below meth c ce sl Q A0 H0 A cA D S N k (pc + 2) P (.inr (.inl x) :: st) G) : pm_At p l e R s m args below meth c ce sl Q A0 H0 A cA D S N k pc P st G := fun H locs ls h1 h2 h3 =>
  lv_lload hx hb hd (pm_asc_at h1 hl) (nx H locs ls h1 h2 h3)
theorem pm_w_lln {j : Fin 4} {x : Int64} (hx : p.tables.exec = Jvm.exec) (hb : c.code = pm_cc k) (hd : decode (pm_cc k) pc = .ok (.lload_n j, 1)) (hl : pm_lk P j.val = some (.inr (.inl x))) (nx : pm_At p l e R s m args below meth c ce sl Q A0 H0 A cA D S N k (pc + 1) P (.inr (.inl x) :: st) G) : pm_At p l e R s m args below meth c ce sl Q A0 H0 A cA D S N k pc P st G := fun H locs ls h1 h2 h3 =>
  lv_lload_n hx hb hd rfl (pm_asc_at h1 hl) (nx H locs ls h1 h2 h3)
theorem pm_w_al {j x : Nat} (hx : p.tables.exec = Jvm.exec) (hb : c.code = pm_cc k) (hd : decode (pm_cc k) pc = .ok (.aload j, 2)) (hl : pm_lk P j = some (.inr (.inr x))) (nx : pm_At p l e R s m args below meth c ce sl Q A0 H0 A cA D S N k (pc + 2) P (.inr (.inr x) :: st) G) : pm_At p l e R s m args below meth c ce sl Q A0 H0 A cA D S N k pc P st G := fun H locs ls h1 h2 h3 =>
  lv_aload hx hb hd (pm_asc_at h1 hl) (nx H locs ls h1 h2 h3)
theorem pm_w_aln {j : Fin 4} {x : Nat} (hx : p.tables.exec = Jvm.exec) (hb : c.code = pm_cc k) (hd : decode (pm_cc k) pc = .ok (.aload_n j, 1)) (hl : pm_lk P j.val = some (.inr (.inr x))) (nx : pm_At p l e R s m args below meth c ce sl Q A0 H0 A cA D S N k (pc + 1) P (.inr (.inr x) :: st) G) : pm_At p l e R s m args below meth c ce sl Q A0 H0 A cA D S N k pc P st G := fun H locs ls h1 h2 h3 =>
  lv_aload_n hx hb hd rfl (pm_asc_at h1 hl) (nx H locs ls h1 h2 h3)
theorem pm_w_is {j : Nat} {x : Int} (hx : p.tables.exec = Jvm.exec) (hb : c.code = pm_cc k) (hd : decode (pm_cc k) pc = .ok (.istore j, 2)) (hj : j < pm_nl k) (nx : pm_At p l e R s m args below meth c ce sl Q A0 H0 A cA D S N k (pc + 2) (pm_sto P j (.inl x)) t G) : pm_At p l e R s m args below meth c ce sl Q A0 H0 A cA D S N k pc P (.inl x :: t) G := fun H locs ls h1 h2 h3 =>
  lv_istore hx hb hd h1 hj rfl (fun ls' h => nx H locs ls' (pm_asc_sto (v := .inl x) h) h2 h3)
theorem pm_w_isn {j : Fin 4} {x : Int} (hx : p.tables.exec = Jvm.exec) (hb : c.code = pm_cc k) (hd : decode (pm_cc k) pc = .ok (.istore_n j, 1)) (hj : j.val < pm_nl k) (nx : pm_At p l e R s m args below meth c ce sl Q A0 H0 A cA D S N k (pc + 1) (pm_sto P j.val (.inl x)) t G) : pm_At p l e R s m args below meth c ce sl Q A0 H0 A cA D S N k pc P (.inl x :: t) G := fun H locs ls h1 h2 h3 =>
  lv_istore_n hx hb hd rfl h1 hj rfl (fun ls' h => nx H locs ls' (pm_asc_sto (v := .inl x) h) h2 h3)
theorem pm_w_as {j x : Nat} (hx : p.tables.exec = Jvm.exec) (hb : c.code = pm_cc k) (hd : decode (pm_cc k) pc = .ok (.astore j, 2)) (hj : j < pm_nl k) (nx : pm_At p l e R s m args below meth c ce sl Q A0 H0 A cA D S N k (pc + 2) (pm_sto P j (.inr (.inr x))) t G) : pm_At p l e R s m args below meth c ce sl Q A0 H0 A cA D S N k pc P (.inr (.inr x) :: t) G := fun H locs ls h1 h2 h3 =>
  lv_astore hx hb hd h1 hj rfl (fun ls' h => nx H locs ls' (pm_asc_sto (v := .inr (.inr x)) h) h2 h3)
theorem pm_w_asn {j : Fin 4} {x : Nat} (hx : p.tables.exec = Jvm.exec) (hb : c.code = pm_cc k) (hd : decode (pm_cc k) pc = .ok (.astore_n j, 1)) (hj : j.val < pm_nl k) (nx : pm_At p l e R s m args below meth c ce sl Q A0 H0 A cA D S N k (pc + 1) (pm_sto P j.val (.inr (.inr x))) t G) : pm_At p l e R s m args below meth c ce sl Q A0 H0 A cA D S N k pc P (.inr (.inr x) :: t) G := fun H locs ls h1 h2 h3 =>
  lv_astore_n hx hb hd rfl h1 hj rfl (fun ls' h => nx H locs ls' (pm_asc_sto (v := .inr (.inr x)) h) h2 h3)
theorem pm_w_ls {j : Nat} {x : Int64} (hx : p.tables.exec = Jvm.exec) (hb : c.code = pm_cc k) (hd : decode (pm_cc k) pc = .ok (.lstore j, 2)) (hj : j + 1 < pm_nl k) (nx : pm_At p l e R s m args below meth c ce sl Q A0 H0 A cA D S N k (pc + 2) (pm_stl P j x) t G) : pm_At p l e R s m args below meth c ce sl Q A0 H0 A cA D S N k pc P (.inr (.inl x) :: t) G := fun H locs ls h1 h2 h3 =>
  lv_lstore hx hb hd h1 hj rfl (fun ls' h => nx H locs ls' (pm_asc_stl h) h2 h3)
theorem pm_w_lsn {j : Fin 4} {x : Int64} (hx : p.tables.exec = Jvm.exec) (hb : c.code = pm_cc k) (hd : decode (pm_cc k) pc = .ok (.lstore_n j, 1)) (hj : j.val + 1 < pm_nl k) (nx : pm_At p l e R s m args below meth c ce sl Q A0 H0 A cA D S N k (pc + 1) (pm_stl P j.val x) t G) : pm_At p l e R s m args below meth c ce sl Q A0 H0 A cA D S N k pc P (.inr (.inl x) :: t) G := fun H locs ls h1 h2 h3 =>
  lv_lstore_n hx hb hd rfl h1 hj rfl (fun ls' h => nx H locs ls' (pm_asc_stl h) h2 h3)
theorem pm_w_ic {x : Int} (hx : p.tables.exec = Jvm.exec) (hb : c.code = pm_cc k) (hd : decode (pm_cc k) pc = .ok (.iconst x, 1)) (nx : pm_At p l e R s m args below meth c ce sl Q A0 H0 A cA D S N k (pc + 1) P (.inl x :: st) G) : pm_At p l e R s m args below meth c ce sl Q A0 H0 A cA D S N k pc P st G := fun H locs ls h1 h2 h3 =>
  lv_iconst hx hb hd rfl (nx H locs ls h1 h2 h3)
theorem pm_w_bp {x : Int} (hx : p.tables.exec = Jvm.exec) (hb : c.code = pm_cc k) (hd : decode (pm_cc k) pc = .ok (.bipush x, 2)) (q1 : -128 ≤ x) (q2 : x ≤ 127) (nx : pm_At p l e R s m args below meth c ce sl Q A0 H0 A cA D S N k (pc + 2) P (.inl x :: st) G) : pm_At p l e R s m args below meth c ce sl Q A0 H0 A cA D S N k pc P st G := fun H locs ls h1 h2 h3 =>
  lv_bipush hx hb hd (pm_b8 q1 q2) (nx H locs ls h1 h2 h3)
theorem pm_w_sp {x : Int} (hx : p.tables.exec = Jvm.exec) (hb : c.code = pm_cc k) (hd : decode (pm_cc k) pc = .ok (.sipush x, 3)) (q1 : -32768 ≤ x) (q2 : x ≤ 32767) (nx : pm_At p l e R s m args below meth c ce sl Q A0 H0 A cA D S N k (pc + 3) P (.inl x :: st) G) : pm_At p l e R s m args below meth c ce sl Q A0 H0 A cA D S N k pc P st G := fun H locs ls h1 h2 h3 =>
  lv_sipush hx hb hd (pm_b16 q1 q2) (nx H locs ls h1 h2 h3)
theorem pm_w_lc {x : Fin 2} (hx : p.tables.exec = Jvm.exec) (hb : c.code = pm_cc k) (hd : decode (pm_cc k) pc = .ok (.lconst x, 1)) (nx : pm_At p l e R s m args below meth c ce sl Q A0 H0 A cA D S N k (pc + 1) P (.inr (.inl (Int64.ofNat (x : Nat))) :: st) G) : pm_At p l e R s m args below meth c ce sl Q A0 H0 A cA D S N k pc P st G := fun H locs ls h1 h2 h3 =>
  lv_lconst hx hb hd rfl (nx H locs ls h1 h2 h3)
theorem pm_w_ld {ix : Nat} {x : Int64} {own : String} (hx : p.tables.exec = Jvm.exec) (hb : c.code = pm_cc k) (hown : s.vm.findClass own = some m.cls) (hc : (Cond.constantLong own ix x).before args s = true) (hd : decode (pm_cc k) pc = .ok (.ldc2_w ix, 3)) (nx : pm_At p l e R s m args below meth c ce sl Q A0 H0 A cA D S N k (pc + 3) P (.inr (.inl x) :: st) G) : pm_At p l e R s m args below meth c ce sl Q A0 H0 A cA D S N k pc P st G := fun H locs ls h1 h2 h3 =>
  lv_ldc2 hx hb hown hc hd (nx H locs ls h1 h2 h3)
theorem pm_w_add {x y : Int} (hx : p.tables.exec = Jvm.exec) (hb : c.code = pm_cc k) (hd : decode (pm_cc k) pc = .ok (.iadd, 1)) (nx : pm_At p l e R s m args below meth c ce sl Q A0 H0 A cA D S N k (pc + 1) P (.inl (x + y) :: t) G) : pm_At p l e R s m args below meth c ce sl Q A0 H0 A cA D S N k pc P (.inl y :: .inl x :: t) G := fun H locs ls h1 h2 h3 =>
  lv_iadd hx hb hd (by have := nx H locs ls h1 h2 h3; simp only [List.map_cons, pm_tr, Int32.ofInt_add] at this; exact this)
theorem pm_w_sub {x y : Int} (hx : p.tables.exec = Jvm.exec) (hb : c.code = pm_cc k) (hd : decode (pm_cc k) pc = .ok (.isub, 1)) (nx : pm_At p l e R s m args below meth c ce sl Q A0 H0 A cA D S N k (pc + 1) P (.inl (x - y) :: t) G) : pm_At p l e R s m args below meth c ce sl Q A0 H0 A cA D S N k pc P (.inl y :: .inl x :: t) G := fun H locs ls h1 h2 h3 =>
  lv_isub hx hb hd (by have := nx H locs ls h1 h2 h3; simp only [List.map_cons, pm_tr, Int32.ofInt_sub] at this; exact this)
theorem pm_w_mul {x y : Int} (hx : p.tables.exec = Jvm.exec) (hb : c.code = pm_cc k) (hd : decode (pm_cc k) pc = .ok (.imul, 1)) (nx : pm_At p l e R s m args below meth c ce sl Q A0 H0 A cA D S N k (pc + 1) P (.inl (x * y) :: t) G) : pm_At p l e R s m args below meth c ce sl Q A0 H0 A cA D S N k pc P (.inl y :: .inl x :: t) G := fun H locs ls h1 h2 h3 =>
  lv_imul hx hb hd (by have := nx H locs ls h1 h2 h3; simp only [List.map_cons, pm_tr, Int32.ofInt_mul] at this; exact this)
theorem pm_w_div {x y : Int} (hx : p.tables.exec = Jvm.exec) (hb : c.code = pm_cc k) (q1 : 0 ≤ x) (q2 : 0 < y) (q3 : pm_rg x = true) (q4 : pm_rg y = true) (hd : decode (pm_cc k) pc = .ok (.idiv, 1)) (nx : pm_At p l e R s m args below meth c ce sl Q A0 H0 A cA D S N k (pc + 1) P (.inl (x / y) :: t) G) : pm_At p l e R s m args below meth c ce sl Q A0 H0 A cA D S N k pc P (.inl y :: .inl x :: t) G := fun H locs ls h1 h2 h3 =>
  lv_idiv hx hb hd (pm_ne0 q2 q4) (by rw [pm_div q1 q2 q3 q4]; exact nx H locs ls h1 h2 h3)
theorem pm_w_rem {x y : Int} (hx : p.tables.exec = Jvm.exec) (hb : c.code = pm_cc k) (q1 : 0 ≤ x) (q2 : 0 < y) (q3 : pm_rg x = true) (q4 : pm_rg y = true) (hd : decode (pm_cc k) pc = .ok (.irem, 1)) (nx : pm_At p l e R s m args below meth c ce sl Q A0 H0 A cA D S N k (pc + 1) P (.inl (x % y) :: t) G) : pm_At p l e R s m args below meth c ce sl Q A0 H0 A cA D S N k pc P (.inl y :: .inl x :: t) G := fun H locs ls h1 h2 h3 =>
  lv_irem hx hb hd (pm_ne0 q2 q4) (by rw [pm_div q1 q2 q3 q4, ← Int32.ofInt_mul, ← Int32.ofInt_sub, show x - x / y * y = x % y from by rw [Int.emod_def, Int.mul_comm]]; exact nx H locs ls h1 h2 h3)
theorem pm_w_shr {x y : Int} (hx : p.tables.exec = Jvm.exec) (hb : c.code = pm_cc k) (q1 : 0 ≤ x) (q2 : 0 ≤ y) (q3 : y ≤ 31) (q4 : pm_rg x = true) (hd : decode (pm_cc k) pc = .ok (.ishr, 1)) (nx : pm_At p l e R s m args below meth c ce sl Q A0 H0 A cA D S N k (pc + 1) P (.inl (x / 2 ^ y.toNat) :: t) G) : pm_At p l e R s m args below meth c ce sl Q A0 H0 A cA D S N k pc P (.inl y :: .inl x :: t) G := fun H locs ls h1 h2 h3 =>
  lv_ishr hx hb hd (by rw [pm_shr q1 q2 q3 q4]; exact nx H locs ls h1 h2 h3)
theorem pm_w_and {x y : Int} (hx : p.tables.exec = Jvm.exec) (hb : c.code = pm_cc k) (q1 : 0 ≤ x) (q2 : y = 1) (q4 : pm_rg x = true) (hd : decode (pm_cc k) pc = .ok (.iand, 1)) (nx : pm_At p l e R s m args below meth c ce sl Q A0 H0 A cA D S N k (pc + 1) P (.inl (x % 2) :: t) G) : pm_At p l e R s m args below meth c ce sl Q A0 H0 A cA D S N k pc P (.inl y :: .inl x :: t) G := fun H locs ls h1 h2 h3 =>
  lv_iand hx hb hd (by rw [q2, pm_and1 q1 q4]; exact nx H locs ls h1 h2 h3)
theorem pm_w_or {x y : Int} (hx : p.tables.exec = Jvm.exec) (hb : c.code = pm_cc k) (q1 : x = 0 ∨ x = 1) (q2 : y = 0 ∨ y = 1) (hd : decode (pm_cc k) pc = .ok (.ior, 1)) (nx : pm_At p l e R s m args below meth c ce sl Q A0 H0 A cA D S N k (pc + 1) P (.inl (x + y - x * y) :: t) G) : pm_At p l e R s m args below meth c ce sl Q A0 H0 A cA D S N k pc P (.inl y :: .inl x :: t) G := fun H locs ls h1 h2 h3 =>
  lv_ior hx hb hd (by rw [show Int32.ofInt x ||| Int32.ofInt y = Int32.ofInt (x + y - x * y) from by rcases q1 with rfl | rfl <;> rcases q2 with rfl | rfl <;> decide]; exact nx H locs ls h1 h2 h3)
theorem pm_w_l2i {x : Int64} (hx : p.tables.exec = Jvm.exec) (hb : c.code = pm_cc k) (hd : decode (pm_cc k) pc = .ok (.l2i, 1)) (nx : pm_At p l e R s m args below meth c ce sl Q A0 H0 A cA D S N k (pc + 1) P (.inl x.toInt32.toInt :: t) G) : pm_At p l e R s m args below meth c ce sl Q A0 H0 A cA D S N k pc P (.inr (.inl x) :: t) G := fun H locs ls h1 h2 h3 =>
  lv_l2i hx hb hd (Int32.ofInt_toInt x.toInt32).symm (nx H locs ls h1 h2 h3)
theorem pm_w_i2c {x : Int} (hx : p.tables.exec = Jvm.exec) (hb : c.code = pm_cc k) (q : pm_fit 1 x = true) (hd : decode (pm_cc k) pc = .ok (.i2c, 1)) (nx : pm_At p l e R s m args below meth c ce sl Q A0 H0 A cA D S N k (pc + 1) P (.inl x :: t) G) : pm_At p l e R s m args below meth c ce sl Q A0 H0 A cA D S N k pc P (.inl x :: t) G := fun H locs ls h1 h2 h3 =>
  lv_i2c hx hb hd (pm_i2c q) (nx H locs ls h1 h2 h3)
theorem pm_w_land {x y : Int64} (hx : p.tables.exec = Jvm.exec) (hb : c.code = pm_cc k) (hd : decode (pm_cc k) pc = .ok (.land, 1)) (nx : pm_At p l e R s m args below meth c ce sl Q A0 H0 A cA D S N k (pc + 1) P (.inr (.inl (x &&& y)) :: t) G) : pm_At p l e R s m args below meth c ce sl Q A0 H0 A cA D S N k pc P (.inr (.inl y) :: .inr (.inl x) :: t) G := fun H locs ls h1 h2 h3 =>
  lv_land hx hb hd (nx H locs ls h1 h2 h3)
theorem pm_w_lus {x : Int64} {y : Int} (hx : p.tables.exec = Jvm.exec) (hb : c.code = pm_cc k) (hd : decode (pm_cc k) pc = .ok (.lushr, 1)) (nx : pm_At p l e R s m args below meth c ce sl Q A0 H0 A cA D S N k (pc + 1) P (.inr (.inl (pm_lus x y)) :: t) G) : pm_At p l e R s m args below meth c ce sl Q A0 H0 A cA D S N k pc P (.inl y :: .inr (.inl x) :: t) G := fun H locs ls h1 h2 h3 =>
  lv_lushr hx hb hd rfl (nx H locs ls h1 h2 h3)
theorem pm_w_lsh {x : Int64} {y : Int} (hx : p.tables.exec = Jvm.exec) (hb : c.code = pm_cc k) (hd : decode (pm_cc k) pc = .ok (.lshr, 1)) (nx : pm_At p l e R s m args below meth c ce sl Q A0 H0 A cA D S N k (pc + 1) P (.inr (.inl (pm_lsh x y)) :: t) G) : pm_At p l e R s m args below meth c ce sl Q A0 H0 A cA D S N k pc P (.inl y :: .inr (.inl x) :: t) G := fun H locs ls h1 h2 h3 =>
  lv_lshr hx hb hd rfl (nx H locs ls h1 h2 h3)
theorem pm_w_lcm {x y : Int64} (hx : p.tables.exec = Jvm.exec) (hb : c.code = pm_cc k) (hd : decode (pm_cc k) pc = .ok (.lcmp, 1)) (nx : pm_At p l e R s m args below meth c ce sl Q A0 H0 A cA D S N k (pc + 1) P (.inl (lg_cmp x y).toInt :: t) G) : pm_At p l e R s m args below meth c ce sl Q A0 H0 A cA D S N k pc P (.inr (.inl y) :: .inr (.inl x) :: t) G := fun H locs ls h1 h2 h3 =>
  W.lcmp hx hb hd (by have := nx H locs ls h1 h2 h3; simp only [List.map_cons, pm_tr, Int32.ofInt_toInt] at this; exact this)
theorem pm_tg_eq {pc g : Nat} {off : Int} (h : pm_tg pc off = some g) : (pc : Int) + off = (g : Int) := by
  unfold pm_tg at h
  cases hd : decide (0 ≤ (pc : Int) + off) with
  | false => rw [hd] at h; cases h
  | true =>
    rw [hd] at h
    have h1 := Option.some.inj h
    have h2 := of_decide_eq_true hd
    omega
theorem pm_z0 : (0 : Int32).toInt = 0 := by decide
theorem pm_w_if {x off : Int} {g : Nat} {cc : ClassFile.Cond} (hx : p.tables.exec = Jvm.exec) (hb : c.code = pm_cc k) (q : pm_rg x = true) (hg : pm_tg pc off = some g) (hd : decode (pm_cc k) pc = .ok (.ifCond cc off, 3)) (kt : pm_cmp cc x 0 = true → pm_At p l e R s m args below meth c ce sl Q A0 H0 A cA D S N k g P t G) (kf : pm_cmp cc x 0 = false → pm_At p l e R s m args below meth c ce sl Q A0 H0 A cA D S N k (pc + 3) P t G) : pm_At p l e R s m args below meth c ce sl Q A0 H0 A cA D S N k pc P (.inl x :: t) G := fun H locs ls h1 h2 h3 => by
  have ht := pm_tg_eq hg
  have e := pm_toI q
  have z := pm_z0
  cases cc with
  | eq => exact lv_if_eq hx hb hd ht (fun y => kt (decide_eq_true (by rw [← e, y]; exact z)) H locs ls h1 h2 h3) (fun y => kf (decide_eq_false (fun w => y (by rw [w]; rfl))) H locs ls h1 h2 h3)
  | ne => exact lv_if_ne hx hb hd ht (fun y => kt (decide_eq_true (fun w => y (by rw [w]; rfl))) H locs ls h1 h2 h3) (fun y => kf (decide_eq_false (fun w => w (by rw [← e, y]; exact z))) H locs ls h1 h2 h3)
  | lt => exact lv_if_lt hx hb hd ht (fun y => kt (decide_eq_true (by rw [Int32.lt_iff_toInt_lt, e, z] at y; exact y)) H locs ls h1 h2 h3) (fun y => kf (decide_eq_false (fun w => y (by rw [Int32.lt_iff_toInt_lt, e, z]; exact w))) H locs ls h1 h2 h3)
  | ge => exact lv_if_ge hx hb hd ht (fun y => kt (decide_eq_true (by rw [Int32.le_iff_toInt_le, e, z] at y; exact y)) H locs ls h1 h2 h3) (fun y => kf (decide_eq_false (fun w => y (by rw [Int32.le_iff_toInt_le, e, z]; exact w))) H locs ls h1 h2 h3)
  | gt => exact lv_if_gt hx hb hd ht (fun y => kt (decide_eq_true (by rw [Int32.lt_iff_toInt_lt, e, z] at y; exact y)) H locs ls h1 h2 h3) (fun y => kf (decide_eq_false (fun w => y (by rw [Int32.lt_iff_toInt_lt, e, z]; exact w))) H locs ls h1 h2 h3)
  | le => exact lv_if_le hx hb hd ht (fun y => kt (decide_eq_true (by rw [Int32.le_iff_toInt_le, e, z] at y; exact y)) H locs ls h1 h2 h3) (fun y => kf (decide_eq_false (fun w => y (by rw [Int32.le_iff_toInt_le, e, z]; exact w))) H locs ls h1 h2 h3)
theorem pm_w_icm {x y off : Int} {g : Nat} {cc : ClassFile.Cond} (hx : p.tables.exec = Jvm.exec) (hb : c.code = pm_cc k) (q : pm_rg x = true) (q2 : pm_rg y = true) (hg : pm_tg pc off = some g) (hd : decode (pm_cc k) pc = .ok (.if_icmp cc off, 3)) (kt : pm_cmp cc x y = true → pm_At p l e R s m args below meth c ce sl Q A0 H0 A cA D S N k g P t G) (kf : pm_cmp cc x y = false → pm_At p l e R s m args below meth c ce sl Q A0 H0 A cA D S N k (pc + 3) P t G) : pm_At p l e R s m args below meth c ce sl Q A0 H0 A cA D S N k pc P (.inl y :: .inl x :: t) G := fun H locs ls h1 h2 h3 => by
  have ht := pm_tg_eq hg
  have e := pm_toI q
  have z := pm_toI q2
  cases cc with
  | eq => exact lv_icmp_eq hx hb hd ht (fun w => kt (decide_eq_true (pm_inj q q2 w)) H locs ls h1 h2 h3) (fun w => kf (decide_eq_false (fun v => w (by rw [v]))) H locs ls h1 h2 h3)
  | ne => exact lv_icmp_ne hx hb hd ht (fun w => kt (decide_eq_true (fun v => w (by rw [v]))) H locs ls h1 h2 h3) (fun w => kf (decide_eq_false (fun v => v (pm_inj q q2 w))) H locs ls h1 h2 h3)
  | lt => exact lv_icmp_lt hx hb hd ht (fun w => kt (decide_eq_true (by rw [Int32.lt_iff_toInt_lt, e, z] at w; exact w)) H locs ls h1 h2 h3) (fun w => kf (decide_eq_false (fun v => w (by rw [Int32.lt_iff_toInt_lt, e, z]; exact v))) H locs ls h1 h2 h3)
  | ge => exact lv_icmp_ge hx hb hd ht (fun w => kt (decide_eq_true (by rw [Int32.le_iff_toInt_le, e, z] at w; exact w)) H locs ls h1 h2 h3) (fun w => kf (decide_eq_false (fun v => w (by rw [Int32.le_iff_toInt_le, e, z]; exact v))) H locs ls h1 h2 h3)
  | gt => exact lv_icmp_gt hx hb hd ht (fun w => kt (decide_eq_true (by rw [Int32.lt_iff_toInt_lt, e, z] at w; exact w)) H locs ls h1 h2 h3) (fun w => kf (decide_eq_false (fun v => w (by rw [Int32.lt_iff_toInt_lt, e, z]; exact v))) H locs ls h1 h2 h3)
  | le => exact lv_icmp_le hx hb hd ht (fun w => kt (decide_eq_true (by rw [Int32.le_iff_toInt_le, e, z] at w; exact w)) H locs ls h1 h2 h3) (fun w => kf (decide_eq_false (fun v => w (by rw [Int32.le_iff_toInt_le, e, z]; exact v))) H locs ls h1 h2 h3)
theorem pm_w_go {off : Int} {g : Nat} (hx : p.tables.exec = Jvm.exec) (hb : c.code = pm_cc k) (hg : pm_tg pc off = some g) (hd : decode (pm_cc k) pc = .ok (.goto off, 3)) (nx : pm_At p l e R s m args below meth c ce sl Q A0 H0 A cA D S N k g P st G) : pm_At p l e R s m args below meth c ce sl Q A0 H0 A cA D S N k pc P st G := fun H locs ls h1 h2 h3 =>
  lv_goto hx hb hd (pm_tg_eq hg) (nx H locs ls h1 h2 h3)
theorem pm_tgs_at {pc : Nat} : ∀ (os : List Int) (gs : List Nat), pm_tgs pc os = some gs → ∀ (i g : Nat), gs[i]? = some g → ∃ o, os[i]? = some o ∧ pm_tg pc o = some g := by
  intro os
  induction os with
  | nil => intro gs h i g hi; cases h; simp at hi
  | cons a t ih =>
    intro gs h i g hi
    unfold pm_tgs at h
    cases h1 : pm_tg pc a with
    | none => rw [h1] at h; cases h
    | some x =>
      cases h2 : pm_tgs pc t with
      | none => rw [h1, h2] at h; cases h
      | some y =>
        rw [h1, h2] at h
        cases h
        cases i with
        | zero => rw [List.getElem?_cons_zero] at hi; cases hi; exact ⟨a, rfl, h1⟩
        | succ i => rw [List.getElem?_cons_succ] at hi ⊢; exact ih y h2 i g hi
theorem pm_w_sw {x df lo hi : Int} {offs : Array Int} {len d g : Nat} {gs : List Nat} (hx : p.tables.exec = Jvm.exec) (hb : c.code = pm_cc k) (q : pm_rg x = true) (hg : pm_tg pc df = some d) (hgs : pm_tgs pc offs.toList = some gs) (hd : decode (pm_cc k) pc = .ok (.tableswitch df lo hi offs, len)) (hc : (lo ≤ x ∧ x ≤ hi ∧ gs[(x - lo).toNat]? = some g) ∨ ((x < lo ∨ hi < x) ∧ g = d)) (nx : pm_At p l e R s m args below meth c ce sl Q A0 H0 A cA D S N k g P t G) : pm_At p l e R s m args below meth c ce sl Q A0 H0 A cA D S N k pc P (.inl x :: t) G := fun H locs ls h1 h2 h3 => by
  have e := pm_toI q
  rcases hc with ⟨a1, a2, a3⟩ | ⟨a1, rfl⟩
  · obtain ⟨o, b1, b2⟩ := pm_tgs_at _ _ hgs _ _ a3
    exact lv_tableIn hx hb hd (by rw [e]; omega) (by rw [e]; omega) (off := o) (by rw [e, ← Array.getElem?_toList]; exact b1) (pm_tg_eq b2) (nx H locs ls h1 h2 h3)
  · exact lv_tableOut hx hb hd (by rw [e]; exact a1) (pm_tg_eq hg) (nx H locs ls h1 h2 h3)
theorem pm_fd_some {S : PS} {ci j r : Nat} {o : Option Nat} (h : pm_fd S ci j r = some o) : ∃ fs, S r = some (.inr (ci, fs)) ∧ fs[j]? = some o := by
  unfold pm_fd at h
  split at h
  · rename_i c2 fs hs
    cases hb : Nat.beq c2 ci with
    | false => rw [hb] at h; cases h
    | true =>
      rw [hb] at h
      have := Nat.eq_of_beq_eq_true hb
      subst this
      exact ⟨fs, hs, h⟩
  · cases h
theorem pm_ar_some {S : PS} {ty n r : Nat} (h : pm_ar S ty r = some n) : S r = some (.inl (ty, n)) := by
  unfold pm_ar at h
  split at h
  · rename_i t2 n2 hs
    cases hb : Nat.beq t2 ty with
    | false => rw [hb] at h; cases h
    | true =>
      rw [hb] at h
      have := Nat.eq_of_beq_eq_true hb
      subst this
      cases h
      exact hs
  · cases h
theorem pm_al_some {S : PS} {n r : Nat} (h : pm_al S r = some n) : ∃ ty, S r = some (.inl (ty, n)) ∧ n ≤ 1000 := by
  unfold pm_al at h
  split at h
  · rename_i t2 n2 hs
    cases hb : Nat.ble n2 1000 with
    | false => rw [hb] at h; cases h
    | true =>
      rw [hb] at h
      cases h
      exact ⟨t2, hs, Nat.le_of_ble_eq_true hb⟩
  · cases h
theorem pm_cls_some {S : PS} {ci r : Nat} (h : pm_cls S r = some ci) : ∃ fs, S r = some (.inr (ci, fs)) := by
  unfold pm_cls at h
  split at h
  · rename_i c2 fs hs
    cases h
    exact ⟨fs, hs⟩
  · cases h
theorem pm_cell_o {A : Nat → Nat} {cA : Nat → ClassId} {S : PS} {G : PW} {r ci : Nat} {fs : List (Option Nat)} (h : S r = some (.inr (ci, fs))) : pm_cell A cA S G r = .inr (ci, pm_fs A G r 0 fs) := by unfold pm_cell; rw [h]
theorem pm_cell_a {A : Nat → Nat} {cA : Nat → ClassId} {S : PS} {G : PW} {r ty n : Nat} (h : S r = some (.inl (ty, n))) : pm_cell A cA S G r = .inl (cA ty, n, .inl (fun j => Int32.ofInt (G r j))) := by unfold pm_cell; rw [h]
theorem pm_w_gf {ci j r ix pl : Nat} {o : Option Nat} (hx : p.tables.exec = Jvm.exec) (hb : c.code = pm_cc k) (hts : ∀ w ∈ pm_gw, w.before args s = true) (hown : s.vm.findClass (pm_rc (pm_ow k)) = some m.cls) (hk : pm_ow k < 7) (hK : va_K D vwCl (pm_tys cA) s) (hN : ∀ r, (S r).isSome = true → r < N) (hi : ix < 400) (hf : pm_fl (pm_ow k) ix = some (ci, j, pl)) (hr : pm_fd S ci j r = some o) (hd : decode (pm_cc k) pc = .ok (.getfield ix, 3)) (nx : pm_At p l e R s m args below meth c ce sl Q A0 H0 A cA D S N k (pc + 3) P ((match o with | some q => .inr (.inr q) | none => .inl (G r j)) :: t) G) : pm_At p l e R s m args below meth c ce sl Q A0 H0 A cA D S N k pc P (.inr (.inr r) :: t) G := fun H locs ls h1 h2 h3 => by
  obtain ⟨fs, hs, hj⟩ := pm_fd_some hr
  have hok := pm_fOK_all (pm_ow k) ix hk hi
  unfold pm_fOK at hok
  rw [hf] at hok
  simp only [Bool.and_eq_true] at hok
  obtain ⟨k1, k2, k3⟩ := hok
  have hjn : j < pm_nf ci := Nat.le_of_ble_eq_true k2
  have hcn : ci < 6 := Nat.le_of_ble_eq_true k3
  have hrN : r < N := hN r (by rw [hs]; rfl)
  have hc := pm_cl_at ci hcn
  refine va_get (own := pm_rc (pm_ow k)) (ref := (pm_tx ci j).1) (C := pm_rc ci) (T := pm_tx ci) (N := pm_nf ci) hx hb hts (pm_inW ci hcn) hown hK h2 r (fs := pm_fs A G r 0 fs) (by rw [pm_ws_at hrN, pm_cell_o hs]) hc j hjn (hts _ (pm_has_mem k1)) (fun _ h => h) (pm_fs_at fs 0 j o hj) hd ?_
  rw [Nat.zero_add]
  cases o with
  | none => exact nx H locs ls h1 h2 h3
  | some q => exact nx H locs ls h1 h2 h3
theorem pm_w_pf {ci j r ix pl : Nat} {ty : FieldType} {x : Int} (hx : p.tables.exec = Jvm.exec) (hb : c.code = pm_cc k) (hts : ∀ w ∈ pm_gw, w.before args s = true) (hown : s.vm.findClass (pm_rc (pm_ow k)) = some m.cls) (hk : pm_ow k < 7) (hK : va_K D vwCl (pm_tys cA) s) (hD : ∀ G, va_D A0 (pm_ws A cA S N G)) (hN : ∀ r, (S r).isSome = true → r < N) (hi : ix < 400) (hf : pm_fl (pm_ow k) ix = some (ci, j, pl)) (hr : pm_fd S ci j r = some none) (hfin : (pm_tx ci j).2.2.2 = false) (hty : pm_ty ci j = ty) (hn : narrow ty (.int (Int32.ofInt x)) = .int (Int32.ofInt x)) (hft : fits ty (.int (Int32.ofInt x)) = true) (hd : decode (pm_cc k) pc = .ok (.putfield ix, 3)) (nx : pm_At p l e R s m args below meth c ce sl Q A0 H0 A cA D S N k (pc + 3) P t (pm_upd G r j x)) : pm_At p l e R s m args below meth c ce sl Q A0 H0 A cA D S N k pc P (.inl x :: .inr (.inr r) :: t) G := fun H locs ls h1 h2 h3 => by
  obtain ⟨fs, hs, hj⟩ := pm_fd_some hr
  have hok := pm_fOK_all (pm_ow k) ix hk hi
  unfold pm_fOK at hok
  rw [hf] at hok
  simp only [Bool.and_eq_true] at hok
  obtain ⟨k1, k2, k3⟩ := hok
  have hjn : j < pm_nf ci := Nat.le_of_ble_eq_true k2
  have hcn : ci < 6 := Nat.le_of_ble_eq_true k3
  have hrN : r < N := hN r (by rw [hs]; rfl)
  have hc := pm_cl_at ci hcn
  have hjl : j < (pm_fs A G r 0 fs).length := by
    rw [pm_fs_len]
    exact (List.getElem?_eq_some_iff.mp hj).1
  refine va_put (own := pm_rc (pm_ow k)) (ref := (pm_tx ci j).1) (C := pm_rc ci) (T := pm_tx ci) (N := pm_nf ci) (ty := ty) hx hb hts (pm_inW ci hcn) (pm_ty ci) (pm_tyW ci hcn) (pm_nmW ci hcn) hown hK h2 (hD G) h3 r (fs := pm_fs A G r 0 fs) (by rw [pm_ws_at hrN, pm_cell_o hs]) hc j hjn (hts _ (pm_has_mem k1)) (fun _ h => h) hfin (by rw [← hty]; exact pm_tyW ci hcn j hjn) hn hft hjl hd (fun H1 locs1 g1 g2 g3 => ?_)
  have e : (pm_ws A cA S N G).set r (A r, .inr (ci, (pm_fs A G r 0 fs).set j (Value.int (Int32.ofInt x)))) = pm_ws A cA S N (pm_upd G r j x) := by
    refine pm_ws_set ?_
    have := pm_fs_upd (A := A) (W := G) (r := r) (x := x) fs 0 j hj
    rw [Nat.zero_add] at this
    rw [pm_cell_o hs, this]
  have g1 : va_P D vwCl ((pm_ws A cA S N G).set r (A r, .inr (ci, (pm_fs A G r 0 fs).set j (Value.int (Int32.ofInt x))))) H1 := g1
  rw [e] at g1
  exact nx H1 locs1 ls h1 g1 g3
theorem pm_w_ald {i : Int} {r n : Nat} {ins : Instr} {ty : Nat} (hx : p.tables.exec = Jvm.exec) (hb : c.code = pm_cc k) (hK : va_K D vwCl (pm_tys cA) s) (hN : ∀ r, (S r).isSome = true → r < N) (hr : pm_ar S ty r = some n) (q0 : 0 ≤ i) (q1 : i < (n : Int)) (q2 : pm_rg i = true) (hty : (ty = 0 ∧ ins = .iaload) ∨ (ty = 1 ∧ ins = .caload)) (hd : decode (pm_cc k) pc = .ok (ins, 1)) (nx : pm_At p l e R s m args below meth c ce sl Q A0 H0 A cA D S N k (pc + 1) P (.inl (G r i.toNat) :: t) G) : pm_At p l e R s m args below meth c ce sl Q A0 H0 A cA D S N k pc P (.inl i :: .inr (.inr r) :: t) G := fun H locs ls h1 h2 h3 => by
  have hs := pm_ar_some hr
  have hrN : r < N := hN r (by rw [hs]; rfl)
  have hat : (pm_ws A cA S N G)[r]? = some (A r, .inl (cA ty, n, .inl (fun j => Int32.ofInt (G r j)))) := by rw [pm_ws_at hrN, pm_cell_a hs]
  have hv := pm_vin q0 q1 q2
  have nx' := nx H locs ls h1 h2 h3
  have e : (fun j => Int32.ofInt (G r j)) (Int32.ofInt i).toNatClampNeg = Int32.ofInt (G r i.toNat) := by rw [pm_clamp q0 q2]
  rcases hty with ⟨rfl, rfl⟩ | ⟨rfl, rfl⟩
  · exact va_iald hx hb hK h2 r 0 hat rfl hv hd (by rw [pm_clamp q0 q2]; exact nx')
  · exact va_cald hx hb hK h2 r 1 hat rfl hv hd (by rw [pm_clamp q0 q2]; exact nx')
theorem pm_upd_fn {G : PW} {r : Nat} {i x : Int} (q0 : 0 ≤ i) (q2 : pm_rg i = true) : upd (fun j => Int32.ofInt (G r j)) (Int32.ofInt i).toNatClampNeg (Int32.ofInt x) = fun j => Int32.ofInt (pm_upd G r i.toNat x r j) := by
  funext j
  rw [pm_clamp q0 q2, pm_upd_eq]
  unfold upd
  by_cases h : j = i.toNat
  · rw [if_pos h, if_pos ⟨rfl, h⟩]
  · rw [if_neg h, if_neg (fun q => h q.2)]
theorem pm_nar2 {x : Int} (h : pm_fit 2 x = true) : vp_nar .boolean (Int32.ofInt x) = Int32.ofInt x ∧ narrow .boolean (.int (Int32.ofInt x)) = .int (Int32.ofInt x) ∧ fits .boolean (.int (Int32.ofInt x)) = true := by
  have h : (decide (0 ≤ x) && decide (x ≤ 1)) = true := h
  rw [Bool.and_eq_true, decide_eq_true_eq, decide_eq_true_eq] at h
  rcases (show x = 0 ∨ x = 1 by omega) with rfl | rfl
  · exact ⟨by decide +kernel, by decide +kernel, by decide +kernel⟩
  · exact ⟨by decide +kernel, by decide +kernel, by decide +kernel⟩
theorem pm_narC {x : Int} (h : pm_fit 1 x = true) : narrow .char (.int (Int32.ofInt x)) = .int (Int32.ofInt x) := by
  have := pm_i2c h
  show Value.int _ = _
  congr 1
theorem pm_nar1 {x : Int} (h : pm_fit 1 x = true) : vp_nar .char (Int32.ofInt x) = Int32.ofInt x := by
  unfold vp_nar
  rw [pm_narC h]
theorem pm_w_ast {i x : Int} {r n : Nat} {ins : Instr} {ty : Nat} (hx : p.tables.exec = Jvm.exec) (hb : c.code = pm_cc k) (hK : va_K D vwCl (pm_tys cA) s) (hD : ∀ G, va_D A0 (pm_ws A cA S N G)) (hN : ∀ r, (S r).isSome = true → r < N) (hr : pm_ar S ty r = some n) (q0 : 0 ≤ i) (q1 : i < (n : Int)) (q2 : pm_rg i = true) (q3 : pm_fit ty x = true) (hty : (ty = 0 ∧ ins = .iastore) ∨ (ty = 1 ∧ ins = .castore)) (hd : decode (pm_cc k) pc = .ok (ins, 1)) (nx : pm_At p l e R s m args below meth c ce sl Q A0 H0 A cA D S N k (pc + 1) P t (pm_upd G r i.toNat x)) : pm_At p l e R s m args below meth c ce sl Q A0 H0 A cA D S N k pc P (.inl x :: .inl i :: .inr (.inr r) :: t) G := fun H locs ls h1 h2 h3 => by
  have hs := pm_ar_some hr
  have hrN : r < N := hN r (by rw [hs]; rfl)
  have hat : (pm_ws A cA S N G)[r]? = some (A r, .inl (cA ty, n, .inl (fun j => Int32.ofInt (G r j)))) := by rw [pm_ws_at hrN, pm_cell_a hs]
  have hv := pm_vin q0 q1 q2
  have e : (pm_ws A cA S N G).set r (A r, .inl (cA ty, n, .inl (upd (fun j => Int32.ofInt (G r j)) (Int32.ofInt i).toNatClampNeg (Int32.ofInt x)))) = pm_ws A cA S N (pm_upd G r i.toNat x) := by
    refine pm_ws_set ?_
    rw [pm_cell_a hs, pm_upd_fn q0 q2]
  rcases hty with ⟨rfl, rfl⟩ | ⟨rfl, rfl⟩
  · exact va_iast hx hb hK h2 (hD G) h3 r 0 hat rfl hv hd (fun H1 locs1 g1 g2 g3 => nx H1 locs1 ls h1 (e ▸ g1) g3)
  · exact va_cast hx hb hK h2 (hD G) h3 r 1 hat rfl hv hd (fun H1 locs1 g1 g2 g3 => nx H1 locs1 ls h1 (by rw [pm_nar1 q3, e] at g1; exact g1) g3)
theorem pm_w_len {r n : Nat} (hx : p.tables.exec = Jvm.exec) (hb : c.code = pm_cc k) (hK : va_K D vwCl (pm_tys cA) s) (hN : ∀ r, (S r).isSome = true → r < N) (hT : ∀ r ty n, S r = some (.inl (ty, n)) → ty < 2) (hr : pm_al S r = some n) (hd : decode (pm_cc k) pc = .ok (.arraylength, 1)) (nx : pm_At p l e R s m args below meth c ce sl Q A0 H0 A cA D S N k (pc + 1) P (.inl (n : Int) :: t) G) : pm_At p l e R s m args below meth c ce sl Q A0 H0 A cA D S N k pc P (.inr (.inr r) :: t) G := fun H locs ls h1 h2 h3 => by
  obtain ⟨ty, hs, hn⟩ := pm_al_some hr
  have hrN : r < N := hN r (by rw [hs]; rfl)
  have hat : (pm_ws A cA S N G)[r]? = some (A r, .inl (cA ty, n, .inl (fun j => Int32.ofInt (G r j)))) := by rw [pm_ws_at hrN, pm_cell_a hs]
  have hty := hT r ty n hs
  have e : Int32.ofNat n = Int32.ofInt (n : Int) := (Int32.ofInt_eq_ofNat).symm
  rcases (show ty = 0 ∨ ty = 1 by omega) with rfl | rfl
  · exact va_alen hx hb hK h2 r 0 hat rfl e hd (nx H locs ls h1 h2 h3)
  · exact va_alen hx hb hK h2 r 1 hat rfl e hd (nx H locs ls h1 h2 h3)
theorem pm_w_dup {v : PV} (hx : p.tables.exec = Jvm.exec) (hb : c.code = pm_cc k) (hv : ∀ x, v ≠ .inr (.inl x)) (hd : decode (pm_cc k) pc = .ok (.dup, 1)) (nx : pm_At p l e R s m args below meth c ce sl Q A0 H0 A cA D S N k (pc + 1) P (v :: v :: t) G) : pm_At p l e R s m args below meth c ce sl Q A0 H0 A cA D S N k pc P (v :: t) G := fun H locs ls h1 h2 h3 =>
  lv_dup hx hb hd (by rcases lv_cat (pm_tr A v) with h | h; exact h; exact absurd h (pm_cat hv)) (nx H locs ls h1 h2 h3)
theorem pm_w_du2 {v w : PV} (hx : p.tables.exec = Jvm.exec) (hb : c.code = pm_cc k) (hv : ∀ x, v ≠ .inr (.inl x)) (hw : ∀ x, w ≠ .inr (.inl x)) (hd : decode (pm_cc k) pc = .ok (.dup2, 1)) (nx : pm_At p l e R s m args below meth c ce sl Q A0 H0 A cA D S N k (pc + 1) P (v :: w :: v :: w :: t) G) : pm_At p l e R s m args below meth c ce sl Q A0 H0 A cA D S N k pc P (v :: w :: t) G := fun H locs ls h1 h2 h3 =>
  lv_dup2_11 hx hb hd (by rcases lv_cat (pm_tr A v) with h | h; exact h; exact absurd h (pm_cat hv)) (by rcases lv_cat (pm_tr A w) with h | h; exact h; exact absurd h (pm_cat hw)) (nx H locs ls h1 h2 h3)
theorem pm_w_pop {v : PV} (hx : p.tables.exec = Jvm.exec) (hb : c.code = pm_cc k) (hv : ∀ x, v ≠ .inr (.inl x)) (hd : decode (pm_cc k) pc = .ok (.pop, 1)) (nx : pm_At p l e R s m args below meth c ce sl Q A0 H0 A cA D S N k (pc + 1) P t G) : pm_At p l e R s m args below meth c ce sl Q A0 H0 A cA D S N k pc P (v :: t) G := fun H locs ls h1 h2 h3 =>
  lv_pop hx hb hd (by rcases lv_cat (pm_tr A v) with h | h; exact h; exact absurd h (pm_cat hv)) (nx H locs ls h1 h2 h3)
theorem pm_w_inc {j : Nat} {x a : Int} (hx : p.tables.exec = Jvm.exec) (hb : c.code = pm_cc k) (hd : decode (pm_cc k) pc = .ok (.iinc j a, 3)) (hj : j < pm_nl k) (hl : pm_lk P j = some (.inl x)) (nx : pm_At p l e R s m args below meth c ce sl Q A0 H0 A cA D S N k (pc + 3) (pm_sto P j (.inl (x + a))) st G) : pm_At p l e R s m args below meth c ce sl Q A0 H0 A cA D S N k pc P st G := fun H locs ls h1 h2 h3 => by
  have hm := (pm_asc_mem (A := A) P 0 _).mpr ⟨j, _, hl, rfl⟩
  rw [Nat.zero_add] at hm
  obtain ⟨kk, hkk⟩ := List.getElem?_of_mem hm
  refine lv_iinc (k := kk) (v := Int32.ofInt (x + a)) hx hb hd h1 hkk (by rw [Int32.ofInt_add]) hj rfl (fun ls' h => nx H locs ls' (pm_asc_sto (v := .inl (x + a)) h) h2 h3)
end PMS
