/-! THE CLAIM OUT OF ONE WALK OF THE LAW'S BODY. Your part is whole_start (and what it stands on); all else here is the same for every law, but numbers. -/
def R_law : String := "TwoLivesLaw"
def lw_P (b : Addr) (xs : List Int32) (args : Array Value) (s : State) : Prop := args = #[.ref b] ∧ s.IntsAt b xs ∧ xs.length ≤ 1536 ∧ (Jvm.Cond.and given_1 narrow_1).before args s = true
def lw_Q (_ : Array Value) (s : State) (o : Outcome) (t : State) : Prop := o = .returned (some (.int 1)) ∧ Framed s o t [] 73 2284
def lw_Z (below : List Frame) (a : Array Value) (s : State) : State → Prop := fun t => ∃ o, t.status = .running ∧ Ended t below o ∧ lw_Q a s o t
/-- the law's own end, with 1 on the stack, nothing written that was there before, its room as the claim has it -/
theorem lw_ret {p : Program} {l : Launch} {e : Env} {s : State} {m : MethodId} {below : List Frame} {meth : Method} {c : Code} {b : Nat} (hx : p.tables.exec = Jvm.exec) (hb : c.code = code) (hr : meth.sig.returnType = ret) (hlocks : meth.locks = false) {pc : Nat} {H : Heap} {ls : Array Slot} (hdg : decode code pc = .ok (.ireturn, 1)) : W p l e room_1 s m #[Value.ref b] below meth c H [] 73 2284 (lw_Z below #[Value.ref b] s) (F0 m pc ls [.int 1]) := by
  intro T hT X
  obtain ⟨fs, hret, hrun, hended, hW, hframe⟩ := X.leave (v := some (.int 1)) (hlocks := hlocks) (fun h => by rw [hr] at h; cases h)
  have hmeth' : T.vm.method? m = some meth := X.method'
  refine ⟨T.setFrames fs, ?_, .returned (some (.int 1)), hrun, hended, rfl, ⟨_, rfl⟩, hW, hframe⟩
  jvm_step X.here [X.here.top, hx, hb, hdg, hmeth', hr, ret, narrow_b1]
  (try refine ⟨rfl, ?_⟩); (try refine ⟨rfl, ?_⟩)
  first | (intro acts; rw [hret _ acts rfl rfl rfl]) | rw [hret _ _ rfl rfl rfl]
  exact Steps.refl _
/-- what holds at the law's entry: the machine, the code, the tables' words (any of lw_tbl by 'hts w (by decide +kernel)'), the script of L ints xs at the cell b, what the Statement gives of the start (any of its parts by flat_of_before) -/
def lw_At (p : Program) (s : State) (m : MethodId) (meth : Method) (c : Code) (b L : Nat) (xs : Nat → Int32) : Prop :=
  p.tables.exec = Jvm.exec ∧ c.code = code ∧ meth.sig.returnType = ret ∧ c.maxLocals = 4 ∧ s.vm.findClass R_law = some m.cls ∧ (∀ w ∈ lw_tbl, w.before #[Value.ref b] s = true) ∧ va_X b L xs s s.heap ∧ b < s.heap.size ∧ meth.locks = false ∧ (Jvm.Cond.and given_1 narrow_1).before #[Value.ref b] s = true
/-! what holds along the law's body -/
def lw_CX (p : Program) (s : State) (m : MethodId) (meth : Method) (c : Code) (b L : Nat) (xs : Nat → Int32) (cA : Nat → ClassId) (D : va_G) : Prop := lw_At p s m meth c b L xs ∧ va_K D vwCl (pm_tys cA) s ∧ (∀ w ∈ pm_gw, w.before #[Value.ref b] s = true) ∧ ∀ w ∈ pm_nw, va_Nw w s
def lw_In (p : Program) (l : Launch) (e : Env) (s : State) (m : MethodId) (below : List Frame) (meth : Method) (c : Code) (b : Nat) (Ax Am : Nat → Nat) (cA : Nat → ClassId) (D : va_G) (x3 : Int32) (G K : PW) (pc : Nat) : Prop := ∀ (H : Heap) (locs : List Loc) (ls : Array Slot), va_P D vwCl (pm_ws Ax cA pm_sC 47 G ++ pm_ws Am cA pm_sM 26 K) H → va_D (fun q : Nat => s.heap.size ≤ q) (pm_ws Ax cA pm_sC 47 G ++ pm_ws Am cA pm_sM 26 K) → va_S (fun q : Nat => s.heap.size ≤ q) s.heap H locs → lv_has ls 4 [(3, .int x3), (2, .ref (Am 0)), (1, .ref (Ax 0)), (0, .ref b)] → W p l e room_1 s m #[Value.ref b] below meth c H locs 73 2284 (lw_Z below #[Value.ref b] s) (F0 m pc ls [])
theorem cs_st2 {x y : Int32} {Ad : Nat → Nat} {rest : List Value} : Value.int y :: Value.int x :: Value.ref (Ad 0) :: rest = (([.inl x.toInt, .inl y.toInt] : List PV).map (pm_tr Ad)).reverse ++ .ref (Ad 0) :: rest := by
  show _ = Value.int (Int32.ofInt y.toInt) :: Value.int (Int32.ofInt x.toInt) :: Value.ref (Ad 0) :: rest
  rw [Int32.ofInt_toInt, Int32.ofInt_toInt]
theorem cs_st1 {x : Int32} {Ad : Nat → Nat} {rest : List Value} : Value.int x :: Value.ref (Ad 0) :: rest = (([.inl x.toInt] : List PV).map (pm_tr Ad)).reverse ++ .ref (Ad 0) :: rest := by
  show _ = Value.int (Int32.ofInt x.toInt) :: Value.ref (Ad 0) :: rest
  rw [Int32.ofInt_toInt]
theorem cs_st0 {Ad : Nat → Nat} {rest : List Value} : Value.ref (Ad 0) :: rest = (([] : List PV).map (pm_tr Ad)).reverse ++ .ref (Ad 0) :: rest := rfl
theorem cs_stl {x : Int64} {Ad : Nat → Nat} {rest : List Value} : Value.long x :: Value.ref (Ad 0) :: rest = (([.inr (.inl x)] : List PV).map (pm_tr Ad)).reverse ++ .ref (Ad 0) :: rest := rfl
theorem cs_up (x : Int32) : x.toInt ≤ 2147483647 := (pm_rg_iff.mp (pm_rgI x)).2
