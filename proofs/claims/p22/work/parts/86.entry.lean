/-! a constructor's entry and end -/
theorem cs_wI : Cond.arrayClass .int ∈ pm_gw := pm_has_mem (p := 116) (by decide +kernel)
theorem cs_wC : Cond.arrayClass .char ∈ pm_gw := pm_has_mem (p := 168) (by decide +kernel)
theorem cs_wO : Cond.instanceMethod objectInit ∈ pm_gw := pm_has_mem (p := 43) (by decide +kernel)
theorem cs_wO2 : Cond.code objectInit ⟨#[0xb1]⟩ 1 none ∈ pm_gw := pm_has_mem (p := 44) (by decide +kernel)
/-- what holds all along a constructor -/
def cs_CX (p : Program) (s : State) (m : MethodId) (args : Array Value) (meth : Method) (c : Code) (A0 : Nat → Prop) (cA : Nat → ClassId) (D : va_G) (ci : Nat) (cy : ByteArray) : Prop :=
  p.tables.exec = Jvm.exec ∧ c.code = cy ∧ c.maxLocals = 1 ∧ meth.sig.returnType = none ∧ (∀ w ∈ pm_gw, w.before args s = true) ∧ (∀ w ∈ pm_nw, va_Nw w s) ∧ s.vm.findClass (pm_rc ci) = some m.cls ∧ meth.name = "<init>" ∧ va_K D vwCl (pm_tys cA) s ∧ (∀ q : Nat, s.heap.size ≤ q → A0 q) ∧ meth.locks = false
theorem cs_met {l : Launch} {y : MethodName} {cy : ByteArray} {rm : Room} {cA : Nat → ClassId} {D : va_G} {ci ix0 N mc ms : Nat} {S : PS} {G : PW} (hpl : Jvm.plainName y.cls = true) (hyc : y.cls = pm_rc ci) (hyn : y.name = "<init>") (ho : Cond.methodLink (pm_rc ci) ix0 objectInit ∈ pm_gw) (hd0 : decode cy 0 = .ok (.aload_n 0, 1)) (hd1 : decode cy 1 = .ok (.invokespecial ix0, 3)) (hf : 1 ≤ rm.frames) (hlo : 12 ≤ rm.locals)
    (body : ∀ (p : Program) (e : Env) (s : State) (m : MethodId) (args : Array Value) (below : List Frame) (meth : Method) (c : Code) (A0 : Nat → Prop) (h0 : Nat) (ls : Array Slot), cs_CX p s m args meth c A0 cA D ci cy → A0 = cs_A1 ci h0 s.heap.size → lv_has ls 1 [(0, .ref h0)] → va_P D vwCl [(h0, .inr (ci, cs_fs ci))] s.heap → va_D A0 [(h0, .inr (ci, cs_fs ci))] → va_S A0 s.heap s.heap [] →
      W p l e rm s m args below meth c s.heap [] 0 0 (MQ below (va_Qv (fun _ : Nat → Nat => True) (cs_B cA D S N G h0 A0) A0) args s mc ms A0) (F0 m 4 ls [])) : cs_Met l y (.code y cy 1 none :: pm_gw) rm cA D ci S N G mc ms := by
  intro h0 sz
  refine Met.ofW (cc := cy) (maxL := 1) (ret := none) hpl rfl ?_
  intro p e s m args below meth c s₁ B hml hv
  obtain ⟨rfl, hsz, hP, hK, hD0, hnw⟩ := hv
  have hts := atoms_spec (ws := .code y cy 1 none :: pm_gw) B.pre
  have hts2 : ∀ w ∈ pm_gw, w.before ([Value.ref h0] : List Value).toArray s = true := fun w hw => hts w (List.mem_cons_of_mem _ hw)
  have hown : s.vm.findClass (pm_rc ci) = some m.cls := by rw [← hyc]; exact findClass_of_methodNamed B.named
  have hin : meth.name = "<init>" := by rw [← hyn]; exact (name_of_methodNamed B.named B.method).1
  subst hsz
  have hD := hD0.self (sz := s.heap.size)
  have hl := lv_entry ([.ref h0]) (n := 1) (Nat.le_of_ble_eq_true rfl)
  rw [lg_entry_eq]
  generalize (lg_sl ([.ref h0]) ++ List.replicate (1 - (lg_sl ([.ref h0])).length) Slot.unset).toArray = ls at hl ⊢
  have hl : lv_has ls 1 [(0, .ref h0)] := hl
  have X : cs_CX p s m ([Value.ref h0] : List Value).toArray meth c (cs_A1 ci h0 s.heap.size) cA D ci cy := ⟨B.exec, B.bytes, hml, B.returns, hts2, hnw, hown, hin, hK, fun q h => Or.inr h, B.notSynchronized⟩
  refine lv_aload_n B.exec B.bytes hd0 rfl (lv_at hl 0 rfl) ?_
  refine W.objInit B.exec B.bytes hown (hts2 _ ho) (hts2 _ cs_wO) (hts2 _ cs_wO2) rfl (by rw [hml]; exact hl.1) rfl hd1 hf hlo ?_
  refine W.eq (g2 := F0 m 4 ls []) rfl ?_
  exact body p e s m _ below meth c _ h0 ls X rfl hl hP hD va_S.rf
theorem cs_vret {p : Program} {l : Launch} {e : Env} {R : Room} {s : State} {m : MethodId} {args : Array Value} {below : List Frame} {meth : Method} {c : Code} {H : Heap} {locs : List Loc} {mc ms : Nat} {cy : ByteArray} {pc N ci h0 : Nat} {ls : Array Slot} {D : va_G} {cA : Nat → ClassId} {A0 : Nat → Prop} {S : PS} {G : PW} (u : Nat → Nat) (X : cs_CX p s m args meth c A0 cA D ci cy) (hP : va_P D vwCl (pm_ws u cA S N G) H) (hD : va_D A0 (pm_ws u cA S N G)) (hS : va_S A0 s.heap H locs) (hu : u 0 = h0) (hd : decode cy pc = .ok (.return_, 1)) :
    W p l e R s m args below meth c H locs mc ms (MQ below (va_Qv (fun _ : Nat → Nat => True) (cs_B cA D S N G h0 A0) A0) args s mc ms A0) (F0 m pc ls []) := by
  have hlocks := X.2.2.2.2.2.2.2.2.2.2
  exact W.vret X.1 X.2.1 X.2.2.2.1 (fun t ht hW => ⟨⟨u, rfl, trivial, hu, by rw [ht]; exact hP, hD⟩, hS.F ht⟩) hS.2.2 hd
