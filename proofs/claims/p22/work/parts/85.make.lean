/-! an object made and its constructor called -/
def cs_Pre (cA : Nat → ClassId) (D : va_G) (ci h0 sz : Nat) (U : State) : Prop := U.heap.size = sz ∧ va_P D vwCl [(h0, .inr (ci, cs_fs ci))] U.heap ∧ va_K D vwCl (pm_tys cA) U ∧ va_D (fun _ => True) [(h0, .inr (ci, cs_fs ci))] ∧ ∀ w ∈ pm_nw, va_Nw w U
def cs_B (cA : Nat → ClassId) (D : va_G) (S : PS) (N : Nat) (G : PW) (h0 : Nat) (A1 : Nat → Prop) (u : Nat → Nat) (t : State) : Prop := u 0 = h0 ∧ va_P D vwCl (pm_ws u cA S N G) t.heap ∧ va_D A1 (pm_ws u cA S N G)
def cs_A1 (ci h0 sz : Nat) : Nat → Prop := va_A [(h0, .inr (ci, cs_fs ci))] sz
def cs_Met (l : Launch) (y : MethodName) (w : List Cond) (rm : Room) (cA : Nat → ClassId) (D : va_G) (ci : Nat) (S : PS) (N : Nat) (G : PW) (mc ms : Nat) : Prop := ∀ h0 sz : Nat, Met l y w rm (va_Pc [.ref h0] (cs_Pre cA D ci h0 sz)) (va_Qv (fun _ : Nat → Nat => True) (cs_B cA D S N G h0 (cs_A1 ci h0 sz)) (cs_A1 ci h0 sz)) mc ms (cs_A1 ci h0 sz)
theorem cs_blind {cA : Nat → ClassId} {D : va_G} {ci h0 sz : Nat} {av : List Value} : FrameBlind (va_Pc av (cs_Pre cA D ci h0 sz)) := by
  intro a U g mk ⟨h0, h1, h2, h3, h4, h5⟩
  exact ⟨h0, h1, h2, va_K.moved (u := U) (U := U.calling g mk a) (Vm.Alike.refl U.vm) h3, h4, pm_nw_same (s := U) (U := U.calling g mk a) rfl h5⟩
theorem cs_def (ci j : Nat) (hj : j < pm_nf ci) : defaultValue (pm_ty ci j) = vp_V (cs_fs ci) j := by
  unfold vp_V cs_fs
  simp [List.getElem?_map, List.getElem?_range hj]
section CSO
variable {p : Program} {l : Launch} {e : Env} {R : Room} {s : State} {m : MethodId} {args : Array Value} {below : List Frame} {meth : Method} {c : Code} {H : Heap} {locs : List Loc} {cells slots : Nat} {Q : State → Prop}
variable {cc : ByteArray} {pc : Nat} {ls : Array Slot} {rest : List Value} {D : va_G} {cA : Nat → ClassId} {A : Nat → Prop} {w : va_W} {H0 : Heap}
theorem cs_new {own : String} {ci ix1 N mc ms : Nat} {S : PS} {G : PW} (hx : p.tables.exec = Jvm.exec) (hb : c.code = cc) (hts : ∀ w ∈ pm_gw, w.before args s = true) (hown : s.vm.findClass own = some m.cls) (hK : va_K D vwCl (pm_tys cA) s)
    (hP : va_P D vwCl w H) (hD : va_D A w) (hS : va_S A H0 H locs) (hA : ∀ q : Nat, H0.size ≤ q → A q)
    (hci : ci < 6) (hcl : Cond.classLink own ix1 (pm_rc ci) ∈ pm_gw) (hinst : Cond.instantiable (pm_rc ci) (pm_nf ci) ∈ pm_gw) (hini : Cond.initialized (pm_rc ci) ∈ pm_gw)
    (hcells : cells + 1 ≤ R.cells) (hslots : slots + pm_nf ci ≤ R.slots) (hd1 : decode cc pc = .ok (.new ix1, 3)) (hd2 : decode cc (pc + 3) = .ok (.dup, 1))
    (hrun : ∀ (q : Nat) (H1 : Heap) (locs1 : List Loc), va_P D vwCl [(q, .inr (ci, cs_fs ci))] H1 → va_D (fun _ => True) [(q, .inr (ci, cs_fs ci))] → va_Run p l e R s m args below meth c H1 locs1 (cells + 1) (slots + pm_nf ci) mc ms (F0 m (pc + 3 + 1) ls (.ref q :: .ref q :: rest)) (.ref q :: rest) (va_Qv (fun _ : Nat → Nat => True) (cs_B cA D S N G q (cs_A1 ci q H1.size)) (cs_A1 ci q H1.size) #[.ref q]) (cs_A1 ci q H1.size))
    (kk : ∀ (u : Nat → Nat) (H1 : Heap) (locs1 : List Loc), va_P D vwCl (w ++ pm_ws u cA S N G) H1 → va_D A (w ++ pm_ws u cA S N G) → va_S A H0 H1 locs1 → W p l e R s m args below meth c H1 locs1 (cells + 1 + mc) (slots + pm_nf ci + ms) Q (F0 m (pc + 3 + 1 + 3) ls (.ref (u 0) :: rest))) : W p l e R s m args below meth c H locs cells slots Q (F0 m pc ls rest) := by
  have hc := pm_cl_at ci hci
  refine va_new (ci := ci) (fs := cs_fs ci) (C := pm_rc ci) (T := pm_tx ci) (N := pm_nf ci) hx hb hts (pm_inW ci hci) (pm_ty ci) (pm_tyW ci hci) hown (hts _ hcl) (hts _ hinst) (hts _ hini) hK hP hD hS hA hc (cs_def ci) hcells hslots hd1 (fun q H1 hP1 hD1 hS1 => ?_)
  refine lv_dup hx hb hd2 rfl ?_
  have hF : ∀ x, cs_A1 ci q H1.size x → A x := cs_free hS1 hA (cs_D_r hD1)
  refine va_callv (hrun q H1 locs (cs_P_r hP1) ((cs_D_r hD1).weaken (fun _ _ _ _ => trivial))) hS1 (fun x _ h => hF x h) hF (fun u t H2 locs2 ht hvm hw hB hz1 hk1 hS2 => ?_)
  obtain ⟨e0, hP2, hD2⟩ := hB
  rw [ht] at hP2
  obtain ⟨hP3, hD3⟩ := cs_join_r hP1 hD1 hk1 hF hP2 hD2
  rw [← e0]
  exact kk u H2 locs2 hP3 hD3 hS2
/-- the constructor called as a nest mate's -/
theorem cs_newN {own host : String} {ci ix1 ix2 N mc ms nL : Nat} {S : PS} {G : PW} {y : MethodName} {cy : ByteArray} {rm : Room} (hx : p.tables.exec = Jvm.exec) (hb : c.code = cc) (hml : c.maxLocals = nL) (hls : ls.size = nL) (hts : ∀ w ∈ pm_gw, w.before args s = true) (hnw : ∀ w ∈ pm_nw, va_Nw w s) (hown : s.vm.findClass own = some m.cls) (hK : va_K D vwCl (pm_tys cA) s)
    (hP : va_P D vwCl w H) (hD : va_D A w) (hS : va_S A H0 H locs) (hA : ∀ q : Nat, H0.size ≤ q → A q)
    (hci : ci < 6) (hcl : Cond.classLink own ix1 (pm_rc ci) ∈ pm_gw) (hinst : Cond.instantiable (pm_rc ci) (pm_nf ci) ∈ pm_gw) (hini : Cond.initialized (pm_rc ci) ∈ pm_gw)
    (hM : cs_Met l y (.code y cy 1 none :: pm_gw) rm cA D ci S N G mc ms) (hcode : Cond.code y cy 1 none ∈ pm_gw) (hy : y.cls = pm_rc ci) (hyn : y.name = "<init>") (hyi : Cond.instanceMethod y ∈ pm_gw) (hyl : Cond.methodLinkNest own ix2 y host ∈ pm_nw) (hyd : y.cls ≠ "java/lang/invoke/MethodHandle" ∧ y.cls ≠ "java/lang/invoke/VarHandle" ∧ (parseMethodDescriptor y.desc).map (fun d => d.parameters.length) = some 0) (hrc : rm.cells = mc) (hrs : rm.slots = ms) (hR : rm.frames + 1 ≤ R.frames ∧ 8 + (1 + 11) + rm.locals ≤ R.locals)
    (hW : rest.length ≤ 2) (hcells : cells + 1 + mc ≤ R.cells) (hslots : slots + pm_nf ci + ms ≤ R.slots) (hd1 : decode cc pc = .ok (.new ix1, 3)) (hd2 : decode cc (pc + 3) = .ok (.dup, 1)) (hd3 : decode cc (pc + 3 + 1) = .ok (.invokespecial ix2, 3))
    (kk : ∀ (u : Nat → Nat) (H1 : Heap) (locs1 : List Loc), va_P D vwCl (w ++ pm_ws u cA S N G) H1 → va_D A (w ++ pm_ws u cA S N G) → va_S A H0 H1 locs1 → W p l e R s m args below meth c H1 locs1 (cells + 1 + mc) (slots + pm_nf ci + ms) Q (F0 m (pc + 3 + 1 + 3) ls (.ref (u 0) :: rest))) : W p l e R s m args below meth c H locs cells slots Q (F0 m pc ls rest) := by
  have hg : GoodIn pm_gw (Cond.code y cy 1 none :: pm_gw) := fun v hv => by
    rcases List.mem_cons.mp hv with rfl | hv
    · exact pm_gw_good _ hcode
    · exact pm_gw_good v hv
  refine cs_new (own := own) (ci := ci) (ix1 := ix1) hx hb hts hown hK hP hD hS hA hci hcl hinst hini (by omega) (by omega) hd1 hd2 (fun q H1 locs1 hP1 hD1 => ?_) kk
  refine va_runIN (As := []) (rest := .ref q :: rest) (n := 0) ⟨hx, hb, hml, hown, hts⟩ (hM q H1.size) ⟨va_cnB 0 hts hg rfl hrc hrs (hnw _ hyl) (by rw [hy]; exact hts _ hini) hyd hR, hyn, hts _ hyi⟩ ⟨cs_blind, fun U hU hWm => ⟨rfl, by rw [hU], by rw [hU]; exact hP1, va_K.moved hWm.alike hK, hD1, pm_nw_warm hWm hnw⟩⟩ rfl rfl hls rfl (lv_room ?_) hd3 ⟨hcells, hslots⟩
  have : ((Value.ref q :: rest).map fun v => v.category).sum ≤ 2 * (rest.length + 1) := by
    have gen : ∀ st : List Value, (st.map fun v => v.category).sum ≤ 2 * st.length := fun st => by
      induction st with
      | nil => exact Nat.le_refl _
      | cons a t ih =>
        rw [List.map_cons, List.sum_cons, List.length_cons]
        have : a.category ≤ 2 := by rcases lv_cat a with h | h <;> omega
        omega
    exact gen (Value.ref q :: rest)
  omega
/-- the constructor called plainly -/
theorem cs_newP {own : String} {ci ix1 ix2 N mc ms nL : Nat} {S : PS} {G : PW} {y : MethodName} {cy : ByteArray} {rm : Room} (hx : p.tables.exec = Jvm.exec) (hb : c.code = cc) (hml : c.maxLocals = nL) (hls : ls.size = nL) (hts : ∀ w ∈ pm_gw, w.before args s = true) (hnw : ∀ w ∈ pm_nw, va_Nw w s) (hown : s.vm.findClass own = some m.cls) (hK : va_K D vwCl (pm_tys cA) s)
    (hP : va_P D vwCl w H) (hD : va_D A w) (hS : va_S A H0 H locs) (hA : ∀ q : Nat, H0.size ≤ q → A q)
    (hci : ci < 6) (hcl : Cond.classLink own ix1 (pm_rc ci) ∈ pm_gw) (hinst : Cond.instantiable (pm_rc ci) (pm_nf ci) ∈ pm_gw) (hini : Cond.initialized (pm_rc ci) ∈ pm_gw)
    (hM : cs_Met l y (.code y cy 1 none :: pm_gw) rm cA D ci S N G mc ms) (hcode : Cond.code y cy 1 none ∈ pm_gw) (hy : y.cls = pm_rc ci) (hyn : y.name = "<init>") (hyi : Cond.instanceMethod y ∈ pm_gw) (hyl : Cond.methodLink own ix2 y ∈ pm_gw) (hyd : y.cls ≠ "java/lang/invoke/MethodHandle" ∧ y.cls ≠ "java/lang/invoke/VarHandle" ∧ (parseMethodDescriptor y.desc).map (fun d => d.parameters.length) = some 0) (hrc : rm.cells = mc) (hrs : rm.slots = ms) (hR : rm.frames + 1 ≤ R.frames ∧ 8 + (1 + 11) + rm.locals ≤ R.locals)
    (hW : rest.length ≤ 2) (hcells : cells + 1 + mc ≤ R.cells) (hslots : slots + pm_nf ci + ms ≤ R.slots) (hd1 : decode cc pc = .ok (.new ix1, 3)) (hd2 : decode cc (pc + 3) = .ok (.dup, 1)) (hd3 : decode cc (pc + 3 + 1) = .ok (.invokespecial ix2, 3))
    (kk : ∀ (u : Nat → Nat) (H1 : Heap) (locs1 : List Loc), va_P D vwCl (w ++ pm_ws u cA S N G) H1 → va_D A (w ++ pm_ws u cA S N G) → va_S A H0 H1 locs1 → W p l e R s m args below meth c H1 locs1 (cells + 1 + mc) (slots + pm_nf ci + ms) Q (F0 m (pc + 3 + 1 + 3) ls (.ref (u 0) :: rest))) : W p l e R s m args below meth c H locs cells slots Q (F0 m pc ls rest) := by
  have hg : GoodIn pm_gw (Cond.code y cy 1 none :: pm_gw) := fun v hv => by
    rcases List.mem_cons.mp hv with rfl | hv
    · exact pm_gw_good _ hcode
    · exact pm_gw_good v hv
  refine cs_new (own := own) (ci := ci) (ix1 := ix1) hx hb hts hown hK hP hD hS hA hci hcl hinst hini (by omega) (by omega) hd1 hd2 (fun q H1 locs1 hP1 hD1 => ?_) kk
  refine va_runI (As := []) (rest := .ref q :: rest) (n := 0) ⟨hx, hb, hml, hown, hts⟩ (hM q H1.size) ⟨callB_of 0 hts hg rfl hrc hrs (by rw [hy]; exact hts _ hini) (hts _ hyl) hyd hR, hyn, hts _ hyi⟩ ⟨cs_blind, fun U hU hWm => ⟨rfl, by rw [hU], by rw [hU]; exact hP1, va_K.moved hWm.alike hK, hD1, pm_nw_warm hWm hnw⟩⟩ rfl rfl hls rfl (lv_room ?_) hd3 ⟨hcells, hslots⟩
  have gen : ∀ st : List Value, (st.map fun v => v.category).sum ≤ 2 * st.length := fun st => by
    induction st with
    | nil => exact Nat.le_refl _
    | cons a t ih =>
      rw [List.map_cons, List.sum_cons, List.length_cons]
      have : a.category ≤ 2 := by rcases lv_cat a with h | h <;> omega
      omega
  have := gen (Value.ref q :: rest)
  rw [List.length_cons] at this
  omega
end CSO
