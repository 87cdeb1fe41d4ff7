/-! contracts out of runs of the pure machine -/
def pm_wk (k : Nat) : List Cond := .code (pm_yy k) (pm_cc k) (pm_nl k) (pm_rr k) :: pm_gw
def pm_room (k : Nat) : Room := ({ frames := pm_fr k, cells := 0, slots := 0, locals := pm_lo k })
def pm_Pre (A : Nat → Nat) (cA : Nat → ClassId) (D : va_G) (S : PS) (N : Nat) (G : PW) (sz : Nat) (U : State) : Prop := U.heap.size = sz ∧ va_P D vwCl (pm_ws A cA S N G) U.heap ∧ va_K D vwCl (pm_tys cA) U ∧ va_D (fun _ => True) (pm_ws A cA S N G) ∧ ∀ w ∈ pm_nw, va_Nw w U
def pm_B (A : Nat → Nat) (cA : Nat → ClassId) (D : va_G) (S : PS) (N : Nat) (G : PW) (_ : Unit) (t : State) : Prop := va_P D vwCl (pm_ws A cA S N G) t.heap
def pm_Q (A : Nat → Nat) (cA : Nat → ClassId) (D : va_G) (S : PS) (N : Nat) (G : PW) (A1 : Nat → Prop) (r : Option PV) : Array Value → State → Outcome → State → Prop := match r with
  | none => va_Qv (fun _ : Unit => True) (pm_B A cA D S N G) A1
  | some (.inl x) => va_Qi (fun (v : Int32) (_ : Unit) => v = Int32.ofInt x) (pm_B A cA D S N G) A1
  | some _ => fun _ _ _ _ => False
def pm_Met (l : Launch) (A : Nat → Nat) (cA : Nat → ClassId) (D : va_G) (S : PS) (N k : Nat) (as : List PV) (G : PW) (r : Option PV) (G' : PW) : Prop :=
  ∀ sz : Nat, Met l (pm_yy k) (pm_wk k) (pm_room k) (va_Pc (as.map (pm_tr A)) (pm_Pre A cA D S N G sz)) (pm_Q A cA D S N G' (va_A (pm_ws A cA S N G) sz) r) 0 0 (va_A (pm_ws A cA S N G) sz)
theorem pm_k_ok {k : Nat} (h : k < 88) : Cond.code (pm_yy k) (pm_cc k) (pm_nl k) (pm_rr k) ∈ pm_gw ∧ Cond.initialized (pm_rc (pm_ow k)) ∈ pm_gw ∧ (pm_yy k).cls = pm_rc (pm_ow k) ∧ Jvm.plainName (pm_yy k).cls = true ∧ ((pm_yy k).cls ≠ "java/lang/invoke/MethodHandle" ∧ (pm_yy k).cls ≠ "java/lang/invoke/VarHandle" ∧ (parseMethodDescriptor (pm_yy k).desc).map (fun d => d.parameters.length) = some (pm_na k)) ∧ pm_ow k < 7 := by
  have h1 := pm_kOK_all k h
  unfold pm_kOK at h1
  simp only [Bool.and_eq_true, decide_eq_true_eq] at h1
  obtain ⟨a1, a2, a3, a4, a5, a6, a7, a8⟩ := h1
  exact ⟨pm_has_mem a1, pm_has_mem a2, a3, a4, ⟨a5, a6, a7⟩, Nat.le_of_ble_eq_true a8⟩
theorem pm_wk_good {k : Nat} (h : k < 88) : GoodIn pm_gw (pm_wk k) := fun w hw => by
  rcases List.mem_cons.mp hw with rfl | hw
  · exact pm_gw_good _ (pm_k_ok h).1
  · exact pm_gw_good w hw
theorem pm_nw_form {w : Cond} (h : w ∈ pm_nw) : ∃ a i x y, w = .methodLinkNest a i x y := by
  have h1 := (List.mem_filter.mp h).2
  unfold pm_isNest at h1
  split at h1
  · exact ⟨_, _, _, _, rfl⟩
  · cases h1
theorem pm_nw_warm {s U : State} (hW : s.WarmedH U.vm) (h : ∀ w ∈ pm_nw, va_Nw w s) : ∀ w ∈ pm_nw, va_Nw w U := fun w hw => by
  obtain ⟨a, i, x, y, rfl⟩ := pm_nw_form hw
  exact va_Nw.warmM hW (h _ hw)
theorem pm_nw_same {s U : State} (e : s.vm = U.vm) (h : ∀ w ∈ pm_nw, va_Nw w s) : ∀ w ∈ pm_nw, va_Nw w U := fun w hw => by
  obtain ⟨a, i, x, y, rfl⟩ := pm_nw_form hw
  exact va_Nw.same rfl e (h _ hw)
theorem pm_blind {A : Nat → Nat} {cA : Nat → ClassId} {D : va_G} {S : PS} {N : Nat} {G : PW} {sz : Nat} {av : List Value} : FrameBlind (va_Pc av (pm_Pre A cA D S N G sz)) := by
  intro a U g mk ⟨h0, h1, h2, h3, h4, h5⟩
  exact ⟨h0, h1, h2, va_K.moved (u := U) (U := U.calling g mk a) (Vm.Alike.refl U.vm) h3, h4, pm_nw_same (s := U) (U := U.calling g mk a) rfl h5⟩
theorem pm_sw : ∀ (t : List PV) (A : Nat → Nat), ((t.map (pm_tr A)).map fun v => v.category).sum ≤ 2 * t.length := by
  intro t A
  induction t with
  | nil => exact Nat.le_refl _
  | cons a t ih =>
    rw [List.map_cons, List.map_cons, List.sum_cons, List.length_cons]
    have : (pm_tr A a).category ≤ 2 := by rcases lv_cat (pm_tr A a) with h | h <;> omega
    omega
section PMM
variable {p : Program} {l : Launch} {e : Env} {R : Room} {ce sl : Nat} {s : State} {m : MethodId} {args : Array Value} {below : List Frame} {meth : Method} {c : Code} {A0 : Nat → Prop} {A : Nat → Nat} {cA : Nat → ClassId} {D : va_G} {S : PS} {N k : Nat}
/-- the room of a method's run -/
def pm_RM (R : Room) (k ce sl : Nat) : Prop := (pm_fr k ≤ R.frames ∧ pm_lo k ≤ R.locals) ∧ ce ≤ R.cells ∧ sl ≤ R.slots
theorem pm_RM_k (k : Nat) : pm_RM (pm_room k) k 0 0 := ⟨⟨Nat.le_refl _, Nat.le_refl _⟩, Nat.le_refl _, Nat.le_refl _⟩
def pm_CX (p : Program) (s : State) (m : MethodId) (args : Array Value) (meth : Method) (c : Code) (A0 : Nat → Prop) (A : Nat → Nat) (cA : Nat → ClassId) (D : va_G) (S : PS) (N k : Nat) : Prop :=
  p.tables.exec = Jvm.exec ∧ c.code = pm_cc k ∧ c.maxLocals = pm_nl k ∧ meth.sig.returnType = pm_rr k ∧ meth.locks = false ∧ (∀ w ∈ pm_gw, w.before args s = true) ∧ (∀ w ∈ pm_nw, va_Nw w s) ∧ s.vm.findClass (pm_rc (pm_ow k)) = some m.cls ∧ va_K D vwCl (pm_tys cA) s ∧ (∀ G, va_D A0 (pm_ws A cA S N G)) ∧ (∀ q : Nat, s.heap.size ≤ q → A0 q)
/-- the shape: its places are below N, its arrays of the three kinds -/
def pm_SH (S : PS) (N : Nat) : Prop := (∀ r, (S r).isSome = true → r < N) ∧ ∀ r ty n, S r = some (.inl (ty, n)) → ty < 2
/-- a call, by its contract -/
theorem pm_call {pc' : Nat} {P : PL} {as t : List PV} {G G' : PW} {r : Option PV} {Q : State → Prop} {H : Heap} {locs : List Loc} {ls : Array Slot} {pc : Nat} {st : List PV}
    (hrun : ∀ (As : List Value), As = as.map (pm_tr A) → va_Run p l e R s m args below meth c H locs ce sl 0 0 (F0 m pc ls (st.map (pm_tr A))) (t.map (pm_tr A)) (pm_Q A cA D S N G' (va_A (pm_ws A cA S N G) H.size) r As.toArray) (va_A (pm_ws A cA S N G) H.size))
    (hpc : pc' = pc + 3) (X : pm_CX p s m args meth c A0 A cA D S N k) (h2 : va_P D vwCl (pm_ws A cA S N G) H) (h3 : va_S A0 s.heap H locs) (h1 : lv_has ls (pm_nl k) (pm_asc A 0 P))
    (nx : pm_At p l e R s m args below meth c ce sl Q A0 s.heap A cA D S N k pc' P (r.toList ++ t) G') : W p l e R s m args below meth c H locs ce sl Q (F0 m pc ls (st.map (pm_tr A))) := by
  subst hpc
  obtain ⟨-, -, -, -, -, -, -, -, -, hD, hA⟩ := X
  have hfree : ∀ q, va_A (pm_ws A cA S N G) H.size q → A0 q := fun q h => by
    rcases pm_ws_va h with ⟨r, hr, rfl⟩ | h
    · exact pm_ws_A (hD G) r hr
    · exact hA q (Nat.le_trans h3.1 h)
  have hr := hrun _ rfl
  rcases r with _ | x | x
  · exact va_callv (a := (as.map (pm_tr A)).toArray) hr h3 (fun q _ h => hfree q h) hfree (fun u t0 H1 locs1 ht hvm hw hB hz1 hk1 hS => nx H1 locs1 ls h1 (by have hB : va_P D vwCl (pm_ws A cA S N G') t0.heap := hB; rw [ht] at hB; exact hB) hS)
  · exact va_calli (a := (as.map (pm_tr A)).toArray) hr h3 (fun q _ h => hfree q h) hfree (fun v u t0 H1 locs1 ht hvm hw hB hz1 hk1 hS => by
      have hB : va_P D vwCl (pm_ws A cA S N G') t0.heap := hB
      rw [ht] at hB
      have hw : v = Int32.ofInt x := hw
      subst hw
      exact nx H1 locs1 ls h1 hB hS)
  · intro T hT XX
    obtain ⟨v, st0, t0, T', L, -, -, -, -, -, hq, -⟩ := hr T hT XX
    exact absurd hq (by intro h; exact h)
theorem pm_S (X : pm_CX p s m args meth c A0 A cA D S N k) : CallFix p m c (pm_cc k) (pm_nl k) s args pm_gw (pm_rc (pm_ow k)) := ⟨X.1, X.2.1, X.2.2.1, X.2.2.2.2.2.2.2.1, X.2.2.2.2.2.1⟩
theorem pm_pre {G : PW} {H : Heap} (X : pm_CX p s m args meth c A0 A cA D S N k) (h2 : va_P D vwCl (pm_ws A cA S N G) H) {av : List Value} : ∀ U : State, U.heap = H → s.WarmedH U.vm → va_Pc av (pm_Pre A cA D S N G H.size) av.toArray U := by
  obtain ⟨-, -, -, -, -, -, hnw, -, hK, hD, -⟩ := X
  intro U hU hW
  exact ⟨rfl, by rw [hU], by rw [hU]; exact h2, va_K.moved hW.alike hK, (hD G).weaken (fun _ _ _ _ => trivial), pm_nw_warm hW hnw⟩
theorem pm_rm_le {k k' : Nat} (h : pm_rm k k' = true) (hR : pm_RM R k ce sl) : (pm_room k').frames + 1 ≤ R.frames ∧ 8 + (pm_nl k' + 11) + (pm_room k').locals ≤ R.locals := by
  obtain ⟨h1, h2⟩ := pm_and2 h
  obtain ⟨⟨g1, g2⟩, -⟩ := hR
  have e1 : pm_fr k' + 1 ≤ pm_fr k := Nat.le_of_ble_eq_true h1
  have e2 : 19 + pm_nl k' + pm_lo k' ≤ pm_lo k := Nat.le_of_ble_eq_true h2
  refine ⟨Nat.le_trans e1 g1, ?_⟩
  show 8 + (pm_nl k' + 11) + pm_lo k' ≤ R.locals
  omega
/-- a virtual call -/
theorem pm_callV {k' pc ix p1 p2 p3 r0 : Nat} {P : PL} {as t st : List PV} {G G' : PW} {r : Option PV} {Q : State → Prop} (hR : pm_RM R k ce sl) (X : pm_CX p s m args meth c A0 A cA D S N k) (hSH : pm_SH S N) (hM : pm_Met l A cA D S N k' (.inr (.inr r0) :: as) G r G') (hf : pm_ml (pm_ow k) ix = some (k', 0, p1, p2, p3)) (hrm : pm_rm k k' = true) (hpop : pm_pop (pm_na k' + 1) st [] = some (.inr (.inr r0) :: as, t)) (hc : pm_cls S r0 = some (pm_ow k')) (ht : t.length ≤ 4) (hd : decode (pm_cc k) pc = .ok (.invokevirtual ix, 3))
    (nx : pm_At p l e R s m args below meth c ce sl Q A0 s.heap A cA D S N k (pc + 3) P (r.toList ++ t) G') : pm_At p l e R s m args below meth c ce sl Q A0 s.heap A cA D S N k pc P st G := by
  intro H locs ls h1 h2 h3
  obtain ⟨g1, g2⟩ := pm_ml_lt hf
  have hok := pm_mOK_all (pm_ow k) ix g1 g2
  unfold pm_mOK at hok
  rw [hf] at hok
  simp only [Bool.and_eq_true] at hok
  obtain ⟨w1, w2, w3, w4, w5⟩ := hok
  have hk' : k' < 88 := Nat.le_of_ble_eq_true w4
  obtain ⟨a1, a2, a3, a4, a5, a6⟩ := pm_k_ok hk'
  have hts := X.2.2.2.2.2.1
  have hK := X.2.2.2.2.2.2.2.2.1
  obtain ⟨e1, e2⟩ := pm_pop_eq _ _ _ _ _ hpop
  obtain ⟨fs, hfs⟩ := pm_cls_some hc
  have hrN : r0 < N := hSH.1 r0 (by rw [hfs]; rfl)
  have hcl := pm_cl_at (pm_ow k') (Nat.le_of_ble_eq_true w5)
  refine pm_call (as := .inr (.inr r0) :: as) (t := t) (G := G) (G' := G') (r := r) (P := P) (fun As hAs => ?_) rfl X h2 h3 h1 nx
  subst hAs
  refine va_runV (As := as.map (pm_tr A)) (rest := t.map (pm_tr A)) (n := pm_na k') (pm_S X) (hM H.size) ⟨callB_of (pm_na k') hts (pm_wk_good hk') rfl rfl rfl (by rw [a3]; exact hts _ a2) (hts _ (pm_has_mem w1)) a5 (pm_rm_le hrm hR), hts _ (pm_has_mem w2), hts _ (pm_has_mem w3)⟩ ⟨pm_blind, va_recv (q0 := r0) hK h2 hcl (by rw [pm_ws_at hrN, pm_cell_o hfs]), pm_pre X h2⟩ rfl ?_ h1.1 ?_ (lv_room ?_) hd hR.2
  · rw [List.length_map]
    rw [List.length_cons] at e2
    simp at e2
    exact e2
  · show st.map (pm_tr A) = (as.map (pm_tr A)).reverse ++ Value.ref (A r0) :: t.map (pm_tr A)
    have e3 : st = as.reverse ++ .inr (.inr r0) :: t := by
      rw [List.reverse_cons, List.append_assoc] at e1
      exact e1.symm
    rw [e3, List.map_append, List.map_reverse]
    rfl
  · have := pm_sw t A
    omega
/-- a static call, of a method that may be called plainly, or as a nest mate -/
theorem pm_callS {k' kd pc ix p1 p2 p3 : Nat} {P : PL} {as t st : List PV} {G G' : PW} {r : Option PV} {Q : State → Prop} (hR : pm_RM R k ce sl) (X : pm_CX p s m args meth c A0 A cA D S N k) (hM : pm_Met l A cA D S N k' as G r G') (hkd : kd = 1 ∨ kd = 2) (hf : pm_ml (pm_ow k) ix = some (k', kd, p1, p2, p3)) (hrm : pm_rm k k' = true) (hpop : pm_pop (pm_na k') st [] = some (as, t)) (ht : t.length ≤ 4) (hd : decode (pm_cc k) pc = .ok (.invokestatic ix, 3))
    (nx : pm_At p l e R s m args below meth c ce sl Q A0 s.heap A cA D S N k (pc + 3) P (r.toList ++ t) G') : pm_At p l e R s m args below meth c ce sl Q A0 s.heap A cA D S N k pc P st G := by
  intro H locs ls h1 h2 h3
  obtain ⟨g1, g2⟩ := pm_ml_lt hf
  have hok := pm_mOK_all (pm_ow k) ix g1 g2
  unfold pm_mOK at hok
  have hts := X.2.2.2.2.2.1
  have hnw := X.2.2.2.2.2.2.1
  obtain ⟨e1, e2⟩ := pm_pop_eq _ _ _ _ _ hpop
  have hlen : (as.map (pm_tr A)).length = pm_na k' := by
    rw [List.length_map, e2]
    exact Nat.zero_add _
  have hst : st.map (pm_tr A) = (as.map (pm_tr A)).reverse ++ t.map (pm_tr A) := by
    have e3 : st = as.reverse ++ t := e1.symm
    rw [e3, List.map_append, List.map_reverse]
  have hroom : ((t.map (pm_tr A)).map fun v => v.category).sum ≤ 8 := by
    have := pm_sw t A
    omega
  refine pm_call (as := as) (t := t) (G := G) (G' := G') (r := r) (P := P) (fun As hAs => ?_) rfl X h2 h3 h1 nx
  subst hAs
  rcases hkd with rfl | rfl
  · rw [hf] at hok
    simp only [Bool.and_eq_true] at hok
    obtain ⟨w1, w2, w4⟩ := hok
    have hk' : k' < 88 := Nat.le_of_ble_eq_true w4
    obtain ⟨a1, a2, a3, a4, a5, a6⟩ := pm_k_ok hk'
    exact va_runS (As := as.map (pm_tr A)) (rest := t.map (pm_tr A)) (n := pm_na k') (pm_S X) (hM H.size) ⟨callB_of (pm_na k') hts (pm_wk_good hk') rfl rfl rfl (by rw [a3]; exact hts _ a2) (hts _ (pm_has_mem w1)) a5 (pm_rm_le hrm hR), hts _ (pm_has_mem w2)⟩ ⟨pm_blind, pm_pre X h2⟩ rfl hlen h1.1 hst (lv_room hroom) hd hR.2
  · rw [hf] at hok
    simp only [Bool.and_eq_true] at hok
    obtain ⟨w1, w2, w4⟩ := hok
    have hk' : k' < 88 := Nat.le_of_ble_eq_true w4
    obtain ⟨a1, a2, a3, a4, a5, a6⟩ := pm_k_ok hk'
    exact va_runSN (As := as.map (pm_tr A)) (rest := t.map (pm_tr A)) (n := pm_na k') (pm_S X) (hM H.size) ⟨va_cnB (pm_na k') hts (pm_wk_good hk') rfl rfl rfl (hnw _ (pm_hasN_mem w1 rfl)) (by rw [a3]; exact hts _ a2) a5 (pm_rm_le hrm hR), hts _ (pm_has_mem w2), trivial⟩ ⟨pm_blind, pm_pre X h2⟩ rfl hlen h1.1 hst (lv_room hroom) hd hR.2
end PMM

theorem pm_ent_ok : ∀ (as : List PV), pm_sok as → ∀ j v, pm_lk (pm_ent as) j = some v → pm_vok v := by
  intro as
  induction as with
  | nil => intro _ j v h; cases h
  | cons a t ih =>
    intro h j v hv
    rcases a with x | x | x
    · cases j with
      | zero => cases hv; exact pm_sok_h h
      | succ j => exact ih (pm_sok_t h) j v hv
    · cases j with
      | zero => cases hv; exact pm_sok_h h
      | succ j =>
        cases j with
        | zero => cases hv
        | succ j => exact ih (pm_sok_t h) j v hv
    · cases j with
      | zero => cases hv; exact pm_sok_h h
      | succ j => exact ih (pm_sok_t h) j v hv
theorem pm_inv_ex (S : PS) : ∀ (n k pc : Nat) (P : PL) (st : List PV) (G : PW) (r : Option PV) (G' : PW), pm_ex S n k pc P st G = some (r, G') → pm_sok st → pm_pok P → pm_wok G → pm_wok G' ∧ ∀ w, r = some w → pm_vok w := by
  intro n
  induction n with
  | zero => intro k pc P st G r G' h; cases h
  | succ n ih =>
    intro k pc P st G r G' h h1 h2 h3
    simp only [pm_ex] at h
    cases hi : pm_ins k pc with
    | none => rw [hi] at h; cases h
    | some q =>
      obtain ⟨i, len⟩ := q
      rw [hi] at h
      dsimp only at h
      cases ha : pm_stp S k pc i len P st G with
      | none => rw [ha] at h; cases h
      | some a =>
        have hok := pm_pres ha h1 h2 h3
        rw [ha] at h
        rcases a with ⟨pc', P', st', G1⟩ | ⟨k', as, pc', P', st'⟩ | v
        · exact ih _ _ _ _ _ _ _ h hok.1 hok.2.1 hok.2.2
        · dsimp only at h
          cases hc : pm_ex S n k' 0 (pm_en (pm_nl k') as) [] G with
          | none => rw [hc] at h; cases h
          | some rw' =>
            obtain ⟨r1, G1⟩ := rw'
            rw [hc] at h
            have hp : pm_pok (pm_en (pm_nl k') as) := fun j v hv => by
              have hv := pm_lk_en hv
              exact pm_ent_ok as hok.1 j v hv
            obtain ⟨w1, w2⟩ := ih _ _ _ _ _ _ _ hc (fun _ h => by cases h) hp h3
            refine ih _ _ _ _ _ _ _ h ?_ hok.2.2 w1
            intro v hv
            rcases List.mem_append.mp hv with hv | hv
            · cases r1 with
              | none => cases hv
              | some r1 =>
                rcases List.mem_singleton.mp hv with rfl
                exact w2 _ rfl
            · exact hok.2.1 v hv
        · cases h
          exact ⟨h3, hok⟩
section PMN
variable {p : Program} {l : Launch} {e : Env} {R : Room} {ce sl : Nat} {s : State} {m : MethodId} {args : Array Value} {below : List Frame} {meth : Method} {c : Code} {A0 : Nat → Prop} {A : Nat → Nat} {cA : Nat → ClassId} {D : va_G} {S : PS} {N k : Nat}
/-- a method's end -/
theorem pm_endW {pc len : Nat} {i : Instr} {P : PL} {st : List PV} {G G0 : PW} {v : Option PV} {sz : Nat} (hA0 : A0 = va_A (pm_ws A cA S N G0) sz) (X : pm_CX p s m args meth c A0 A cA D S N k) (hd : decode (pm_cc k) pc = .ok (i, len)) (ha : pm_stp S k pc i len P st G = some (.inr (.inr v))) : pm_At p l e (pm_room k) s m args below meth c 0 0 (MQ below (pm_Q A cA D S N G (va_A (pm_ws A cA S N G0) sz) v) args s 0 0 (va_A (pm_ws A cA S N G0) sz)) A0 s.heap A cA D S N k pc P st G := by
  subst hA0
  obtain ⟨hx, hb, hml, hr, hlocks, hts, hnw, hown, hK, hD, hA⟩ := X
  intro H locs ls h1 h2 h3
  have hBB : ∀ t : State, t.heap = H → pm_B A cA D S N G () t := fun t ht => by
    show va_P D vwCl (pm_ws A cA S N G) t.heap
    rw [ht]
    exact h2
  have hF : ∀ t : State, t.heap = H → va_F (va_A (pm_ws A cA S N G0) sz) s t := fun t ht => h3.F ht
  rcases pm_ends ha (fun q h => by cases h) with ⟨ix, k', p1, p2, p3, r, as, t, -, -, -, -, -, -, -, -, q⟩ | ⟨ix, k', kd, p1, p2, p3, as, t, -, -, -, -, -, -, -, -, q⟩ | ⟨rfl, rfl, q0, rfl, q⟩ | ⟨x, ty, rfl, rfl, q0, rfl, q1, q⟩
  · cases q
  · cases q
  · cases q
    exact W.vret hx hb (by rw [hr]; unfold pm_rr; rw [q0]; rfl) (fun t ht hW => ⟨⟨(), rfl, trivial, hBB t ht⟩, hF t ht⟩) h3.2.2 hd
  · cases q
    rcases q0 with ⟨q0, rfl⟩ | ⟨q0, rfl⟩ | ⟨q0, rfl⟩
    · exact W.iret hx hb (by rw [hr]; unfold pm_rr; rw [q0]; rfl) (fun t ht hW => ⟨⟨_, (), rfl, rfl, hBB t ht⟩, hF t ht⟩) h3.2.2 hd
    · exact W.zret (ty := .boolean) hx hb (by rw [hr]; unfold pm_rr; rw [q0]; rfl) (pm_nar2 q1).2.1 (fun t ht hW => ⟨⟨_, (), rfl, rfl, hBB t ht⟩, hF t ht⟩) h3.2.2 hd
    · exact W.zret (ty := .char) hx hb (by rw [hr]; unfold pm_rr; rw [q0]; rfl) (pm_narC q1) (fun t ht hW => ⟨⟨_, (), rfl, rfl, hBB t ht⟩, hF t ht⟩) h3.2.2 hd
/-- a call -/
theorem pm_callW {pc len k' pc' : Nat} {i : Instr} {P P' : PL} {st as st' : List PV} {G G1 : PW} {r1 : Option PV} {Q : State → Prop} (hSH : pm_SH S N) (hR : pm_RM R k ce sl) (X : pm_CX p s m args meth c A0 A cA D S N k) (hd : decode (pm_cc k) pc = .ok (i, len)) (ha : pm_stp S k pc i len P st G = some (.inr (.inl (k', as, pc', P', st')))) (hM : k' < 88 → (pm_ent as).length ≤ pm_nl k' → pm_Met l A cA D S N k' as G r1 G1)
    (nx : pm_At p l e R s m args below meth c ce sl Q A0 s.heap A cA D S N k pc' P' (r1.toList ++ st') G1) : pm_At p l e R s m args below meth c ce sl Q A0 s.heap A cA D S N k pc P st G := by
  have hk' : ∀ (ix kd p1 p2 p3 : Nat), pm_ml (pm_ow k) ix = some (k', kd, p1, p2, p3) → kd = 0 ∨ kd = 1 ∨ kd = 2 → k' < 88 := fun ix kd p1 p2 p3 hf hkd => by
    obtain ⟨g1, g2⟩ := pm_ml_lt hf
    have hok := pm_mOK_all (pm_ow k) ix g1 g2
    unfold pm_mOK at hok
    rw [hf] at hok
    rcases hkd with rfl | rfl | rfl
    · simp only [Bool.and_eq_true] at hok
      exact Nat.le_of_ble_eq_true hok.2.2.2.1
    · simp only [Bool.and_eq_true] at hok
      exact Nat.le_of_ble_eq_true hok.2.2
    · simp only [Bool.and_eq_true] at hok
      exact Nat.le_of_ble_eq_true hok.2.2
  rcases pm_ends ha (fun q h => by cases h) with ⟨ix, k2, p1, p2, p3, r, as2, t, rfl, rfl, hf, hrm, hpop, hc, ht, hl, q⟩ | ⟨ix, k2, kd, p1, p2, p3, as2, t, rfl, rfl, hkd, hf, hrm, hpop, ht, hl, q⟩ | ⟨-, -, -, -, q⟩ | ⟨x, ty, -, -, -, -, -, q⟩
  · cases q
    exact pm_callV hR X hSH (hM (hk' _ _ _ _ _ hf (Or.inl rfl)) (by show (pm_ent as2).length + 1 ≤ _; exact hl)) hf hrm hpop hc ht hd nx
  · cases q
    exact pm_callS hR X (hM (hk' _ _ _ _ _ hf (Or.inr hkd)) hl) hkd hf hrm hpop ht hd nx
  · cases q
  · cases q
end PMN
theorem pm_met_of {l : Launch} {A : Nat → Nat} {cA : Nat → ClassId} {D : va_G} {S : PS} {N k : Nat} {as : List PV} {G G' : PW} {r : Option PV} (hk : k < 88) (hl : (pm_ent as).length ≤ pm_nl k)
    (body : ∀ (p : Program) (e : Env) (s : State) (m : MethodId) (args : Array Value) (below : List Frame) (meth : Method) (c : Code) (A0 : Nat → Prop) (sz : Nat), A0 = va_A (pm_ws A cA S N G) sz → pm_CX p s m args meth c A0 A cA D S N k → pm_At p l e (pm_room k) s m args below meth c 0 0 (MQ below (pm_Q A cA D S N G' (va_A (pm_ws A cA S N G) sz) r) args s 0 0 (va_A (pm_ws A cA S N G) sz)) A0 s.heap A cA D S N k 0 (pm_en (pm_nl k) as) [] G) : pm_Met l A cA D S N k as G r G' := by
  intro sz
  obtain ⟨a1, a2, a3, a4, a5, a6⟩ := pm_k_ok hk
  refine Met.ofW (cc := pm_cc k) (maxL := pm_nl k) (ret := pm_rr k) a4 rfl ?_
  intro p e s m args below meth c s₁ B hml hv
  obtain ⟨rfl, hsz, hP, hK, hD0, hnw⟩ := hv
  have hts := atoms_spec (ws := pm_wk k) B.pre
  have hown : s.vm.findClass (pm_rc (pm_ow k)) = some m.cls := by rw [← a3]; exact findClass_of_methodNamed B.named
  subst hsz
  have X : pm_CX p s m (as.map (pm_tr A)).toArray meth c (va_A (pm_ws A cA S N G) s.heap.size) A cA D S N k := ⟨B.exec, B.bytes, hml, B.returns, B.notSynchronized, fun w hw => hts w (List.mem_cons_of_mem _ hw), hnw, hown, hK, fun G2 => pm_ws_D hD0 (fun r hr => pm_va_ws hr), fun q h => Or.inr h⟩
  have hW := body p e s m (as.map (pm_tr A)).toArray below meth c _ s.heap.size rfl X
  rw [lg_entry_eq]
  have hl2 : (lg_sl (as.map (pm_tr A))).length ≤ pm_nl k := by rw [pm_ent_len]; exact hl
  have hle := lv_entry (as.map (pm_tr A)) hl2
  refine hW s.heap [] _ ⟨hle.1, hle.2.1, fun q hq => ?_⟩ hP va_S.rf
  obtain ⟨j, v, h1, rfl⟩ := (pm_asc_mem _ 0 q).mp hq
  exact hle.2.2 _ (pm_ent_args as 0 j v (pm_lk_en h1))
theorem pm_walkG {S : PS} {N : Nat} (hSH : pm_SH S N) (l : Launch) (A : Nat → Nat) (cA : Nat → ClassId) (D : va_G) : ∀ (n : Nat) (p : Program) (e : Env) (R : Room) (s : State) (m : MethodId) (args : Array Value) (below : List Frame) (meth : Method) (c : Code) (ce sl : Nat) (Q : State → Prop) (A0 : Nat → Prop) (k : Nat) (r : Option PV) (G' : PW), pm_RM R k ce sl → pm_CX p s m args meth c A0 A cA D S N k →
    (∀ (pc len : Nat) (i : Instr) (P : PL) (st : List PV), decode (pm_cc k) pc = .ok (i, len) → pm_stp S k pc i len P st G' = some (.inr (.inr r)) → pm_At p l e R s m args below meth c ce sl Q A0 s.heap A cA D S N k pc P st G') →
    ∀ (pc : Nat) (P : PL) (st : List PV) (G : PW), pm_ex S n k pc P st G = some (r, G') → pm_sok st → pm_pok P → pm_wok G →
    pm_At p l e R s m args below meth c ce sl Q A0 s.heap A cA D S N k pc P st G := by
  intro n
  induction n with
  | zero => intro p e R s m args below meth c ce sl Q A0 k r G' _ _ _ pc P st G h; cases h
  | succ n ih =>
    intro p e R s m args below meth c ce sl Q A0 k r G' hR X hend pc P st G h h1 h2 h3
    simp only [pm_ex] at h
    cases hi : pm_ins k pc with
    | none => rw [hi] at h; cases h
    | some q =>
      obtain ⟨i, len⟩ := q
      obtain ⟨hd, hs⟩ := pm_ins_ok hi
      rw [hi] at h
      dsimp only at h
      cases ha : pm_stp S k pc i len P st G with
      | none => rw [ha] at h; cases h
      | some a =>
        have hok := pm_pres ha h1 h2 h3
        rw [ha] at h
        rcases a with ⟨pc', P', st', G1⟩ | ⟨k', as, pc', P', st'⟩ | v
        · have nx := ih p e R s m args below meth c ce sl Q A0 k r G' hR X hend _ _ _ _ h hok.1 hok.2.1 hok.2.2
          exact pm_stepW (a := .inl (pc', P', st', G1)) X.1 X.2.1 X.2.2.2.2.2.1 X.2.2.2.2.2.2.2.1 X.2.2.2.2.2.2.2.2.1 X.2.2.2.2.2.2.2.2.2.1 hSH.1 hSH.2 hs hd ha h1 h2 h3 nx
        · dsimp only at h
          cases hc : pm_ex S n k' 0 (pm_en (pm_nl k') as) [] G with
          | none => rw [hc] at h; cases h
          | some rw' =>
            obtain ⟨r1, G1⟩ := rw'
            rw [hc] at h
            have hp : pm_pok (pm_en (pm_nl k') as) := fun j v hv => pm_ent_ok as hok.1 j v (pm_lk_en hv)
            obtain ⟨w1, w2⟩ := pm_inv_ex S _ _ _ _ _ _ _ _ hc (fun _ h => by cases h) hp h3
            have hst : pm_sok (r1.toList ++ st') := by
              intro v hv
              rcases List.mem_append.mp hv with hv | hv
              · cases r1 with
                | none => cases hv
                | some r1 =>
                  rcases List.mem_singleton.mp hv with rfl
                  exact w2 _ rfl
              · exact hok.2.1 v hv
            have nx := ih p e R s m args below meth c ce sl Q A0 k r G' hR X hend _ _ _ _ h hst hok.2.2 w1
            have hM : k' < 88 → (pm_ent as).length ≤ pm_nl k' → pm_Met l A cA D S N k' as G r1 G1 := fun hk' hl' => pm_met_of hk' hl' (fun p e s m args below meth c A0 sz hA0 X => ih p e (pm_room k') s m args below meth c 0 0 _ A0 k' r1 G1 (pm_RM_k k') X (fun pc len i P st hd ha => pm_endW hA0 X hd ha) 0 _ [] G hc (fun _ h => by cases h) hp h3)
            exact pm_callW hSH hR X hd ha hM nx
        · cases h
          exact hend pc len i P st hd ha
/-- THE CONTRACT of a method, out of a run of the pure machine -/
theorem pm_sound {S : PS} {N : Nat} (hSH : pm_SH S N) (l : Launch) (A : Nat → Nat) (cA : Nat → ClassId) (D : va_G) {k : Nat} {as : List PV} {G G' : PW} {r : Option PV} (hk : k < 88) (hl : (pm_ent as).length ≤ pm_nl k) (h : pm_dn S k 0 (pm_en (pm_nl k) as) [] G = some (r, G')) (h1 : pm_sok as) (h3 : pm_wok G) : pm_Met l A cA D S N k as G r G' ∧ pm_wok G' ∧ ∀ w, r = some w → pm_vok w := by
  obtain ⟨n, hn⟩ := pm_dn_ex h
  have hp : pm_pok (pm_en (pm_nl k) as) := fun j v hv => pm_ent_ok as h1 j v (pm_lk_en hv)
  exact ⟨pm_met_of hk hl (fun p e s m args below meth c A0 sz hA0 X => pm_walkG hSH l A cA D n p e (pm_room k) s m args below meth c 0 0 _ A0 k r G' (pm_RM_k k) X (fun pc len i P st hd ha => pm_endW hA0 X hd ha) 0 _ [] G hn (fun _ h => by cases h) hp h3), pm_inv_ex S _ _ _ _ _ _ _ _ hn (fun _ h => by cases h) hp h3⟩
