/-! the law's methods that make cells, or read the script: their contracts -/
section ENT
variable {p : Program} {l : Launch} {e : Env} {R : Room} {s : State} {m : MethodId} {args : Array Value} {below : List Frame} {meth : Method} {c : Code} {H : Heap} {locs : List Loc} {cells slots : Nat} {Q : State → Prop}
variable {cc : ByteArray} {pc : Nat} {ls : Array Slot} {rest : List Value} {D : va_G} {cA : Nat → ClassId} {A : Nat → Prop} {w : va_W} {H0 : Heap}
/-- a new array of ints, on the stack -/
theorem cs_newl {N' : Nat} {n : Int32} (hx : p.tables.exec = Jvm.exec) (hb : c.code = cc) (hts : ∀ w ∈ pm_gw, w.before args s = true) (hK : va_K D vwCl (pm_tys cA) s) (hP : va_P D vwCl w H) (hD : va_D A w) (hS : va_S A H0 H locs) (hA : ∀ q : Nat, H0.size ≤ q → A q) (hn : ¬ n < 0) (hN : n.toNatClampNeg = N') (hbytes : N' * componentBytes .int ≤ 536870912) (hcells : cells + 1 ≤ R.cells) (hslots : slots + N' ≤ R.slots) (hd1 : decode cc pc = .ok (.newarray .int, 2))
    (kk : ∀ (q : Nat) (H1 : Heap), va_P D vwCl (w ++ [(q, .inl (cA 0, N', .inl (fun _ => Int32.ofInt 0)))]) H1 → va_D A (w ++ [(q, .inl (cA 0, N', .inl (fun _ => Int32.ofInt 0)))]) → va_S A H0 H1 locs → W p l e R s m args below meth c H1 locs (cells + 1) (slots + N') Q (F0 m (pc + 2) ls (.ref q :: rest))) : W p l e R s m args below meth c H locs cells slots Q (F0 m pc ls (.int n :: rest)) := by
  refine va_newa (atype := .int) (ty := .int) (a0 := (N', .inl (fun _ => Int32.ofInt 0))) hx hb (hts _ cs_wI) rfl hK hP hD hS hA (fun _ => rfl) hn hN hbytes hcells hslots hd1 (fun q cq H1 hK1 hP1 hD1 hS1 => ?_)
  have hra : ∀ x, va_RA s x .int → s.vm.findClass ("[" ++ FieldType.int.toString) = some x := fun _ h => h
  have g1 := hra _ (hK.2 0 (cA 0, .int) rfl).2
  have g2 := hra _ (hK1.2 (pm_tys cA).length (cq, .int) (by rw [List.getElem?_append_right (Nat.le_refl _), Nat.sub_self]; rfl)).2
  have e : cq = cA 0 := Option.some.inj (g2.symm.trans g1)
  subst e
  exact kk q H1 hP1 hD1 hS1
end ENT
/-! worlds that agree -/
theorem pm_fs_cg {A A' : Nat → Nat} {W W' : PW} {r : Nat} (hW : W' r = W r) : ∀ (fs : List (Option Nat)) (j : Nat), (∀ q, some q ∈ fs → A' q = A q) → pm_fs A' W' r j fs = pm_fs A W r j fs := by
  intro fs
  induction fs with
  | nil => intro j _; rfl
  | cons a t ih =>
    intro j h
    have i := ih (j + 1) (fun q hq => h q (List.mem_cons_of_mem _ hq))
    cases a with
    | none =>
      show Value.int (Int32.ofInt (W' r j)) :: pm_fs A' W' r (j + 1) t = Value.int (Int32.ofInt (W r j)) :: pm_fs A W r (j + 1) t
      rw [i, hW]
    | some q =>
      show Value.ref (A' q) :: pm_fs A' W' r (j + 1) t = Value.ref (A q) :: pm_fs A W r (j + 1) t
      rw [i, h q List.mem_cons_self]
theorem pm_ws_congr {A A' : Nat → Nat} {cA : Nat → ClassId} {S S' : PS} {N : Nat} {W W' : PW} (hA : ∀ r, r < N → A' r = A r) (hS : ∀ r, r < N → S' r = S r) (hW : ∀ r, r < N → W' r = W r) (hf : ∀ r, r < N → ∀ c fs, S r = some (.inr (c, fs)) → ∀ q, some q ∈ fs → q < N) : pm_ws A' cA S' N W' = pm_ws A cA S N W := by
  unfold pm_ws
  refine List.map_congr_left (fun r hr => ?_)
  have hr := List.mem_range.mp hr
  rw [hA r hr]
  have e : pm_cell A' cA S' W' r = pm_cell A cA S W r := by
    unfold pm_cell
    rw [hS r hr]
    cases h : S r with
    | none => rfl
    | some v =>
      rcases v with ⟨t, n⟩ | ⟨ci, fs⟩
      · dsimp only
        rw [hW r hr]
      · dsimp only
        rw [pm_fs_cg (hW r hr) fs 0 (fun q hq => hA q (hf r hr ci fs h q hq))]
  rw [e]
theorem cl_C : ∀ r, r < 47 → ∀ c fs, pm_sC r = some (.inr (c, fs)) → ∀ q, some q ∈ fs → q < 47 := by
  have h : (List.range 47).all (fun r => match pm_sC r with
    | some (.inr (_, fs)) => fs.all (fun o => match o with
      | some q => Nat.ble (q + 1) 47
      | none => true)
    | _ => true) = true := by decide +kernel
  intro r hr c fs e q hq
  have a := List.all_eq_true.mp h r (List.mem_range.mpr hr)
  rw [e] at a
  have b := List.all_eq_true.mp a (some q) hq
  exact Nat.le_of_ble_eq_true b
theorem sF_lo : ∀ r, r < 47 → pm_sF r = pm_sC r := by
  intro r hr
  match r, hr with
  | 0, _ => rfl
  | 1, _ => rfl
  | 2, _ => rfl
  | 3, _ => rfl
  | 4, _ => rfl
  | 5, _ => rfl
  | 6, _ => rfl
  | 7, _ => rfl
  | 8, _ => rfl
  | 9, _ => rfl
  | 10, _ => rfl
  | 11, _ => rfl
  | 12, _ => rfl
  | 13, _ => rfl
  | 14, _ => rfl
  | 15, _ => rfl
  | 16, _ => rfl
  | 17, _ => rfl
  | 18, _ => rfl
  | 19, _ => rfl
  | 20, _ => rfl
  | 21, _ => rfl
  | 22, _ => rfl
  | 23, _ => rfl
  | 24, _ => rfl
  | 25, _ => rfl
  | 26, _ => rfl
  | 27, _ => rfl
  | 28, _ => rfl
  | 29, _ => rfl
  | 30, _ => rfl
  | 31, _ => rfl
  | 32, _ => rfl
  | 33, _ => rfl
  | 34, _ => rfl
  | 35, _ => rfl
  | 36, _ => rfl
  | 37, _ => rfl
  | 38, _ => rfl
  | 39, _ => rfl
  | 40, _ => rfl
  | 41, _ => rfl
  | 42, _ => rfl
  | 43, _ => rfl
  | 44, _ => rfl
  | 45, _ => rfl
  | 46, _ => rfl
  | r + 47, h => exact absurd h (by omega)
theorem sP_lo : ∀ r, r < 47 → pm_sP r = pm_sC r := by
  intro r hr
  match r, hr with
  | 0, _ => rfl
  | 1, _ => rfl
  | 2, _ => rfl
  | 3, _ => rfl
  | 4, _ => rfl
  | 5, _ => rfl
  | 6, _ => rfl
  | 7, _ => rfl
  | 8, _ => rfl
  | 9, _ => rfl
  | 10, _ => rfl
  | 11, _ => rfl
  | 12, _ => rfl
  | 13, _ => rfl
  | 14, _ => rfl
  | 15, _ => rfl
  | 16, _ => rfl
  | 17, _ => rfl
  | 18, _ => rfl
  | 19, _ => rfl
  | 20, _ => rfl
  | 21, _ => rfl
  | 22, _ => rfl
  | 23, _ => rfl
  | 24, _ => rfl
  | 25, _ => rfl
  | 26, _ => rfl
  | 27, _ => rfl
  | 28, _ => rfl
  | 29, _ => rfl
  | 30, _ => rfl
  | 31, _ => rfl
  | 32, _ => rfl
  | 33, _ => rfl
  | 34, _ => rfl
  | 35, _ => rfl
  | 36, _ => rfl
  | 37, _ => rfl
  | 38, _ => rfl
  | 39, _ => rfl
  | 40, _ => rfl
  | 41, _ => rfl
  | 42, _ => rfl
  | 43, _ => rfl
  | 44, _ => rfl
  | 45, _ => rfl
  | 46, _ => rfl
  | r + 47, h => exact absurd h (by omega)
theorem cs_shF : pm_SH pm_sF 51 := by
  have q : ∀ r, r < 51 → ∀ ty n, pm_sF r = some (.inl (ty, n)) → ty < 2 := by
    have h : ∀ r, r < 51 → (match pm_sF r with | some (.inl (ty, _)) => Nat.ble (ty + 1) 2 | _ => true) = true := by decide +kernel
    intro r hr ty n e
    have := h r hr
    rw [e] at this
    exact Nat.le_of_ble_eq_true this
  have g : ∀ r, (pm_sF r).isSome = true → r < 51 := fun r h => by
    rcases Nat.lt_or_ge r 51 with c | c
    · exact c
    · unfold pm_sF at h
      rw [Nat.ble_eq_true_of_le c] at h
      cases h
  exact ⟨g, fun r ty n e => q r (g r (by rw [e]; rfl)) ty n e⟩
theorem cs_shP : pm_SH pm_sP 48 := by
  have q : ∀ r, r < 48 → ∀ ty n, pm_sP r = some (.inl (ty, n)) → ty < 2 := by
    have h : ∀ r, r < 48 → (match pm_sP r with | some (.inl (ty, _)) => Nat.ble (ty + 1) 2 | _ => true) = true := by decide +kernel
    intro r hr ty n e
    have := h r hr
    rw [e] at this
    exact Nat.le_of_ble_eq_true this
  have g : ∀ r, (pm_sP r).isSome = true → r < 48 := fun r h => by
    rcases Nat.lt_or_ge r 48 with c | c
    · exact c
    · unfold pm_sP at h
      rw [Nat.ble_eq_true_of_le c] at h
      cases h
  exact ⟨g, fun r ty n e => q r (g r (by rw [e]; rfl)) ty n e⟩
theorem ws_F {A A' : Nat → Nat} {cA : Nat → ClassId} {W W' : PW} (hA : ∀ r, r < 47 → A' r = A r) (hW : ∀ r, r < 47 → W' r = W r) : pm_ws A' cA pm_sF 51 W' = pm_ws A cA pm_sC 47 W ++ [(A' 47, .inl (cA 0, 17, .inl (fun j => Int32.ofInt (W' 47 j)))), (A' 48, .inl (cA 0, 17, .inl (fun j => Int32.ofInt (W' 48 j)))), (A' 49, .inl (cA 0, 17, .inl (fun j => Int32.ofInt (W' 49 j)))), (A' 50, .inl (cA 0, 4, .inl (fun j => Int32.ofInt (W' 50 j))))] := by
  rw [← pm_ws_congr (cA := cA) (S := pm_sC) (S' := pm_sF) (N := 47) hA sF_lo hW cl_C]
  have e : List.range 51 = List.range 47 ++ [47, 48, 49, 50] := by decide
  show (List.range 51).map _ = (List.range 47).map _ ++ _
  rw [e, List.map_append]
  rfl
theorem ws_P {A A' : Nat → Nat} {cA : Nat → ClassId} {W W' : PW} (hA : ∀ r, r < 47 → A' r = A r) (hW : ∀ r, r < 47 → W' r = W r) : pm_ws A' cA pm_sP 48 W' = pm_ws A cA pm_sC 47 W ++ [(A' 47, .inl (cA 0, 20, .inl (fun j => Int32.ofInt (W' 47 j))))] := by
  rw [← pm_ws_congr (cA := cA) (S := pm_sC) (S' := pm_sP) (N := 47) hA sP_lo hW cl_C]
  have e : List.range 48 = List.range 47 ++ [47] := by decide
  show (List.range 48).map _ = (List.range 47).map _ ++ _
  rw [e, List.map_append]
  rfl
/-! a method's end, in a room of its own -/
section ENE
variable {p : Program} {l : Launch} {e : Env} {R : Room} {ce sl : Nat} {s : State} {m : MethodId} {args : Array Value} {below : List Frame} {meth : Method} {c : Code} {A0 : Nat → Prop} {A : Nat → Nat} {cA : Nat → ClassId} {D : va_G} {S : PS} {N k : Nat}
theorem pm_endG {pc len : Nat} {i : Instr} {P : PL} {st : List PV} {G : PW} {x : Int} {Qc : Array Value → State → Outcome → State → Prop} (X : pm_CX p s m args meth c A0 A cA D S N k) (hd : decode (pm_cc k) pc = .ok (i, len)) (ha : pm_stp S k pc i len P st G = some (.inr (.inr (some (.inl x)))))
    (hq : ∀ (H : Heap) (locs : List Loc) (t : State), va_P D vwCl (pm_ws A cA S N G) H → va_S A0 s.heap H locs → t.heap = H → Qc args s (.returned (some (.int (Int32.ofInt x)))) t) : pm_At p l e R s m args below meth c ce sl (MQ below Qc args s ce sl A0) A0 s.heap A cA D S N k pc P st G := by
  obtain ⟨hx, hb, hml, hr, hlocks, hts, hnw, hown, hK, hD, hA⟩ := X
  intro H locs ls h1 h2 h3
  rcases pm_ends ha (fun q h => by cases h) with ⟨ix, k', p1, p2, p3, r, as, t, -, -, -, -, -, -, -, -, q⟩ | ⟨ix, k', kd, p1, p2, p3, as, t, -, -, -, -, -, -, -, -, q⟩ | ⟨rfl, rfl, q0, rfl, q⟩ | ⟨x, ty, rfl, rfl, q0, rfl, q1, q⟩
  · cases q
  · cases q
  · cases q
  · cases q
    rcases q0 with ⟨q0, rfl⟩ | ⟨q0, rfl⟩ | ⟨q0, rfl⟩
    · exact W.iret hx hb (by rw [hr]; unfold pm_rr; rw [q0]; rfl) (fun t ht hW => hq H locs t h2 h3 ht) h3.2.2 hd
    · exact W.zret (ty := .boolean) hx hb (by rw [hr]; unfold pm_rr; rw [q0]; rfl) (pm_nar2 q1).2.1 (fun t ht hW => hq H locs t h2 h3 ht) h3.2.2 hd
    · exact W.zret (ty := .char) hx hb (by rw [hr]; unfold pm_rr; rw [q0]; rfl) (pm_narC q1) (fun t ht hW => hq H locs t h2 h3 ht) h3.2.2 hd
end ENE
/-! FITS -/
def adF (A : Nat → Nat) (q1 q2 q3 q4 : Nat) : Nat → Nat := fun r => if r = 47 then q1 else if r = 48 then q2 else if r = 49 then q3 else if r = 50 then q4 else A r
theorem wok_fm {G : PW} (h : pm_wok G) : pm_wok (fmem G (fun _ => 0) (fun _ => 0) (fun _ => 0) (fun _ => 0)) := fun r j => by
  rcases Nat.lt_or_ge r 47 with q | q
  · rw [fm_lo q]; exact h r j
  · rcases (show r = 47 ∨ r = 48 ∨ r = 49 ∨ r = 50 ∨ 50 < r by omega) with rfl | rfl | rfl | rfl | q
    · rfl
    · rfl
    · rfl
    · rfl
    · unfold fmem
      rw [row_ne (by omega), row_ne (by omega), row_ne (by omega), row_ne (by omega)]
      exact h r j
set_option maxHeartbeats 4000000 in
set_option maxRecDepth 100000 in
theorem fits_Met {Y : State → Prop} (l : Launch) (A : Nat → Nat) (cA : Nat → ClassId) (D : va_G) {G : PW} {n x L : Nat} (h : CI G n x L) (hw : pm_wok G) : pl_Met Y l A cA D pm_sC 47 86 [.inr (.inr 0), .inl (n : Int)] G (some (.inl 1)) G 1 := by
  intro sz
  have a4 := (pm_k_ok (k := 86) (by decide)).2.2.2.1
  refine Met.ofW (cc := cL_fits) (maxL := 13) (ret := some .boolean) a4 rfl ?_
  intro p e s m args below meth c s₁ B hml hv
  obtain ⟨rfl, ⟨hsz, hP, hK, hD0, hnw⟩, hy⟩ := hv
  have hts0 := atoms_spec (ws := pm_wk 86) B.pre
  have hts : ∀ w ∈ pm_gw, w.before ([Value.ref (A 0), Value.int (Int32.ofInt (n : Int))] : List Value).toArray s = true := fun w hw => hts0 w (List.mem_cons_of_mem _ hw)
  have hown : s.vm.findClass (pm_rc (pm_ow 86)) = some m.cls := findClass_of_methodNamed B.named
  subst hsz
  have hx := B.exec
  have hb : c.code = cL_fits := B.bytes
  have hD := hD0.self (sz := s.heap.size)
  have hA : ∀ q : Nat, s.heap.size ≤ q → va_A (pm_ws A cA pm_sC 47 G) s.heap.size q := fun q h => Or.inr h
  have hS : va_S (va_A (pm_ws A cA pm_sC 47 G) s.heap.size) s.heap s.heap [] := va_S.rf
  have hl := lv_entry ([.ref (A 0), .int (Int32.ofInt (n : Int))]) (n := 13) (Nat.le_of_ble_eq_true rfl)
  rw [lg_entry_eq]
  show W _ _ _ _ _ _ _ _ _ _ _ _ _ _ _ (F0 m 0 (lg_sl ([.ref (A 0), .int (Int32.ofInt (n : Int))]) ++ List.replicate (13 - (lg_sl ([.ref (A 0), .int (Int32.ofInt (n : Int))])).length) Slot.unset).toArray [])
  generalize (lg_sl ([.ref (A 0), .int (Int32.ofInt (n : Int))]) ++ List.replicate (13 - (lg_sl ([.ref (A 0), .int (Int32.ofInt (n : Int))])).length) Slot.unset).toArray = ls at hl ⊢
  have hl : lv_has ls 13 [(0, .ref (A 0)), (1, .int (Int32.ofInt (n : Int)))] := hl
  refine lv_bipush (v := 17) hx hb dL_fits_0 (by decide) ?_
  refine cs_newl (N' := 17) hx hb hts hK hP hD hS hA (by decide) (by decide) (by decide) (Nat.le_of_ble_eq_true rfl) (Nat.le_of_ble_eq_true rfl) dL_fits_2 (fun q1 H hP hD hS => ?_)
  refine lv_astore_n (lv' := [(2, .ref q1), (0, .ref (A 0)), (1, .int (Int32.ofInt (n : Int)))]) hx hb dL_fits_4 rfl hl (by decide) rfl (fun ls hl => ?_)
  refine lv_bipush (v := 17) hx hb dL_fits_5 (by decide) ?_
  refine cs_newl (N' := 17) hx hb hts hK hP hD hS hA (by decide) (by decide) (by decide) (Nat.le_of_ble_eq_true rfl) (Nat.le_of_ble_eq_true rfl) dL_fits_7 (fun q2 H hP hD hS => ?_)
  refine lv_astore_n (lv' := [(3, .ref q2), (2, .ref q1), (0, .ref (A 0)), (1, .int (Int32.ofInt (n : Int)))]) hx hb dL_fits_9 rfl hl (by decide) rfl (fun ls hl => ?_)
  refine lv_bipush (v := 17) hx hb dL_fits_10 (by decide) ?_
  refine cs_newl (N' := 17) hx hb hts hK hP hD hS hA (by decide) (by decide) (by decide) (Nat.le_of_ble_eq_true rfl) (Nat.le_of_ble_eq_true rfl) dL_fits_12 (fun q3 H hP hD hS => ?_)
  refine lv_astore (lv' := [(4, .ref q3), (3, .ref q2), (2, .ref q1), (0, .ref (A 0)), (1, .int (Int32.ofInt (n : Int)))]) hx hb dL_fits_14 hl (by decide) rfl (fun ls hl => ?_)
  refine lv_iconst (v := 4) hx hb dL_fits_16 (by decide) ?_
  refine cs_newl (N' := 4) hx hb hts hK hP hD hS hA (by decide) (by decide) (by decide) (Nat.le_of_ble_eq_true rfl) (Nat.le_of_ble_eq_true rfl) dL_fits_17 (fun q4 H hP hD hS => ?_)
  refine lv_astore (lv' := [(5, .ref q4), (4, .ref q3), (3, .ref q2), (2, .ref q1), (0, .ref (A 0)), (1, .int (Int32.ofInt (n : Int)))]) hx hb dL_fits_19 hl (by decide) rfl (fun ls hl => ?_)
  -- the world with the four rows
  have eA : ∀ r, r < 47 → adF A q1 q2 q3 q4 r = A r := fun r hr => by
    unfold adF
    rw [if_neg (by omega), if_neg (by omega), if_neg (by omega), if_neg (by omega)]
  have eW := ws_F (A := A) (A' := adF A q1 q2 q3 q4) (cA := cA) (W := G) (W' := fmem G (fun _ => 0) (fun _ => 0) (fun _ => 0) (fun _ => 0)) eA (fun r hr => fm_lo hr)
  rw [List.append_assoc, List.append_assoc, List.append_assoc] at hP hD
  have hP : va_P D vwCl (pm_ws (adF A q1 q2 q3 q4) cA pm_sF 51 (fmem G (fun _ => 0) (fun _ => 0) (fun _ => 0) (fun _ => 0))) H := by rw [eW]; exact hP
  have hD : va_D (va_A (pm_ws A cA pm_sC 47 G) s.heap.size) (pm_ws (adF A q1 q2 q3 q4) cA pm_sF 51 (fmem G (fun _ => 0) (fun _ => 0) (fun _ => 0) (fun _ => 0))) := by rw [eW]; exact hD
  obtain ⟨M, run, hM⟩ := fits_run h
  obtain ⟨N, hN⟩ := pm_dn_ex run
  have X : pm_CX p s m ([Value.ref (A 0), Value.int (Int32.ofInt (n : Int))] : List Value).toArray meth c (va_A (pm_ws A cA pm_sC 47 G) s.heap.size) (adF A q1 q2 q3 q4) cA D pm_sF 51 86 := ⟨B.exec, B.bytes, hml, B.returns, B.notSynchronized, hts, hnw, hown, hK, fun G2 => pm_ws_D hD (fun r hr => pm_ws_A hD r hr), hA⟩
  refine W.widen (k := 4) (n := 55) (Nat.le_of_ble_eq_true rfl) (Nat.le_of_ble_eq_true rfl) ?_
  have P0 : lv_has ls (pm_nl 86) (pm_asc (adF A q1 q2 q3 q4) 0 [some (.inr (.inr 0)), some (.inl (n : Int)), some (.inr (.inr 47)), some (.inr (.inr 48)), some (.inr (.inr 49)), some (.inr (.inr 50)), none, none, none, none, none, none, none]) := by
    refine ⟨hl.1, hl.2.1, fun q hq => hl.2.2 q ?_⟩
    have hq : q ∈ ([(0, .ref (A 0)), (1, .int (Int32.ofInt (n : Int))), (2, .ref q1), (3, .ref q2), (4, .ref q3), (5, .ref q4)] : List (Nat × Value)) := hq
    simp only [List.mem_cons, List.not_mem_nil, or_false] at hq ⊢
    rcases hq with h | h | h | h | h | h
    · exact Or.inr (Or.inr (Or.inr (Or.inr (Or.inl h))))
    · exact Or.inr (Or.inr (Or.inr (Or.inr (Or.inr h))))
    · exact Or.inr (Or.inr (Or.inr (Or.inl h)))
    · exact Or.inr (Or.inr (Or.inl h))
    · exact Or.inr (Or.inl h)
    · exact Or.inl h
  refine pm_walkG cs_shF l (adF A q1 q2 q3 q4) cA D N p e (pl_room 86 1) s m _ below meth c 4 55 (MQ below (pm_Q A cA D pm_sC 47 G (va_A (pm_ws A cA pm_sC 47 G) s.heap.size) (some (.inl 1))) ([Value.ref (A 0), Value.int (Int32.ofInt (n : Int))] : List Value).toArray s 4 55 (va_A (pm_ws A cA pm_sC 47 G) s.heap.size)) _ 86 (some (.inl 1)) M ⟨⟨Nat.le_refl _, Nat.le_refl _⟩, Nat.le_refl _, Nat.le_refl _⟩ X (fun pc len i P st hd ha => ?_) 21 _ [] _ hN (fun v hv => by cases hv) ?_ (wok_fm hw) H [] ls P0 hP hS
  · refine pm_endG X hd ha (fun H locs t hP hS ht => ⟨⟨Int32.ofInt 1, (), rfl, rfl, ?_⟩, hS.F ht⟩)
    show va_P D vwCl (pm_ws A cA pm_sC 47 G) t.heap
    rw [ht]
    rw [ws_F (A := A) (W := G) eA hM] at hP
    exact cs_P_l hP
  · intro j v hv
    have hj := pm_lk_len _ _ _ hv
    have hj : j < 13 := hj
    match j, hj with
    | 0, _ => cases hv; exact pm_vok_r
    | 1, _ => cases hv; exact pm_vok_i (pm_rg_iff.mpr (by have := h.1.2; omega))
    | 2, _ => cases hv; exact pm_vok_r
    | 3, _ => cases hv; exact pm_vok_r
    | 4, _ => cases hv; exact pm_vok_r
    | 5, _ => cases hv; exact pm_vok_r
    | 6, _ => cases hv
    | 7, _ => cases hv
    | 8, _ => cases hv
    | 9, _ => cases hv
    | 10, _ => cases hv
    | 11, _ => cases hv
    | 12, _ => cases hv
    | j + 13, h => exact absurd h (by omega)
/-! AREPLACED -/
def adP (A : Nat → Nat) (q1 : Nat) : Nat → Nat := fun r => if r = 47 then q1 else A r
theorem wok_pm {G : PW} (h : pm_wok G) : pm_wok (pmem G (fun _ => 0)) := fun r j => by
  by_cases q : r = 47
  · subst q; rfl
  · unfold pmem
    rw [row_ne q]
    exact h r j
set_option maxHeartbeats 4000000 in
set_option maxRecDepth 100000 in
theorem placed_Met {Y : State → Prop} (l : Launch) (A : Nat → Nat) (cA : Nat → ClassId) (D : va_G) {G : PW} {n x L : Nat} (h : CI G n x L) (hch : cchamp G (tF (tz n)) ≠ -6) (hw : pm_wok G) : pl_Met Y l A cA D pm_sC 47 87 [.inr (.inr 0), .inl (n : Int)] G (some (.inl 1)) G 1 := by
  intro sz
  have a4 := (pm_k_ok (k := 87) (by decide)).2.2.2.1
  refine Met.ofW (cc := cL_arePlaced) (maxL := 7) (ret := some .boolean) a4 rfl ?_
  intro p e s m args below meth c s₁ B hml hv
  obtain ⟨rfl, ⟨hsz, hP, hK, hD0, hnw⟩, hy⟩ := hv
  have hts0 := atoms_spec (ws := pm_wk 87) B.pre
  have hts : ∀ w ∈ pm_gw, w.before ([Value.ref (A 0), Value.int (Int32.ofInt (n : Int))] : List Value).toArray s = true := fun w hw => hts0 w (List.mem_cons_of_mem _ hw)
  have hown : s.vm.findClass (pm_rc (pm_ow 87)) = some m.cls := findClass_of_methodNamed B.named
  subst hsz
  have hx := B.exec
  have hb : c.code = cL_arePlaced := B.bytes
  have hD := hD0.self (sz := s.heap.size)
  have hA : ∀ q : Nat, s.heap.size ≤ q → va_A (pm_ws A cA pm_sC 47 G) s.heap.size q := fun q h => Or.inr h
  have hS : va_S (va_A (pm_ws A cA pm_sC 47 G) s.heap.size) s.heap s.heap [] := va_S.rf
  have hl := lv_entry ([.ref (A 0), .int (Int32.ofInt (n : Int))]) (n := 7) (Nat.le_of_ble_eq_true rfl)
  rw [lg_entry_eq]
  show W _ _ _ _ _ _ _ _ _ _ _ _ _ _ _ (F0 m 0 (lg_sl ([.ref (A 0), .int (Int32.ofInt (n : Int))]) ++ List.replicate (7 - (lg_sl ([.ref (A 0), .int (Int32.ofInt (n : Int))])).length) Slot.unset).toArray [])
  generalize (lg_sl ([.ref (A 0), .int (Int32.ofInt (n : Int))]) ++ List.replicate (7 - (lg_sl ([.ref (A 0), .int (Int32.ofInt (n : Int))])).length) Slot.unset).toArray = ls at hl ⊢
  have hl : lv_has ls 7 [(0, .ref (A 0)), (1, .int (Int32.ofInt (n : Int)))] := hl
  refine lv_bipush (v := 20) hx hb dL_arePlaced_0 (by decide) ?_
  refine cs_newl (N' := 20) hx hb hts hK hP hD hS hA (by decide) (by decide) (by decide) (Nat.le_of_ble_eq_true rfl) (Nat.le_of_ble_eq_true rfl) dL_arePlaced_2 (fun q1 H hP hD hS => ?_)
  refine lv_astore_n (lv' := [(2, .ref q1), (0, .ref (A 0)), (1, .int (Int32.ofInt (n : Int)))]) hx hb dL_arePlaced_4 rfl hl (by decide) rfl (fun ls hl => ?_)
  have eA : ∀ r, r < 47 → adP A q1 r = A r := fun r hr => by
    unfold adP
    rw [if_neg (by omega)]
  have eW := ws_P (A := A) (A' := adP A q1) (cA := cA) (W := G) (W' := pmem G (fun _ => 0)) eA (fun r hr => pn_lo hr)
  have hP : va_P D vwCl (pm_ws (adP A q1) cA pm_sP 48 (pmem G (fun _ => 0))) H := by rw [eW]; exact hP
  have hD : va_D (va_A (pm_ws A cA pm_sC 47 G) s.heap.size) (pm_ws (adP A q1) cA pm_sP 48 (pmem G (fun _ => 0))) := by rw [eW]; exact hD
  obtain ⟨M, run, hM⟩ := placed_run h hch
  obtain ⟨N, hN⟩ := pm_dn_ex run
  have X : pm_CX p s m ([Value.ref (A 0), Value.int (Int32.ofInt (n : Int))] : List Value).toArray meth c (va_A (pm_ws A cA pm_sC 47 G) s.heap.size) (adP A q1) cA D pm_sP 48 87 := ⟨B.exec, B.bytes, hml, B.returns, B.notSynchronized, hts, hnw, hown, hK, fun G2 => pm_ws_D hD (fun r hr => pm_ws_A hD r hr), hA⟩
  refine W.widen (k := 4) (n := 55) (Nat.le_of_ble_eq_true rfl) (Nat.le_of_ble_eq_true rfl) ?_
  have P0 : lv_has ls (pm_nl 87) (pm_asc (adP A q1) 0 [some (.inr (.inr 0)), some (.inl (n : Int)), some (.inr (.inr 47)), none, none, none, none]) := by
    refine ⟨hl.1, hl.2.1, fun q hq => hl.2.2 q ?_⟩
    have hq : q ∈ ([(0, .ref (A 0)), (1, .int (Int32.ofInt (n : Int))), (2, .ref q1)] : List (Nat × Value)) := hq
    simp only [List.mem_cons, List.not_mem_nil, or_false] at hq ⊢
    rcases hq with h | h | h
    · exact Or.inr (Or.inl h)
    · exact Or.inr (Or.inr h)
    · exact Or.inl h
  refine pm_walkG cs_shP l (adP A q1) cA D N p e (pl_room 87 1) s m _ below meth c 4 55 (MQ below (pm_Q A cA D pm_sC 47 G (va_A (pm_ws A cA pm_sC 47 G) s.heap.size) (some (.inl 1))) ([Value.ref (A 0), Value.int (Int32.ofInt (n : Int))] : List Value).toArray s 4 55 (va_A (pm_ws A cA pm_sC 47 G) s.heap.size)) _ 87 (some (.inl 1)) M ⟨⟨Nat.le_refl _, Nat.le_refl _⟩, Nat.le_refl _, Nat.le_refl _⟩ X (fun pc len i P st hd ha => ?_) 5 _ [] _ hN (fun v hv => by cases hv) ?_ (wok_pm hw) H [] ls P0 hP hS
  · refine pm_endG X hd ha (fun H locs t hP hS ht => ⟨⟨Int32.ofInt 1, (), rfl, rfl, ?_⟩, hS.F ht⟩)
    show va_P D vwCl (pm_ws A cA pm_sC 47 G) t.heap
    rw [ht]
    rw [ws_P (A := A) (W := G) eA hM] at hP
    exact cs_P_l hP
  · intro j v hv
    have hj := pm_lk_len _ _ _ hv
    have hj : j < 7 := hj
    match j, hj with
    | 0, _ => cases hv; exact pm_vok_r
    | 1, _ => cases hv; exact pm_vok_i (pm_rg_iff.mpr (by have := h.1.2; omega))
    | 2, _ => cases hv; exact pm_vok_r
    | 3, _ => cases hv
    | 4, _ => cases hv
    | 5, _ => cases hv
    | 6, _ => cases hv
    | j + 7, h => exact absurd h (by omega)
