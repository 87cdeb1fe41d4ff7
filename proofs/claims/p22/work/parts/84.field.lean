/-! a new array, and a new object, put into a final field; calls of the pure machine's methods from outside -/
def cs_fs (ci : Nat) : List Value := (List.range (pm_nf ci)).map (fun j => defaultValue (pm_ty ci j))
section CSN
variable {p : Program} {l : Launch} {e : Env} {R : Room} {s : State} {m : MethodId} {args : Array Value} {below : List Frame} {meth : Method} {c : Code} {H : Heap} {locs : List Loc} {cells slots : Nat} {Q : State → Prop}
variable {cc : ByteArray} {pc : Nat} {ls : Array Slot} {rest : List Value} {D : va_G} {cA : Nat → ClassId} {A : Nat → Prop} {a : Nat} {wt : va_W} {H0 : Heap} {fs : List Value}
theorem cs_putF {ci k ix pl q : Nat} {aty : FieldType} {w : va_W} (hx : p.tables.exec = Jvm.exec) (hb : c.code = cc) (hts : ∀ w ∈ pm_gw, w.before args s = true) (hown : s.vm.findClass (pm_rc ci) = some m.cls) (hin : meth.name = "<init>") (hK : va_K D vwCl (pm_tys cA) s)
    (hP : va_P D vwCl ((a, .inr (ci, fs)) :: w) H) (hD : va_D A ((a, .inr (ci, fs)) :: w)) (hS : va_S A H0 H locs)
    (hci : ci < 6) (hk : k < pm_nf ci) (hl : k < fs.length) (hix : ix < 400) (hf : pm_fl ci ix = some (ci, k, pl)) (hfin : (pm_tx ci k).2.2.2 = true) (hdecl : (pm_tx ci k).1 = pm_rc ci) (hfty : pm_ty ci k = aty) (hnr : narrow aty (.ref q) = .ref q) (hft : fits aty (.ref q) = true)
    (hd : decode cc pc = .ok (.putfield ix, 3))
    (kk : ∀ (H1 : Heap) (locs1 : List Loc), va_P D vwCl ((a, .inr (ci, fs.set k (.ref q))) :: w) H1 → va_D A ((a, .inr (ci, fs.set k (.ref q))) :: w) → va_S A H0 H1 locs1 → W p l e R s m args below meth c H1 locs1 cells slots Q (F0 m (pc + 3) ls rest)) : W p l e R s m args below meth c H locs cells slots Q (F0 m pc ls (.ref q :: .ref a :: rest)) := by
  have hok := pm_fOK_all ci ix (Nat.lt_succ_of_lt hci) hix
  unfold pm_fOK at hok
  rw [hf] at hok
  simp only [Bool.and_eq_true] at hok
  obtain ⟨k1, -, -⟩ := hok
  have hc := pm_cl_at ci hci
  exact va_putF (own := pm_rc ci) (ref := (pm_tx ci k).1) (C := pm_rc ci) (T := pm_tx ci) (N := pm_nf ci) (ty := aty) hx hb hts (pm_inW ci hci) (pm_ty ci) (pm_tyW ci hci) (pm_nmW ci hci) hown hK hP hD hS 0 (fs := fs) rfl hc k hk (hts _ (pm_has_mem k1)) (fun _ h => h) hfin hin hdecl (by rw [← hfty]; exact pm_tyW ci hci k hk) hnr hft hl hd kk
theorem cs_newf {ci k ix pl t N' : Nat} {atype : ArrayType} {ty aty : FieldType} {n : Int32} (hx : p.tables.exec = Jvm.exec) (hb : c.code = cc) (hts : ∀ w ∈ pm_gw, w.before args s = true) (hown : s.vm.findClass (pm_rc ci) = some m.cls) (hin : meth.name = "<init>") (hK : va_K D vwCl (pm_tys cA) s)
    (hP : va_P D vwCl ((a, .inr (ci, fs)) :: wt) H) (hD : va_D A ((a, .inr (ci, fs)) :: wt)) (hS : va_S A H0 H locs) (hA : ∀ q : Nat, H0.size ≤ q → A q)
    (hci : ci < 6) (hk : k < pm_nf ci) (hl : k < fs.length) (hix : ix < 400) (hf : pm_fl ci ix = some (ci, k, pl)) (hfin : (pm_tx ci k).2.2.2 = true) (hdecl : (pm_tx ci k).1 = pm_rc ci) (hfty : pm_ty ci k = aty) (hnr : ∀ q, narrow aty (.ref q) = .ref q) (hft : ∀ q, fits aty (.ref q) = true)
    (hw : Cond.arrayClass ty ∈ pm_gw) (hty : newarray.typeOf atype = ty) (ht : (pm_tys cA)[t]? = some (cA t, ty)) (hra : ∀ x, va_RA s x ty → s.vm.findClass ("[" ++ ty.toString) = some x) (hdef : defaultValue ty = .int (Int32.ofInt 0))
    (hn : ¬ n < 0) (hN : n.toNatClampNeg = N') (hbytes : N' * componentBytes ty ≤ 536870912) (hcells : cells + 1 ≤ R.cells) (hslots : slots + N' ≤ R.slots)
    (hd1 : decode cc pc = .ok (.newarray atype, 2)) (hd2 : decode cc (pc + 2) = .ok (.putfield ix, 3))
    (kk : ∀ (q : Nat) (H1 : Heap) (locs1 : List Loc), va_P D vwCl ((a, .inr (ci, fs.set k (.ref q))) :: (wt ++ [(q, .inl (cA t, N', .inl (fun _ => Int32.ofInt 0)))])) H1 → va_D A ((a, .inr (ci, fs.set k (.ref q))) :: (wt ++ [(q, .inl (cA t, N', .inl (fun _ => Int32.ofInt 0)))])) → va_S A H0 H1 locs1 → W p l e R s m args below meth c H1 locs1 (cells + 1) (slots + N') Q (F0 m (pc + 2 + 3) ls rest)) : W p l e R s m args below meth c H locs cells slots Q (F0 m pc ls (.int n :: .ref a :: rest)) := by
  refine va_newa (ty := ty) (a0 := (N', .inl (fun _ => Int32.ofInt 0))) hx hb (by rw [hty]; exact hts _ hw) hty hK hP hD hS hA (fun cA => ?_) hn hN hbytes hcells hslots hd1 (fun q cq H1 hK1 hP1 hD1 hS1 => ?_)
  · rw [hdef]
    rfl
  · have g1 := hra _ (hK.2 t _ ht).2
    have g2 := hra _ (hK1.2 (pm_tys cA).length (cq, ty) (by rw [List.getElem?_append_right (Nat.le_refl _), Nat.sub_self]; rfl)).2
    have e : cq = cA t := Option.some.inj (g2.symm.trans g1)
    subst e
    exact cs_putF (aty := aty) hx hb hts hown hin hK hP1 hD1 hS1 hci hk hl hix hf hfin hdecl hfty (hnr q) (hft q) hd2 (fun H2 locs2 hP2 hD2 hS2 => kk q H2 locs2 hP2 hD2 hS2)
/-- a call of one of the pure machine's methods on the object at place 0 of a world, from any method -/
theorem cs_run {own : String} {S : PS} {N k ix nL p1 p2 p3 : Nat} {Ad : Nat → Nat} {as : List PV} {G G' : PW} {r : Option PV} {fo : List (Option Nat)} {st : List Value} (hx : p.tables.exec = Jvm.exec) (hb : c.code = cc) (hml : c.maxLocals = nL) (hown : s.vm.findClass own = some m.cls) (hts : ∀ w ∈ pm_gw, w.before args s = true) (hnw : ∀ w ∈ pm_nw, va_Nw w s) (hK : va_K D vwCl (pm_tys cA) s)
    (hSH : pm_SH S N) (h0 : S 0 = some (.inr (pm_ow k, fo))) (hM : pm_Met l Ad cA D S N k (.inr (.inr 0) :: as) G r G') (hk : k < 88) (h6 : pm_ow k < 6)
    (w1 : pm_has p1 (.methodLink own ix (pm_yy k)) = true) (w2 : pm_has p2 (.instanceMethod (pm_yy k)) = true) (w3 : pm_has p3 (.selects (pm_rc (pm_ow k)) (pm_yy k) (pm_yy k)) = true)
    (hP : va_P D vwCl (pm_ws Ad cA S N G) H) (hD : va_D A (pm_ws Ad cA S N G)) (hna : as.length = pm_na k) (hst : st = (as.map (pm_tr Ad)).reverse ++ .ref (Ad 0) :: rest) (hls : ls.size = nL) (hW : (rest.map fun v => v.category).sum ≤ 8)
    (hR : pm_fr k + 1 ≤ R.frames ∧ 8 + (pm_nl k + 11) + pm_lo k ≤ R.locals) (hc : cells ≤ R.cells ∧ slots ≤ R.slots) (hd : decode cc pc = .ok (.invokevirtual ix, 3)) : va_Run p l e R s m args below meth c H locs cells slots 0 0 (F0 m pc ls st) rest (pm_Q Ad cA D S N G' (va_A (pm_ws Ad cA S N G) H.size) r (.ref (Ad 0) :: as.map (pm_tr Ad)).toArray) (va_A (pm_ws Ad cA S N G) H.size) := by
  obtain ⟨a1, a2, a3, a4, a5, a6⟩ := pm_k_ok hk
  have hrN : 0 < N := hSH.1 0 (by rw [h0]; rfl)
  refine va_runV (As := as.map (pm_tr Ad)) (rest := rest) (n := pm_na k) ⟨hx, hb, hml, hown, hts⟩ (hM H.size) ⟨callB_of (pm_na k) hts (pm_wk_good hk) rfl rfl rfl (by rw [a3]; exact hts _ a2) (hts _ (pm_has_mem w1)) a5 hR, hts _ (pm_has_mem w2), hts _ (pm_has_mem w3)⟩ ⟨pm_blind, va_recv (q0 := 0) hK hP (pm_cl_at (pm_ow k) h6) (by rw [pm_ws_at hrN, pm_cell_o h0]), fun U hU hWm => ⟨rfl, by rw [hU], by rw [hU]; exact hP, va_K.moved hWm.alike hK, hD.weaken (fun _ _ _ _ => trivial), pm_nw_warm hWm hnw⟩⟩ rfl (by rw [List.length_map]; exact hna) hls hst (lv_room hW) hd hc
end CSN
