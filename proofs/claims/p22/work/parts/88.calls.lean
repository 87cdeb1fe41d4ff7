/-! calls on a world, or on one half of it -/
section CSK
variable {p : Program} {l : Launch} {e : Env} {R : Room} {s : State} {m : MethodId} {args : Array Value} {below : List Frame} {meth : Method} {c : Code} {H : Heap} {locs : List Loc} {cells slots : Nat} {Q : State → Prop}
variable {cc : ByteArray} {pc : Nat} {ls : Array Slot} {rest : List Value} {D : va_G} {cA : Nat → ClassId} {A : Nat → Prop} {w : va_W} {H0 : Heap}
theorem cs_callv {own : String} {S : PS} {N k ix nL p1 p2 p3 : Nat} {Ad : Nat → Nat} {as : List PV} {G G' : PW} {fo : List (Option Nat)} {st : List Value} (hx : p.tables.exec = Jvm.exec) (hb : c.code = cc) (hml : c.maxLocals = nL) (hown : s.vm.findClass own = some m.cls) (hts : ∀ w ∈ pm_gw, w.before args s = true) (hnw : ∀ w ∈ pm_nw, va_Nw w s) (hK : va_K D vwCl (pm_tys cA) s)
    (hSH : pm_SH S N) (h0 : S 0 = some (.inr (pm_ow k, fo))) (hM : pm_Met l Ad cA D S N k (.inr (.inr 0) :: as) G none G') (hk : k < 88) (h6 : pm_ow k < 6)
    (w1 : pm_has p1 (.methodLink own ix (pm_yy k)) = true) (w2 : pm_has p2 (.instanceMethod (pm_yy k)) = true) (w3 : pm_has p3 (.selects (pm_rc (pm_ow k)) (pm_yy k) (pm_yy k)) = true)
    (hP : va_P D vwCl (pm_ws Ad cA S N G) H) (hD : va_D A (pm_ws Ad cA S N G)) (hS : va_S A H0 H locs) (hA : ∀ q : Nat, H0.size ≤ q → A q) (hna : as.length = pm_na k) (hst : st = (as.map (pm_tr Ad)).reverse ++ .ref (Ad 0) :: rest) (hls : ls.size = nL) (hW : (rest.map fun v => v.category).sum ≤ 8)
    (hR : pm_fr k + 1 ≤ R.frames ∧ 8 + (pm_nl k + 11) + pm_lo k ≤ R.locals) (hc : cells ≤ R.cells ∧ slots ≤ R.slots) (hd : decode cc pc = .ok (.invokevirtual ix, 3))
    (kk : ∀ (H1 : Heap) (locs1 : List Loc), va_P D vwCl (pm_ws Ad cA S N G') H1 → va_D A (pm_ws Ad cA S N G') → va_S A H0 H1 locs1 → W p l e R s m args below meth c H1 locs1 cells slots Q (F0 m (pc + 3) ls rest)) : W p l e R s m args below meth c H locs cells slots Q (F0 m pc ls st) := by
  have hr := cs_run (l := l) (e := e) (R := R) (below := below) (meth := meth) (locs := locs) (cells := cells) (slots := slots) hx hb hml hown hts hnw hK hSH h0 hM hk h6 w1 w2 w3 hP hD hna hst hls hW hR hc hd
  have hF := cs_free hS hA hD
  have hD' : va_D A (pm_ws Ad cA S N G') := pm_ws_D hD (fun r hr => pm_ws_A hD r hr)
  exact va_callv (a := (Value.ref (Ad 0) :: as.map (pm_tr Ad)).toArray) hr hS (fun q _ h => hF q h) hF (fun u t H1 locs1 ht hvm hw hB hz1 hk1 hS1 => kk H1 locs1 (by
    have hB : va_P D vwCl (pm_ws Ad cA S N G') t.heap := hB
    rw [ht] at hB
    exact hB) hD' hS1)
end CSK
/-- small arguments -/
theorem cs_sok2 {x y : Int} (hx : pm_rg x = true) (hy : pm_rg y = true) : pm_sok [.inr (.inr 0), .inl x, .inl y] := fun v hv => by
  rcases List.mem_cons.mp hv with rfl | hv
  · exact fun _ h => by cases h
  · rcases List.mem_cons.mp hv with rfl | hv
    · exact pm_vok_i hx
    · rcases List.mem_singleton.mp hv with rfl
      exact pm_vok_i hy
theorem cs_sok1 {x : Int} (hx : pm_rg x = true) : pm_sok [.inr (.inr 0), .inl x] := fun v hv => by
  rcases List.mem_cons.mp hv with rfl | hv
  · exact fun _ h => by cases h
  · rcases List.mem_singleton.mp hv with rfl
    exact pm_vok_i hx
theorem cs_sok0 : pm_sok [.inr (.inr 0)] := fun v hv => by
  rcases List.mem_singleton.mp hv with rfl
  exact fun _ h => by cases h
theorem cs_sokl {x : Int64} : pm_sok [.inr (.inr 0), .inr (.inl x)] := fun v hv => by
  rcases List.mem_cons.mp hv with rfl | hv
  · exact fun _ h => by cases h
  · rcases List.mem_singleton.mp hv with rfl
    exact fun _ h => by cases h
