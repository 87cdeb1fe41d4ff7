/-! THE LAW, from its entry -/
theorem cs_inst : ∀ ci, ci < 6 → Cond.instantiable (pm_rc ci) (pm_nf ci) ∈ pm_gw := by
  intro ci h
  rcases (show ci = 0 ∨ ci = 1 ∨ ci = 2 ∨ ci = 3 ∨ ci = 4 ∨ ci = 5 by omega) with rfl | rfl | rfl | rfl | rfl | rfl
  · exact pm_has_mem (p := 46) (by decide +kernel)
  · exact pm_has_mem (p := 138) (by decide +kernel)
  · exact pm_has_mem (p := 152) (by decide +kernel)
  · exact pm_has_mem (p := 52) (by decide +kernel)
  · exact pm_has_mem (p := 170) (by decide +kernel)
  · exact pm_has_mem (p := 38) (by decide +kernel)
/-- the classes as the tables have them -/
theorem cs_K {args : Array Value} {s : State} (hts : ∀ w ∈ pm_gw, w.before args s = true) : ∃ (D : va_G) (cA : Nat → ClassId), va_K D vwCl (pm_tys cA) s := by
  obtain ⟨cA, hcA⟩ := cs_tys hts
  have kn : ∀ k : Nat, ∃ (c : ClassId) (iS : Nat → Nat), k < 6 → u_Kn s (pm_rc k) (pm_tx k) (pm_nf k) c iS := fun k => by
    by_cases h : k < 6
    · obtain ⟨c, iS, q⟩ := u_known (C := pm_rc k) (T := pm_tx k) (N := pm_nf k) (n := pm_nf k) hts (pm_inW k h) (hts _ (cs_inst k h))
      exact ⟨c, iS, fun _ => q⟩
    · exact ⟨0, fun _ => 0, fun q => absurd q h⟩
  refine ⟨(fun k => (kn k).choose, fun k => (kn k).choose_spec.choose), cA, fun k q hq => ?_, hcA⟩
  have hk : k < 6 := (List.getElem?_eq_some_iff.mp hq).1
  rw [pm_cl_at k hk] at hq
  cases hq
  exact (kn k).choose_spec.choose_spec hk
theorem cs_woks (l : Launch) : pm_wok startG :=
  (pm_sound cs_shC l id (fun _ => 0) (fun _ => 0, fun _ _ => 0) (by decide) (Nat.le_of_ble_eq_true rfl) start_rate cs_sok0 (pm_sound cs_shC l id (fun _ => 0) (fun _ => 0, fun _ _ => 0) (by decide) (Nat.le_of_ble_eq_true rfl) start_begin (cs_sok2 rfl rfl) (fun _ _ => rfl)).2.1).2.1
/-- the law's own end -/
theorem law_end {p : Program} {l : Launch} {e : Env} {s : State} {m : MethodId} {below : List Frame} {meth : Method} {c : Code} {b pc len ce sl : Nat} {i : Instr} {P : PL} {st : List PV} {G : PW} {A0 : Nat → Prop} {A : Nat → Nat} {cA : Nat → ClassId} {D : va_G} (X : pm_CX p s m #[Value.ref b] meth c A0 A cA D pm_sC 47 88) (hA0 : ∀ q : Nat, A0 q → s.heap.size ≤ q) (hc : ce ≤ 600000 ∧ sl ≤ 7302250) (hd : decode (pm_cc 88) pc = .ok (i, len)) (ha : pm_stp pm_sC 88 pc i len P st G = some (.inr (.inr (some (.inl 1))))) : pm_At p l e room_1 s m #[Value.ref b] below meth c ce sl (lw_Z below #[Value.ref b] s) A0 s.heap A cA D pm_sC 47 88 pc P st G := by
  obtain ⟨hx, hb, hml, hr, hlocks, hts, hnw, hown, hK, hD, hA⟩ := X
  intro H locs ls h1 h2 h3
  rcases pm_ends ha (fun q h => by cases h) with ⟨ix, k', p1, p2, p3, r, as, t, -, -, -, -, -, -, -, -, q⟩ | ⟨ix, k', kd, p1, p2, p3, as, t, -, -, -, -, -, -, -, -, q⟩ | ⟨rfl, rfl, q0, rfl, q⟩ | ⟨x, ty, rfl, rfl, q0, rfl, q1, q⟩
  · cases q
  · cases q
  · cases q
  · cases q
    refine va_forget (fun q hq => hA0 _ (h3.2.2 q hq)) ?_
    refine W.widen (k := 600000) (n := 7302250) hc.1 hc.2 ?_
    exact lw_ret hx hb hr hlocks hd
set_option maxHeartbeats 4000000 in
set_option maxRecDepth 100000 in
/-- THE LAW, from its entry -/
theorem whole_start {p : Program} {e : Env} {s : State} {m : MethodId} {below : List Frame} {meth : Method} {c : Code} (l : Launch) (hflags : l.flags = flags0) {b L : Nat} {xs : Nat → Int32} (hL : L ≤ 260) (C0 : lw_At p s m meth c b L xs) : W p l e room_1 s m #[Value.ref b] below meth c s.heap [] 0 0 (lw_Z below #[Value.ref b] s) (entryFrame m ([Value.ref b] : List Value).toArray 14) := by
  obtain ⟨hx, hb, hr, hml, hown, htl, hX, hbl, hlocks, hgv⟩ := id C0
  have hts : ∀ w ∈ pm_gw, w.before #[Value.ref b] s = true := fun w hw => htl w (List.mem_filter.mp hw).1
  have hnw : ∀ w ∈ pm_nw, va_Nw w s := fun w hw => by
    have h := htl w (List.mem_filter.mp hw).1
    obtain ⟨a, i, x, y, rfl⟩ := pm_nw_form hw
    exact va_Nw.of rfl h
  obtain ⟨D, cA, hK⟩ := cs_K hts
  have hA : ∀ q : Nat, s.heap.size ≤ q → (fun q : Nat => s.heap.size ≤ q) q := fun _ h => h
  have hS : va_S (fun q : Nat => s.heap.size ≤ q) s.heap s.heap [] := va_S.rf
  have hP : va_P D vwCl [] s.heap := fun k q h => by simp at h
  have hD : va_D (fun q : Nat => s.heap.size ≤ q) [] := ⟨fun i j p q h => by simp at h, fun k q h => by simp at h⟩
  have hl := lv_entry ([.ref b]) (n := 14) (Nat.le_of_ble_eq_true rfl)
  rw [lg_entry_eq]
  generalize (lg_sl ([.ref b]) ++ List.replicate (14 - (lg_sl ([.ref b])).length) Slot.unset).toArray = ls at hl ⊢
  have hl : lv_has ls 14 [(0, .ref b)] := hl
  refine cs_newP (own := R_law) (ci := 5) (ix1 := 9) (ix2 := 27) hx hb hml hl.1 hts hnw hown hK hP hD hS hA (by decide) (pm_has_mem (p := 37) (by decide +kernel)) (pm_has_mem (p := 38) (by decide +kernel)) (pm_has_mem (p := 31) (by decide +kernel)) (cs_c5 l cA D) (pm_has_mem (p := 41) (by decide +kernel)) rfl rfl (pm_has_mem (p := 40) (by decide +kernel)) (pm_has_mem (p := 39) (by decide +kernel)) (by decide +kernel) rfl rfl ⟨Nat.le_of_ble_eq_true rfl, Nat.le_of_ble_eq_true rfl⟩ (Nat.le_of_ble_eq_true rfl) (Nat.le_of_ble_eq_true rfl) (Nat.le_of_ble_eq_true rfl) dL_law_0 dL_law_3 dL_law_4 (fun Ax H locs hP hD hS => ?_)
  refine lv_astore_n (lv' := [(1, .ref (Ax 0)), (0, .ref b)]) hx hb dL_law_7 rfl hl (by decide) rfl (fun ls hl => ?_)
  have hP : va_P D vwCl (pm_ws Ax cA pm_sC 47 startG) H := hP
  have hD : va_D (fun q : Nat => s.heap.size ≤ q) (pm_ws Ax cA pm_sC 47 startG) := hD
  -- the script's place
  obtain ⟨A, e0, e60, eW⟩ : ∃ A : Nat → Nat, A 0 = Ax 0 ∧ A 60 = b ∧ pm_ws A cA pm_sC 47 startG = pm_ws Ax cA pm_sC 47 startG := ⟨fun r => if r = 60 then b else Ax r, rfl, rfl, pm_ws_congr (fun r hr => if_neg (by omega)) (fun _ _ => rfl) (fun _ _ => rfl) cl_C⟩
  rw [← eW] at hP hD
  have CX : pm_CX p s m #[Value.ref b] meth c (fun q : Nat => s.heap.size ≤ q) A cA D pm_sC 47 88 := ⟨hx, hb, hml, hr, hlocks, hts, hnw, hown, hK, fun G => pm_ws_D hD (fun r hr => pm_ws_A hD r hr), hA⟩
  have P0 : lv_has ls (pm_nl 88) (pm_asc A 0 [some (.inr (.inr 60)), some (.inr (.inr 0)), none, none, none, none, none, none, none, none, none, none, none, none]) := by
    refine ⟨hl.1, hl.2.1, fun q hq => hl.2.2 q ?_⟩
    have hq : q ∈ ([(0, .ref (A 60)), (1, .ref (A 0))] : List (Nat × Value)) := hq
    rw [e0, e60] at hq
    simp only [List.mem_cons, List.not_mem_nil, or_false] at hq ⊢
    rcases hq with h | h
    · exact Or.inr h
    · exact Or.inl h
  obtain ⟨G', f', hf', run⟩ := law_run xs L
  obtain ⟨N, hN⟩ := pl_dn_ex run
  have hok : pm_pok [some (.inr (.inr 60)), some (.inr (.inr 0)), none, none, none, none, none, none, none, none, none, none, none, none] := by
    intro j v hv
    have hj := pm_lk_len _ _ _ hv
    have hj : j < 14 := hj
    match j, hj with
    | 0, _ => cases hv; exact pm_vok_r
    | 1, _ => cases hv; exact pm_vok_r
    | 2, _ => cases hv
    | 3, _ => cases hv
    | 4, _ => cases hv
    | 5, _ => cases hv
    | 6, _ => cases hv
    | 7, _ => cases hv
    | 8, _ => cases hv
    | 9, _ => cases hv
    | 10, _ => cases hv
    | 11, _ => cases hv
    | 12, _ => cases hv
    | 13, _ => cases hv
    | j + 14, h => exact absurd h (by omega)
  have wk := pl_walk (e := e) (below := below) (Q := lw_Z below #[Value.ref b] s) (c0 := 0 + 1 + 46) (s0 := 0 + pm_nf 5 + 1249) (fm := 60) cs_shC l A cA D (scrY b L xs) scr_bl (lwX xs L) (lx_ok hL l A cA D e60) (k := 88) rfl (r := some (.inl 1)) (G' := G')
    (fun U H locs h1 h2 h3 => ⟨by rw [h2]; exact va_X.moved h3.alike (va_X.kept hX (h1.2.1 b hbl (Nat.not_le.mpr hbl))), by rw [h2]; exact Nat.lt_of_lt_of_le hbl h1.1⟩)
    (R := room_1) ⟨Nat.le_of_ble_eq_true rfl, Nat.le_of_ble_eq_true rfl⟩ ⟨Nat.le_of_ble_eq_true rfl, Nat.le_of_ble_eq_true rfl⟩ CX
    (fun pc len i P st hd ha => law_end CX (fun q h => h) ⟨Nat.le_of_ble_eq_true rfl, Nat.le_of_ble_eq_true rfl⟩ hd ha)
    N 8 _ [] startG 0 f' hN (fun v hv => by cases hv) hok (cs_woks l)
  exact wk.2 hf' H locs ls P0 hP hS
