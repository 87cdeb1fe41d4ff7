/-! the law's loop, and its start -/
set_option maxHeartbeats 4000000 in
theorem law_loop {p : Program} {l : Launch} {e : Env} {s : State} {m : MethodId} {below : List Frame} {meth : Method} {c : Code} {b L : Nat} {xs : Nat → Int32} {Ax Am : Nat → Nat} {cA : Nat → ClassId} {D : va_G} (hL : L ≤ 1536) (X : lw_CX p s m meth c b L xs cA D) : ∀ (f i : Nat) (x3 : Int32) (G K : PW), i ≤ L → L < i + f → x3 = nI i → REL G K → pm_wok G → pm_wok K → lw_In p l e s m below meth c b Ax Am cA D x3 G K 18 := by
  obtain ⟨⟨hx, hb, hr, hml, hown, -, hX, hbl, hlocks, -⟩, hK, hts, hnw⟩ := id X
  have hA : ∀ q : Nat, s.heap.size ≤ q → (fun q : Nat => s.heap.size ≤ q) q := fun _ h => h
  have hbA : ¬ (fun q : Nat => s.heap.size ≤ q) b := Nat.not_le.mpr hbl
  intro f
  induction f with
  | zero =>
    intro i x3 G K q1 q2
    exact absurd q2 (by omega)
  | succ f ih =>
    intro i x3 G K q1 q2 e3 h gG gK H locs ls hP hD hS hl
    refine lv_iload_n hx hb dL_law_18 rfl (lv_at hl 0 rfl) ?_
    refine lv_aload_n hx hb dL_law_19 rfl (lv_at hl 3 rfl) ?_
    refine va_slen hx hb hX hbl hbA hS dL_law_20 ?_
    refine lv_iconst (v := 3) hx hb dL_law_21 (by decide) ?_
    refine lv_isub hx hb dL_law_22 ?_
    refine lv_icmp_gt (tgt := 607) hx hb dL_law_23 (by decide) (fun cc => ?_) (fun cc => ?_)
    · refine lv_iconst (v := 1) hx hb dL_law_607 (by decide) ?_
      refine va_forget (fun q hq => hS.2.2 q hq) ?_
      exact lw_ret hx hb hr hlocks dL_law_608
    · have hlt : i + 3 ≤ L := by
        rcases Nat.lt_or_ge L (i + 3) with q | q
        · refine absurd ?_ cc
          rw [e3]
          rcases Nat.lt_or_ge L 3 with w | w
          · show Int32.ofNat L - 3 < nI i
            rw [Int32.lt_iff_toInt_lt, nI_toInt (by omega)]
            rcases (show L = 0 ∨ L = 1 ∨ L = 2 by omega) with rfl | rfl | rfl
            · rw [show (Int32.ofNat 0 - 3).toInt = -3 by decide +kernel]; omega
            · rw [show (Int32.ofNat 1 - 3).toInt = -2 by decide +kernel]; omega
            · rw [show (Int32.ofNat 2 - 3).toInt = -1 by decide +kernel]; omega
          · have e : Int32.ofNat L - 3 = nI (L - 3) := by
              have := nI_add (L - 3) 3
              rw [Nat.sub_add_cancel w] at this
              show nI L - nI 3 = _
              rw [← this, Int32.add_sub_cancel]
            show Int32.ofNat L - 3 < nI i
            rw [e]
            exact nI_lt (by omega) (by omega)
        · exact q
      have h0 : vp_in x3 L := by rw [e3]; exact vp_in_nI (by omega) (by omega)
      have h1 : vp_in (x3 + 1) L := by rw [e3, nI_1]; exact vp_in_nI (by omega) (by omega)
      have h2 : vp_in (x3 + 2) L := by rw [e3, show nI i + 2 = nI (i + 2) from nI_add i 2]; exact vp_in_nI (by omega) (by omega)
      have nx : ∀ G' K', REL G' K' → pm_wok G' → pm_wok K' → lw_In p l e s m below meth c b Ax Am cA D x3 G' K' 601 := by
        intro G' K' h' g1 g2 H locs ls hP hD hS hl
        refine lv_iinc (v := x3 + 3) (lv' := [(3, .int (x3 + 3)), (2, .ref (Am 0)), (1, .ref (Ax 0)), (0, .ref b)]) hx hb dL_law_601 hl (k := 0) rfl rfl (by decide) rfl (fun ls hl => ?_)
        refine lv_goto (tgt := 18) hx hb dL_law_604 (by decide) ?_
        exact ih (i + 3) (x3 + 3) G' K' hlt (by omega) (by rw [e3]; exact nI_add i 3) h' g1 g2 H locs ls hP hD hS hl
      refine lv_aload_n hx hb dL_law_26 rfl (lv_at hl 3 rfl) ?_
      refine lv_iload_n hx hb dL_law_27 rfl (lv_at hl 0 rfl) ?_
      refine va_sld hx hb hX hbl hbA hS h0 dL_law_28 ?_
      refine lv_bipush (v := 31) hx hb dL_law_29 (by decide) ?_
      refine lv_iand hx hb dL_law_31 ?_
      refine lv_topi (fun t et => ?_)
      by_cases ht : t.toInt < 0 ∨ 18 < t.toInt
      · exact lv_tableOut (tgt := 601) hx hb dL_law_32 ht (by decide) (nx G K h gG gK H locs ls hP hD hS hl)
      obtain ⟨j, ej, hj⟩ : ∃ j : Nat, t.toInt = (j : Int) ∧ j < 19 := ⟨t.toInt.toNat, by omega, by omega⟩
      rcases (show j = 0 ∨ j = 1 ∨ j = 2 ∨ j = 3 ∨ j = 4 ∨ j = 5 ∨ j = 6 ∨ j = 7 ∨ j = 8 ∨ j = 9 ∨ j = 10 ∨ j = 11 ∨ j = 12 ∨ j = 13 ∨ j = 14 ∨ j = 15 ∨ j = 16 ∨ j = 17 ∨ j = 18 by omega) with rfl | rfl | rfl | rfl | rfl | rfl | rfl | rfl | rfl | rfl | rfl | rfl | rfl | rfl | rfl | rfl | rfl | rfl | rfl
      · refine lv_tableIn (off := 92) (tgt := 124) hx hb dL_law_32 (by rw [ej]; decide) (by rw [ej]; decide) (by rw [ej]; rfl) (by decide) ?_
        exact lw_c_setUp X h1 h2 h gG gK nx H locs ls hP hD hS hl
      · refine lv_tableIn (off := 125) (tgt := 157) hx hb dL_law_32 (by rw [ej]; decide) (by rw [ej]; decide) (by rw [ej]; rfl) (by decide) ?_
        exact lw_c_rate X h1 h2 h gG gK nx H locs ls hP hD hS hl
      · refine lv_tableIn (off := 158) (tgt := 190) hx hb dL_law_32 (by rw [ej]; decide) (by rw [ej]; decide) (by rw [ej]; rfl) (by decide) ?_
        exact lw_c_result X h1 h2 h gG gK nx H locs ls hP hD hS hl
      · refine lv_tableIn (off := 191) (tgt := 223) hx hb dL_law_32 (by rw [ej]; decide) (by rw [ej]; decide) (by rw [ej]; rfl) (by decide) ?_
        exact lw_c_withdraw X h1 h2 h gG gK nx H locs ls hP hD hS hl
      · refine lv_tableIn (off := 214) (tgt := 246) hx hb dL_law_32 (by rw [ej]; decide) (by rw [ej]; decide) (by rw [ej]; rfl) (by decide) ?_
        exact lw_c_match X h1 h2 h gG gK nx H locs ls hP hD hS hl
      · refine lv_tableIn (off := 247) (tgt := 279) hx hb dL_law_32 (by rw [ej]; decide) (by rw [ej]; decide) (by rw [ej]; rfl) (by decide) ?_
        exact lw_c_player X h1 h2 h gG gK nx H locs ls hP hD hS hl
      · refine lv_tableIn (off := 280) (tgt := 312) hx hb dL_law_32 (by rw [ej]; decide) (by rw [ej]; decide) (by rw [ej]; rfl) (by decide) ?_
        exact lw_c_open X h1 h2 h gG gK nx H locs ls hP hD hS hl
      · refine lv_tableIn (off := 303) (tgt := 335) hx hb dL_law_32 (by rw [ej]; decide) (by rw [ej]; decide) (by rw [ej]; rfl) (by decide) ?_
        exact lw_c_count X h1 h2 h gG gK nx H locs ls hP hD hS hl
      · refine lv_tableIn (off := 326) (tgt := 358) hx hb dL_law_32 (by rw [ej]; decide) (by rw [ej]; decide) (by rw [ej]; rfl) (by decide) ?_
        exact lw_c_forecast X h1 h2 h gG gK nx H locs ls hP hD hS hl
      · refine lv_tableIn (off := 339) (tgt := 371) hx hb dL_law_32 (by rw [ej]; decide) (by rw [ej]; decide) (by rw [ej]; rfl) (by decide) ?_
        exact lw_c_upsets X h1 h2 h gG gK nx H locs ls hP hD hS hl
      · refine lv_tableIn (off := 362) (tgt := 394) hx hb dL_law_32 (by rw [ej]; decide) (by rw [ej]; decide) (by rw [ej]; rfl) (by decide) ?_
        exact lw_c_sessions X h1 h2 h gG gK nx H locs ls hP hD hS hl
      · refine lv_tableIn (off := 385) (tgt := 417) hx hb dL_law_32 (by rw [ej]; decide) (by rw [ej]; decide) (by rw [ej]; rfl) (by decide) ?_
        exact lw_c_meet X h1 h2 h gG gK nx H locs ls hP hD hS hl
      · refine lv_tableIn (off := 418) (tgt := 450) hx hb dL_law_32 (by rw [ej]; decide) (by rw [ej]; decide) (by rw [ej]; rfl) (by decide) ?_
        exact lw_c_put X h1 h2 h gG gK nx H locs ls hP hD hS hl
      · refine lv_tableIn (off := 471) (tgt := 503) hx hb dL_law_32 (by rw [ej]; decide) (by rw [ej]; decide) (by rw [ej]; rfl) (by decide) ?_
        exact lw_c_wipe X h1 h2 h gG gK nx H locs ls hP hD hS hl
      · refine lv_tableIn (off := 484) (tgt := 516) hx hb dL_law_32 (by rw [ej]; decide) (by rw [ej]; decide) (by rw [ej]; rfl) (by decide) ?_
        exact lw_c_fault X h1 h2 h gG gK nx H locs ls hP hD hS hl
      · refine lv_tableIn (off := 497) (tgt := 529) hx hb dL_law_32 (by rw [ej]; decide) (by rw [ej]; decide) (by rw [ej]; rfl) (by decide) ?_
        exact lw_c_carryOut X h1 h2 h gG gK nx H locs ls hP hD hS hl
      · refine lv_tableIn (off := 510) (tgt := 542) hx hb dL_law_32 (by rw [ej]; decide) (by rw [ej]; decide) (by rw [ej]; rfl) (by decide) ?_
        exact lw_c_undo X h1 h2 h gG gK nx H locs ls hP hD hS hl
      · refine lv_tableIn (off := 523) (tgt := 555) hx hb dL_law_32 (by rw [ej]; decide) (by rw [ej]; decide) (by rw [ej]; rfl) (by decide) ?_
        exact lw_c_save X h1 h2 h gG gK nx H locs ls hP hD hS hl
      · refine lv_tableIn (off := 546) (tgt := 578) hx hb dL_law_32 (by rw [ej]; decide) (by rw [ej]; decide) (by rw [ej]; rfl) (by decide) ?_
        exact lw_c_restore X h1 h2 h gG gK nx H locs ls hP hD hS hl
theorem cs_inst : ∀ ci, ci < 7 → Cond.instantiable (pm_rc ci) (pm_nf ci) ∈ pm_gw := by
  intro ci h
  rcases (show ci = 0 ∨ ci = 1 ∨ ci = 2 ∨ ci = 3 ∨ ci = 4 ∨ ci = 5 ∨ ci = 6 by omega) with rfl | rfl | rfl | rfl | rfl | rfl | rfl
  · exact pm_has_mem (p := 89) (by decide +kernel)
  · exact pm_has_mem (p := 181) (by decide +kernel)
  · exact pm_has_mem (p := 195) (by decide +kernel)
  · exact pm_has_mem (p := 95) (by decide +kernel)
  · exact pm_has_mem (p := 216) (by decide +kernel)
  · exact pm_has_mem (p := 81) (by decide +kernel)
  · exact pm_has_mem (p := 722) (by decide +kernel)
/-- the classes as the tables have them -/
theorem cs_K {args : Array Value} {s : State} (hts : ∀ w ∈ pm_gw, w.before args s = true) : ∃ (D : va_G) (cA : Nat → ClassId), va_K D vwCl (pm_tys cA) s := by
  obtain ⟨cA, hcA⟩ := cs_tys hts
  have kn : ∀ k : Nat, ∃ (c : ClassId) (iS : Nat → Nat), k < 7 → u_Kn s (pm_rc k) (pm_tx k) (pm_nf k) c iS := fun k => by
    by_cases h : k < 7
    · obtain ⟨c, iS, q⟩ := u_known (C := pm_rc k) (T := pm_tx k) (N := pm_nf k) (n := pm_nf k) hts (pm_inW k h) (hts _ (cs_inst k h))
      exact ⟨c, iS, fun _ => q⟩
    · exact ⟨0, fun _ => 0, fun q => absurd q h⟩
  refine ⟨(fun k => (kn k).choose, fun k => (kn k).choose_spec.choose), cA, fun k q hq => ?_, hcA⟩
  have hk : k < 7 := (List.getElem?_eq_some_iff.mp hq).1
  rw [pm_cl_at k hk] at hq
  cases hq
  exact (kn k).choose_spec.choose_spec hk
theorem cs_woks (l : Launch) : pm_wok startG ∧ pm_wok startK :=
  ⟨(pm_sound cs_shC l id (fun _ => 0) (fun _ => 0, fun _ _ => 0) (by decide) (Nat.le_of_ble_eq_true rfl) start_rate cs_sok0 (pm_sound cs_shC l id (fun _ => 0) (fun _ => 0, fun _ _ => 0) (by decide) (Nat.le_of_ble_eq_true rfl) start_begin (cs_sok2 rfl rfl) (fun _ _ => rfl)).2.1).2.1,
   (pm_sound cs_shM l id (fun _ => 0) (fun _ => 0, fun _ _ => 0) (by decide) (Nat.le_of_ble_eq_true rfl) start_model (cs_sok2 rfl rfl) (fun _ _ => rfl)).2.1⟩
set_option maxHeartbeats 4000000 in
set_option maxRecDepth 100000 in
/-- THE LAW, from its entry -/
theorem whole_start {p : Program} {e : Env} {s : State} {m : MethodId} {below : List Frame} {meth : Method} {c : Code} (l : Launch) (hflags : l.flags = flags0) {b L : Nat} {xs : Nat → Int32} (hL : L ≤ 1536) (C0 : lw_At p s m meth c b L xs) : W p l e room_1 s m #[Value.ref b] below meth c s.heap [] 0 0 (lw_Z below #[Value.ref b] s) (entryFrame m ([Value.ref b] : List Value).toArray 4) := by
  obtain ⟨hx, hb, hr, hml, hown, htl, hX, hbl, hlocks, hgv⟩ := id C0
  have hts : ∀ w ∈ pm_gw, w.before #[Value.ref b] s = true := fun w hw => htl w (List.mem_filter.mp hw).1
  have hnw : ∀ w ∈ pm_nw, va_Nw w s := fun w hw => by
    have h := htl w (List.mem_filter.mp hw).1
    obtain ⟨a, i, x, y, rfl⟩ := pm_nw_form hw
    exact va_Nw.of rfl h
  obtain ⟨D, cA, hK⟩ := cs_K hts
  have X : lw_CX p s m meth c b L xs cA D := ⟨C0, hK, hts, hnw⟩
  have hA : ∀ q : Nat, s.heap.size ≤ q → (fun q : Nat => s.heap.size ≤ q) q := fun _ h => h
  have hS : va_S (fun q : Nat => s.heap.size ≤ q) s.heap s.heap [] := va_S.rf
  have hP : va_P D vwCl [] s.heap := fun k q h => by simp at h
  have hD : va_D (fun q : Nat => s.heap.size ≤ q) [] := ⟨fun i j p q h => by simp at h, fun k q h => by simp at h⟩
  have hl := lv_entry ([.ref b]) (n := 4) (Nat.le_of_ble_eq_true rfl)
  rw [lg_entry_eq]
  generalize (lg_sl ([.ref b]) ++ List.replicate (4 - (lg_sl ([.ref b])).length) Slot.unset).toArray = ls at hl ⊢
  have hl : lv_has ls 4 [(0, .ref b)] := hl
  refine cs_newP (own := R_law) (ci := 5) (ix1 := 7) (ix2 := 9) hx hb hml hl.1 hts hnw hown hK hP hD hS hA (by decide) (pm_has_mem (p := 80) (by decide +kernel)) (pm_has_mem (p := 81) (by decide +kernel)) (pm_has_mem (p := 73) (by decide +kernel)) (cs_c5 l cA D) (pm_has_mem (p := 84) (by decide +kernel)) rfl rfl (pm_has_mem (p := 83) (by decide +kernel)) (pm_has_mem (p := 82) (by decide +kernel)) (by decide +kernel) rfl rfl ⟨Nat.le_of_ble_eq_true rfl, Nat.le_of_ble_eq_true rfl⟩ (Nat.le_of_ble_eq_true rfl) (Nat.le_of_ble_eq_true rfl) (Nat.le_of_ble_eq_true rfl) dL_law_0 dL_law_3 dL_law_4 (fun Ax H locs hP hD hS => ?_)
  refine lv_astore_n (lv' := [(1, .ref (Ax 0)), (0, .ref b)]) hx hb dL_law_7 rfl hl (by decide) rfl (fun ls hl => ?_)
  refine cs_newP (own := R_law) (ci := 6) (ix1 := 10) (ix2 := 12) hx hb hml hl.1 hts hnw hown hK hP hD hS hA (by decide) (pm_has_mem (p := 721) (by decide +kernel)) (pm_has_mem (p := 722) (by decide +kernel)) (pm_has_mem (p := 79) (by decide +kernel)) (cs_c6 l cA D) (pm_has_mem (p := 725) (by decide +kernel)) rfl rfl (pm_has_mem (p := 724) (by decide +kernel)) (pm_has_mem (p := 723) (by decide +kernel)) (by decide +kernel) rfl rfl ⟨Nat.le_of_ble_eq_true rfl, Nat.le_of_ble_eq_true rfl⟩ (Nat.le_of_ble_eq_true rfl) (Nat.le_of_ble_eq_true rfl) (Nat.le_of_ble_eq_true rfl) dL_law_8 dL_law_11 dL_law_12 (fun Am H locs hP hD hS => ?_)
  refine lv_astore_n (lv' := [(2, .ref (Am 0)), (1, .ref (Ax 0)), (0, .ref b)]) hx hb dL_law_15 rfl hl (by decide) rfl (fun ls hl => ?_)
  refine lv_iconst (v := 0) hx hb dL_law_16 (by decide) ?_
  refine lv_istore_n (lv' := [(3, .int 0), (2, .ref (Am 0)), (1, .ref (Ax 0)), (0, .ref b)]) hx hb dL_law_17 rfl hl (by decide) rfl (fun ls hl => ?_)
  obtain ⟨w1, w2⟩ := cs_woks l
  exact law_loop hL X (L + 1) 0 0 startG startK (Nat.zero_le L) (by omega) nI_0.symm start_rel w1 w2 H locs ls hP hD hS hl
