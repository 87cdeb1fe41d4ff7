/-! the small constructors, printed by gen84.py -/
def cs_s3 : PS := fun r => ([.inr (3, [none, none, none, none, none, some 1, some 2, some 3, some 4, some 5, some 6, some 7, some 8, some 9]), .inl (0, 31), .inl (0, 31), .inl (0, 31), .inl (0, 31), .inl (0, 31), .inl (0, 31), .inl (0, 31), .inl (0, 16), .inl (0, 62)] : List ((Nat × Nat) ⊕ (Nat × List (Option Nat))))[r]?
def cs_r3 : Room := { frames := 1, cells := 9, slots := 295, locals := 12 }
set_option maxHeartbeats 4000000 in
set_option maxRecDepth 100000 in
/-- TwoLives$Plan() -/
theorem cs_c3 (l : Launch) (cA : Nat → ClassId) (D : va_G) : cs_Met l yX3_init (.code yX3_init cX3_init 1 none :: pm_gw) cs_r3 cA D 3 cs_s3 10 zG 9 295 := by
  refine cs_met (ix0 := 3) (by decide) rfl rfl (pm_has_mem (p := 56) (by decide +kernel)) dX3_init_0 dX3_init_1 (by decide) (by decide) (fun p e s m args below meth cd A0 h0 ls X e0 hl hP hD hS => ?_)
  obtain ⟨hx, hb, hml, hr, hts, hnw, hown, hin, hK, hA, hlocks⟩ := id X
  refine lv_aload_n hx hb dX3_init_4 rfl (lv_at hl 0 rfl) ?_
  refine lv_bipush (v := 31) hx hb dX3_init_5 (by decide) ?_
  refine cs_newf (ci := 3) (k := 5) (ix := 9) (t := 0) (N' := 31) (ty := .int) (aty := .array .int) hx hb hts hown hin hK hP hD hS hA (by decide) (by decide) (Nat.le_of_ble_eq_true rfl) (by decide) rfl rfl rfl rfl (fun _ => rfl) (fun _ => rfl) cs_wI rfl rfl (fun _ h => h) rfl (by decide) (by decide) (by decide) (Nat.le_of_ble_eq_true rfl) (Nat.le_of_ble_eq_true rfl) dX3_init_7 dX3_init_9 (fun q7 H locs hP hD hS => ?_)
  refine lv_aload_n hx hb dX3_init_12 rfl (lv_at hl 0 rfl) ?_
  refine lv_bipush (v := 31) hx hb dX3_init_13 (by decide) ?_
  refine cs_newf (ci := 3) (k := 6) (ix := 15) (t := 0) (N' := 31) (ty := .int) (aty := .array .int) hx hb hts hown hin hK hP hD hS hA (by decide) (by decide) (Nat.le_of_ble_eq_true rfl) (by decide) rfl rfl rfl rfl (fun _ => rfl) (fun _ => rfl) cs_wI rfl rfl (fun _ h => h) rfl (by decide) (by decide) (by decide) (Nat.le_of_ble_eq_true rfl) (Nat.le_of_ble_eq_true rfl) dX3_init_15 dX3_init_17 (fun q15 H locs hP hD hS => ?_)
  refine lv_aload_n hx hb dX3_init_20 rfl (lv_at hl 0 rfl) ?_
  refine lv_bipush (v := 31) hx hb dX3_init_21 (by decide) ?_
  refine cs_newf (ci := 3) (k := 7) (ix := 18) (t := 0) (N' := 31) (ty := .int) (aty := .array .int) hx hb hts hown hin hK hP hD hS hA (by decide) (by decide) (Nat.le_of_ble_eq_true rfl) (by decide) rfl rfl rfl rfl (fun _ => rfl) (fun _ => rfl) cs_wI rfl rfl (fun _ h => h) rfl (by decide) (by decide) (by decide) (Nat.le_of_ble_eq_true rfl) (Nat.le_of_ble_eq_true rfl) dX3_init_23 dX3_init_25 (fun q23 H locs hP hD hS => ?_)
  refine lv_aload_n hx hb dX3_init_28 rfl (lv_at hl 0 rfl) ?_
  refine lv_bipush (v := 31) hx hb dX3_init_29 (by decide) ?_
  refine cs_newf (ci := 3) (k := 8) (ix := 21) (t := 0) (N' := 31) (ty := .int) (aty := .array .int) hx hb hts hown hin hK hP hD hS hA (by decide) (by decide) (Nat.le_of_ble_eq_true rfl) (by decide) rfl rfl rfl rfl (fun _ => rfl) (fun _ => rfl) cs_wI rfl rfl (fun _ h => h) rfl (by decide) (by decide) (by decide) (Nat.le_of_ble_eq_true rfl) (Nat.le_of_ble_eq_true rfl) dX3_init_31 dX3_init_33 (fun q31 H locs hP hD hS => ?_)
  refine lv_aload_n hx hb dX3_init_36 rfl (lv_at hl 0 rfl) ?_
  refine lv_bipush (v := 31) hx hb dX3_init_37 (by decide) ?_
  refine cs_newf (ci := 3) (k := 9) (ix := 24) (t := 0) (N' := 31) (ty := .int) (aty := .array .int) hx hb hts hown hin hK hP hD hS hA (by decide) (by decide) (Nat.le_of_ble_eq_true rfl) (by decide) rfl rfl rfl rfl (fun _ => rfl) (fun _ => rfl) cs_wI rfl rfl (fun _ h => h) rfl (by decide) (by decide) (by decide) (Nat.le_of_ble_eq_true rfl) (Nat.le_of_ble_eq_true rfl) dX3_init_39 dX3_init_41 (fun q39 H locs hP hD hS => ?_)
  refine lv_aload_n hx hb dX3_init_44 rfl (lv_at hl 0 rfl) ?_
  refine lv_bipush (v := 31) hx hb dX3_init_45 (by decide) ?_
  refine cs_newf (ci := 3) (k := 10) (ix := 27) (t := 0) (N' := 31) (ty := .int) (aty := .array .int) hx hb hts hown hin hK hP hD hS hA (by decide) (by decide) (Nat.le_of_ble_eq_true rfl) (by decide) rfl rfl rfl rfl (fun _ => rfl) (fun _ => rfl) cs_wI rfl rfl (fun _ h => h) rfl (by decide) (by decide) (by decide) (Nat.le_of_ble_eq_true rfl) (Nat.le_of_ble_eq_true rfl) dX3_init_47 dX3_init_49 (fun q47 H locs hP hD hS => ?_)
  refine lv_aload_n hx hb dX3_init_52 rfl (lv_at hl 0 rfl) ?_
  refine lv_bipush (v := 31) hx hb dX3_init_53 (by decide) ?_
  refine cs_newf (ci := 3) (k := 11) (ix := 30) (t := 0) (N' := 31) (ty := .int) (aty := .array .int) hx hb hts hown hin hK hP hD hS hA (by decide) (by decide) (Nat.le_of_ble_eq_true rfl) (by decide) rfl rfl rfl rfl (fun _ => rfl) (fun _ => rfl) cs_wI rfl rfl (fun _ h => h) rfl (by decide) (by decide) (by decide) (Nat.le_of_ble_eq_true rfl) (Nat.le_of_ble_eq_true rfl) dX3_init_55 dX3_init_57 (fun q55 H locs hP hD hS => ?_)
  refine lv_aload_n hx hb dX3_init_60 rfl (lv_at hl 0 rfl) ?_
  refine lv_bipush (v := 16) hx hb dX3_init_61 (by decide) ?_
  refine cs_newf (ci := 3) (k := 12) (ix := 33) (t := 0) (N' := 16) (ty := .int) (aty := .array .int) hx hb hts hown hin hK hP hD hS hA (by decide) (by decide) (Nat.le_of_ble_eq_true rfl) (by decide) rfl rfl rfl rfl (fun _ => rfl) (fun _ => rfl) cs_wI rfl rfl (fun _ h => h) rfl (by decide) (by decide) (by decide) (Nat.le_of_ble_eq_true rfl) (Nat.le_of_ble_eq_true rfl) dX3_init_63 dX3_init_65 (fun q63 H locs hP hD hS => ?_)
  refine lv_aload_n hx hb dX3_init_68 rfl (lv_at hl 0 rfl) ?_
  refine lv_bipush (v := 62) hx hb dX3_init_69 (by decide) ?_
  refine cs_newf (ci := 3) (k := 13) (ix := 36) (t := 0) (N' := 62) (ty := .int) (aty := .array .int) hx hb hts hown hin hK hP hD hS hA (by decide) (by decide) (Nat.le_of_ble_eq_true rfl) (by decide) rfl rfl rfl rfl (fun _ => rfl) (fun _ => rfl) cs_wI rfl rfl (fun _ h => h) rfl (by decide) (by decide) (by decide) (Nat.le_of_ble_eq_true rfl) (Nat.le_of_ble_eq_true rfl) dX3_init_71 dX3_init_73 (fun q71 H locs hP hD hS => ?_)
  exact cs_vret (fun r => ([h0, q7, q15, q23, q31, q39, q47, q55, q63, q71] : List Nat).getD r 0) X hP hD hS rfl dX3_init_76
def cs_s0 : PS := fun r => ([.inr (0, [some 1, some 11, some 12, some 13, some 14, some 15]), .inr (3, [none, none, none, none, none, some 2, some 3, some 4, some 5, some 6, some 7, some 8, some 9, some 10]), .inl (0, 31), .inl (0, 31), .inl (0, 31), .inl (0, 31), .inl (0, 31), .inl (0, 31), .inl (0, 31), .inl (0, 16), .inl (0, 62), .inl (0, 31), .inl (0, 16), .inl (0, 62), .inl (0, 31), .inl (0, 31)] : List ((Nat × Nat) ⊕ (Nat × List (Option Nat))))[r]?
def cs_r0 : Room := { frames := 2, cells := 15, slots := 480, locals := 32 }
set_option maxHeartbeats 4000000 in
set_option maxRecDepth 100000 in
/-- TwoLives$Bracket() -/
theorem cs_c0 (l : Launch) (cA : Nat → ClassId) (D : va_G) : cs_Met l yX0_init (.code yX0_init cX0_init 1 none :: pm_gw) cs_r0 cA D 0 cs_s0 16 zG 15 480 := by
  refine cs_met (ix0 := 3) (by decide) rfl rfl (pm_has_mem (p := 50) (by decide +kernel)) dX0_init_0 dX0_init_1 (by decide) (by decide) (fun p e s m args below meth cd A0 h0 ls X e0 hl hP hD hS => ?_)
  obtain ⟨hx, hb, hml, hr, hts, hnw, hown, hin, hK, hA, hlocks⟩ := id X
  refine lv_aload_n hx hb dX0_init_4 rfl (lv_at hl 0 rfl) ?_
  refine cs_newN (own := pm_rc 0) (host := "TwoLives") (ci := 3) (ix1 := 9) (ix2 := 11) hx hb hml hl.1 hts hnw hown hK hP hD hS hA (by decide) (pm_has_mem (p := 51) (by decide +kernel)) (pm_has_mem (p := 52) (by decide +kernel)) (pm_has_mem (p := 33) (by decide +kernel)) (cs_c3 l cA D) (pm_has_mem (p := 55) (by decide +kernel)) rfl rfl (pm_has_mem (p := 54) (by decide +kernel)) (pm_hasN_mem (p := 53) (by decide +kernel) rfl) (by decide +kernel) rfl rfl ⟨Nat.le_of_ble_eq_true rfl, Nat.le_of_ble_eq_true rfl⟩ (Nat.le_of_ble_eq_true rfl) (Nat.le_of_ble_eq_true rfl) (Nat.le_of_ble_eq_true rfl) dX0_init_5 dX0_init_8 dX0_init_9 (fun u5 H locs hP hD hS => ?_)
  refine cs_putF (ci := 0) (k := 0) (ix := 12) (aty := .object "TwoLives$Plan") hx hb hts hown hin hK hP hD hS (by decide) (by decide) (Nat.le_of_ble_eq_true rfl) (by decide) rfl rfl rfl rfl rfl rfl dX0_init_12 (fun H locs hP hD hS => ?_)
  refine lv_aload_n hx hb dX0_init_15 rfl (lv_at hl 0 rfl) ?_
  refine lv_bipush (v := 31) hx hb dX0_init_16 (by decide) ?_
  refine cs_newf (ci := 0) (k := 1) (ix := 18) (t := 0) (N' := 31) (ty := .int) (aty := .array .int) hx hb hts hown hin hK hP hD hS hA (by decide) (by decide) (Nat.le_of_ble_eq_true rfl) (by decide) rfl rfl rfl rfl (fun _ => rfl) (fun _ => rfl) cs_wI rfl rfl (fun _ h => h) rfl (by decide) (by decide) (by decide) (Nat.le_of_ble_eq_true rfl) (Nat.le_of_ble_eq_true rfl) dX0_init_18 dX0_init_20 (fun q18 H locs hP hD hS => ?_)
  refine lv_aload_n hx hb dX0_init_23 rfl (lv_at hl 0 rfl) ?_
  refine lv_bipush (v := 16) hx hb dX0_init_24 (by decide) ?_
  refine cs_newf (ci := 0) (k := 2) (ix := 22) (t := 0) (N' := 16) (ty := .int) (aty := .array .int) hx hb hts hown hin hK hP hD hS hA (by decide) (by decide) (Nat.le_of_ble_eq_true rfl) (by decide) rfl rfl rfl rfl (fun _ => rfl) (fun _ => rfl) cs_wI rfl rfl (fun _ h => h) rfl (by decide) (by decide) (by decide) (Nat.le_of_ble_eq_true rfl) (Nat.le_of_ble_eq_true rfl) dX0_init_26 dX0_init_28 (fun q26 H locs hP hD hS => ?_)
  refine lv_aload_n hx hb dX0_init_31 rfl (lv_at hl 0 rfl) ?_
  refine lv_bipush (v := 62) hx hb dX0_init_32 (by decide) ?_
  refine cs_newf (ci := 0) (k := 3) (ix := 25) (t := 0) (N' := 62) (ty := .int) (aty := .array .int) hx hb hts hown hin hK hP hD hS hA (by decide) (by decide) (Nat.le_of_ble_eq_true rfl) (by decide) rfl rfl rfl rfl (fun _ => rfl) (fun _ => rfl) cs_wI rfl rfl (fun _ h => h) rfl (by decide) (by decide) (by decide) (Nat.le_of_ble_eq_true rfl) (Nat.le_of_ble_eq_true rfl) dX0_init_34 dX0_init_36 (fun q34 H locs hP hD hS => ?_)
  refine lv_aload_n hx hb dX0_init_39 rfl (lv_at hl 0 rfl) ?_
  refine lv_bipush (v := 31) hx hb dX0_init_40 (by decide) ?_
  refine cs_newf (ci := 0) (k := 4) (ix := 28) (t := 0) (N' := 31) (ty := .int) (aty := .array .int) hx hb hts hown hin hK hP hD hS hA (by decide) (by decide) (Nat.le_of_ble_eq_true rfl) (by decide) rfl rfl rfl rfl (fun _ => rfl) (fun _ => rfl) cs_wI rfl rfl (fun _ h => h) rfl (by decide) (by decide) (by decide) (Nat.le_of_ble_eq_true rfl) (Nat.le_of_ble_eq_true rfl) dX0_init_42 dX0_init_44 (fun q42 H locs hP hD hS => ?_)
  refine lv_aload_n hx hb dX0_init_47 rfl (lv_at hl 0 rfl) ?_
  refine lv_bipush (v := 31) hx hb dX0_init_48 (by decide) ?_
  refine cs_newf (ci := 0) (k := 5) (ix := 31) (t := 0) (N' := 31) (ty := .int) (aty := .array .int) hx hb hts hown hin hK hP hD hS hA (by decide) (by decide) (Nat.le_of_ble_eq_true rfl) (by decide) rfl rfl rfl rfl (fun _ => rfl) (fun _ => rfl) cs_wI rfl rfl (fun _ h => h) rfl (by decide) (by decide) (by decide) (Nat.le_of_ble_eq_true rfl) (Nat.le_of_ble_eq_true rfl) dX0_init_50 dX0_init_52 (fun q50 H locs hP hD hS => ?_)
  exact cs_vret (fun r => ([h0, u5 0, u5 1, u5 2, u5 3, u5 4, u5 5, u5 6, u5 7, u5 8, u5 9, q18, q26, q34, q42, q50] : List Nat).getD r 0) X hP hD hS rfl dX0_init_55
def cs_s1 : PS := fun r => ([.inr (1, [some 1, none]), .inl (0, 47)] : List ((Nat × Nat) ⊕ (Nat × List (Option Nat))))[r]?
def cs_r1 : Room := { frames := 1, cells := 1, slots := 47, locals := 12 }
set_option maxHeartbeats 4000000 in
set_option maxRecDepth 100000 in
/-- TwoLives$History() -/
theorem cs_c1 (l : Launch) (cA : Nat → ClassId) (D : va_G) : cs_Met l yX1_init (.code yX1_init cX1_init 1 none :: pm_gw) cs_r1 cA D 1 cs_s1 2 zG 1 47 := by
  refine cs_met (ix0 := 3) (by decide) rfl rfl (pm_has_mem (p := 142) (by decide +kernel)) dX1_init_0 dX1_init_1 (by decide) (by decide) (fun p e s m args below meth cd A0 h0 ls X e0 hl hP hD hS => ?_)
  obtain ⟨hx, hb, hml, hr, hts, hnw, hown, hin, hK, hA, hlocks⟩ := id X
  refine lv_aload_n hx hb dX1_init_4 rfl (lv_at hl 0 rfl) ?_
  refine lv_bipush (v := 47) hx hb dX1_init_5 (by decide) ?_
  refine cs_newf (ci := 1) (k := 0) (ix := 9) (t := 0) (N' := 47) (ty := .int) (aty := .array .int) hx hb hts hown hin hK hP hD hS hA (by decide) (by decide) (Nat.le_of_ble_eq_true rfl) (by decide) rfl rfl rfl rfl (fun _ => rfl) (fun _ => rfl) cs_wI rfl rfl (fun _ h => h) rfl (by decide) (by decide) (by decide) (Nat.le_of_ble_eq_true rfl) (Nat.le_of_ble_eq_true rfl) dX1_init_7 dX1_init_9 (fun q7 H locs hP hD hS => ?_)
  exact cs_vret (fun r => ([h0, q7] : List Nat).getD r 0) X hP hD hS rfl dX1_init_12
def cs_s2 : PS := fun r => ([.inr (2, [some 1, none, none, none]), .inl (1, 60)] : List ((Nat × Nat) ⊕ (Nat × List (Option Nat))))[r]?
def cs_r2 : Room := { frames := 1, cells := 1, slots := 60, locals := 12 }
set_option maxHeartbeats 4000000 in
set_option maxRecDepth 100000 in
/-- TwoLives$Pad() -/
theorem cs_c2 (l : Launch) (cA : Nat → ClassId) (D : va_G) : cs_Met l yX2_init (.code yX2_init cX2_init 1 none :: pm_gw) cs_r2 cA D 2 cs_s2 2 zG 1 60 := by
  refine cs_met (ix0 := 3) (by decide) rfl rfl (pm_has_mem (p := 156) (by decide +kernel)) dX2_init_0 dX2_init_1 (by decide) (by decide) (fun p e s m args below meth cd A0 h0 ls X e0 hl hP hD hS => ?_)
  obtain ⟨hx, hb, hml, hr, hts, hnw, hown, hin, hK, hA, hlocks⟩ := id X
  refine lv_aload_n hx hb dX2_init_4 rfl (lv_at hl 0 rfl) ?_
  refine lv_bipush (v := 60) hx hb dX2_init_5 (by decide) ?_
  refine cs_newf (ci := 2) (k := 0) (ix := 9) (t := 1) (N' := 60) (ty := .char) (aty := .array .char) hx hb hts hown hin hK hP hD hS hA (by decide) (by decide) (Nat.le_of_ble_eq_true rfl) (by decide) rfl rfl rfl rfl (fun _ => rfl) (fun _ => rfl) cs_wC rfl rfl (fun _ h => h) rfl (by decide) (by decide) (by decide) (Nat.le_of_ble_eq_true rfl) (Nat.le_of_ble_eq_true rfl) dX2_init_7 dX2_init_9 (fun q7 H locs hP hD hS => ?_)
  exact cs_vret (fun r => ([h0, q7] : List Nat).getD r 0) X hP hD hS rfl dX2_init_12
def cs_s4 : PS := fun r => ([.inr (4, [none, none, none, some 1, some 2]), .inl (0, 16), .inr (1, [some 3, none]), .inl (0, 47)] : List ((Nat × Nat) ⊕ (Nat × List (Option Nat))))[r]?
def cs_r4 : Room := { frames := 2, cells := 3, slots := 65, locals := 32 }
set_option maxHeartbeats 4000000 in
set_option maxRecDepth 100000 in
/-- TwoLives$Slot() -/
theorem cs_c4 (l : Launch) (cA : Nat → ClassId) (D : va_G) : cs_Met l yX4_init (.code yX4_init cX4_init 1 none :: pm_gw) cs_r4 cA D 4 cs_s4 4 zG 3 65 := by
  refine cs_met (ix0 := 3) (by decide) rfl rfl (pm_has_mem (p := 174) (by decide +kernel)) dX4_init_0 dX4_init_1 (by decide) (by decide) (fun p e s m args below meth cd A0 h0 ls X e0 hl hP hD hS => ?_)
  obtain ⟨hx, hb, hml, hr, hts, hnw, hown, hin, hK, hA, hlocks⟩ := id X
  refine lv_aload_n hx hb dX4_init_4 rfl (lv_at hl 0 rfl) ?_
  refine lv_bipush (v := 16) hx hb dX4_init_5 (by decide) ?_
  refine cs_newf (ci := 4) (k := 3) (ix := 9) (t := 0) (N' := 16) (ty := .int) (aty := .array .int) hx hb hts hown hin hK hP hD hS hA (by decide) (by decide) (Nat.le_of_ble_eq_true rfl) (by decide) rfl rfl rfl rfl (fun _ => rfl) (fun _ => rfl) cs_wI rfl rfl (fun _ h => h) rfl (by decide) (by decide) (by decide) (Nat.le_of_ble_eq_true rfl) (Nat.le_of_ble_eq_true rfl) dX4_init_7 dX4_init_9 (fun q7 H locs hP hD hS => ?_)
  refine lv_aload_n hx hb dX4_init_12 rfl (lv_at hl 0 rfl) ?_
  refine cs_newN (own := pm_rc 4) (host := "TwoLives") (ci := 1) (ix1 := 15) (ix2 := 17) hx hb hml hl.1 hts hnw hown hK hP hD hS hA (by decide) (pm_has_mem (p := 175) (by decide +kernel)) (pm_has_mem (p := 138) (by decide +kernel)) (pm_has_mem (p := 34) (by decide +kernel)) (cs_c1 l cA D) (pm_has_mem (p := 141) (by decide +kernel)) rfl rfl (pm_has_mem (p := 140) (by decide +kernel)) (pm_hasN_mem (p := 176) (by decide +kernel) rfl) (by decide +kernel) rfl rfl ⟨Nat.le_of_ble_eq_true rfl, Nat.le_of_ble_eq_true rfl⟩ (Nat.le_of_ble_eq_true rfl) (Nat.le_of_ble_eq_true rfl) (Nat.le_of_ble_eq_true rfl) dX4_init_13 dX4_init_16 dX4_init_17 (fun u13 H locs hP hD hS => ?_)
  refine cs_putF (ci := 4) (k := 4) (ix := 18) (aty := .object "TwoLives$History") hx hb hts hown hin hK hP hD hS (by decide) (by decide) (Nat.le_of_ble_eq_true rfl) (by decide) rfl rfl rfl rfl rfl rfl dX4_init_20 (fun H locs hP hD hS => ?_)
  exact cs_vret (fun r => ([h0, q7, u13 0, u13 1] : List Nat).getD r 0) X hP hD hS rfl dX4_init_23
