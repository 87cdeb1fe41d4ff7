/-! how the class decides a match, and settles all -/
theorem c_decide_L {m : Nat} {sd kd : Int} {G : PW} (hm : m < 31) (hs : sd = 0 ∨ sd = 1) (hz : G 4 2 = 4 ∨ G 4 2 = 8 ∨ G 4 2 = 16) : pm_ca pm_sC 12 [.inr (.inr 3), .inl (m : Int), .inl sd, .inl kd] G = some (none, pm_b3 G 3 (bdec (G 8) (G 9) (2 * G 4 2 - 1).toNat m sd kd (pm_rows G 3))) := by
  have hm0 : (0 : Int) ≤ (m : Int) := by omega
  have hm1 : (m : Int) < 31 := by omega
  have hm2 : (m : Int) ≤ 400 := by omega
  have e1 : (2 * (m : Int) + sd).toNat = 2 * m + sd.toNat := by omega
  have e2 : (2 * (m : Int) + (1 - sd)).toNat = 2 * m + (1 - sd).toNat := by omega
  have e3 : ((m : Int)).toNat = m := by omega
  have q1 := fun G => c_seat (m := (m : Int)) (s := sd) (G := G) (by omega) (by omega) (by omega) (by omega)
  have q2 := fun G => c_seat (m := (m : Int)) (s := 1 - sd) (G := G) (by omega) (by omega) (by omega) (by omega)
  have a1 := atv_in (S := pm_sC) (G := G) (i := 2 * (m : Int) + sd) lenC_16 (by omega) (by omega)
  have a2 := atv_in (S := pm_sC) (G := G) (i := 2 * (m : Int) + (1 - sd)) lenC_16 (by omega) (by omega)
  have a3 := atv_in (S := pm_sC) (G := G) (i := (m : Int)) lenC_8 (by omega) (by omega)
  have a4 := atv_in (S := pm_sC) (G := G) (i := (m : Int)) lenC_9 (by omega) (by omega)
  rw [e1] at a1
  rw [e2] at a2
  rw [e3] at a3 a4
  have f1 : ∀ M : PW, M 4 = G 4 → pm_ca pm_sC 36 [.inr (.inr 4)] M = some (some (.inl (2 * G 4 2 - 3)), M) := fun M h => by
    rw [c_firstFinal_L (by rw [h]; omega) (by rw [h]; omega), h]
  have f2 : ∀ M : PW, M 4 = G 4 → pm_ca pm_sC 37 [.inr (.inr 4)] M = some (some (.inl (2 * G 4 2 - 2)), M) := fun M h => by
    rw [c_secondFinal_L (by rw [h]; omega) (by rw [h]; omega), h]
  have q3 := fun M => c_seat (m := 2 * G 4 2 - 2) (s := 0) (G := M) (by omega) (by omega) (by omega) (by omega)
  have q4 := fun M => c_seat (m := 2 * G 4 2 - 2) (s := 1) (G := M) (by omega) (by omega) (by omega) (by omega)
  simp (disch := first | assumption | omega | (simp (disch := omega) only [stv_ne, upd_ne])) only [ue_12, u_12_0, u_12_1, u_12_4, u_12_5, u_12_6, u_12_9, u_12_12, u_12_14, u_12_15, u_12_18, u_12_19, u_12_20, u_12_21, u_12_22, u_12_25, u_12_28, u_12_30, u_12_31, u_12_34, u_12_35, u_12_36, u_12_39, u_12_40, u_12_43, u_12_44, u_12_45, u_12_48, u_12_49, u_12_52, u_12_53, u_12_56, u_12_59, u_12_60, u_12_63, u_12_65, u_12_68, u_12_69, u_12_72, u_12_73, u_12_76, u_12_79, u_12_80, u_12_83, u_12_85, u_12_88, u_12_89, u_12_90, u_12_93, u_12_96, u_12_99, u_12_100, u_12_101, u_12_104, u_12_105, u_12_108, u_12_109, u_12_112, u_12_115, u_12_116, u_12_119, u_12_121, u_12_124, u_12_125, u_12_128, u_12_129, u_12_132, u_12_135, u_12_136, u_12_139, u_12_141, u_12_144, uc_36_4_0, uc_36_4_1, uc_36_4_2, uc_36_4_3, uc_36_20_0, uc_36_20_1, uc_36_20_2, uc_36_20_3, uc_37_4_0, uc_37_4_1, uc_37_4_2, uc_37_4_3, uc_37_20_0, uc_37_20_1, uc_37_20_2, uc_37_20_3, uc_76_s_0, uc_76_s_1, uc_76_s_2, uc_76_s_3, uc_77_s_0, uc_77_s_1, uc_77_s_2, uc_77_s_3, uc_79_s_0, uc_79_s_1, uc_79_s_2, uc_79_s_3, q1, q2, q3, q4, ca_16, ca_8, ca_9, cs_17, cs_18, cs_16, a1, a2, a3, a4, atv_ne, stv_ne, f1, f2, if_true, if_false, pm_go_n, pm_go_c, pm_go_r, pm_go_i, pm_oIL, pm_oLL, pm_oAL, pm_oIS, pm_oLS, pm_oAS, pm_oK, pm_oKL, pe_add, pe_sub, pe_mul, pe_div, pe_rem, pe_shr, pe_and, pm_or_ok, pm_oInc, pe_rgb, pe_if, pe_ic, pe_b1, pe_nn, pe_eq, pe_ne, pe_lt, pe_ge, pe_gt, pe_le, pe_go, pe_ri0, pe_ri1, pe_ri2, pe_i2c, pm_oRv, pm_oGf, pm_oLen, pm_oDup, pm_oDu2, pm_oPop, pm_oL2i, pm_oLand, pm_oLus, pm_oLsh, pm_oLcm, lk_0, lk_1, lk_2, lk_3, lk_4, lk_5, lk_6, lk_7, lk_8, lk_9, lk_10, lk_11, lk_12, lk_13, st_0, st_1n, st_1i, st_1r, st_2, st_3, st_4, st_5, st_6, st_7, st_8, st_9, st_10, st_11, st_12, st_13, Option.toList_some, Option.toList_none, List.cons_append, List.nil_append, shC_fd0_0, shC_fd0_1, shC_fd0_2, shC_fd0_3, shC_fd0_4, shC_fd0_5, shC_fd0_6, shC_fd0_7, shC_al1, shC_ld1, shC_st1, shC_al2, shC_ld2, shC_st2, shC_fd3_0, shC_fd3_1, shC_fd3_2, shC_fd3_3, shC_fd3_4, shC_fd3_5, shC_fd4_0, shC_pf4_0, shC_fd4_1, shC_pf4_1, shC_fd4_2, shC_pf4_2, shC_fd4_3, shC_pf4_3, shC_fd4_4, shC_pf4_4, shC_fd4_5, shC_fd4_6, shC_fd4_7, shC_fd4_8, shC_fd4_9, shC_fd4_10, shC_fd4_11, shC_fd4_12, shC_fd4_13, shC_al5, shC_ld5, shC_st5, shC_al6, shC_ld6, shC_st6, shC_al7, shC_ld7, shC_st7, shC_al8, shC_ld8, shC_st8, shC_al9, shC_ld9, shC_st9, shC_al10, shC_ld10, shC_st10, shC_al11, shC_ld11, shC_st11, shC_al12, shC_ld12, shC_st12, shC_al13, shC_ld13, shC_st13, shC_al14, shC_ld14, shC_st14, shC_al15, shC_ld15, shC_st15, shC_al16, shC_ld16, shC_st16, shC_al17, shC_ld17, shC_st17, shC_al18, shC_ld18, shC_st18, shC_fd19_0, shC_fd19_1, shC_fd19_2, shC_fd19_3, shC_fd19_4, shC_fd19_5, shC_fd20_0, shC_pf20_0, shC_fd20_1, shC_pf20_1, shC_fd20_2, shC_pf20_2, shC_fd20_3, shC_pf20_3, shC_fd20_4, shC_pf20_4, shC_fd20_5, shC_fd20_6, shC_fd20_7, shC_fd20_8, shC_fd20_9, shC_fd20_10, shC_fd20_11, shC_fd20_12, shC_fd20_13, shC_al21, shC_ld21, shC_st21, shC_al22, shC_ld22, shC_st22, shC_al23, shC_ld23, shC_st23, shC_al24, shC_ld24, shC_st24, shC_al25, shC_ld25, shC_st25, shC_al26, shC_ld26, shC_st26, shC_al27, shC_ld27, shC_st27, shC_al28, shC_ld28, shC_st28, shC_al29, shC_ld29, shC_st29, shC_al30, shC_ld30, shC_st30, shC_al31, shC_ld31, shC_st31, shC_al32, shC_ld32, shC_st32, shC_al33, shC_ld33, shC_st33, shC_al34, shC_ld34, shC_st34, shC_fd35_0, shC_fd35_1, shC_pf35_1, shC_al36, shC_ld36, shC_st36, shC_fd37_0, shC_fd37_1, shC_pf37_1, shC_fd37_2, shC_pf37_2, shC_fd37_3, shC_pf37_3, shC_al38, shC_ld38, shC_st38, shC_fd39_0, shC_pf39_0, shC_fd39_1, shC_pf39_1, shC_fd39_2, shC_pf39_2, shC_fd39_3, shC_fd39_4, shC_al40, shC_ld40, shC_st40, shC_fd41_0, shC_fd41_1, shC_pf41_1, shC_al42, shC_ld42, shC_st42, shC_fd43_0, shC_pf43_0, shC_fd43_1, shC_pf43_1, shC_fd43_2, shC_pf43_2, shC_fd43_3, shC_fd43_4, shC_al44, shC_ld44, shC_st44, shC_fd45_0, shC_fd45_1, shC_pf45_1, shC_al46, shC_ld46, shC_st46]
  by_cases c1 : (m : Int) = 2 * G 4 2 - 3
  · by_cases c2 : sd = 1
    · rw [if_neg (fun h => h c1), if_neg (fun h => h c2)]
      congr 2
      have d1 : m + 2 = (2 * G 4 2 - 1).toNat := by omega
      have d2 : (2 * (2 * G 4 2 - 2) + 0).toNat = 2 * (m + 1) := by omega
      have d3 : (2 * (2 * G 4 2 - 2) + 1).toNat = 2 * (m + 1) + 1 := by omega
      refine pm_b3_of (fun r h1 h2 h3 => ?_) ?_ ?_ ?_
      · simp (disch := omega) only [stv_ne]
      · show pm_stv _ _ _ _ _ 16 = _
        simp (disch := omega) only [stv_ne, stv_eq, lenC_16, stf_bput, bdec, pm_rows, d1, c2, if_pos, and_self]
        simp (disch := omega) only [bput, if_pos, d2, d3, and_self]
        rfl
      · show pm_stv _ _ _ _ _ 17 = _
        simp (disch := omega) only [stv_ne, stv_eq, lenC_17, stf_in, bdec, pm_rows, e3]
      · show pm_stv _ _ _ _ _ 18 = _
        simp (disch := omega) only [stv_ne, stv_eq, lenC_18, stf_in, bdec, pm_rows, e3]
    · rw [if_neg (fun h => h c1), if_pos c2]
      congr 2
      refine pm_b3_of (fun r h1 h2 h3 => ?_) ?_ ?_ ?_
      · simp (disch := omega) only [stv_ne]
      · show pm_stv _ _ _ _ _ 16 = _
        simp (disch := omega) only [stv_ne, stv_eq, lenC_16, stf_bput, bdec, pm_rows, if_neg (fun h : m + 2 = (2 * G 4 2 - 1).toNat ∧ sd = 1 => c2 h.2)]
      · show pm_stv _ _ _ _ _ 17 = _
        simp (disch := omega) only [stv_ne, stv_eq, lenC_17, stf_in, bdec, pm_rows, e3]
      · show pm_stv _ _ _ _ _ 18 = _
        simp (disch := omega) only [stv_ne, stv_eq, lenC_18, stf_in, bdec, pm_rows, e3]
  · rw [if_pos c1]
    congr 2
    have d1 : ¬ m + 2 = (2 * G 4 2 - 1).toNat := by omega
    refine pm_b3_of (fun r h1 h2 h3 => ?_) ?_ ?_ ?_
    · simp (disch := omega) only [stv_ne]
    · show pm_stv _ _ _ _ _ 16 = _
      simp (disch := omega) only [stv_ne, stv_eq, lenC_16, stf_bput, bdec, pm_rows, if_neg (fun h : m + 2 = (2 * G 4 2 - 1).toNat ∧ sd = 1 => d1 h.1)]
    · show pm_stv _ _ _ _ _ 17 = _
      simp (disch := omega) only [stv_ne, stv_eq, lenC_17, stf_in, bdec, pm_rows, e3]
    · show pm_stv _ _ _ _ _ 18 = _
      simp (disch := omega) only [stv_ne, stv_eq, lenC_18, stf_in, bdec, pm_rows, e3]
theorem c_settleMatch_L {m : Nat} {G : PW} (hm : m < 31) (hR : G 14 m = -6 ∨ G 14 m = 0 ∨ G 14 m = 1) (hz : G 4 2 = 4 ∨ G 4 2 = 8 ∨ G 4 2 = 16) : pm_ca pm_sC 11 [.inr (.inr 3), .inl (m : Int)] G = some (none, pm_b3 G 3 (bstep (G 8) (G 9) (2 * G 4 2 - 1).toNat (G 14) (G 15) m (pm_rows G 3))) := by
  have hm0 : (0 : Int) ≤ (m : Int) := by omega
  have hm1 : (m : Int) < 31 := by omega
  have e3 : ((m : Int)).toNat = m := by omega
  have e1 : (2 * (m : Int) + 0).toNat = 2 * m := by omega
  have e2 : (2 * (m : Int) + 1).toNat = 2 * m + 1 := by omega
  have a1 := atv_in (S := pm_sC) (G := G) (i := 2 * (m : Int) + 0) lenC_16 (by omega) (by omega)
  have a2 := atv_in (S := pm_sC) (G := G) (i := 2 * (m : Int) + 1) lenC_16 (by omega) (by omega)
  have a3 := atv_in (S := pm_sC) (G := G) (i := (m : Int)) lenC_17 (by omega) (by omega)
  have a4 := atv_in (S := pm_sC) (G := G) (i := (m : Int)) lenC_14 (by omega) (by omega)
  rw [e1] at a1
  rw [e2] at a2
  rw [e3] at a3 a4
  have g1 : ∀ x : Int, (pm_atv pm_sC G 15 x = 1) = gon (G 15) x := fun x => by
    unfold pm_atv gon
    rw [lenC_15]
    by_cases h : 0 ≤ x ∧ x < 16
    · rw [if_pos h]; simp [h.1, h.2]
    · rw [if_neg h]
      have : ¬ (0 ≤ x ∧ x < 16 ∧ G 15 x.toNat = 1) := fun z => h ⟨z.1, z.2.1⟩
      simp [this]
  have s0 : pm_rows G 3 = (G 16, G 17, G 18) := rfl
  have d := fun sd kd h => c_decide_L (m := m) (sd := sd) (kd := kd) (G := G) hm h hz
  have d0 := fun kd => d 0 kd (Or.inl rfl)
  have d1 := fun kd => d 1 kd (Or.inr rfl)
  have t1 : (pm_rows G 3).1 = G 16 := rfl
  have t2 : (pm_rows G 3).2.1 = G 17 := rfl
  have run : pm_ca pm_sC 11 [.inr (.inr 3), .inl (m : Int)] G = some (none, pm_b3 G 3 (bstep (G 8) (G 9) (2 * G 4 2 - 1).toNat (G 14) (G 15) m (pm_rows G 3))) := by
    rcases hR with hR | hR | hR <;>
    · simp (disch := first | assumption | omega | (simp (disch := omega) only [stv_ne, upd_ne])) only [ue_11, u_11_0, u_11_1, u_11_2, u_11_3, u_11_6, u_11_7, u_11_8, u_11_9, u_11_10, u_11_13, u_11_14, u_11_15, u_11_16, u_11_19, u_11_22, u_11_23, u_11_25, u_11_28, u_11_29, u_11_31, u_11_34, u_11_35, u_11_36, u_11_39, u_11_40, u_11_43, u_11_45, u_11_46, u_11_48, u_11_51, u_11_52, u_11_54, u_11_57, u_11_58, u_11_59, u_11_60, u_11_62, u_11_65, u_11_66, u_11_69, u_11_70, u_11_71, u_11_74, u_11_77, u_11_79, u_11_81, u_11_84, u_11_85, u_11_86, u_11_88, u_11_89, u_11_92, u_11_95, u_11_96, u_11_97, u_11_100, u_11_103, u_11_104, u_11_105, u_11_108, u_11_111, u_11_112, u_11_113, u_11_114, u_11_115, u_11_118, u_11_121, u_11_122, u_11_125, u_11_126, u_11_127, u_11_130, uc_4_3_0, uc_4_3_1, uc_4_3_2, uc_4_3_3, uc_4_19_0, uc_4_19_1, uc_4_19_2, uc_4_19_3, uc_5_3_0, uc_5_3_1, uc_5_3_2, uc_5_3_3, uc_5_19_0, uc_5_19_1, uc_5_19_2, uc_5_19_3, uc_6_3_0, uc_6_3_1, uc_6_3_2, uc_6_3_3, uc_6_19_0, uc_6_19_1, uc_6_19_2, uc_6_19_3, uc_12_3_0, uc_12_3_1, uc_12_3_2, uc_12_3_3, uc_12_19_0, uc_12_19_1, uc_12_19_2, uc_12_19_3, uc_76_s_0, uc_76_s_1, uc_76_s_2, uc_76_s_3, c_sideOf_L, c_howDecided_L, c_isGone_L, ca_14, a1, a2, a3, a4, g1, d0, d1, hR, if_true, if_false, pm_go_n, pm_go_c, pm_go_r, pm_go_i, pm_oIL, pm_oLL, pm_oAL, pm_oIS, pm_oLS, pm_oAS, pm_oK, pm_oKL, pe_add, pe_sub, pe_mul, pe_div, pe_rem, pe_shr, pe_and, pm_or_ok, pm_oInc, pe_rgb, pe_if, pe_ic, pe_b1, pe_nn, pe_eq, pe_ne, pe_lt, pe_ge, pe_gt, pe_le, pe_go, pe_ri0, pe_ri1, pe_ri2, pe_i2c, pm_oRv, pm_oGf, pm_oLen, pm_oDup, pm_oDu2, pm_oPop, pm_oL2i, pm_oLand, pm_oLus, pm_oLsh, pm_oLcm, lk_0, lk_1, lk_2, lk_3, lk_4, lk_5, lk_6, lk_7, lk_8, lk_9, lk_10, lk_11, lk_12, lk_13, st_0, st_1n, st_1i, st_1r, st_2, st_3, st_4, st_5, st_6, st_7, st_8, st_9, st_10, st_11, st_12, st_13, Option.toList_some, Option.toList_none, List.cons_append, List.nil_append, shC_fd0_0, shC_fd0_1, shC_fd0_2, shC_fd0_3, shC_fd0_4, shC_fd0_5, shC_fd0_6, shC_fd0_7, shC_al1, shC_ld1, shC_st1, shC_al2, shC_ld2, shC_st2, shC_fd3_0, shC_fd3_1, shC_fd3_2, shC_fd3_3, shC_fd3_4, shC_fd3_5, shC_fd4_0, shC_pf4_0, shC_fd4_1, shC_pf4_1, shC_fd4_2, shC_pf4_2, shC_fd4_3, shC_pf4_3, shC_fd4_4, shC_pf4_4, shC_fd4_5, shC_fd4_6, shC_fd4_7, shC_fd4_8, shC_fd4_9, shC_fd4_10, shC_fd4_11, shC_fd4_12, shC_fd4_13, shC_al5, shC_ld5, shC_st5, shC_al6, shC_ld6, shC_st6, shC_al7, shC_ld7, shC_st7, shC_al8, shC_ld8, shC_st8, shC_al9, shC_ld9, shC_st9, shC_al10, shC_ld10, shC_st10, shC_al11, shC_ld11, shC_st11, shC_al12, shC_ld12, shC_st12, shC_al13, shC_ld13, shC_st13, shC_al14, shC_ld14, shC_st14, shC_al15, shC_ld15, shC_st15, shC_al16, shC_ld16, shC_st16, shC_al17, shC_ld17, shC_st17, shC_al18, shC_ld18, shC_st18, shC_fd19_0, shC_fd19_1, shC_fd19_2, shC_fd19_3, shC_fd19_4, shC_fd19_5, shC_fd20_0, shC_pf20_0, shC_fd20_1, shC_pf20_1, shC_fd20_2, shC_pf20_2, shC_fd20_3, shC_pf20_3, shC_fd20_4, shC_pf20_4, shC_fd20_5, shC_fd20_6, shC_fd20_7, shC_fd20_8, shC_fd20_9, shC_fd20_10, shC_fd20_11, shC_fd20_12, shC_fd20_13, shC_al21, shC_ld21, shC_st21, shC_al22, shC_ld22, shC_st22, shC_al23, shC_ld23, shC_st23, shC_al24, shC_ld24, shC_st24, shC_al25, shC_ld25, shC_st25, shC_al26, shC_ld26, shC_st26, shC_al27, shC_ld27, shC_st27, shC_al28, shC_ld28, shC_st28, shC_al29, shC_ld29, shC_st29, shC_al30, shC_ld30, shC_st30, shC_al31, shC_ld31, shC_st31, shC_al32, shC_ld32, shC_st32, shC_al33, shC_ld33, shC_st33, shC_al34, shC_ld34, shC_st34, shC_fd35_0, shC_fd35_1, shC_pf35_1, shC_al36, shC_ld36, shC_st36, shC_fd37_0, shC_fd37_1, shC_pf37_1, shC_fd37_2, shC_pf37_2, shC_fd37_3, shC_pf37_3, shC_al38, shC_ld38, shC_st38, shC_fd39_0, shC_pf39_0, shC_fd39_1, shC_pf39_1, shC_fd39_2, shC_pf39_2, shC_fd39_3, shC_fd39_4, shC_al40, shC_ld40, shC_st40, shC_fd41_0, shC_fd41_1, shC_pf41_1, shC_al42, shC_ld42, shC_st42, shC_fd43_0, shC_pf43_0, shC_fd43_1, shC_pf43_1, shC_fd43_2, shC_pf43_2, shC_fd43_3, shC_fd43_4, shC_al44, shC_ld44, shC_st44, shC_fd45_0, shC_fd45_1, shC_pf45_1, shC_al46, shC_ld46, shC_st46]
      unfold bstep
      simp only [t1, t2, hR, ne_eq]
      by_cases c1 : G 17 m = 0
      · by_cases c2 : G 16 (2 * m) = -6
        · simp only [c1, c2, not_true, not_false_eq_true, if_true, if_false, true_or, or_true, pm_b3_id]
        · by_cases c3 : G 16 (2 * m + 1) = -6
          · simp only [c1, c2, c3, not_true, not_false_eq_true, if_true, if_false, true_or, or_true, pm_b3_id]
          · by_cases c4 : G 16 (2 * m) = 16
            · by_cases c5 : G 16 (2 * m + 1) = 16
              · simp [c1, c2, c3, c4, c5]
              · simp [c1, c2, c3, c4, c5]
            · by_cases c5 : G 16 (2 * m + 1) = 16
              · simp [c1, c2, c3, c4, c5]
              · by_cases c6 : gon (G 15) (G 16 (2 * m))
                · by_cases c7 : gon (G 15) (G 16 (2 * m + 1))
                  · simp only [c1, c2, c3, c4, c5, eq_true c6, eq_true c7, not_true, not_false_eq_true, if_true, if_false, false_or, or_false, true_or]
                    try rfl
                  · simp only [c1, c2, c3, c4, c5, eq_true c6, c7, not_true, not_false_eq_true, if_true, if_false, false_or, or_false, true_or]
                    try rfl
                · by_cases c7 : gon (G 15) (G 16 (2 * m + 1))
                  · simp only [c1, c2, c3, c4, c5, c6, eq_true c7, not_true, not_false_eq_true, if_true, if_false, false_or, or_false, or_true]
                    try rfl
                  · simp only [c1, c2, c3, c4, c5, if_neg c6, if_neg c7, not_true, not_false_eq_true, if_true, if_false, false_or, or_false, c6, c7, pm_b3_id]
                    try rfl
      · simp only [c1, not_true, not_false_eq_true, if_true, if_false, true_or, pm_b3_id]
  exact run
theorem c_decide_T {m : Nat} {sd kd : Int} {G : PW} (hm : m < 31) (hs : sd = 0 ∨ sd = 1) (hz : G 20 2 = 4 ∨ G 20 2 = 8 ∨ G 20 2 = 16) : pm_ca pm_sC 12 [.inr (.inr 19), .inl (m : Int), .inl sd, .inl kd] G = some (none, pm_b3 G 19 (bdec (G 24) (G 25) (2 * G 20 2 - 1).toNat m sd kd (pm_rows G 19))) := by
  have hm0 : (0 : Int) ≤ (m : Int) := by omega
  have hm1 : (m : Int) < 31 := by omega
  have hm2 : (m : Int) ≤ 400 := by omega
  have e1 : (2 * (m : Int) + sd).toNat = 2 * m + sd.toNat := by omega
  have e2 : (2 * (m : Int) + (1 - sd)).toNat = 2 * m + (1 - sd).toNat := by omega
  have e3 : ((m : Int)).toNat = m := by omega
  have q1 := fun G => c_seat (m := (m : Int)) (s := sd) (G := G) (by omega) (by omega) (by omega) (by omega)
  have q2 := fun G => c_seat (m := (m : Int)) (s := 1 - sd) (G := G) (by omega) (by omega) (by omega) (by omega)
  have a1 := atv_in (S := pm_sC) (G := G) (i := 2 * (m : Int) + sd) lenC_32 (by omega) (by omega)
  have a2 := atv_in (S := pm_sC) (G := G) (i := 2 * (m : Int) + (1 - sd)) lenC_32 (by omega) (by omega)
  have a3 := atv_in (S := pm_sC) (G := G) (i := (m : Int)) lenC_24 (by omega) (by omega)
  have a4 := atv_in (S := pm_sC) (G := G) (i := (m : Int)) lenC_25 (by omega) (by omega)
  rw [e1] at a1
  rw [e2] at a2
  rw [e3] at a3 a4
  have f1 : ∀ M : PW, M 20 = G 20 → pm_ca pm_sC 36 [.inr (.inr 20)] M = some (some (.inl (2 * G 20 2 - 3)), M) := fun M h => by
    rw [c_firstFinal_T (by rw [h]; omega) (by rw [h]; omega), h]
  have f2 : ∀ M : PW, M 20 = G 20 → pm_ca pm_sC 37 [.inr (.inr 20)] M = some (some (.inl (2 * G 20 2 - 2)), M) := fun M h => by
    rw [c_secondFinal_T (by rw [h]; omega) (by rw [h]; omega), h]
  have q3 := fun M => c_seat (m := 2 * G 20 2 - 2) (s := 0) (G := M) (by omega) (by omega) (by omega) (by omega)
  have q4 := fun M => c_seat (m := 2 * G 20 2 - 2) (s := 1) (G := M) (by omega) (by omega) (by omega) (by omega)
  simp (disch := first | assumption | omega | (simp (disch := omega) only [stv_ne, upd_ne])) only [ue_12, u_12_0, u_12_1, u_12_4, u_12_5, u_12_6, u_12_9, u_12_12, u_12_14, u_12_15, u_12_18, u_12_19, u_12_20, u_12_21, u_12_22, u_12_25, u_12_28, u_12_30, u_12_31, u_12_34, u_12_35, u_12_36, u_12_39, u_12_40, u_12_43, u_12_44, u_12_45, u_12_48, u_12_49, u_12_52, u_12_53, u_12_56, u_12_59, u_12_60, u_12_63, u_12_65, u_12_68, u_12_69, u_12_72, u_12_73, u_12_76, u_12_79, u_12_80, u_12_83, u_12_85, u_12_88, u_12_89, u_12_90, u_12_93, u_12_96, u_12_99, u_12_100, u_12_101, u_12_104, u_12_105, u_12_108, u_12_109, u_12_112, u_12_115, u_12_116, u_12_119, u_12_121, u_12_124, u_12_125, u_12_128, u_12_129, u_12_132, u_12_135, u_12_136, u_12_139, u_12_141, u_12_144, uc_36_4_0, uc_36_4_1, uc_36_4_2, uc_36_4_3, uc_36_20_0, uc_36_20_1, uc_36_20_2, uc_36_20_3, uc_37_4_0, uc_37_4_1, uc_37_4_2, uc_37_4_3, uc_37_20_0, uc_37_20_1, uc_37_20_2, uc_37_20_3, uc_76_s_0, uc_76_s_1, uc_76_s_2, uc_76_s_3, uc_77_s_0, uc_77_s_1, uc_77_s_2, uc_77_s_3, uc_79_s_0, uc_79_s_1, uc_79_s_2, uc_79_s_3, q1, q2, q3, q4, ca_32, ca_24, ca_25, cs_33, cs_34, cs_32, a1, a2, a3, a4, atv_ne, stv_ne, f1, f2, if_true, if_false, pm_go_n, pm_go_c, pm_go_r, pm_go_i, pm_oIL, pm_oLL, pm_oAL, pm_oIS, pm_oLS, pm_oAS, pm_oK, pm_oKL, pe_add, pe_sub, pe_mul, pe_div, pe_rem, pe_shr, pe_and, pm_or_ok, pm_oInc, pe_rgb, pe_if, pe_ic, pe_b1, pe_nn, pe_eq, pe_ne, pe_lt, pe_ge, pe_gt, pe_le, pe_go, pe_ri0, pe_ri1, pe_ri2, pe_i2c, pm_oRv, pm_oGf, pm_oLen, pm_oDup, pm_oDu2, pm_oPop, pm_oL2i, pm_oLand, pm_oLus, pm_oLsh, pm_oLcm, lk_0, lk_1, lk_2, lk_3, lk_4, lk_5, lk_6, lk_7, lk_8, lk_9, lk_10, lk_11, lk_12, lk_13, st_0, st_1n, st_1i, st_1r, st_2, st_3, st_4, st_5, st_6, st_7, st_8, st_9, st_10, st_11, st_12, st_13, Option.toList_some, Option.toList_none, List.cons_append, List.nil_append, shC_fd0_0, shC_fd0_1, shC_fd0_2, shC_fd0_3, shC_fd0_4, shC_fd0_5, shC_fd0_6, shC_fd0_7, shC_al1, shC_ld1, shC_st1, shC_al2, shC_ld2, shC_st2, shC_fd3_0, shC_fd3_1, shC_fd3_2, shC_fd3_3, shC_fd3_4, shC_fd3_5, shC_fd4_0, shC_pf4_0, shC_fd4_1, shC_pf4_1, shC_fd4_2, shC_pf4_2, shC_fd4_3, shC_pf4_3, shC_fd4_4, shC_pf4_4, shC_fd4_5, shC_fd4_6, shC_fd4_7, shC_fd4_8, shC_fd4_9, shC_fd4_10, shC_fd4_11, shC_fd4_12, shC_fd4_13, shC_al5, shC_ld5, shC_st5, shC_al6, shC_ld6, shC_st6, shC_al7, shC_ld7, shC_st7, shC_al8, shC_ld8, shC_st8, shC_al9, shC_ld9, shC_st9, shC_al10, shC_ld10, shC_st10, shC_al11, shC_ld11, shC_st11, shC_al12, shC_ld12, shC_st12, shC_al13, shC_ld13, shC_st13, shC_al14, shC_ld14, shC_st14, shC_al15, shC_ld15, shC_st15, shC_al16, shC_ld16, shC_st16, shC_al17, shC_ld17, shC_st17, shC_al18, shC_ld18, shC_st18, shC_fd19_0, shC_fd19_1, shC_fd19_2, shC_fd19_3, shC_fd19_4, shC_fd19_5, shC_fd20_0, shC_pf20_0, shC_fd20_1, shC_pf20_1, shC_fd20_2, shC_pf20_2, shC_fd20_3, shC_pf20_3, shC_fd20_4, shC_pf20_4, shC_fd20_5, shC_fd20_6, shC_fd20_7, shC_fd20_8, shC_fd20_9, shC_fd20_10, shC_fd20_11, shC_fd20_12, shC_fd20_13, shC_al21, shC_ld21, shC_st21, shC_al22, shC_ld22, shC_st22, shC_al23, shC_ld23, shC_st23, shC_al24, shC_ld24, shC_st24, shC_al25, shC_ld25, shC_st25, shC_al26, shC_ld26, shC_st26, shC_al27, shC_ld27, shC_st27, shC_al28, shC_ld28, shC_st28, shC_al29, shC_ld29, shC_st29, shC_al30, shC_ld30, shC_st30, shC_al31, shC_ld31, shC_st31, shC_al32, shC_ld32, shC_st32, shC_al33, shC_ld33, shC_st33, shC_al34, shC_ld34, shC_st34, shC_fd35_0, shC_fd35_1, shC_pf35_1, shC_al36, shC_ld36, shC_st36, shC_fd37_0, shC_fd37_1, shC_pf37_1, shC_fd37_2, shC_pf37_2, shC_fd37_3, shC_pf37_3, shC_al38, shC_ld38, shC_st38, shC_fd39_0, shC_pf39_0, shC_fd39_1, shC_pf39_1, shC_fd39_2, shC_pf39_2, shC_fd39_3, shC_fd39_4, shC_al40, shC_ld40, shC_st40, shC_fd41_0, shC_fd41_1, shC_pf41_1, shC_al42, shC_ld42, shC_st42, shC_fd43_0, shC_pf43_0, shC_fd43_1, shC_pf43_1, shC_fd43_2, shC_pf43_2, shC_fd43_3, shC_fd43_4, shC_al44, shC_ld44, shC_st44, shC_fd45_0, shC_fd45_1, shC_pf45_1, shC_al46, shC_ld46, shC_st46]
  by_cases c1 : (m : Int) = 2 * G 20 2 - 3
  · by_cases c2 : sd = 1
    · rw [if_neg (fun h => h c1), if_neg (fun h => h c2)]
      congr 2
      have d1 : m + 2 = (2 * G 20 2 - 1).toNat := by omega
      have d2 : (2 * (2 * G 20 2 - 2) + 0).toNat = 2 * (m + 1) := by omega
      have d3 : (2 * (2 * G 20 2 - 2) + 1).toNat = 2 * (m + 1) + 1 := by omega
      refine pm_b3_of (fun r h1 h2 h3 => ?_) ?_ ?_ ?_
      · simp (disch := omega) only [stv_ne]
      · show pm_stv _ _ _ _ _ 32 = _
        simp (disch := omega) only [stv_ne, stv_eq, lenC_32, stf_bput, bdec, pm_rows, d1, c2, if_pos, and_self]
        simp (disch := omega) only [bput, if_pos, d2, d3, and_self]
        rfl
      · show pm_stv _ _ _ _ _ 33 = _
        simp (disch := omega) only [stv_ne, stv_eq, lenC_33, stf_in, bdec, pm_rows, e3]
      · show pm_stv _ _ _ _ _ 34 = _
        simp (disch := omega) only [stv_ne, stv_eq, lenC_34, stf_in, bdec, pm_rows, e3]
    · rw [if_neg (fun h => h c1), if_pos c2]
      congr 2
      refine pm_b3_of (fun r h1 h2 h3 => ?_) ?_ ?_ ?_
      · simp (disch := omega) only [stv_ne]
      · show pm_stv _ _ _ _ _ 32 = _
        simp (disch := omega) only [stv_ne, stv_eq, lenC_32, stf_bput, bdec, pm_rows, if_neg (fun h : m + 2 = (2 * G 20 2 - 1).toNat ∧ sd = 1 => c2 h.2)]
      · show pm_stv _ _ _ _ _ 33 = _
        simp (disch := omega) only [stv_ne, stv_eq, lenC_33, stf_in, bdec, pm_rows, e3]
      · show pm_stv _ _ _ _ _ 34 = _
        simp (disch := omega) only [stv_ne, stv_eq, lenC_34, stf_in, bdec, pm_rows, e3]
  · rw [if_pos c1]
    congr 2
    have d1 : ¬ m + 2 = (2 * G 20 2 - 1).toNat := by omega
    refine pm_b3_of (fun r h1 h2 h3 => ?_) ?_ ?_ ?_
    · simp (disch := omega) only [stv_ne]
    · show pm_stv _ _ _ _ _ 32 = _
      simp (disch := omega) only [stv_ne, stv_eq, lenC_32, stf_bput, bdec, pm_rows, if_neg (fun h : m + 2 = (2 * G 20 2 - 1).toNat ∧ sd = 1 => d1 h.1)]
    · show pm_stv _ _ _ _ _ 33 = _
      simp (disch := omega) only [stv_ne, stv_eq, lenC_33, stf_in, bdec, pm_rows, e3]
    · show pm_stv _ _ _ _ _ 34 = _
      simp (disch := omega) only [stv_ne, stv_eq, lenC_34, stf_in, bdec, pm_rows, e3]
theorem c_settleMatch_T {m : Nat} {G : PW} (hm : m < 31) (hR : G 30 m = -6 ∨ G 30 m = 0 ∨ G 30 m = 1) (hz : G 20 2 = 4 ∨ G 20 2 = 8 ∨ G 20 2 = 16) : pm_ca pm_sC 11 [.inr (.inr 19), .inl (m : Int)] G = some (none, pm_b3 G 19 (bstep (G 24) (G 25) (2 * G 20 2 - 1).toNat (G 30) (G 31) m (pm_rows G 19))) := by
  have hm0 : (0 : Int) ≤ (m : Int) := by omega
  have hm1 : (m : Int) < 31 := by omega
  have e3 : ((m : Int)).toNat = m := by omega
  have e1 : (2 * (m : Int) + 0).toNat = 2 * m := by omega
  have e2 : (2 * (m : Int) + 1).toNat = 2 * m + 1 := by omega
  have a1 := atv_in (S := pm_sC) (G := G) (i := 2 * (m : Int) + 0) lenC_32 (by omega) (by omega)
  have a2 := atv_in (S := pm_sC) (G := G) (i := 2 * (m : Int) + 1) lenC_32 (by omega) (by omega)
  have a3 := atv_in (S := pm_sC) (G := G) (i := (m : Int)) lenC_33 (by omega) (by omega)
  have a4 := atv_in (S := pm_sC) (G := G) (i := (m : Int)) lenC_30 (by omega) (by omega)
  rw [e1] at a1
  rw [e2] at a2
  rw [e3] at a3 a4
  have g1 : ∀ x : Int, (pm_atv pm_sC G 31 x = 1) = gon (G 31) x := fun x => by
    unfold pm_atv gon
    rw [lenC_31]
    by_cases h : 0 ≤ x ∧ x < 16
    · rw [if_pos h]; simp [h.1, h.2]
    · rw [if_neg h]
      have : ¬ (0 ≤ x ∧ x < 16 ∧ G 31 x.toNat = 1) := fun z => h ⟨z.1, z.2.1⟩
      simp [this]
  have s0 : pm_rows G 19 = (G 32, G 33, G 34) := rfl
  have d := fun sd kd h => c_decide_T (m := m) (sd := sd) (kd := kd) (G := G) hm h hz
  have d0 := fun kd => d 0 kd (Or.inl rfl)
  have d1 := fun kd => d 1 kd (Or.inr rfl)
  have t1 : (pm_rows G 19).1 = G 32 := rfl
  have t2 : (pm_rows G 19).2.1 = G 33 := rfl
  have run : pm_ca pm_sC 11 [.inr (.inr 19), .inl (m : Int)] G = some (none, pm_b3 G 19 (bstep (G 24) (G 25) (2 * G 20 2 - 1).toNat (G 30) (G 31) m (pm_rows G 19))) := by
    rcases hR with hR | hR | hR <;>
    · simp (disch := first | assumption | omega | (simp (disch := omega) only [stv_ne, upd_ne])) only [ue_11, u_11_0, u_11_1, u_11_2, u_11_3, u_11_6, u_11_7, u_11_8, u_11_9, u_11_10, u_11_13, u_11_14, u_11_15, u_11_16, u_11_19, u_11_22, u_11_23, u_11_25, u_11_28, u_11_29, u_11_31, u_11_34, u_11_35, u_11_36, u_11_39, u_11_40, u_11_43, u_11_45, u_11_46, u_11_48, u_11_51, u_11_52, u_11_54, u_11_57, u_11_58, u_11_59, u_11_60, u_11_62, u_11_65, u_11_66, u_11_69, u_11_70, u_11_71, u_11_74, u_11_77, u_11_79, u_11_81, u_11_84, u_11_85, u_11_86, u_11_88, u_11_89, u_11_92, u_11_95, u_11_96, u_11_97, u_11_100, u_11_103, u_11_104, u_11_105, u_11_108, u_11_111, u_11_112, u_11_113, u_11_114, u_11_115, u_11_118, u_11_121, u_11_122, u_11_125, u_11_126, u_11_127, u_11_130, uc_4_3_0, uc_4_3_1, uc_4_3_2, uc_4_3_3, uc_4_19_0, uc_4_19_1, uc_4_19_2, uc_4_19_3, uc_5_3_0, uc_5_3_1, uc_5_3_2, uc_5_3_3, uc_5_19_0, uc_5_19_1, uc_5_19_2, uc_5_19_3, uc_6_3_0, uc_6_3_1, uc_6_3_2, uc_6_3_3, uc_6_19_0, uc_6_19_1, uc_6_19_2, uc_6_19_3, uc_12_3_0, uc_12_3_1, uc_12_3_2, uc_12_3_3, uc_12_19_0, uc_12_19_1, uc_12_19_2, uc_12_19_3, uc_76_s_0, uc_76_s_1, uc_76_s_2, uc_76_s_3, c_sideOf_T, c_howDecided_T, c_isGone_T, ca_30, a1, a2, a3, a4, g1, d0, d1, hR, if_true, if_false, pm_go_n, pm_go_c, pm_go_r, pm_go_i, pm_oIL, pm_oLL, pm_oAL, pm_oIS, pm_oLS, pm_oAS, pm_oK, pm_oKL, pe_add, pe_sub, pe_mul, pe_div, pe_rem, pe_shr, pe_and, pm_or_ok, pm_oInc, pe_rgb, pe_if, pe_ic, pe_b1, pe_nn, pe_eq, pe_ne, pe_lt, pe_ge, pe_gt, pe_le, pe_go, pe_ri0, pe_ri1, pe_ri2, pe_i2c, pm_oRv, pm_oGf, pm_oLen, pm_oDup, pm_oDu2, pm_oPop, pm_oL2i, pm_oLand, pm_oLus, pm_oLsh, pm_oLcm, lk_0, lk_1, lk_2, lk_3, lk_4, lk_5, lk_6, lk_7, lk_8, lk_9, lk_10, lk_11, lk_12, lk_13, st_0, st_1n, st_1i, st_1r, st_2, st_3, st_4, st_5, st_6, st_7, st_8, st_9, st_10, st_11, st_12, st_13, Option.toList_some, Option.toList_none, List.cons_append, List.nil_append, shC_fd0_0, shC_fd0_1, shC_fd0_2, shC_fd0_3, shC_fd0_4, shC_fd0_5, shC_fd0_6, shC_fd0_7, shC_al1, shC_ld1, shC_st1, shC_al2, shC_ld2, shC_st2, shC_fd3_0, shC_fd3_1, shC_fd3_2, shC_fd3_3, shC_fd3_4, shC_fd3_5, shC_fd4_0, shC_pf4_0, shC_fd4_1, shC_pf4_1, shC_fd4_2, shC_pf4_2, shC_fd4_3, shC_pf4_3, shC_fd4_4, shC_pf4_4, shC_fd4_5, shC_fd4_6, shC_fd4_7, shC_fd4_8, shC_fd4_9, shC_fd4_10, shC_fd4_11, shC_fd4_12, shC_fd4_13, shC_al5, shC_ld5, shC_st5, shC_al6, shC_ld6, shC_st6, shC_al7, shC_ld7, shC_st7, shC_al8, shC_ld8, shC_st8, shC_al9, shC_ld9, shC_st9, shC_al10, shC_ld10, shC_st10, shC_al11, shC_ld11, shC_st11, shC_al12, shC_ld12, shC_st12, shC_al13, shC_ld13, shC_st13, shC_al14, shC_ld14, shC_st14, shC_al15, shC_ld15, shC_st15, shC_al16, shC_ld16, shC_st16, shC_al17, shC_ld17, shC_st17, shC_al18, shC_ld18, shC_st18, shC_fd19_0, shC_fd19_1, shC_fd19_2, shC_fd19_3, shC_fd19_4, shC_fd19_5, shC_fd20_0, shC_pf20_0, shC_fd20_1, shC_pf20_1, shC_fd20_2, shC_pf20_2, shC_fd20_3, shC_pf20_3, shC_fd20_4, shC_pf20_4, shC_fd20_5, shC_fd20_6, shC_fd20_7, shC_fd20_8, shC_fd20_9, shC_fd20_10, shC_fd20_11, shC_fd20_12, shC_fd20_13, shC_al21, shC_ld21, shC_st21, shC_al22, shC_ld22, shC_st22, shC_al23, shC_ld23, shC_st23, shC_al24, shC_ld24, shC_st24, shC_al25, shC_ld25, shC_st25, shC_al26, shC_ld26, shC_st26, shC_al27, shC_ld27, shC_st27, shC_al28, shC_ld28, shC_st28, shC_al29, shC_ld29, shC_st29, shC_al30, shC_ld30, shC_st30, shC_al31, shC_ld31, shC_st31, shC_al32, shC_ld32, shC_st32, shC_al33, shC_ld33, shC_st33, shC_al34, shC_ld34, shC_st34, shC_fd35_0, shC_fd35_1, shC_pf35_1, shC_al36, shC_ld36, shC_st36, shC_fd37_0, shC_fd37_1, shC_pf37_1, shC_fd37_2, shC_pf37_2, shC_fd37_3, shC_pf37_3, shC_al38, shC_ld38, shC_st38, shC_fd39_0, shC_pf39_0, shC_fd39_1, shC_pf39_1, shC_fd39_2, shC_pf39_2, shC_fd39_3, shC_fd39_4, shC_al40, shC_ld40, shC_st40, shC_fd41_0, shC_fd41_1, shC_pf41_1, shC_al42, shC_ld42, shC_st42, shC_fd43_0, shC_pf43_0, shC_fd43_1, shC_pf43_1, shC_fd43_2, shC_pf43_2, shC_fd43_3, shC_fd43_4, shC_al44, shC_ld44, shC_st44, shC_fd45_0, shC_fd45_1, shC_pf45_1, shC_al46, shC_ld46, shC_st46]
      unfold bstep
      simp only [t1, t2, hR, ne_eq]
      by_cases c1 : G 33 m = 0
      · by_cases c2 : G 32 (2 * m) = -6
        · simp only [c1, c2, not_true, not_false_eq_true, if_true, if_false, true_or, or_true, pm_b3_id]
        · by_cases c3 : G 32 (2 * m + 1) = -6
          · simp only [c1, c2, c3, not_true, not_false_eq_true, if_true, if_false, true_or, or_true, pm_b3_id]
          · by_cases c4 : G 32 (2 * m) = 16
            · by_cases c5 : G 32 (2 * m + 1) = 16
              · simp [c1, c2, c3, c4, c5]
              · simp [c1, c2, c3, c4, c5]
            · by_cases c5 : G 32 (2 * m + 1) = 16
              · simp [c1, c2, c3, c4, c5]
              · by_cases c6 : gon (G 31) (G 32 (2 * m))
                · by_cases c7 : gon (G 31) (G 32 (2 * m + 1))
                  · simp only [c1, c2, c3, c4, c5, eq_true c6, eq_true c7, not_true, not_false_eq_true, if_true, if_false, false_or, or_false, true_or]
                    try rfl
                  · simp only [c1, c2, c3, c4, c5, eq_true c6, c7, not_true, not_false_eq_true, if_true, if_false, false_or, or_false, true_or]
                    try rfl
                · by_cases c7 : gon (G 31) (G 32 (2 * m + 1))
                  · simp only [c1, c2, c3, c4, c5, c6, eq_true c7, not_true, not_false_eq_true, if_true, if_false, false_or, or_false, or_true]
                    try rfl
                  · simp only [c1, c2, c3, c4, c5, if_neg c6, if_neg c7, not_true, not_false_eq_true, if_true, if_false, false_or, or_false, c6, c7, pm_b3_id]
                    try rfl
      · simp only [c1, not_true, not_false_eq_true, if_true, if_false, true_or, pm_b3_id]
  exact run
