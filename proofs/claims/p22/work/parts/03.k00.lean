/-! the tables agree with the code: methods 80 and on -/
theorem pm_ic_80_0 : ∀ r, r < 40 → pm_iC 80 (40 * 0 + r) = true := by decide +kernel
theorem pm_ic_80_1 : ∀ r, r < 40 → pm_iC 80 (40 * 1 + r) = true := by decide +kernel
theorem pm_ic_80_2 : ∀ r, r < 40 → pm_iC 80 (40 * 2 + r) = true := by decide +kernel
theorem pm_ic_80_3 : ∀ r, r < 40 → pm_iC 80 (40 * 3 + r) = true := by decide +kernel
theorem pm_ic_80_4 : ∀ r, r < 40 → pm_iC 80 (40 * 4 + r) = true := by decide +kernel
theorem pm_ic_80_5 : ∀ r, r < 40 → pm_iC 80 (40 * 5 + r) = true := by decide +kernel
theorem pm_ic_80_6 : ∀ r, r < 40 → pm_iC 80 (40 * 6 + r) = true := by decide +kernel
theorem pm_ic_80_7 : ∀ r, r < 40 → pm_iC 80 (40 * 7 + r) = true := by decide +kernel
theorem pm_ic_80_8 : ∀ r, r < 40 → pm_iC 80 (40 * 8 + r) = true := by decide +kernel
theorem pm_ic_80_9 : ∀ r, r < 40 → pm_iC 80 (40 * 9 + r) = true := by decide +kernel
theorem pm_ic_80_10 : ∀ r, r < 40 → pm_iC 80 (40 * 10 + r) = true := by decide +kernel
theorem pm_ic_80_11 : ∀ r, r < 40 → pm_iC 80 (40 * 11 + r) = true := by decide +kernel
theorem pm_ic_80_12 : ∀ r, r < 40 → pm_iC 80 (40 * 12 + r) = true := by decide +kernel
theorem pm_ic_80_13 : ∀ r, r < 40 → pm_iC 80 (40 * 13 + r) = true := by decide +kernel
theorem pm_ic_80_14 : ∀ r, r < 40 → pm_iC 80 (40 * 14 + r) = true := by decide +kernel
theorem pm_ic_80_15 : ∀ r, r < 40 → pm_iC 80 (40 * 15 + r) = true := by decide +kernel
theorem pm_ic_80_16 : ∀ r, r < 40 → pm_iC 80 (40 * 16 + r) = true := by decide +kernel
theorem pm_ic_80_17 : ∀ r, r < 40 → pm_iC 80 (40 * 17 + r) = true := by decide +kernel
theorem pm_ic_80_18 : ∀ r, r < 40 → pm_iC 80 (40 * 18 + r) = true := by decide +kernel
theorem pm_ic_80_19 : ∀ r, r < 40 → pm_iC 80 (40 * 19 + r) = true := by decide +kernel
theorem pm_ic_80_20 : ∀ r, r < 40 → pm_iC 80 (40 * 20 + r) = true := by decide +kernel
theorem pm_ic_80_21 : ∀ r, r < 40 → pm_iC 80 (40 * 21 + r) = true := by decide +kernel
theorem pm_ic_80_22 : ∀ r, r < 40 → pm_iC 80 (40 * 22 + r) = true := by decide +kernel
theorem pm_ic_80_23 : ∀ r, r < 40 → pm_iC 80 (40 * 23 + r) = true := by decide +kernel
theorem pm_ic_80_24 : ∀ r, r < 40 → pm_iC 80 (40 * 24 + r) = true := by decide +kernel
theorem pm_ic_80_25 : ∀ r, r < 40 → pm_iC 80 (40 * 25 + r) = true := by decide +kernel
theorem pm_ic_80_26 : ∀ r, r < 40 → pm_iC 80 (40 * 26 + r) = true := by decide +kernel
theorem pm_ic_80_27 : ∀ r, r < 40 → pm_iC 80 (40 * 27 + r) = true := by decide +kernel
theorem pm_ic_80_28 : ∀ r, r < 40 → pm_iC 80 (40 * 28 + r) = true := by decide +kernel
theorem pm_ic_80_29 : ∀ r, r < 40 → pm_iC 80 (40 * 29 + r) = true := by decide +kernel
theorem pm_iOK_80 : pm_iOK 80 = true := pm_iOK_of (fun b hb => by
  match b, hb with
  | 0, _ => exact pm_ic_80_0
  | 1, _ => exact pm_ic_80_1
  | 2, _ => exact pm_ic_80_2
  | 3, _ => exact pm_ic_80_3
  | 4, _ => exact pm_ic_80_4
  | 5, _ => exact pm_ic_80_5
  | 6, _ => exact pm_ic_80_6
  | 7, _ => exact pm_ic_80_7
  | 8, _ => exact pm_ic_80_8
  | 9, _ => exact pm_ic_80_9
  | 10, _ => exact pm_ic_80_10
  | 11, _ => exact pm_ic_80_11
  | 12, _ => exact pm_ic_80_12
  | 13, _ => exact pm_ic_80_13
  | 14, _ => exact pm_ic_80_14
  | 15, _ => exact pm_ic_80_15
  | 16, _ => exact pm_ic_80_16
  | 17, _ => exact pm_ic_80_17
  | 18, _ => exact pm_ic_80_18
  | 19, _ => exact pm_ic_80_19
  | 20, _ => exact pm_ic_80_20
  | 21, _ => exact pm_ic_80_21
  | 22, _ => exact pm_ic_80_22
  | 23, _ => exact pm_ic_80_23
  | 24, _ => exact pm_ic_80_24
  | 25, _ => exact pm_ic_80_25
  | 26, _ => exact pm_ic_80_26
  | 27, _ => exact pm_ic_80_27
  | 28, _ => exact pm_ic_80_28
  | 29, _ => exact pm_ic_80_29
  | b + 30, h => exact absurd h (by omega))
set_option maxRecDepth 100000 in
theorem pm_kc_80 : lw_tbl[405]? = some (.code yX5_matchOfSeat cX5_matchOfSeat 1 (some .int)) := by rfl
theorem pm_kOK_80 : pm_kOK 80 = true := by
  have h : pm_has (pm_cp 80) (.code (pm_yy 80) (pm_cc 80) (pm_nl 80) (pm_rr 80)) = true := pm_has_of pm_kc_80 rfl
  unfold pm_kOK
  rw [h]
  decide +kernel
theorem pm_ic_81_0 : ∀ r, r < 40 → pm_iC 81 (40 * 0 + r) = true := by decide +kernel
theorem pm_ic_81_1 : ∀ r, r < 40 → pm_iC 81 (40 * 1 + r) = true := by decide +kernel
theorem pm_ic_81_2 : ∀ r, r < 40 → pm_iC 81 (40 * 2 + r) = true := by decide +kernel
theorem pm_ic_81_3 : ∀ r, r < 40 → pm_iC 81 (40 * 3 + r) = true := by decide +kernel
theorem pm_ic_81_4 : ∀ r, r < 40 → pm_iC 81 (40 * 4 + r) = true := by decide +kernel
theorem pm_ic_81_5 : ∀ r, r < 40 → pm_iC 81 (40 * 5 + r) = true := by decide +kernel
theorem pm_ic_81_6 : ∀ r, r < 40 → pm_iC 81 (40 * 6 + r) = true := by decide +kernel
theorem pm_ic_81_7 : ∀ r, r < 40 → pm_iC 81 (40 * 7 + r) = true := by decide +kernel
theorem pm_ic_81_8 : ∀ r, r < 40 → pm_iC 81 (40 * 8 + r) = true := by decide +kernel
theorem pm_ic_81_9 : ∀ r, r < 40 → pm_iC 81 (40 * 9 + r) = true := by decide +kernel
theorem pm_ic_81_10 : ∀ r, r < 40 → pm_iC 81 (40 * 10 + r) = true := by decide +kernel
theorem pm_ic_81_11 : ∀ r, r < 40 → pm_iC 81 (40 * 11 + r) = true := by decide +kernel
theorem pm_ic_81_12 : ∀ r, r < 40 → pm_iC 81 (40 * 12 + r) = true := by decide +kernel
theorem pm_ic_81_13 : ∀ r, r < 40 → pm_iC 81 (40 * 13 + r) = true := by decide +kernel
theorem pm_ic_81_14 : ∀ r, r < 40 → pm_iC 81 (40 * 14 + r) = true := by decide +kernel
theorem pm_ic_81_15 : ∀ r, r < 40 → pm_iC 81 (40 * 15 + r) = true := by decide +kernel
theorem pm_ic_81_16 : ∀ r, r < 40 → pm_iC 81 (40 * 16 + r) = true := by decide +kernel
theorem pm_ic_81_17 : ∀ r, r < 40 → pm_iC 81 (40 * 17 + r) = true := by decide +kernel
theorem pm_ic_81_18 : ∀ r, r < 40 → pm_iC 81 (40 * 18 + r) = true := by decide +kernel
theorem pm_ic_81_19 : ∀ r, r < 40 → pm_iC 81 (40 * 19 + r) = true := by decide +kernel
theorem pm_ic_81_20 : ∀ r, r < 40 → pm_iC 81 (40 * 20 + r) = true := by decide +kernel
theorem pm_ic_81_21 : ∀ r, r < 40 → pm_iC 81 (40 * 21 + r) = true := by decide +kernel
theorem pm_ic_81_22 : ∀ r, r < 40 → pm_iC 81 (40 * 22 + r) = true := by decide +kernel
theorem pm_ic_81_23 : ∀ r, r < 40 → pm_iC 81 (40 * 23 + r) = true := by decide +kernel
theorem pm_ic_81_24 : ∀ r, r < 40 → pm_iC 81 (40 * 24 + r) = true := by decide +kernel
theorem pm_ic_81_25 : ∀ r, r < 40 → pm_iC 81 (40 * 25 + r) = true := by decide +kernel
theorem pm_ic_81_26 : ∀ r, r < 40 → pm_iC 81 (40 * 26 + r) = true := by decide +kernel
theorem pm_ic_81_27 : ∀ r, r < 40 → pm_iC 81 (40 * 27 + r) = true := by decide +kernel
theorem pm_ic_81_28 : ∀ r, r < 40 → pm_iC 81 (40 * 28 + r) = true := by decide +kernel
theorem pm_ic_81_29 : ∀ r, r < 40 → pm_iC 81 (40 * 29 + r) = true := by decide +kernel
theorem pm_iOK_81 : pm_iOK 81 = true := pm_iOK_of (fun b hb => by
  match b, hb with
  | 0, _ => exact pm_ic_81_0
  | 1, _ => exact pm_ic_81_1
  | 2, _ => exact pm_ic_81_2
  | 3, _ => exact pm_ic_81_3
  | 4, _ => exact pm_ic_81_4
  | 5, _ => exact pm_ic_81_5
  | 6, _ => exact pm_ic_81_6
  | 7, _ => exact pm_ic_81_7
  | 8, _ => exact pm_ic_81_8
  | 9, _ => exact pm_ic_81_9
  | 10, _ => exact pm_ic_81_10
  | 11, _ => exact pm_ic_81_11
  | 12, _ => exact pm_ic_81_12
  | 13, _ => exact pm_ic_81_13
  | 14, _ => exact pm_ic_81_14
  | 15, _ => exact pm_ic_81_15
  | 16, _ => exact pm_ic_81_16
  | 17, _ => exact pm_ic_81_17
  | 18, _ => exact pm_ic_81_18
  | 19, _ => exact pm_ic_81_19
  | 20, _ => exact pm_ic_81_20
  | 21, _ => exact pm_ic_81_21
  | 22, _ => exact pm_ic_81_22
  | 23, _ => exact pm_ic_81_23
  | 24, _ => exact pm_ic_81_24
  | 25, _ => exact pm_ic_81_25
  | 26, _ => exact pm_ic_81_26
  | 27, _ => exact pm_ic_81_27
  | 28, _ => exact pm_ic_81_28
  | 29, _ => exact pm_ic_81_29
  | b + 30, h => exact absurd h (by omega))
set_option maxRecDepth 100000 in
theorem pm_kc_81 : lw_tbl[408]? = some (.code yX5_sideOfSeat cX5_sideOfSeat 1 (some .int)) := by rfl
theorem pm_kOK_81 : pm_kOK 81 = true := by
  have h : pm_has (pm_cp 81) (.code (pm_yy 81) (pm_cc 81) (pm_nl 81) (pm_rr 81)) = true := pm_has_of pm_kc_81 rfl
  unfold pm_kOK
  rw [h]
  decide +kernel
