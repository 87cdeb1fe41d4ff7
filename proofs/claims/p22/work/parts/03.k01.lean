/-! the tables agree with the code: methods 82 and on -/
theorem pm_ic_82_0 : ∀ r, r < 40 → pm_iC 82 (40 * 0 + r) = true := by decide +kernel
theorem pm_ic_82_1 : ∀ r, r < 40 → pm_iC 82 (40 * 1 + r) = true := by decide +kernel
theorem pm_ic_82_2 : ∀ r, r < 40 → pm_iC 82 (40 * 2 + r) = true := by decide +kernel
theorem pm_ic_82_3 : ∀ r, r < 40 → pm_iC 82 (40 * 3 + r) = true := by decide +kernel
theorem pm_ic_82_4 : ∀ r, r < 40 → pm_iC 82 (40 * 4 + r) = true := by decide +kernel
theorem pm_ic_82_5 : ∀ r, r < 40 → pm_iC 82 (40 * 5 + r) = true := by decide +kernel
theorem pm_ic_82_6 : ∀ r, r < 40 → pm_iC 82 (40 * 6 + r) = true := by decide +kernel
theorem pm_ic_82_7 : ∀ r, r < 40 → pm_iC 82 (40 * 7 + r) = true := by decide +kernel
theorem pm_ic_82_8 : ∀ r, r < 40 → pm_iC 82 (40 * 8 + r) = true := by decide +kernel
theorem pm_ic_82_9 : ∀ r, r < 40 → pm_iC 82 (40 * 9 + r) = true := by decide +kernel
theorem pm_ic_82_10 : ∀ r, r < 40 → pm_iC 82 (40 * 10 + r) = true := by decide +kernel
theorem pm_ic_82_11 : ∀ r, r < 40 → pm_iC 82 (40 * 11 + r) = true := by decide +kernel
theorem pm_ic_82_12 : ∀ r, r < 40 → pm_iC 82 (40 * 12 + r) = true := by decide +kernel
theorem pm_ic_82_13 : ∀ r, r < 40 → pm_iC 82 (40 * 13 + r) = true := by decide +kernel
theorem pm_ic_82_14 : ∀ r, r < 40 → pm_iC 82 (40 * 14 + r) = true := by decide +kernel
theorem pm_ic_82_15 : ∀ r, r < 40 → pm_iC 82 (40 * 15 + r) = true := by decide +kernel
theorem pm_ic_82_16 : ∀ r, r < 40 → pm_iC 82 (40 * 16 + r) = true := by decide +kernel
theorem pm_ic_82_17 : ∀ r, r < 40 → pm_iC 82 (40 * 17 + r) = true := by decide +kernel
theorem pm_ic_82_18 : ∀ r, r < 40 → pm_iC 82 (40 * 18 + r) = true := by decide +kernel
theorem pm_ic_82_19 : ∀ r, r < 40 → pm_iC 82 (40 * 19 + r) = true := by decide +kernel
theorem pm_ic_82_20 : ∀ r, r < 40 → pm_iC 82 (40 * 20 + r) = true := by decide +kernel
theorem pm_ic_82_21 : ∀ r, r < 40 → pm_iC 82 (40 * 21 + r) = true := by decide +kernel
theorem pm_ic_82_22 : ∀ r, r < 40 → pm_iC 82 (40 * 22 + r) = true := by decide +kernel
theorem pm_ic_82_23 : ∀ r, r < 40 → pm_iC 82 (40 * 23 + r) = true := by decide +kernel
theorem pm_ic_82_24 : ∀ r, r < 40 → pm_iC 82 (40 * 24 + r) = true := by decide +kernel
theorem pm_ic_82_25 : ∀ r, r < 40 → pm_iC 82 (40 * 25 + r) = true := by decide +kernel
theorem pm_ic_82_26 : ∀ r, r < 40 → pm_iC 82 (40 * 26 + r) = true := by decide +kernel
theorem pm_ic_82_27 : ∀ r, r < 40 → pm_iC 82 (40 * 27 + r) = true := by decide +kernel
theorem pm_ic_82_28 : ∀ r, r < 40 → pm_iC 82 (40 * 28 + r) = true := by decide +kernel
theorem pm_ic_82_29 : ∀ r, r < 40 → pm_iC 82 (40 * 29 + r) = true := by decide +kernel
theorem pm_iOK_82 : pm_iOK 82 = true := pm_iOK_of (fun b hb => by
  match b, hb with
  | 0, _ => exact pm_ic_82_0
  | 1, _ => exact pm_ic_82_1
  | 2, _ => exact pm_ic_82_2
  | 3, _ => exact pm_ic_82_3
  | 4, _ => exact pm_ic_82_4
  | 5, _ => exact pm_ic_82_5
  | 6, _ => exact pm_ic_82_6
  | 7, _ => exact pm_ic_82_7
  | 8, _ => exact pm_ic_82_8
  | 9, _ => exact pm_ic_82_9
  | 10, _ => exact pm_ic_82_10
  | 11, _ => exact pm_ic_82_11
  | 12, _ => exact pm_ic_82_12
  | 13, _ => exact pm_ic_82_13
  | 14, _ => exact pm_ic_82_14
  | 15, _ => exact pm_ic_82_15
  | 16, _ => exact pm_ic_82_16
  | 17, _ => exact pm_ic_82_17
  | 18, _ => exact pm_ic_82_18
  | 19, _ => exact pm_ic_82_19
  | 20, _ => exact pm_ic_82_20
  | 21, _ => exact pm_ic_82_21
  | 22, _ => exact pm_ic_82_22
  | 23, _ => exact pm_ic_82_23
  | 24, _ => exact pm_ic_82_24
  | 25, _ => exact pm_ic_82_25
  | 26, _ => exact pm_ic_82_26
  | 27, _ => exact pm_ic_82_27
  | 28, _ => exact pm_ic_82_28
  | 29, _ => exact pm_ic_82_29
  | b + 30, h => exact absurd h (by omega))
set_option maxRecDepth 100000 in
theorem pm_kc_82 : lw_tbl[557]? = some (.code yL_cell cL_cell 3 (some .int)) := by rfl
theorem pm_kOK_82 : pm_kOK 82 = true := by
  have h : pm_has (pm_cp 82) (.code (pm_yy 82) (pm_cc 82) (pm_nl 82) (pm_rr 82)) = true := pm_has_of pm_kc_82 rfl
  unfold pm_kOK
  rw [h]
  decide +kernel
theorem pm_ic_83_0 : ∀ r, r < 40 → pm_iC 83 (40 * 0 + r) = true := by decide +kernel
theorem pm_ic_83_1 : ∀ r, r < 40 → pm_iC 83 (40 * 1 + r) = true := by decide +kernel
theorem pm_ic_83_2 : ∀ r, r < 40 → pm_iC 83 (40 * 2 + r) = true := by decide +kernel
theorem pm_ic_83_3 : ∀ r, r < 40 → pm_iC 83 (40 * 3 + r) = true := by decide +kernel
theorem pm_ic_83_4 : ∀ r, r < 40 → pm_iC 83 (40 * 4 + r) = true := by decide +kernel
theorem pm_ic_83_5 : ∀ r, r < 40 → pm_iC 83 (40 * 5 + r) = true := by decide +kernel
theorem pm_ic_83_6 : ∀ r, r < 40 → pm_iC 83 (40 * 6 + r) = true := by decide +kernel
theorem pm_ic_83_7 : ∀ r, r < 40 → pm_iC 83 (40 * 7 + r) = true := by decide +kernel
theorem pm_ic_83_8 : ∀ r, r < 40 → pm_iC 83 (40 * 8 + r) = true := by decide +kernel
theorem pm_ic_83_9 : ∀ r, r < 40 → pm_iC 83 (40 * 9 + r) = true := by decide +kernel
theorem pm_ic_83_10 : ∀ r, r < 40 → pm_iC 83 (40 * 10 + r) = true := by decide +kernel
theorem pm_ic_83_11 : ∀ r, r < 40 → pm_iC 83 (40 * 11 + r) = true := by decide +kernel
theorem pm_ic_83_12 : ∀ r, r < 40 → pm_iC 83 (40 * 12 + r) = true := by decide +kernel
theorem pm_ic_83_13 : ∀ r, r < 40 → pm_iC 83 (40 * 13 + r) = true := by decide +kernel
theorem pm_ic_83_14 : ∀ r, r < 40 → pm_iC 83 (40 * 14 + r) = true := by decide +kernel
theorem pm_ic_83_15 : ∀ r, r < 40 → pm_iC 83 (40 * 15 + r) = true := by decide +kernel
theorem pm_ic_83_16 : ∀ r, r < 40 → pm_iC 83 (40 * 16 + r) = true := by decide +kernel
theorem pm_ic_83_17 : ∀ r, r < 40 → pm_iC 83 (40 * 17 + r) = true := by decide +kernel
theorem pm_ic_83_18 : ∀ r, r < 40 → pm_iC 83 (40 * 18 + r) = true := by decide +kernel
theorem pm_ic_83_19 : ∀ r, r < 40 → pm_iC 83 (40 * 19 + r) = true := by decide +kernel
theorem pm_ic_83_20 : ∀ r, r < 40 → pm_iC 83 (40 * 20 + r) = true := by decide +kernel
theorem pm_ic_83_21 : ∀ r, r < 40 → pm_iC 83 (40 * 21 + r) = true := by decide +kernel
theorem pm_ic_83_22 : ∀ r, r < 40 → pm_iC 83 (40 * 22 + r) = true := by decide +kernel
theorem pm_ic_83_23 : ∀ r, r < 40 → pm_iC 83 (40 * 23 + r) = true := by decide +kernel
theorem pm_ic_83_24 : ∀ r, r < 40 → pm_iC 83 (40 * 24 + r) = true := by decide +kernel
theorem pm_ic_83_25 : ∀ r, r < 40 → pm_iC 83 (40 * 25 + r) = true := by decide +kernel
theorem pm_ic_83_26 : ∀ r, r < 40 → pm_iC 83 (40 * 26 + r) = true := by decide +kernel
theorem pm_ic_83_27 : ∀ r, r < 40 → pm_iC 83 (40 * 27 + r) = true := by decide +kernel
theorem pm_ic_83_28 : ∀ r, r < 40 → pm_iC 83 (40 * 28 + r) = true := by decide +kernel
theorem pm_ic_83_29 : ∀ r, r < 40 → pm_iC 83 (40 * 29 + r) = true := by decide +kernel
theorem pm_iOK_83 : pm_iOK 83 = true := pm_iOK_of (fun b hb => by
  match b, hb with
  | 0, _ => exact pm_ic_83_0
  | 1, _ => exact pm_ic_83_1
  | 2, _ => exact pm_ic_83_2
  | 3, _ => exact pm_ic_83_3
  | 4, _ => exact pm_ic_83_4
  | 5, _ => exact pm_ic_83_5
  | 6, _ => exact pm_ic_83_6
  | 7, _ => exact pm_ic_83_7
  | 8, _ => exact pm_ic_83_8
  | 9, _ => exact pm_ic_83_9
  | 10, _ => exact pm_ic_83_10
  | 11, _ => exact pm_ic_83_11
  | 12, _ => exact pm_ic_83_12
  | 13, _ => exact pm_ic_83_13
  | 14, _ => exact pm_ic_83_14
  | 15, _ => exact pm_ic_83_15
  | 16, _ => exact pm_ic_83_16
  | 17, _ => exact pm_ic_83_17
  | 18, _ => exact pm_ic_83_18
  | 19, _ => exact pm_ic_83_19
  | 20, _ => exact pm_ic_83_20
  | 21, _ => exact pm_ic_83_21
  | 22, _ => exact pm_ic_83_22
  | 23, _ => exact pm_ic_83_23
  | 24, _ => exact pm_ic_83_24
  | 25, _ => exact pm_ic_83_25
  | 26, _ => exact pm_ic_83_26
  | 27, _ => exact pm_ic_83_27
  | 28, _ => exact pm_ic_83_28
  | 29, _ => exact pm_ic_83_29
  | b + 30, h => exact absurd h (by omega))
set_option maxRecDepth 100000 in
theorem pm_kc_83 : lw_tbl[564]? = some (.code yL_numberOf cL_numberOf 5 (some .int)) := by rfl
theorem pm_kOK_83 : pm_kOK 83 = true := by
  have h : pm_has (pm_cp 83) (.code (pm_yy 83) (pm_cc 83) (pm_nl 83) (pm_rr 83)) = true := pm_has_of pm_kc_83 rfl
  unfold pm_kOK
  rw [h]
  decide +kernel
