/-! the tables agree with the code: methods 84 and on -/
theorem pm_ic_84_0 : ∀ r, r < 40 → pm_iC 84 (40 * 0 + r) = true := by decide +kernel
theorem pm_ic_84_1 : ∀ r, r < 40 → pm_iC 84 (40 * 1 + r) = true := by decide +kernel
theorem pm_ic_84_2 : ∀ r, r < 40 → pm_iC 84 (40 * 2 + r) = true := by decide +kernel
theorem pm_ic_84_3 : ∀ r, r < 40 → pm_iC 84 (40 * 3 + r) = true := by decide +kernel
theorem pm_ic_84_4 : ∀ r, r < 40 → pm_iC 84 (40 * 4 + r) = true := by decide +kernel
theorem pm_ic_84_5 : ∀ r, r < 40 → pm_iC 84 (40 * 5 + r) = true := by decide +kernel
theorem pm_ic_84_6 : ∀ r, r < 40 → pm_iC 84 (40 * 6 + r) = true := by decide +kernel
theorem pm_ic_84_7 : ∀ r, r < 40 → pm_iC 84 (40 * 7 + r) = true := by decide +kernel
theorem pm_ic_84_8 : ∀ r, r < 40 → pm_iC 84 (40 * 8 + r) = true := by decide +kernel
theorem pm_ic_84_9 : ∀ r, r < 40 → pm_iC 84 (40 * 9 + r) = true := by decide +kernel
theorem pm_ic_84_10 : ∀ r, r < 40 → pm_iC 84 (40 * 10 + r) = true := by decide +kernel
theorem pm_ic_84_11 : ∀ r, r < 40 → pm_iC 84 (40 * 11 + r) = true := by decide +kernel
theorem pm_ic_84_12 : ∀ r, r < 40 → pm_iC 84 (40 * 12 + r) = true := by decide +kernel
theorem pm_ic_84_13 : ∀ r, r < 40 → pm_iC 84 (40 * 13 + r) = true := by decide +kernel
theorem pm_ic_84_14 : ∀ r, r < 40 → pm_iC 84 (40 * 14 + r) = true := by decide +kernel
theorem pm_ic_84_15 : ∀ r, r < 40 → pm_iC 84 (40 * 15 + r) = true := by decide +kernel
theorem pm_ic_84_16 : ∀ r, r < 40 → pm_iC 84 (40 * 16 + r) = true := by decide +kernel
theorem pm_ic_84_17 : ∀ r, r < 40 → pm_iC 84 (40 * 17 + r) = true := by decide +kernel
theorem pm_ic_84_18 : ∀ r, r < 40 → pm_iC 84 (40 * 18 + r) = true := by decide +kernel
theorem pm_ic_84_19 : ∀ r, r < 40 → pm_iC 84 (40 * 19 + r) = true := by decide +kernel
theorem pm_ic_84_20 : ∀ r, r < 40 → pm_iC 84 (40 * 20 + r) = true := by decide +kernel
theorem pm_ic_84_21 : ∀ r, r < 40 → pm_iC 84 (40 * 21 + r) = true := by decide +kernel
theorem pm_ic_84_22 : ∀ r, r < 40 → pm_iC 84 (40 * 22 + r) = true := by decide +kernel
theorem pm_ic_84_23 : ∀ r, r < 40 → pm_iC 84 (40 * 23 + r) = true := by decide +kernel
theorem pm_ic_84_24 : ∀ r, r < 40 → pm_iC 84 (40 * 24 + r) = true := by decide +kernel
theorem pm_ic_84_25 : ∀ r, r < 40 → pm_iC 84 (40 * 25 + r) = true := by decide +kernel
theorem pm_ic_84_26 : ∀ r, r < 40 → pm_iC 84 (40 * 26 + r) = true := by decide +kernel
theorem pm_ic_84_27 : ∀ r, r < 40 → pm_iC 84 (40 * 27 + r) = true := by decide +kernel
theorem pm_ic_84_28 : ∀ r, r < 40 → pm_iC 84 (40 * 28 + r) = true := by decide +kernel
theorem pm_ic_84_29 : ∀ r, r < 40 → pm_iC 84 (40 * 29 + r) = true := by decide +kernel
theorem pm_iOK_84 : pm_iOK 84 = true := pm_iOK_of (fun b hb => by
  match b, hb with
  | 0, _ => exact pm_ic_84_0
  | 1, _ => exact pm_ic_84_1
  | 2, _ => exact pm_ic_84_2
  | 3, _ => exact pm_ic_84_3
  | 4, _ => exact pm_ic_84_4
  | 5, _ => exact pm_ic_84_5
  | 6, _ => exact pm_ic_84_6
  | 7, _ => exact pm_ic_84_7
  | 8, _ => exact pm_ic_84_8
  | 9, _ => exact pm_ic_84_9
  | 10, _ => exact pm_ic_84_10
  | 11, _ => exact pm_ic_84_11
  | 12, _ => exact pm_ic_84_12
  | 13, _ => exact pm_ic_84_13
  | 14, _ => exact pm_ic_84_14
  | 15, _ => exact pm_ic_84_15
  | 16, _ => exact pm_ic_84_16
  | 17, _ => exact pm_ic_84_17
  | 18, _ => exact pm_ic_84_18
  | 19, _ => exact pm_ic_84_19
  | 20, _ => exact pm_ic_84_20
  | 21, _ => exact pm_ic_84_21
  | 22, _ => exact pm_ic_84_22
  | 23, _ => exact pm_ic_84_23
  | 24, _ => exact pm_ic_84_24
  | 25, _ => exact pm_ic_84_25
  | 26, _ => exact pm_ic_84_26
  | 27, _ => exact pm_ic_84_27
  | 28, _ => exact pm_ic_84_28
  | 29, _ => exact pm_ic_84_29
  | b + 30, h => exact absurd h (by omega))
set_option maxRecDepth 100000 in
theorem pm_kc_84 : lw_tbl[561]? = some (.code yL_isPlanned cL_isPlanned 11 (some .boolean)) := by rfl
theorem pm_kOK_84 : pm_kOK 84 = true := by
  have h : pm_has (pm_cp 84) (.code (pm_yy 84) (pm_cc 84) (pm_nl 84) (pm_rr 84)) = true := pm_has_of pm_kc_84 rfl
  unfold pm_kOK
  rw [h]
  decide +kernel
theorem pm_ic_85_0 : ∀ r, r < 40 → pm_iC 85 (40 * 0 + r) = true := by decide +kernel
theorem pm_ic_85_1 : ∀ r, r < 40 → pm_iC 85 (40 * 1 + r) = true := by decide +kernel
theorem pm_ic_85_2 : ∀ r, r < 40 → pm_iC 85 (40 * 2 + r) = true := by decide +kernel
theorem pm_ic_85_3 : ∀ r, r < 40 → pm_iC 85 (40 * 3 + r) = true := by decide +kernel
theorem pm_ic_85_4 : ∀ r, r < 40 → pm_iC 85 (40 * 4 + r) = true := by decide +kernel
theorem pm_ic_85_5 : ∀ r, r < 40 → pm_iC 85 (40 * 5 + r) = true := by decide +kernel
theorem pm_ic_85_6 : ∀ r, r < 40 → pm_iC 85 (40 * 6 + r) = true := by decide +kernel
theorem pm_ic_85_7 : ∀ r, r < 40 → pm_iC 85 (40 * 7 + r) = true := by decide +kernel
theorem pm_ic_85_8 : ∀ r, r < 40 → pm_iC 85 (40 * 8 + r) = true := by decide +kernel
theorem pm_ic_85_9 : ∀ r, r < 40 → pm_iC 85 (40 * 9 + r) = true := by decide +kernel
theorem pm_ic_85_10 : ∀ r, r < 40 → pm_iC 85 (40 * 10 + r) = true := by decide +kernel
theorem pm_ic_85_11 : ∀ r, r < 40 → pm_iC 85 (40 * 11 + r) = true := by decide +kernel
theorem pm_ic_85_12 : ∀ r, r < 40 → pm_iC 85 (40 * 12 + r) = true := by decide +kernel
theorem pm_ic_85_13 : ∀ r, r < 40 → pm_iC 85 (40 * 13 + r) = true := by decide +kernel
theorem pm_ic_85_14 : ∀ r, r < 40 → pm_iC 85 (40 * 14 + r) = true := by decide +kernel
theorem pm_ic_85_15 : ∀ r, r < 40 → pm_iC 85 (40 * 15 + r) = true := by decide +kernel
theorem pm_ic_85_16 : ∀ r, r < 40 → pm_iC 85 (40 * 16 + r) = true := by decide +kernel
theorem pm_ic_85_17 : ∀ r, r < 40 → pm_iC 85 (40 * 17 + r) = true := by decide +kernel
theorem pm_ic_85_18 : ∀ r, r < 40 → pm_iC 85 (40 * 18 + r) = true := by decide +kernel
theorem pm_ic_85_19 : ∀ r, r < 40 → pm_iC 85 (40 * 19 + r) = true := by decide +kernel
theorem pm_ic_85_20 : ∀ r, r < 40 → pm_iC 85 (40 * 20 + r) = true := by decide +kernel
theorem pm_ic_85_21 : ∀ r, r < 40 → pm_iC 85 (40 * 21 + r) = true := by decide +kernel
theorem pm_ic_85_22 : ∀ r, r < 40 → pm_iC 85 (40 * 22 + r) = true := by decide +kernel
theorem pm_ic_85_23 : ∀ r, r < 40 → pm_iC 85 (40 * 23 + r) = true := by decide +kernel
theorem pm_ic_85_24 : ∀ r, r < 40 → pm_iC 85 (40 * 24 + r) = true := by decide +kernel
theorem pm_ic_85_25 : ∀ r, r < 40 → pm_iC 85 (40 * 25 + r) = true := by decide +kernel
theorem pm_ic_85_26 : ∀ r, r < 40 → pm_iC 85 (40 * 26 + r) = true := by decide +kernel
theorem pm_ic_85_27 : ∀ r, r < 40 → pm_iC 85 (40 * 27 + r) = true := by decide +kernel
theorem pm_ic_85_28 : ∀ r, r < 40 → pm_iC 85 (40 * 28 + r) = true := by decide +kernel
theorem pm_ic_85_29 : ∀ r, r < 40 → pm_iC 85 (40 * 29 + r) = true := by decide +kernel
theorem pm_iOK_85 : pm_iOK 85 = true := pm_iOK_of (fun b hb => by
  match b, hb with
  | 0, _ => exact pm_ic_85_0
  | 1, _ => exact pm_ic_85_1
  | 2, _ => exact pm_ic_85_2
  | 3, _ => exact pm_ic_85_3
  | 4, _ => exact pm_ic_85_4
  | 5, _ => exact pm_ic_85_5
  | 6, _ => exact pm_ic_85_6
  | 7, _ => exact pm_ic_85_7
  | 8, _ => exact pm_ic_85_8
  | 9, _ => exact pm_ic_85_9
  | 10, _ => exact pm_ic_85_10
  | 11, _ => exact pm_ic_85_11
  | 12, _ => exact pm_ic_85_12
  | 13, _ => exact pm_ic_85_13
  | 14, _ => exact pm_ic_85_14
  | 15, _ => exact pm_ic_85_15
  | 16, _ => exact pm_ic_85_16
  | 17, _ => exact pm_ic_85_17
  | 18, _ => exact pm_ic_85_18
  | 19, _ => exact pm_ic_85_19
  | 20, _ => exact pm_ic_85_20
  | 21, _ => exact pm_ic_85_21
  | 22, _ => exact pm_ic_85_22
  | 23, _ => exact pm_ic_85_23
  | 24, _ => exact pm_ic_85_24
  | 25, _ => exact pm_ic_85_25
  | 26, _ => exact pm_ic_85_26
  | 27, _ => exact pm_ic_85_27
  | 28, _ => exact pm_ic_85_28
  | 29, _ => exact pm_ic_85_29
  | b + 30, h => exact absurd h (by omega))
set_option maxRecDepth 100000 in
theorem pm_kc_85 : lw_tbl[567]? = some (.code yL_isSeeded cL_isSeeded 6 (some .boolean)) := by rfl
theorem pm_kOK_85 : pm_kOK 85 = true := by
  have h : pm_has (pm_cp 85) (.code (pm_yy 85) (pm_cc 85) (pm_nl 85) (pm_rr 85)) = true := pm_has_of pm_kc_85 rfl
  unfold pm_kOK
  rw [h]
  decide +kernel
