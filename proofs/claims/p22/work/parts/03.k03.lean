/-! the tables agree with the code: methods 86 and on -/
theorem pm_ic_86_0 : ∀ r, r < 40 → pm_iC 86 (40 * 0 + r) = true := by decide +kernel
theorem pm_ic_86_1 : ∀ r, r < 40 → pm_iC 86 (40 * 1 + r) = true := by decide +kernel
theorem pm_ic_86_2 : ∀ r, r < 40 → pm_iC 86 (40 * 2 + r) = true := by decide +kernel
theorem pm_ic_86_3 : ∀ r, r < 40 → pm_iC 86 (40 * 3 + r) = true := by decide +kernel
theorem pm_ic_86_4 : ∀ r, r < 40 → pm_iC 86 (40 * 4 + r) = true := by decide +kernel
theorem pm_ic_86_5 : ∀ r, r < 40 → pm_iC 86 (40 * 5 + r) = true := by decide +kernel
theorem pm_ic_86_6 : ∀ r, r < 40 → pm_iC 86 (40 * 6 + r) = true := by decide +kernel
theorem pm_ic_86_7 : ∀ r, r < 40 → pm_iC 86 (40 * 7 + r) = true := by decide +kernel
theorem pm_ic_86_8 : ∀ r, r < 40 → pm_iC 86 (40 * 8 + r) = true := by decide +kernel
theorem pm_ic_86_9 : ∀ r, r < 40 → pm_iC 86 (40 * 9 + r) = true := by decide +kernel
theorem pm_ic_86_10 : ∀ r, r < 40 → pm_iC 86 (40 * 10 + r) = true := by decide +kernel
theorem pm_ic_86_11 : ∀ r, r < 40 → pm_iC 86 (40 * 11 + r) = true := by decide +kernel
theorem pm_ic_86_12 : ∀ r, r < 40 → pm_iC 86 (40 * 12 + r) = true := by decide +kernel
theorem pm_ic_86_13 : ∀ r, r < 40 → pm_iC 86 (40 * 13 + r) = true := by decide +kernel
theorem pm_ic_86_14 : ∀ r, r < 40 → pm_iC 86 (40 * 14 + r) = true := by decide +kernel
theorem pm_ic_86_15 : ∀ r, r < 40 → pm_iC 86 (40 * 15 + r) = true := by decide +kernel
theorem pm_ic_86_16 : ∀ r, r < 40 → pm_iC 86 (40 * 16 + r) = true := by decide +kernel
theorem pm_ic_86_17 : ∀ r, r < 40 → pm_iC 86 (40 * 17 + r) = true := by decide +kernel
theorem pm_ic_86_18 : ∀ r, r < 40 → pm_iC 86 (40 * 18 + r) = true := by decide +kernel
theorem pm_ic_86_19 : ∀ r, r < 40 → pm_iC 86 (40 * 19 + r) = true := by decide +kernel
theorem pm_ic_86_20 : ∀ r, r < 40 → pm_iC 86 (40 * 20 + r) = true := by decide +kernel
theorem pm_ic_86_21 : ∀ r, r < 40 → pm_iC 86 (40 * 21 + r) = true := by decide +kernel
theorem pm_ic_86_22 : ∀ r, r < 40 → pm_iC 86 (40 * 22 + r) = true := by decide +kernel
theorem pm_ic_86_23 : ∀ r, r < 40 → pm_iC 86 (40 * 23 + r) = true := by decide +kernel
theorem pm_ic_86_24 : ∀ r, r < 40 → pm_iC 86 (40 * 24 + r) = true := by decide +kernel
theorem pm_ic_86_25 : ∀ r, r < 40 → pm_iC 86 (40 * 25 + r) = true := by decide +kernel
theorem pm_ic_86_26 : ∀ r, r < 40 → pm_iC 86 (40 * 26 + r) = true := by decide +kernel
theorem pm_ic_86_27 : ∀ r, r < 40 → pm_iC 86 (40 * 27 + r) = true := by decide +kernel
theorem pm_ic_86_28 : ∀ r, r < 40 → pm_iC 86 (40 * 28 + r) = true := by decide +kernel
theorem pm_ic_86_29 : ∀ r, r < 40 → pm_iC 86 (40 * 29 + r) = true := by decide +kernel
theorem pm_iOK_86 : pm_iOK 86 = true := pm_iOK_of (fun b hb => by
  match b, hb with
  | 0, _ => exact pm_ic_86_0
  | 1, _ => exact pm_ic_86_1
  | 2, _ => exact pm_ic_86_2
  | 3, _ => exact pm_ic_86_3
  | 4, _ => exact pm_ic_86_4
  | 5, _ => exact pm_ic_86_5
  | 6, _ => exact pm_ic_86_6
  | 7, _ => exact pm_ic_86_7
  | 8, _ => exact pm_ic_86_8
  | 9, _ => exact pm_ic_86_9
  | 10, _ => exact pm_ic_86_10
  | 11, _ => exact pm_ic_86_11
  | 12, _ => exact pm_ic_86_12
  | 13, _ => exact pm_ic_86_13
  | 14, _ => exact pm_ic_86_14
  | 15, _ => exact pm_ic_86_15
  | 16, _ => exact pm_ic_86_16
  | 17, _ => exact pm_ic_86_17
  | 18, _ => exact pm_ic_86_18
  | 19, _ => exact pm_ic_86_19
  | 20, _ => exact pm_ic_86_20
  | 21, _ => exact pm_ic_86_21
  | 22, _ => exact pm_ic_86_22
  | 23, _ => exact pm_ic_86_23
  | 24, _ => exact pm_ic_86_24
  | 25, _ => exact pm_ic_86_25
  | 26, _ => exact pm_ic_86_26
  | 27, _ => exact pm_ic_86_27
  | 28, _ => exact pm_ic_86_28
  | 29, _ => exact pm_ic_86_29
  | b + 30, h => exact absurd h (by omega))
set_option maxRecDepth 100000 in
theorem pm_kc_86 : lw_tbl[570]? = some (.code yL_fits cL_fits 13 (some .boolean)) := by rfl
theorem pm_kOK_86 : pm_kOK 86 = true := by
  have h : pm_has (pm_cp 86) (.code (pm_yy 86) (pm_cc 86) (pm_nl 86) (pm_rr 86)) = true := pm_has_of pm_kc_86 rfl
  unfold pm_kOK
  rw [h]
  decide +kernel
theorem pm_ic_87_0 : ∀ r, r < 40 → pm_iC 87 (40 * 0 + r) = true := by decide +kernel
theorem pm_ic_87_1 : ∀ r, r < 40 → pm_iC 87 (40 * 1 + r) = true := by decide +kernel
theorem pm_ic_87_2 : ∀ r, r < 40 → pm_iC 87 (40 * 2 + r) = true := by decide +kernel
theorem pm_ic_87_3 : ∀ r, r < 40 → pm_iC 87 (40 * 3 + r) = true := by decide +kernel
theorem pm_ic_87_4 : ∀ r, r < 40 → pm_iC 87 (40 * 4 + r) = true := by decide +kernel
theorem pm_ic_87_5 : ∀ r, r < 40 → pm_iC 87 (40 * 5 + r) = true := by decide +kernel
theorem pm_ic_87_6 : ∀ r, r < 40 → pm_iC 87 (40 * 6 + r) = true := by decide +kernel
theorem pm_ic_87_7 : ∀ r, r < 40 → pm_iC 87 (40 * 7 + r) = true := by decide +kernel
theorem pm_ic_87_8 : ∀ r, r < 40 → pm_iC 87 (40 * 8 + r) = true := by decide +kernel
theorem pm_ic_87_9 : ∀ r, r < 40 → pm_iC 87 (40 * 9 + r) = true := by decide +kernel
theorem pm_ic_87_10 : ∀ r, r < 40 → pm_iC 87 (40 * 10 + r) = true := by decide +kernel
theorem pm_ic_87_11 : ∀ r, r < 40 → pm_iC 87 (40 * 11 + r) = true := by decide +kernel
theorem pm_ic_87_12 : ∀ r, r < 40 → pm_iC 87 (40 * 12 + r) = true := by decide +kernel
theorem pm_ic_87_13 : ∀ r, r < 40 → pm_iC 87 (40 * 13 + r) = true := by decide +kernel
theorem pm_ic_87_14 : ∀ r, r < 40 → pm_iC 87 (40 * 14 + r) = true := by decide +kernel
theorem pm_ic_87_15 : ∀ r, r < 40 → pm_iC 87 (40 * 15 + r) = true := by decide +kernel
theorem pm_ic_87_16 : ∀ r, r < 40 → pm_iC 87 (40 * 16 + r) = true := by decide +kernel
theorem pm_ic_87_17 : ∀ r, r < 40 → pm_iC 87 (40 * 17 + r) = true := by decide +kernel
theorem pm_ic_87_18 : ∀ r, r < 40 → pm_iC 87 (40 * 18 + r) = true := by decide +kernel
theorem pm_ic_87_19 : ∀ r, r < 40 → pm_iC 87 (40 * 19 + r) = true := by decide +kernel
theorem pm_ic_87_20 : ∀ r, r < 40 → pm_iC 87 (40 * 20 + r) = true := by decide +kernel
theorem pm_ic_87_21 : ∀ r, r < 40 → pm_iC 87 (40 * 21 + r) = true := by decide +kernel
theorem pm_ic_87_22 : ∀ r, r < 40 → pm_iC 87 (40 * 22 + r) = true := by decide +kernel
theorem pm_ic_87_23 : ∀ r, r < 40 → pm_iC 87 (40 * 23 + r) = true := by decide +kernel
theorem pm_ic_87_24 : ∀ r, r < 40 → pm_iC 87 (40 * 24 + r) = true := by decide +kernel
theorem pm_ic_87_25 : ∀ r, r < 40 → pm_iC 87 (40 * 25 + r) = true := by decide +kernel
theorem pm_ic_87_26 : ∀ r, r < 40 → pm_iC 87 (40 * 26 + r) = true := by decide +kernel
theorem pm_ic_87_27 : ∀ r, r < 40 → pm_iC 87 (40 * 27 + r) = true := by decide +kernel
theorem pm_ic_87_28 : ∀ r, r < 40 → pm_iC 87 (40 * 28 + r) = true := by decide +kernel
theorem pm_ic_87_29 : ∀ r, r < 40 → pm_iC 87 (40 * 29 + r) = true := by decide +kernel
theorem pm_iOK_87 : pm_iOK 87 = true := pm_iOK_of (fun b hb => by
  match b, hb with
  | 0, _ => exact pm_ic_87_0
  | 1, _ => exact pm_ic_87_1
  | 2, _ => exact pm_ic_87_2
  | 3, _ => exact pm_ic_87_3
  | 4, _ => exact pm_ic_87_4
  | 5, _ => exact pm_ic_87_5
  | 6, _ => exact pm_ic_87_6
  | 7, _ => exact pm_ic_87_7
  | 8, _ => exact pm_ic_87_8
  | 9, _ => exact pm_ic_87_9
  | 10, _ => exact pm_ic_87_10
  | 11, _ => exact pm_ic_87_11
  | 12, _ => exact pm_ic_87_12
  | 13, _ => exact pm_ic_87_13
  | 14, _ => exact pm_ic_87_14
  | 15, _ => exact pm_ic_87_15
  | 16, _ => exact pm_ic_87_16
  | 17, _ => exact pm_ic_87_17
  | 18, _ => exact pm_ic_87_18
  | 19, _ => exact pm_ic_87_19
  | 20, _ => exact pm_ic_87_20
  | 21, _ => exact pm_ic_87_21
  | 22, _ => exact pm_ic_87_22
  | 23, _ => exact pm_ic_87_23
  | 24, _ => exact pm_ic_87_24
  | 25, _ => exact pm_ic_87_25
  | 26, _ => exact pm_ic_87_26
  | 27, _ => exact pm_ic_87_27
  | 28, _ => exact pm_ic_87_28
  | 29, _ => exact pm_ic_87_29
  | b + 30, h => exact absurd h (by omega))
set_option maxRecDepth 100000 in
theorem pm_kc_87 : lw_tbl[573]? = some (.code yL_arePlaced cL_arePlaced 7 (some .boolean)) := by rfl
theorem pm_kOK_87 : pm_kOK 87 = true := by
  have h : pm_has (pm_cp 87) (.code (pm_yy 87) (pm_cc 87) (pm_nl 87) (pm_rr 87)) = true := pm_has_of pm_kc_87 rfl
  unfold pm_kOK
  rw [h]
  decide +kernel
