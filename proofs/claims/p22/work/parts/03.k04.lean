/-! the tables agree with the code: methods 88 and on -/
theorem pm_ic_88_0 : ∀ r, r < 40 → pm_iC 88 (40 * 0 + r) = true := by decide +kernel
theorem pm_ic_88_1 : ∀ r, r < 40 → pm_iC 88 (40 * 1 + r) = true := by decide +kernel
theorem pm_ic_88_2 : ∀ r, r < 40 → pm_iC 88 (40 * 2 + r) = true := by decide +kernel
theorem pm_ic_88_3 : ∀ r, r < 40 → pm_iC 88 (40 * 3 + r) = true := by decide +kernel
theorem pm_ic_88_4 : ∀ r, r < 40 → pm_iC 88 (40 * 4 + r) = true := by decide +kernel
theorem pm_ic_88_5 : ∀ r, r < 40 → pm_iC 88 (40 * 5 + r) = true := by decide +kernel
theorem pm_ic_88_6 : ∀ r, r < 40 → pm_iC 88 (40 * 6 + r) = true := by decide +kernel
theorem pm_ic_88_7 : ∀ r, r < 40 → pm_iC 88 (40 * 7 + r) = true := by decide +kernel
theorem pm_ic_88_8 : ∀ r, r < 40 → pm_iC 88 (40 * 8 + r) = true := by decide +kernel
theorem pm_ic_88_9 : ∀ r, r < 40 → pm_iC 88 (40 * 9 + r) = true := by decide +kernel
theorem pm_ic_88_10 : ∀ r, r < 40 → pm_iC 88 (40 * 10 + r) = true := by decide +kernel
theorem pm_ic_88_11 : ∀ r, r < 40 → pm_iC 88 (40 * 11 + r) = true := by decide +kernel
theorem pm_ic_88_12 : ∀ r, r < 40 → pm_iC 88 (40 * 12 + r) = true := by decide +kernel
theorem pm_ic_88_13 : ∀ r, r < 40 → pm_iC 88 (40 * 13 + r) = true := by decide +kernel
theorem pm_ic_88_14 : ∀ r, r < 40 → pm_iC 88 (40 * 14 + r) = true := by decide +kernel
theorem pm_ic_88_15 : ∀ r, r < 40 → pm_iC 88 (40 * 15 + r) = true := by decide +kernel
theorem pm_ic_88_16 : ∀ r, r < 40 → pm_iC 88 (40 * 16 + r) = true := by decide +kernel
theorem pm_ic_88_17 : ∀ r, r < 40 → pm_iC 88 (40 * 17 + r) = true := by decide +kernel
theorem pm_ic_88_18 : ∀ r, r < 40 → pm_iC 88 (40 * 18 + r) = true := by decide +kernel
theorem pm_ic_88_19 : ∀ r, r < 40 → pm_iC 88 (40 * 19 + r) = true := by decide +kernel
theorem pm_ic_88_20 : ∀ r, r < 40 → pm_iC 88 (40 * 20 + r) = true := by decide +kernel
theorem pm_ic_88_21 : ∀ r, r < 40 → pm_iC 88 (40 * 21 + r) = true := by decide +kernel
theorem pm_ic_88_22 : ∀ r, r < 40 → pm_iC 88 (40 * 22 + r) = true := by decide +kernel
theorem pm_ic_88_23 : ∀ r, r < 40 → pm_iC 88 (40 * 23 + r) = true := by decide +kernel
theorem pm_ic_88_24 : ∀ r, r < 40 → pm_iC 88 (40 * 24 + r) = true := by decide +kernel
theorem pm_ic_88_25 : ∀ r, r < 40 → pm_iC 88 (40 * 25 + r) = true := by decide +kernel
theorem pm_ic_88_26 : ∀ r, r < 40 → pm_iC 88 (40 * 26 + r) = true := by decide +kernel
theorem pm_ic_88_27 : ∀ r, r < 40 → pm_iC 88 (40 * 27 + r) = true := by decide +kernel
theorem pm_ic_88_28 : ∀ r, r < 40 → pm_iC 88 (40 * 28 + r) = true := by decide +kernel
theorem pm_ic_88_29 : ∀ r, r < 40 → pm_iC 88 (40 * 29 + r) = true := by decide +kernel
theorem pm_iOK_88 : pm_iOK 88 = true := pm_iOK_of (fun b hb => by
  match b, hb with
  | 0, _ => exact pm_ic_88_0
  | 1, _ => exact pm_ic_88_1
  | 2, _ => exact pm_ic_88_2
  | 3, _ => exact pm_ic_88_3
  | 4, _ => exact pm_ic_88_4
  | 5, _ => exact pm_ic_88_5
  | 6, _ => exact pm_ic_88_6
  | 7, _ => exact pm_ic_88_7
  | 8, _ => exact pm_ic_88_8
  | 9, _ => exact pm_ic_88_9
  | 10, _ => exact pm_ic_88_10
  | 11, _ => exact pm_ic_88_11
  | 12, _ => exact pm_ic_88_12
  | 13, _ => exact pm_ic_88_13
  | 14, _ => exact pm_ic_88_14
  | 15, _ => exact pm_ic_88_15
  | 16, _ => exact pm_ic_88_16
  | 17, _ => exact pm_ic_88_17
  | 18, _ => exact pm_ic_88_18
  | 19, _ => exact pm_ic_88_19
  | 20, _ => exact pm_ic_88_20
  | 21, _ => exact pm_ic_88_21
  | 22, _ => exact pm_ic_88_22
  | 23, _ => exact pm_ic_88_23
  | 24, _ => exact pm_ic_88_24
  | 25, _ => exact pm_ic_88_25
  | 26, _ => exact pm_ic_88_26
  | 27, _ => exact pm_ic_88_27
  | 28, _ => exact pm_ic_88_28
  | 29, _ => exact pm_ic_88_29
  | b + 30, h => exact absurd h (by omega))
