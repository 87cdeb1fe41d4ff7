/-! the tables agree with the code: all methods -/
theorem pm_iOK_all (k : Nat) (h : k < 89) : pm_iOK k = true := by
  rcases Nat.lt_or_ge k 80 with q | q
  · exact pm_iOK_a80 k q
  · obtain ⟨j, rfl⟩ : ∃ j, k = 80 + j := ⟨k - 80, by omega⟩
    match j, h with
    | 0, _ => exact pm_iOK_80
    | 1, _ => exact pm_iOK_81
    | 2, _ => exact pm_iOK_82
    | 3, _ => exact pm_iOK_83
    | 4, _ => exact pm_iOK_84
    | 5, _ => exact pm_iOK_85
    | 6, _ => exact pm_iOK_86
    | 7, _ => exact pm_iOK_87
    | 8, _ => exact pm_iOK_88
    | j + 9, h => exact absurd h (by omega)
theorem pm_kOK_all (k : Nat) (h : k < 88) : pm_kOK k = true := by
  rcases Nat.lt_or_ge k 80 with q | q
  · exact pm_kOK_a80 k q
  · obtain ⟨j, rfl⟩ : ∃ j, k = 80 + j := ⟨k - 80, by omega⟩
    match j, h with
    | 0, _ => exact pm_kOK_80
    | 1, _ => exact pm_kOK_81
    | 2, _ => exact pm_kOK_82
    | 3, _ => exact pm_kOK_83
    | 4, _ => exact pm_kOK_84
    | 5, _ => exact pm_kOK_85
    | 6, _ => exact pm_kOK_86
    | 7, _ => exact pm_kOK_87
    | j + 8, h => exact absurd h (by omega)
