/-! the reference: fault -/
theorem tact_rg {G : PW} {s w : Int} (h : ptx G) (h0 : 0 ≤ s) (hw : w = 0 ∨ w = 1) : (s ≤ (tact G s w).2.2.1 ∧ (tact G s w).2.2.1 ≤ s + 3) ∧ ((tact G s w).2.2.2 = 0 ∨ (tact G s w).2.2.2 = 1) ∧ ((tact G s w).2.2.2 = 0 → s + 2 ≤ (tact G s w).2.2.1) := by
  unfold tact tactS tactW
  by_cases c0 : psg G s = 119
  · obtain ⟨⟨r1, r2⟩, ⟨r3, r4⟩, r5, r6⟩ := tnum_rg (most := 15) (s := s + 1) (w := w) h (by omega) hw (by omega)
    rw [if_pos c0, if_pos c0, if_pos c0]
    dsimp only
    omega
  · obtain ⟨⟨r1, r2⟩, ⟨r3, r4⟩, r5, r6⟩ := tnum_rg (most := 30) (s := s) (w := w) h (by omega) hw (by omega)
    rw [if_neg c0, if_neg c0, if_neg c0]
    dsimp only
    by_cases c1 : (tnum G 30 s w).2.2 = 0 ∧ (psg G (tnum G 30 s w).2.1 = 97 ∨ psg G (tnum G 30 s w).2.1 = 98)
    · have r7 := r6 c1.1
      rw [if_pos c1, if_pos rfl]
      omega
    · have c3 : ¬ (1 : Int) = 0 := by decide
      rw [if_neg c1, if_neg c3]
      omega
/-- act after act, as commas tell -/
def flt : Nat → PW → Nat → Int → Int → PW × Nat × Int × Int
  | 0, G, N, s, w => (G, N, s, w)
  | f + 1, G, N, s, w => if w = 0 ∧ psg G s = 44 then flt f (tmemo G N (tact G (s + 1) w).1 (tact G (s + 1) w).2.1) (N + 1) (tact G (s + 1) w).2.2.1 (tact G (s + 1) w).2.2.2 else (G, N, s, w)
def fval (q : PW × Nat × Int × Int) : Int := if q.2.2.2 = 1 ∨ q.2.2.1 < q.1 0 4 then q.2.2.1 else -6
theorem m_fault_end {G : PW} {s w : Int} {N : Nat} (h : ptx G) (hw : w = 0 ∨ w = 1) (h0 : 0 ≤ s) (hn : ¬ (w = 0 ∧ psg G s = 44)) : pm_dn pm_sM 160 19 [some (.inr (.inr 0))] [] (rd G s w) = some (some (.inl (fval (G, N, s, w))), rd G s w) := by
  have nx := m_next (w := w) h h0
  unfold fval
  dsimp only
  rw [u_160_19]
  rcases hw with d | d
  · subst d
    have c44 : ¬ psg G s = 44 := fun z => hn ⟨rfl, z⟩
    by_cases c1 : s < G 0 4
    · have c1' : ¬ G 0 4 ≤ s := by omega
      rw [if_pos (Or.inr c1)]
      simp (disch := first | assumption | omega | (simp (disch := omega) only [stv_ne, upd_ne])) only [ue_160, u_160_0, u_160_1, u_160_2, u_160_5, u_160_6, u_160_7, u_160_10, u_160_11, u_160_12, u_160_15, u_160_16, u_160_20, u_160_23, u_160_26, u_160_27, u_160_30, u_160_32, u_160_35, u_160_36, u_160_37, u_160_40, u_160_41, u_160_42, u_160_45, u_160_46, u_160_49, u_160_52, u_160_53, u_160_56, u_160_59, u_160_60, u_160_63, u_160_64, u_160_67, u_160_70, u_160_71, u_160_74, u_160_77, u_160_79, uc_157_0_0, uc_157_0_1, uc_157_0_2, uc_157_0_3, uc_159_0_0, uc_159_0_1, uc_159_0_2, uc_159_0_3, nx, c44, c1, c1', rd_29, rd_30, rd_4, pe_10, not_true, not_false_eq_true, if_true, if_false, pm_go_n, pm_go_c, pm_go_r, pm_go_i, pm_oIL, pm_oLL, pm_oAL, pm_oIS, pm_oLS, pm_oAS, pm_oK, pm_oKL, pe_add, pe_sub, pe_mul, pe_div, pe_rem, pe_shr, pe_and, pm_oInc, pe_rgb, pe_if, pe_ic, pe_b1, pe_nn, pe_eq, pe_ne, pe_lt, pe_ge, pe_gt, pe_le, pe_go, pe_ri0, pe_ri1, pe_ri2, pe_i2c, pm_oRv, pm_oGf, pm_oLen, pm_oDup, pm_oDu2, pm_oPop, pm_oL2i, pm_oLand, pm_oLus, pm_oLsh, pm_oLcm, lk_0, lk_1, lk_2, lk_3, lk_4, lk_5, lk_6, lk_7, lk_8, st_0, st_1n, st_1i, st_1r, st_2, st_3, st_4, st_5, st_6, st_7, st_8, Option.toList_some, Option.toList_none, List.cons_append, List.nil_append, shM_fd0_0, shM_fd0_1, shM_fd0_2, shM_fd0_3, shM_fd0_4, shM_pf0_4, shM_fd0_5, shM_pf0_5, shM_fd0_6, shM_pf0_6, shM_fd0_7, shM_pf0_7, shM_fd0_8, shM_fd0_9, shM_fd0_10, shM_fd0_11, shM_fd0_12, shM_fd0_13, shM_fd0_14, shM_fd0_15, shM_fd0_16, shM_fd0_17, shM_fd0_18, shM_fd0_19, shM_fd0_20, shM_fd0_21, shM_fd0_22, shM_fd0_23, shM_fd0_24, shM_fd0_25, shM_pf0_25, shM_fd0_26, shM_pf0_26, shM_fd0_27, shM_fd0_28, shM_fd0_29, shM_pf0_29, shM_fd0_30, shM_pf0_30, shM_fd0_31, shM_fd0_32, shM_fd0_33, shM_pf0_33, shM_al1, shM_ld1, shM_st1, shM_al2, shM_ld2, shM_st2, shM_al3, shM_ld3, shM_st3, shM_al4, shM_ld4, shM_st4, shM_al5, shM_ld5, shM_st5, shM_al6, shM_ld6, shM_st6, shM_al7, shM_ld7, shM_st7, shM_al8, shM_ld8, shM_st8, shM_al9, shM_ld9, shM_st9, shM_al10, shM_ld10, shM_st10, shM_al11, shM_ld11, shM_st11, shM_al12, shM_ld12, shM_st12, shM_al13, shM_ld13, shM_st13, shM_al14, shM_ld14, shM_st14, shM_al15, shM_ld15, shM_st15, shM_al16, shM_ld16, shM_st16, shM_al17, shM_ld17, shM_st17, shM_al18, shM_ld18, shM_st18, shM_al19, shM_ld19, shM_st19, shM_al20, shM_ld20, shM_st20, shM_al21, shM_ld21, shM_st21, shM_al22, shM_ld22, shM_st22, shM_al23, shM_ld23, shM_st23, shM_al24, shM_ld24, shM_st24, shM_al25, shM_ld25, shM_st25]
    · have c1' : G 0 4 ≤ s := by omega
      have c2 : ¬ ((0 : Int) = 1 ∨ s < G 0 4) := fun z => z.elim (fun z => absurd z (by decide)) c1
      rw [if_neg c2]
      simp (disch := first | assumption | omega | (simp (disch := omega) only [stv_ne, upd_ne])) only [ue_160, u_160_0, u_160_1, u_160_2, u_160_5, u_160_6, u_160_7, u_160_10, u_160_11, u_160_12, u_160_15, u_160_16, u_160_20, u_160_23, u_160_26, u_160_27, u_160_30, u_160_32, u_160_35, u_160_36, u_160_37, u_160_40, u_160_41, u_160_42, u_160_45, u_160_46, u_160_49, u_160_52, u_160_53, u_160_56, u_160_59, u_160_60, u_160_63, u_160_64, u_160_67, u_160_70, u_160_71, u_160_74, u_160_77, u_160_79, uc_157_0_0, uc_157_0_1, uc_157_0_2, uc_157_0_3, uc_159_0_0, uc_159_0_1, uc_159_0_2, uc_159_0_3, nx, c44, c1, c1', rd_29, rd_30, rd_4, pe_10, not_true, not_false_eq_true, if_true, if_false, pm_go_n, pm_go_c, pm_go_r, pm_go_i, pm_oIL, pm_oLL, pm_oAL, pm_oIS, pm_oLS, pm_oAS, pm_oK, pm_oKL, pe_add, pe_sub, pe_mul, pe_div, pe_rem, pe_shr, pe_and, pm_oInc, pe_rgb, pe_if, pe_ic, pe_b1, pe_nn, pe_eq, pe_ne, pe_lt, pe_ge, pe_gt, pe_le, pe_go, pe_ri0, pe_ri1, pe_ri2, pe_i2c, pm_oRv, pm_oGf, pm_oLen, pm_oDup, pm_oDu2, pm_oPop, pm_oL2i, pm_oLand, pm_oLus, pm_oLsh, pm_oLcm, lk_0, lk_1, lk_2, lk_3, lk_4, lk_5, lk_6, lk_7, lk_8, st_0, st_1n, st_1i, st_1r, st_2, st_3, st_4, st_5, st_6, st_7, st_8, Option.toList_some, Option.toList_none, List.cons_append, List.nil_append, shM_fd0_0, shM_fd0_1, shM_fd0_2, shM_fd0_3, shM_fd0_4, shM_pf0_4, shM_fd0_5, shM_pf0_5, shM_fd0_6, shM_pf0_6, shM_fd0_7, shM_pf0_7, shM_fd0_8, shM_fd0_9, shM_fd0_10, shM_fd0_11, shM_fd0_12, shM_fd0_13, shM_fd0_14, shM_fd0_15, shM_fd0_16, shM_fd0_17, shM_fd0_18, shM_fd0_19, shM_fd0_20, shM_fd0_21, shM_fd0_22, shM_fd0_23, shM_fd0_24, shM_fd0_25, shM_pf0_25, shM_fd0_26, shM_pf0_26, shM_fd0_27, shM_fd0_28, shM_fd0_29, shM_pf0_29, shM_fd0_30, shM_pf0_30, shM_fd0_31, shM_fd0_32, shM_fd0_33, shM_pf0_33, shM_al1, shM_ld1, shM_st1, shM_al2, shM_ld2, shM_st2, shM_al3, shM_ld3, shM_st3, shM_al4, shM_ld4, shM_st4, shM_al5, shM_ld5, shM_st5, shM_al6, shM_ld6, shM_st6, shM_al7, shM_ld7, shM_st7, shM_al8, shM_ld8, shM_st8, shM_al9, shM_ld9, shM_st9, shM_al10, shM_ld10, shM_st10, shM_al11, shM_ld11, shM_st11, shM_al12, shM_ld12, shM_st12, shM_al13, shM_ld13, shM_st13, shM_al14, shM_ld14, shM_st14, shM_al15, shM_ld15, shM_st15, shM_al16, shM_ld16, shM_st16, shM_al17, shM_ld17, shM_st17, shM_al18, shM_ld18, shM_st18, shM_al19, shM_ld19, shM_st19, shM_al20, shM_ld20, shM_st20, shM_al21, shM_ld21, shM_st21, shM_al22, shM_ld22, shM_st22, shM_al23, shM_ld23, shM_st23, shM_al24, shM_ld24, shM_st24, shM_al25, shM_ld25, shM_st25]
  · subst d
    rw [if_pos (Or.inl rfl)]
    simp (disch := first | assumption | omega | (simp (disch := omega) only [stv_ne, upd_ne])) only [ue_160, u_160_0, u_160_1, u_160_2, u_160_5, u_160_6, u_160_7, u_160_10, u_160_11, u_160_12, u_160_15, u_160_16, u_160_20, u_160_23, u_160_26, u_160_27, u_160_30, u_160_32, u_160_35, u_160_36, u_160_37, u_160_40, u_160_41, u_160_42, u_160_45, u_160_46, u_160_49, u_160_52, u_160_53, u_160_56, u_160_59, u_160_60, u_160_63, u_160_64, u_160_67, u_160_70, u_160_71, u_160_74, u_160_77, u_160_79, uc_157_0_0, uc_157_0_1, uc_157_0_2, uc_157_0_3, uc_159_0_0, uc_159_0_1, uc_159_0_2, uc_159_0_3, rd_29, rd_30, rd_4, pe_10, not_true, not_false_eq_true, if_true, if_false, pm_go_n, pm_go_c, pm_go_r, pm_go_i, pm_oIL, pm_oLL, pm_oAL, pm_oIS, pm_oLS, pm_oAS, pm_oK, pm_oKL, pe_add, pe_sub, pe_mul, pe_div, pe_rem, pe_shr, pe_and, pm_oInc, pe_rgb, pe_if, pe_ic, pe_b1, pe_nn, pe_eq, pe_ne, pe_lt, pe_ge, pe_gt, pe_le, pe_go, pe_ri0, pe_ri1, pe_ri2, pe_i2c, pm_oRv, pm_oGf, pm_oLen, pm_oDup, pm_oDu2, pm_oPop, pm_oL2i, pm_oLand, pm_oLus, pm_oLsh, pm_oLcm, lk_0, lk_1, lk_2, lk_3, lk_4, lk_5, lk_6, lk_7, lk_8, st_0, st_1n, st_1i, st_1r, st_2, st_3, st_4, st_5, st_6, st_7, st_8, Option.toList_some, Option.toList_none, List.cons_append, List.nil_append, shM_fd0_0, shM_fd0_1, shM_fd0_2, shM_fd0_3, shM_fd0_4, shM_pf0_4, shM_fd0_5, shM_pf0_5, shM_fd0_6, shM_pf0_6, shM_fd0_7, shM_pf0_7, shM_fd0_8, shM_fd0_9, shM_fd0_10, shM_fd0_11, shM_fd0_12, shM_fd0_13, shM_fd0_14, shM_fd0_15, shM_fd0_16, shM_fd0_17, shM_fd0_18, shM_fd0_19, shM_fd0_20, shM_fd0_21, shM_fd0_22, shM_fd0_23, shM_fd0_24, shM_fd0_25, shM_pf0_25, shM_fd0_26, shM_pf0_26, shM_fd0_27, shM_fd0_28, shM_fd0_29, shM_pf0_29, shM_fd0_30, shM_pf0_30, shM_fd0_31, shM_fd0_32, shM_fd0_33, shM_pf0_33, shM_al1, shM_ld1, shM_st1, shM_al2, shM_ld2, shM_st2, shM_al3, shM_ld3, shM_st3, shM_al4, shM_ld4, shM_st4, shM_al5, shM_ld5, shM_st5, shM_al6, shM_ld6, shM_st6, shM_al7, shM_ld7, shM_st7, shM_al8, shM_ld8, shM_st8, shM_al9, shM_ld9, shM_st9, shM_al10, shM_ld10, shM_st10, shM_al11, shM_ld11, shM_st11, shM_al12, shM_ld12, shM_st12, shM_al13, shM_ld13, shM_st13, shM_al14, shM_ld14, shM_st14, shM_al15, shM_ld15, shM_st15, shM_al16, shM_ld16, shM_st16, shM_al17, shM_ld17, shM_st17, shM_al18, shM_ld18, shM_st18, shM_al19, shM_ld19, shM_st19, shM_al20, shM_ld20, shM_st20, shM_al21, shM_ld21, shM_st21, shM_al22, shM_ld22, shM_st22, shM_al23, shM_ld23, shM_st23, shM_al24, shM_ld24, shM_st24, shM_al25, shM_ld25, shM_st25]
theorem m_fault_l : ∀ f : Nat, ∀ (G : PW) (N : Nat) (s w : Int), ptx G → 0 ≤ s ∧ s ≤ 70 → w = 0 ∨ w = 1 → (w = 0 → 3 * (N : Int) ≤ s + 1) → G 0 33 = (N : Int) → 65 ≤ (f : Int) + s → pm_dn pm_sM 160 19 [some (.inr (.inr 0))] [] (rd G s w) = some (some (.inl (fval (flt f G N s w))), rd (flt f G N s w).1 (flt f G N s w).2.2.1 (flt f G N s w).2.2.2) := by
  intro f
  induction f with
  | zero =>
    intro G N s w h h0 hw hb hN hf
    have hn : ¬ (w = 0 ∧ psg G s = 44) := fun z => by
      have z2 := z.2
      have hl := h.2.1
      unfold psg at z2
      rw [if_neg (by omega)] at z2
      exact absurd z2 (by decide)
    exact m_fault_end (N := N) h hw h0.1 hn
  | succ f ih =>
    intro G N s w h h0 hw hb hN hf
    have e : flt (f + 1) G N s w = if w = 0 ∧ psg G s = 44 then flt f (tmemo G N (tact G (s + 1) w).1 (tact G (s + 1) w).2.1) (N + 1) (tact G (s + 1) w).2.2.1 (tact G (s + 1) w).2.2.2 else (G, N, s, w) := rfl
    rw [e]
    by_cases c : w = 0 ∧ psg G s = 44
    · rw [if_pos c]
      obtain ⟨c0, c1⟩ := c
      subst c0
      have c1' := eq_true c1
      have hb := hb rfl
      have hl : s < 60 := by
        have hl := h.2.1
        unfold psg at c1
        by_cases q : s < G 0 4
        · omega
        · rw [if_neg q] at c1
          exact absurd c1 (by decide)
      have nx := m_next (w := 0) h h0.1
      have ta := m_takeAct (s := s + 1) (w := 0) h (by omega) (Or.inl rfl) hN (by omega)
      obtain ⟨⟨r1, r2⟩, r3, r4⟩ := tact_rg (s := s + 1) (w := 0) h (by omega) (Or.inl rfl)
      generalize tact G (s + 1) 0 = q at ta r1 r2 r3 r4 ⊢
      obtain ⟨a, d, s', w'⟩ := q
      dsimp only at ta r1 r2 r3 r4 ⊢
      have i1 := ih (tmemo G N a d) (N + 1) s' w' h (by omega) r3 (fun z => by have := r4 z; omega) (by show (N : Int) + 1 = _; omega) (by omega)
      rw [← i1, u_160_19]
      simp (disch := first | assumption | omega | (simp (disch := omega) only [stv_ne, upd_ne])) only [ue_160, u_160_0, u_160_1, u_160_2, u_160_5, u_160_6, u_160_7, u_160_10, u_160_11, u_160_12, u_160_15, u_160_16, u_160_20, u_160_23, u_160_26, u_160_27, u_160_30, u_160_32, u_160_35, u_160_36, u_160_37, u_160_40, u_160_41, u_160_42, u_160_45, u_160_46, u_160_49, u_160_52, u_160_53, u_160_56, u_160_59, u_160_60, u_160_63, u_160_64, u_160_67, u_160_70, u_160_71, u_160_74, u_160_77, u_160_79, uc_157_0_0, uc_157_0_1, uc_157_0_2, uc_157_0_3, uc_159_0_0, uc_159_0_1, uc_159_0_2, uc_159_0_3, nx, c1', ta, rd_29, rd_30, rd_u29, pe_10, not_true, not_false_eq_true, if_true, if_false, pm_go_n, pm_go_c, pm_go_r, pm_go_i, pm_oIL, pm_oLL, pm_oAL, pm_oIS, pm_oLS, pm_oAS, pm_oK, pm_oKL, pe_add, pe_sub, pe_mul, pe_div, pe_rem, pe_shr, pe_and, pm_oInc, pe_rgb, pe_if, pe_ic, pe_b1, pe_nn, pe_eq, pe_ne, pe_lt, pe_ge, pe_gt, pe_le, pe_go, pe_ri0, pe_ri1, pe_ri2, pe_i2c, pm_oRv, pm_oGf, pm_oLen, pm_oDup, pm_oDu2, pm_oPop, pm_oL2i, pm_oLand, pm_oLus, pm_oLsh, pm_oLcm, lk_0, lk_1, lk_2, lk_3, lk_4, lk_5, lk_6, lk_7, lk_8, st_0, st_1n, st_1i, st_1r, st_2, st_3, st_4, st_5, st_6, st_7, st_8, Option.toList_some, Option.toList_none, List.cons_append, List.nil_append, shM_fd0_0, shM_fd0_1, shM_fd0_2, shM_fd0_3, shM_fd0_4, shM_pf0_4, shM_fd0_5, shM_pf0_5, shM_fd0_6, shM_pf0_6, shM_fd0_7, shM_pf0_7, shM_fd0_8, shM_fd0_9, shM_fd0_10, shM_fd0_11, shM_fd0_12, shM_fd0_13, shM_fd0_14, shM_fd0_15, shM_fd0_16, shM_fd0_17, shM_fd0_18, shM_fd0_19, shM_fd0_20, shM_fd0_21, shM_fd0_22, shM_fd0_23, shM_fd0_24, shM_fd0_25, shM_pf0_25, shM_fd0_26, shM_pf0_26, shM_fd0_27, shM_fd0_28, shM_fd0_29, shM_pf0_29, shM_fd0_30, shM_pf0_30, shM_fd0_31, shM_fd0_32, shM_fd0_33, shM_pf0_33, shM_al1, shM_ld1, shM_st1, shM_al2, shM_ld2, shM_st2, shM_al3, shM_ld3, shM_st3, shM_al4, shM_ld4, shM_st4, shM_al5, shM_ld5, shM_st5, shM_al6, shM_ld6, shM_st6, shM_al7, shM_ld7, shM_st7, shM_al8, shM_ld8, shM_st8, shM_al9, shM_ld9, shM_st9, shM_al10, shM_ld10, shM_st10, shM_al11, shM_ld11, shM_st11, shM_al12, shM_ld12, shM_st12, shM_al13, shM_ld13, shM_st13, shM_al14, shM_ld14, shM_st14, shM_al15, shM_ld15, shM_st15, shM_al16, shM_ld16, shM_st16, shM_al17, shM_ld17, shM_st17, shM_al18, shM_ld18, shM_st18, shM_al19, shM_ld19, shM_st19, shM_al20, shM_ld20, shM_st20, shM_al21, shM_ld21, shM_st21, shM_al22, shM_ld22, shM_st22, shM_al23, shM_ld23, shM_st23, shM_al24, shM_ld24, shM_st24, shM_al25, shM_ld25, shM_st25]
    · rw [if_neg c]
      exact m_fault_end (N := N) h hw h0.1 c
/-- all acts read from the pad's begin -/
def flt0 (G : PW) : PW × Nat × Int × Int := flt 65 (tmemo (pm_upd G 0 33 0) 0 (tact G 0 0).1 (tact G 0 0).2.1) 1 (tact G 0 0).2.2.1 (tact G 0 0).2.2.2
theorem m_fault {G : PW} (h : ptx G) : pm_ca pm_sM 160 [.inr (.inr 0)] G = some (some (.inl (fval (flt0 G))), rd (flt0 G).1 (flt0 G).2.2.1 (flt0 G).2.2.2) := by
  have ta : pm_ca pm_sM 159 [.inr (.inr 0)] (rd (pm_upd G 0 33 0) 0 0) = some (none, rd (tmemo (pm_upd G 0 33 0) 0 (tact G 0 0).1 (tact G 0 0).2.1) (tact G 0 0).2.2.1 (tact G 0 0).2.2.2) := m_takeAct (G := pm_upd G 0 33 0) (N := 0) (s := 0) (w := 0) h (by omega) (Or.inl rfl) rfl (by omega)
  obtain ⟨⟨r1, r2⟩, r3, r4⟩ := tact_rg (s := 0) (w := 0) h (by omega) (Or.inl rfl)
  have l := m_fault_l 65 (tmemo (pm_upd G 0 33 0) 0 (tact G 0 0).1 (tact G 0 0).2.1) 1 (tact G 0 0).2.2.1 (tact G 0 0).2.2.2 h (by omega) r3 (fun z => by have := r4 z; omega) rfl (by omega)
  have em : pm_upd (pm_upd (pm_upd G 0 29 0) 0 30 0) 0 33 0 = rd (pm_upd G 0 33 0) 0 0 := rd_u33
  unfold flt0
  simp (disch := first | assumption | omega | (simp (disch := omega) only [stv_ne, upd_ne])) only [ue_160, u_160_0, u_160_1, u_160_2, u_160_5, u_160_6, u_160_7, u_160_10, u_160_11, u_160_12, u_160_15, u_160_16, u_160_20, u_160_23, u_160_26, u_160_27, u_160_30, u_160_32, u_160_35, u_160_36, u_160_37, u_160_40, u_160_41, u_160_42, u_160_45, u_160_46, u_160_49, u_160_52, u_160_53, u_160_56, u_160_59, u_160_60, u_160_63, u_160_64, u_160_67, u_160_70, u_160_71, u_160_74, u_160_77, u_160_79, uc_157_0_0, uc_157_0_1, uc_157_0_2, uc_157_0_3, uc_159_0_0, uc_159_0_1, uc_159_0_2, uc_159_0_3, em, ta, if_true, if_false, pm_go_n, pm_go_c, pm_go_r, pm_go_i, pm_oIL, pm_oLL, pm_oAL, pm_oIS, pm_oLS, pm_oAS, pm_oK, pm_oKL, pe_add, pe_sub, pe_mul, pe_div, pe_rem, pe_shr, pe_and, pm_oInc, pe_rgb, pe_if, pe_ic, pe_b1, pe_nn, pe_eq, pe_ne, pe_lt, pe_ge, pe_gt, pe_le, pe_go, pe_ri0, pe_ri1, pe_ri2, pe_i2c, pm_oRv, pm_oGf, pm_oLen, pm_oDup, pm_oDu2, pm_oPop, pm_oL2i, pm_oLand, pm_oLus, pm_oLsh, pm_oLcm, lk_0, lk_1, lk_2, lk_3, lk_4, lk_5, lk_6, lk_7, lk_8, st_0, st_1n, st_1i, st_1r, st_2, st_3, st_4, st_5, st_6, st_7, st_8, Option.toList_some, Option.toList_none, List.cons_append, List.nil_append, shM_fd0_0, shM_fd0_1, shM_fd0_2, shM_fd0_3, shM_fd0_4, shM_pf0_4, shM_fd0_5, shM_pf0_5, shM_fd0_6, shM_pf0_6, shM_fd0_7, shM_pf0_7, shM_fd0_8, shM_fd0_9, shM_fd0_10, shM_fd0_11, shM_fd0_12, shM_fd0_13, shM_fd0_14, shM_fd0_15, shM_fd0_16, shM_fd0_17, shM_fd0_18, shM_fd0_19, shM_fd0_20, shM_fd0_21, shM_fd0_22, shM_fd0_23, shM_fd0_24, shM_fd0_25, shM_pf0_25, shM_fd0_26, shM_pf0_26, shM_fd0_27, shM_fd0_28, shM_fd0_29, shM_pf0_29, shM_fd0_30, shM_pf0_30, shM_fd0_31, shM_fd0_32, shM_fd0_33, shM_pf0_33, shM_al1, shM_ld1, shM_st1, shM_al2, shM_ld2, shM_st2, shM_al3, shM_ld3, shM_st3, shM_al4, shM_ld4, shM_st4, shM_al5, shM_ld5, shM_st5, shM_al6, shM_ld6, shM_st6, shM_al7, shM_ld7, shM_st7, shM_al8, shM_ld8, shM_st8, shM_al9, shM_ld9, shM_st9, shM_al10, shM_ld10, shM_st10, shM_al11, shM_ld11, shM_st11, shM_al12, shM_ld12, shM_st12, shM_al13, shM_ld13, shM_st13, shM_al14, shM_ld14, shM_st14, shM_al15, shM_ld15, shM_st15, shM_al16, shM_ld16, shM_st16, shM_al17, shM_ld17, shM_st17, shM_al18, shM_ld18, shM_st18, shM_al19, shM_ld19, shM_st19, shM_al20, shM_ld20, shM_st20, shM_al21, shM_ld21, shM_st21, shM_al22, shM_ld22, shM_st22, shM_al23, shM_ld23, shM_st23, shM_al24, shM_ld24, shM_st24, shM_al25, shM_ld25, shM_st25]
  exact l
