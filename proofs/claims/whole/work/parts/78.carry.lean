/-! both sides: the acts of the pad carried out -/
section CAR
variable {G K : PW} {N : Nat}
/-- an act as the class reads it -/
theorem act_read (hs : ∀ s : Int, 0 ≤ s → sgn G s = psg K s) {s e : Nat} (hw : (tact K (s : Int) 0).2.2.2 = 0) (he : (tact K (s : Int) 0).2.2.1 = (e : Int)) (hd : ¬ dig (psg K (e : Int))) : (psg K (s : Int) = 119 → two G ((s : Int) + 1) ∧ (tact K (s : Int) 0).1 = 100 + nump G ((s : Int) + 1) ∧ 0 ≤ nump G ((s : Int) + 1) ∧ nump G ((s : Int) + 1) < 100) ∧ (¬ psg K (s : Int) = 119 → two G (s : Int) ∧ (tact K (s : Int) 0).1 = nump G (s : Int) ∧ (0 ≤ nump G (s : Int) ∧ nump G (s : Int) < 100) ∧ (tact K (s : Int) 0).2.1 = (if sgn G (nend G (s : Int)) = 97 then 0 else 1)) ∧ psg K (s : Int) ≠ 0 ∧ ∀ i : Nat, s < i → i ≤ e → ¬ psg K ((i : Int) - 1) = 44 := by
  -- a number that is read as it should be
  have num : ∀ (most : Int) (j e' : Nat), (tnum K most (j : Int) 0).2.2 = 0 → (tnum K most (j : Int) 0).2.1 = (e' : Int) → ¬ dig (psg K (e' : Int)) → dig (psg K (j : Int)) ∧ two G (j : Int) ∧ (tnum K most (j : Int) 0).1 = nump G (j : Int) ∧ nend G (j : Int) = (e' : Int) ∧ (0 ≤ nump G (j : Int) ∧ nump G (j : Int) < 100) ∧ j < e' ∧ (∀ i : Nat, j ≤ i → i < e' → dig (psg K (i : Int))) := fun most j e' h1 h2 h3 => by
    have e1 : (j : Int) + 1 = ((j + 1 : Nat) : Int) := by omega
    have e2 : (j : Int) + 2 = ((j + 2 : Nat) : Int) := by omega
    unfold tnum at h1 h2 ⊢
    unfold two nump nend
    rw [e1, e2] at h1 h2 ⊢
    rw [hs _ (by omega), hs _ (by omega), hs _ (by omega)]
    by_cases c : dig (psg K (j : Int))
    · rw [if_pos c] at h1 h2
      by_cases c2 : 0 < psg K (j : Int) - 48 ∧ dig (psg K ((j + 1 : Nat) : Int)) ∧ 10 * (psg K (j : Int) - 48) + psg K ((j + 1 : Nat) : Int) - 48 ≤ most
      · rw [if_pos c2] at h1 h2
        have e3 : e' = j + 2 := by
          dsimp only at h2
          omega
        subst e3
        rw [if_pos c, if_pos c2, if_pos c, if_pos c2.2.1, if_pos c, if_pos c2.2.1]
        refine ⟨c, fun _ _ => h3, by dsimp only; omega, rfl, by omega, by omega, fun i i1 i2 => ?_⟩
        by_cases q : i = j
        · rw [q]; exact c
        · rw [show i = j + 1 by omega]; exact c2.2.1
      · rw [if_neg c2] at h1 h2
        have e3 : e' = j + 1 := by
          dsimp only at h2
          omega
        subst e3
        rw [if_pos c, if_neg c2, if_pos c, if_neg h3, if_pos c, if_neg h3]
        refine ⟨c, fun _ y => absurd y h3, rfl, rfl, by omega, by omega, fun i i1 i2 => ?_⟩
        rw [show i = j by omega]; exact c
    · rw [if_neg c] at h1
      exact absurd (show (1 : Int) = 0 from h1) (by decide)
  have hw2 : tactW K (s : Int) 0 = 0 := by
    unfold tact at hw
    by_cases c : psg K (s : Int) = 119
    · rw [if_pos c] at hw
      exact hw
    · rw [if_neg c] at hw
      exact hw
  by_cases c : psg K (s : Int) = 119
  · have e1 : (s : Int) + 1 = ((s + 1 : Nat) : Int) := by omega
    unfold tactW at hw2
    rw [if_pos c, e1] at hw2
    have he2 : (tnum K 15 ((s + 1 : Nat) : Int) 0).2.1 = (e : Int) := by
      unfold tact tactS at he
      rw [if_pos c, if_pos c, e1] at he
      exact he
    obtain ⟨n1, n2, n3, n4, n5, n6, n7⟩ := num 15 (s + 1) e hw2 he2 hd
    have t1 : (tact K (s : Int) 0).1 = 100 + (tnum K 15 ((s + 1 : Nat) : Int) 0).1 := by
      unfold tact
      rw [if_pos c, e1]
    rw [e1, t1, n3]
    refine ⟨fun _ => ⟨n2, rfl, n5⟩, fun y => absurd c y, by rw [c]; decide, fun i i1 i2 => ?_⟩
    by_cases q : i = s + 1
    · rw [q, show ((s + 1 : Nat) : Int) - 1 = (s : Int) by omega, c]
      decide
    · have := n7 (i - 1) (by omega) (by omega)
      rw [show (i : Int) - 1 = ((i - 1 : Nat) : Int) by omega]
      omega
  · unfold tactW at hw2
    rw [if_neg c] at hw2
    have cc : (tnum K 30 (s : Int) 0).2.2 = 0 ∧ (psg K (tnum K 30 (s : Int) 0).2.1 = 97 ∨ psg K (tnum K 30 (s : Int) 0).2.1 = 98) := Decidable.byContradiction (fun y => by
      rw [if_neg y] at hw2
      exact absurd hw2 (by decide))
    have hw3 : tactW K (s : Int) 0 = 0 := by
      unfold tactW
      rw [if_neg c, if_pos cc]
    have he2 : (tnum K 30 (s : Int) 0).2.1 + 1 = (e : Int) := by
      unfold tact tactS at he
      rw [if_neg c, if_neg c, if_pos hw3] at he
      exact he
    obtain ⟨e', hee⟩ : ∃ e' : Nat, (tnum K 30 (s : Int) 0).2.1 = (e' : Int) := by
      refine ⟨(tnum K 30 (s : Int) 0).2.1.toNat, ?_⟩
      unfold tnum
      by_cases q : dig (psg K (s : Int))
      · rw [if_pos q]
        by_cases q2 : 0 < psg K (s : Int) - 48 ∧ dig (psg K ((s : Int) + 1)) ∧ 10 * (psg K (s : Int) - 48) + psg K ((s : Int) + 1) - 48 ≤ 30
        · rw [if_pos q2]
          dsimp only
          omega
        · rw [if_neg q2]
          dsimp only
          omega
      · rw [if_neg q]
        dsimp only
        omega
    rw [hee] at cc he2
    obtain ⟨n1, n2, n3, n4, n5, n6, n7⟩ := num 30 s e' cc.1 hee (by omega)
    have t1 : (tact K (s : Int) 0).1 = (tnum K 30 (s : Int) 0).1 := by
      unfold tact
      rw [if_neg c]
    have t2 : (tact K (s : Int) 0).2.1 = if psg K (e' : Int) = 98 then 1 else 0 := by
      unfold tact
      rw [if_neg c, hee]
    rw [t1, t2, n3, n4, hs _ (by omega)]
    refine ⟨fun y => absurd y c, fun _ => ⟨n2, rfl, n5, ?_⟩, by omega, fun i i1 i2 => ?_⟩
    · rcases cc.2 with q | q
      · rw [q, if_neg (by decide), if_pos rfl]
      · rw [q, if_pos rfl, if_neg (by decide)]
    · rw [show (i : Int) - 1 = ((i - 1 : Nat) : Int) by omega]
      by_cases q : i - 1 = e'
      · rw [q]
        omega
      · have := n7 (i - 1) (by omega) (by omega)
        omega
theorem rdl_txt {K' : PW} {T D : Nat → Int} (h : txt K K') : ∀ m k s : Nat, rdl K N T D m k s → rdl K' N T D m k s := by
  intro m
  induction m with
  | zero => intro k s q; exact q
  | succ m ih =>
    intro k s q
    obtain ⟨h1, h2, h3, h4, e, h5, h6, h7, h8, h9⟩ := q
    refine ⟨h1, by rw [txt_tact h]; exact h2, by rw [txt_tact h]; exact h3, by rw [txt_tact h]; exact h4, e, by rw [txt_tact h]; exact h5, h6, h7, ?_, ih _ _ h9⟩
    rw [txt_psg h]
    exact h8
theorem c_padclear : pm_ca pm_sC 36 [.inr (.inr 37)] G = some (none, pm_upd G 37 1 0) := by
  simp (disch := first | assumption | omega | (simp (disch := omega) only [stv_ne, upd_ne])) only [ue_36, u_36_0, u_36_1, u_36_2, u_36_5, if_true, if_false, pm_go_n, pm_go_c, pm_go_r, pm_go_i, pm_oIL, pm_oLL, pm_oAL, pm_oIS, pm_oLS, pm_oAS, pm_oK, pm_oKL, pe_add, pe_sub, pe_mul, pe_div, pe_rem, pe_shr, pe_and, pm_oInc, pe_rgb, pe_if, pe_ic, pe_b1, pe_nn, pe_eq, pe_ne, pe_lt, pe_ge, pe_gt, pe_le, pe_go, pe_ri0, pe_ri1, pe_ri2, pe_i2c, pm_oRv, pm_oGf, pm_oLen, pm_oDup, pm_oDu2, pm_oPop, pm_oL2i, pm_oLand, pm_oLus, pm_oLsh, pm_oLcm, lk_0, lk_1, lk_2, lk_3, lk_4, lk_5, lk_6, lk_7, lk_8, st_0, st_1n, st_1i, st_1r, st_2, st_3, st_4, st_5, st_6, st_7, st_8, Option.toList_some, Option.toList_none, List.cons_append, List.nil_append, shC_fd0_0, shC_fd0_1, shC_fd0_2, shC_fd0_3, shC_fd0_4, shC_fd0_5, shC_fd0_6, shC_fd0_7, shC_al1, shC_ld1, shC_st1, shC_al2, shC_ld2, shC_st2, shC_fd3_0, shC_fd3_1, shC_fd3_2, shC_fd3_3, shC_fd3_4, shC_fd3_5, shC_fd4_0, shC_pf4_0, shC_fd4_1, shC_pf4_1, shC_fd4_2, shC_pf4_2, shC_fd4_3, shC_pf4_3, shC_fd4_4, shC_pf4_4, shC_fd4_5, shC_fd4_6, shC_fd4_7, shC_fd4_8, shC_fd4_9, shC_fd4_10, shC_fd4_11, shC_fd4_12, shC_fd4_13, shC_al5, shC_ld5, shC_st5, shC_al6, shC_ld6, shC_st6, shC_al7, shC_ld7, shC_st7, shC_al8, shC_ld8, shC_st8, shC_al9, shC_ld9, shC_st9, shC_al10, shC_ld10, shC_st10, shC_al11, shC_ld11, shC_st11, shC_al12, shC_ld12, shC_st12, shC_al13, shC_ld13, shC_st13, shC_al14, shC_ld14, shC_st14, shC_al15, shC_ld15, shC_st15, shC_al16, shC_ld16, shC_st16, shC_al17, shC_ld17, shC_st17, shC_al18, shC_ld18, shC_st18, shC_fd19_0, shC_fd19_1, shC_fd19_2, shC_fd19_3, shC_fd19_4, shC_fd19_5, shC_fd20_0, shC_pf20_0, shC_fd20_1, shC_pf20_1, shC_fd20_2, shC_pf20_2, shC_fd20_3, shC_pf20_3, shC_fd20_4, shC_pf20_4, shC_fd20_5, shC_fd20_6, shC_fd20_7, shC_fd20_8, shC_fd20_9, shC_fd20_10, shC_fd20_11, shC_fd20_12, shC_fd20_13, shC_al21, shC_ld21, shC_st21, shC_al22, shC_ld22, shC_st22, shC_al23, shC_ld23, shC_st23, shC_al24, shC_ld24, shC_st24, shC_al25, shC_ld25, shC_st25, shC_al26, shC_ld26, shC_st26, shC_al27, shC_ld27, shC_st27, shC_al28, shC_ld28, shC_st28, shC_al29, shC_ld29, shC_st29, shC_al30, shC_ld30, shC_st30, shC_al31, shC_ld31, shC_st31, shC_al32, shC_ld32, shC_st32, shC_al33, shC_ld33, shC_st33, shC_al34, shC_ld34, shC_st34, shC_fd35_0, shC_fd35_1, shC_pf35_1, shC_al36, shC_ld36, shC_st36, shC_fd37_0, shC_fd37_1, shC_pf37_1, shC_fd37_2, shC_pf37_2, shC_fd37_3, shC_pf37_3, shC_al38, shC_ld38, shC_st38, shC_fd39_0, shC_pf39_0, shC_fd39_1, shC_pf39_1, shC_fd39_2, shC_pf39_2, shC_fd39_3, shC_fd39_4, shC_al40, shC_ld40, shC_st40, shC_fd41_0, shC_fd41_1, shC_pf41_1, shC_al42, shC_ld42, shC_st42, shC_fd43_0, shC_pf43_0, shC_fd43_1, shC_pf43_1, shC_fd43_2, shC_pf43_2, shC_fd43_3, shC_fd43_4, shC_al44, shC_ld44, shC_st44, shC_fd45_0, shC_fd45_1, shC_pf45_1, shC_al46, shC_ld46, shC_st46]
/-- the class' loop: at its end -/
theorem car_end {k a i : Int} {o : Option PV} (hN : G 37 1 = (N : Int)) (h : (N : Int) ≤ i ∨ a < 0) : pm_dn pm_sC 85 21 [some (.inr (.inr 0)), some (.inl k), some (.inl a), some (.inl i), o] [] G = some (some (.inl k), pm_upd G 37 1 0) := by
  have q := c_padclear (G := G)
  rw [u_85_21]
  by_cases c : (N : Int) ≤ i
  · simp (disch := first | assumption | omega | (simp (disch := omega) only [stv_ne, upd_ne])) only [ue_85, u_85_0, u_85_1, u_85_4, u_85_7, u_85_9, u_85_12, u_85_14, u_85_15, u_85_16, u_85_17, u_85_18, u_85_19, u_85_20, u_85_22, u_85_23, u_85_26, u_85_29, u_85_32, u_85_33, u_85_36, u_85_37, u_85_40, u_85_41, u_85_44, u_85_47, u_85_48, u_85_51, u_85_52, u_85_55, u_85_57, u_85_58, u_85_61, u_85_62, u_85_65, u_85_68, u_85_69, u_85_71, u_85_74, u_85_77, u_85_78, u_85_80, u_85_81, u_85_84, u_85_85, u_85_88, u_85_91, u_85_92, u_85_93, u_85_94, u_85_97, u_85_98, u_85_101, u_85_102, u_85_103, u_85_104, u_85_107, u_85_110, u_85_111, u_85_114, u_85_117, u_85_118, uc_36_37_0, uc_36_37_1, uc_36_37_2, uc_36_37_3, uc_38_37_0, uc_38_37_1, uc_38_37_2, uc_38_37_3, uc_44_37_0, uc_44_37_1, uc_44_37_2, uc_44_37_3, uc_45_37_0, uc_45_37_1, uc_45_37_2, uc_45_37_3, uc_46_37_0, uc_46_37_1, uc_46_37_2, uc_46_37_3, uc_47_37_0, uc_47_37_1, uc_47_37_2, uc_47_37_3, uc_72_0_0, uc_72_0_1, uc_72_0_2, uc_72_0_3, uc_73_0_0, uc_73_0_1, uc_73_0_2, uc_73_0_3, hN, c, q, if_true, if_false, pm_go_n, pm_go_c, pm_go_r, pm_go_i, pm_oIL, pm_oLL, pm_oAL, pm_oIS, pm_oLS, pm_oAS, pm_oK, pm_oKL, pe_add, pe_sub, pe_mul, pe_div, pe_rem, pe_shr, pe_and, pm_oInc, pe_rgb, pe_if, pe_ic, pe_b1, pe_nn, pe_eq, pe_ne, pe_lt, pe_ge, pe_gt, pe_le, pe_go, pe_ri0, pe_ri1, pe_ri2, pe_i2c, pm_oRv, pm_oGf, pm_oLen, pm_oDup, pm_oDu2, pm_oPop, pm_oL2i, pm_oLand, pm_oLus, pm_oLsh, pm_oLcm, lk_0, lk_1, lk_2, lk_3, lk_4, lk_5, lk_6, lk_7, lk_8, st_0, st_1n, st_1i, st_1r, st_2, st_3, st_4, st_5, st_6, st_7, st_8, Option.toList_some, Option.toList_none, List.cons_append, List.nil_append, shC_fd0_0, shC_fd0_1, shC_fd0_2, shC_fd0_3, shC_fd0_4, shC_fd0_5, shC_fd0_6, shC_fd0_7, shC_al1, shC_ld1, shC_st1, shC_al2, shC_ld2, shC_st2, shC_fd3_0, shC_fd3_1, shC_fd3_2, shC_fd3_3, shC_fd3_4, shC_fd3_5, shC_fd4_0, shC_pf4_0, shC_fd4_1, shC_pf4_1, shC_fd4_2, shC_pf4_2, shC_fd4_3, shC_pf4_3, shC_fd4_4, shC_pf4_4, shC_fd4_5, shC_fd4_6, shC_fd4_7, shC_fd4_8, shC_fd4_9, shC_fd4_10, shC_fd4_11, shC_fd4_12, shC_fd4_13, shC_al5, shC_ld5, shC_st5, shC_al6, shC_ld6, shC_st6, shC_al7, shC_ld7, shC_st7, shC_al8, shC_ld8, shC_st8, shC_al9, shC_ld9, shC_st9, shC_al10, shC_ld10, shC_st10, shC_al11, shC_ld11, shC_st11, shC_al12, shC_ld12, shC_st12, shC_al13, shC_ld13, shC_st13, shC_al14, shC_ld14, shC_st14, shC_al15, shC_ld15, shC_st15, shC_al16, shC_ld16, shC_st16, shC_al17, shC_ld17, shC_st17, shC_al18, shC_ld18, shC_st18, shC_fd19_0, shC_fd19_1, shC_fd19_2, shC_fd19_3, shC_fd19_4, shC_fd19_5, shC_fd20_0, shC_pf20_0, shC_fd20_1, shC_pf20_1, shC_fd20_2, shC_pf20_2, shC_fd20_3, shC_pf20_3, shC_fd20_4, shC_pf20_4, shC_fd20_5, shC_fd20_6, shC_fd20_7, shC_fd20_8, shC_fd20_9, shC_fd20_10, shC_fd20_11, shC_fd20_12, shC_fd20_13, shC_al21, shC_ld21, shC_st21, shC_al22, shC_ld22, shC_st22, shC_al23, shC_ld23, shC_st23, shC_al24, shC_ld24, shC_st24, shC_al25, shC_ld25, shC_st25, shC_al26, shC_ld26, shC_st26, shC_al27, shC_ld27, shC_st27, shC_al28, shC_ld28, shC_st28, shC_al29, shC_ld29, shC_st29, shC_al30, shC_ld30, shC_st30, shC_al31, shC_ld31, shC_st31, shC_al32, shC_ld32, shC_st32, shC_al33, shC_ld33, shC_st33, shC_al34, shC_ld34, shC_st34, shC_fd35_0, shC_fd35_1, shC_pf35_1, shC_al36, shC_ld36, shC_st36, shC_fd37_0, shC_fd37_1, shC_pf37_1, shC_fd37_2, shC_pf37_2, shC_fd37_3, shC_pf37_3, shC_al38, shC_ld38, shC_st38, shC_fd39_0, shC_pf39_0, shC_fd39_1, shC_pf39_1, shC_fd39_2, shC_pf39_2, shC_fd39_3, shC_fd39_4, shC_al40, shC_ld40, shC_st40, shC_fd41_0, shC_fd41_1, shC_pf41_1, shC_al42, shC_ld42, shC_st42, shC_fd43_0, shC_pf43_0, shC_fd43_1, shC_pf43_1, shC_fd43_2, shC_pf43_2, shC_fd43_3, shC_fd43_4, shC_al44, shC_ld44, shC_st44, shC_fd45_0, shC_fd45_1, shC_pf45_1, shC_al46, shC_ld46, shC_st46]
  · have c2 := h.resolve_left c
    simp (disch := first | assumption | omega | (simp (disch := omega) only [stv_ne, upd_ne])) only [ue_85, u_85_0, u_85_1, u_85_4, u_85_7, u_85_9, u_85_12, u_85_14, u_85_15, u_85_16, u_85_17, u_85_18, u_85_19, u_85_20, u_85_22, u_85_23, u_85_26, u_85_29, u_85_32, u_85_33, u_85_36, u_85_37, u_85_40, u_85_41, u_85_44, u_85_47, u_85_48, u_85_51, u_85_52, u_85_55, u_85_57, u_85_58, u_85_61, u_85_62, u_85_65, u_85_68, u_85_69, u_85_71, u_85_74, u_85_77, u_85_78, u_85_80, u_85_81, u_85_84, u_85_85, u_85_88, u_85_91, u_85_92, u_85_93, u_85_94, u_85_97, u_85_98, u_85_101, u_85_102, u_85_103, u_85_104, u_85_107, u_85_110, u_85_111, u_85_114, u_85_117, u_85_118, uc_36_37_0, uc_36_37_1, uc_36_37_2, uc_36_37_3, uc_38_37_0, uc_38_37_1, uc_38_37_2, uc_38_37_3, uc_44_37_0, uc_44_37_1, uc_44_37_2, uc_44_37_3, uc_45_37_0, uc_45_37_1, uc_45_37_2, uc_45_37_3, uc_46_37_0, uc_46_37_1, uc_46_37_2, uc_46_37_3, uc_47_37_0, uc_47_37_1, uc_47_37_2, uc_47_37_3, uc_72_0_0, uc_72_0_1, uc_72_0_2, uc_72_0_3, uc_73_0_0, uc_73_0_1, uc_73_0_2, uc_73_0_3, hN, c, c2, q, if_true, if_false, pm_go_n, pm_go_c, pm_go_r, pm_go_i, pm_oIL, pm_oLL, pm_oAL, pm_oIS, pm_oLS, pm_oAS, pm_oK, pm_oKL, pe_add, pe_sub, pe_mul, pe_div, pe_rem, pe_shr, pe_and, pm_oInc, pe_rgb, pe_if, pe_ic, pe_b1, pe_nn, pe_eq, pe_ne, pe_lt, pe_ge, pe_gt, pe_le, pe_go, pe_ri0, pe_ri1, pe_ri2, pe_i2c, pm_oRv, pm_oGf, pm_oLen, pm_oDup, pm_oDu2, pm_oPop, pm_oL2i, pm_oLand, pm_oLus, pm_oLsh, pm_oLcm, lk_0, lk_1, lk_2, lk_3, lk_4, lk_5, lk_6, lk_7, lk_8, st_0, st_1n, st_1i, st_1r, st_2, st_3, st_4, st_5, st_6, st_7, st_8, Option.toList_some, Option.toList_none, List.cons_append, List.nil_append, shC_fd0_0, shC_fd0_1, shC_fd0_2, shC_fd0_3, shC_fd0_4, shC_fd0_5, shC_fd0_6, shC_fd0_7, shC_al1, shC_ld1, shC_st1, shC_al2, shC_ld2, shC_st2, shC_fd3_0, shC_fd3_1, shC_fd3_2, shC_fd3_3, shC_fd3_4, shC_fd3_5, shC_fd4_0, shC_pf4_0, shC_fd4_1, shC_pf4_1, shC_fd4_2, shC_pf4_2, shC_fd4_3, shC_pf4_3, shC_fd4_4, shC_pf4_4, shC_fd4_5, shC_fd4_6, shC_fd4_7, shC_fd4_8, shC_fd4_9, shC_fd4_10, shC_fd4_11, shC_fd4_12, shC_fd4_13, shC_al5, shC_ld5, shC_st5, shC_al6, shC_ld6, shC_st6, shC_al7, shC_ld7, shC_st7, shC_al8, shC_ld8, shC_st8, shC_al9, shC_ld9, shC_st9, shC_al10, shC_ld10, shC_st10, shC_al11, shC_ld11, shC_st11, shC_al12, shC_ld12, shC_st12, shC_al13, shC_ld13, shC_st13, shC_al14, shC_ld14, shC_st14, shC_al15, shC_ld15, shC_st15, shC_al16, shC_ld16, shC_st16, shC_al17, shC_ld17, shC_st17, shC_al18, shC_ld18, shC_st18, shC_fd19_0, shC_fd19_1, shC_fd19_2, shC_fd19_3, shC_fd19_4, shC_fd19_5, shC_fd20_0, shC_pf20_0, shC_fd20_1, shC_pf20_1, shC_fd20_2, shC_pf20_2, shC_fd20_3, shC_pf20_3, shC_fd20_4, shC_pf20_4, shC_fd20_5, shC_fd20_6, shC_fd20_7, shC_fd20_8, shC_fd20_9, shC_fd20_10, shC_fd20_11, shC_fd20_12, shC_fd20_13, shC_al21, shC_ld21, shC_st21, shC_al22, shC_ld22, shC_st22, shC_al23, shC_ld23, shC_st23, shC_al24, shC_ld24, shC_st24, shC_al25, shC_ld25, shC_st25, shC_al26, shC_ld26, shC_st26, shC_al27, shC_ld27, shC_st27, shC_al28, shC_ld28, shC_st28, shC_al29, shC_ld29, shC_st29, shC_al30, shC_ld30, shC_st30, shC_al31, shC_ld31, shC_st31, shC_al32, shC_ld32, shC_st32, shC_al33, shC_ld33, shC_st33, shC_al34, shC_ld34, shC_st34, shC_fd35_0, shC_fd35_1, shC_pf35_1, shC_al36, shC_ld36, shC_st36, shC_fd37_0, shC_fd37_1, shC_pf37_1, shC_fd37_2, shC_pf37_2, shC_fd37_3, shC_pf37_3, shC_al38, shC_ld38, shC_st38, shC_fd39_0, shC_pf39_0, shC_fd39_1, shC_pf39_1, shC_fd39_2, shC_pf39_2, shC_fd39_3, shC_fd39_4, shC_al40, shC_ld40, shC_st40, shC_fd41_0, shC_fd41_1, shC_pf41_1, shC_al42, shC_ld42, shC_st42, shC_fd43_0, shC_pf43_0, shC_fd43_1, shC_pf43_1, shC_fd43_2, shC_pf43_2, shC_fd43_3, shC_fd43_4, shC_al44, shC_ld44, shC_st44, shC_fd45_0, shC_fd45_1, shC_pf45_1, shC_al46, shC_ld46, shC_st46]
/-- a sign at which no act begins -/
theorem car_skip {k a : Int} {i : Nat} {o : Option PV} (po : pad_ok G) (hs : ∀ s : Int, 0 ≤ s → sgn G s = psg K s) (hN : G 37 1 = (N : Int)) (ha : ¬ a < 0) (hi : i < N) (h0 : i ≠ 0) (hb : ¬ psg K ((i : Int) - 1) = 44) : pm_dn pm_sC 85 21 [some (.inr (.inr 0)), some (.inl k), some (.inl a), some (.inl (i : Int)), o] [] G = pm_dn pm_sC 85 21 [some (.inr (.inr 0)), some (.inl k), some (.inl a), some (.inl ((i + 1 : Nat) : Int)), o] [] G := by
  have hc : ¬ (N : Int) ≤ (i : Int) := by omega
  have n60 := po.2.1
  have q := c_beginsAct (i := (i : Int)) po (by omega)
  rw [if_neg (fun y => y.elim (fun y => h0 (by omega)) (fun y => hb (by rw [← hs _ (by omega)]; exact y)))] at q
  have e1 : (i : Int) + 1 = ((i + 1 : Nat) : Int) := by omega
  rw [u_85_21]
  simp (disch := first | assumption | omega | (simp (disch := omega) only [stv_ne, upd_ne])) only [ue_85, u_85_0, u_85_1, u_85_4, u_85_7, u_85_9, u_85_12, u_85_14, u_85_15, u_85_16, u_85_17, u_85_18, u_85_19, u_85_20, u_85_22, u_85_23, u_85_26, u_85_29, u_85_32, u_85_33, u_85_36, u_85_37, u_85_40, u_85_41, u_85_44, u_85_47, u_85_48, u_85_51, u_85_52, u_85_55, u_85_57, u_85_58, u_85_61, u_85_62, u_85_65, u_85_68, u_85_69, u_85_71, u_85_74, u_85_77, u_85_78, u_85_80, u_85_81, u_85_84, u_85_85, u_85_88, u_85_91, u_85_92, u_85_93, u_85_94, u_85_97, u_85_98, u_85_101, u_85_102, u_85_103, u_85_104, u_85_107, u_85_110, u_85_111, u_85_114, u_85_117, u_85_118, uc_36_37_0, uc_36_37_1, uc_36_37_2, uc_36_37_3, uc_38_37_0, uc_38_37_1, uc_38_37_2, uc_38_37_3, uc_44_37_0, uc_44_37_1, uc_44_37_2, uc_44_37_3, uc_45_37_0, uc_45_37_1, uc_45_37_2, uc_45_37_3, uc_46_37_0, uc_46_37_1, uc_46_37_2, uc_46_37_3, uc_47_37_0, uc_47_37_1, uc_47_37_2, uc_47_37_3, uc_72_0_0, uc_72_0_1, uc_72_0_2, uc_72_0_3, uc_73_0_0, uc_73_0_1, uc_73_0_2, uc_73_0_3, hN, hc, ha, q, e1, if_true, if_false, pm_go_n, pm_go_c, pm_go_r, pm_go_i, pm_oIL, pm_oLL, pm_oAL, pm_oIS, pm_oLS, pm_oAS, pm_oK, pm_oKL, pe_add, pe_sub, pe_mul, pe_div, pe_rem, pe_shr, pe_and, pm_oInc, pe_rgb, pe_if, pe_ic, pe_b1, pe_nn, pe_eq, pe_ne, pe_lt, pe_ge, pe_gt, pe_le, pe_go, pe_ri0, pe_ri1, pe_ri2, pe_i2c, pm_oRv, pm_oGf, pm_oLen, pm_oDup, pm_oDu2, pm_oPop, pm_oL2i, pm_oLand, pm_oLus, pm_oLsh, pm_oLcm, lk_0, lk_1, lk_2, lk_3, lk_4, lk_5, lk_6, lk_7, lk_8, st_0, st_1n, st_1i, st_1r, st_2, st_3, st_4, st_5, st_6, st_7, st_8, Option.toList_some, Option.toList_none, List.cons_append, List.nil_append, shC_fd0_0, shC_fd0_1, shC_fd0_2, shC_fd0_3, shC_fd0_4, shC_fd0_5, shC_fd0_6, shC_fd0_7, shC_al1, shC_ld1, shC_st1, shC_al2, shC_ld2, shC_st2, shC_fd3_0, shC_fd3_1, shC_fd3_2, shC_fd3_3, shC_fd3_4, shC_fd3_5, shC_fd4_0, shC_pf4_0, shC_fd4_1, shC_pf4_1, shC_fd4_2, shC_pf4_2, shC_fd4_3, shC_pf4_3, shC_fd4_4, shC_pf4_4, shC_fd4_5, shC_fd4_6, shC_fd4_7, shC_fd4_8, shC_fd4_9, shC_fd4_10, shC_fd4_11, shC_fd4_12, shC_fd4_13, shC_al5, shC_ld5, shC_st5, shC_al6, shC_ld6, shC_st6, shC_al7, shC_ld7, shC_st7, shC_al8, shC_ld8, shC_st8, shC_al9, shC_ld9, shC_st9, shC_al10, shC_ld10, shC_st10, shC_al11, shC_ld11, shC_st11, shC_al12, shC_ld12, shC_st12, shC_al13, shC_ld13, shC_st13, shC_al14, shC_ld14, shC_st14, shC_al15, shC_ld15, shC_st15, shC_al16, shC_ld16, shC_st16, shC_al17, shC_ld17, shC_st17, shC_al18, shC_ld18, shC_st18, shC_fd19_0, shC_fd19_1, shC_fd19_2, shC_fd19_3, shC_fd19_4, shC_fd19_5, shC_fd20_0, shC_pf20_0, shC_fd20_1, shC_pf20_1, shC_fd20_2, shC_pf20_2, shC_fd20_3, shC_pf20_3, shC_fd20_4, shC_pf20_4, shC_fd20_5, shC_fd20_6, shC_fd20_7, shC_fd20_8, shC_fd20_9, shC_fd20_10, shC_fd20_11, shC_fd20_12, shC_fd20_13, shC_al21, shC_ld21, shC_st21, shC_al22, shC_ld22, shC_st22, shC_al23, shC_ld23, shC_st23, shC_al24, shC_ld24, shC_st24, shC_al25, shC_ld25, shC_st25, shC_al26, shC_ld26, shC_st26, shC_al27, shC_ld27, shC_st27, shC_al28, shC_ld28, shC_st28, shC_al29, shC_ld29, shC_st29, shC_al30, shC_ld30, shC_st30, shC_al31, shC_ld31, shC_st31, shC_al32, shC_ld32, shC_st32, shC_al33, shC_ld33, shC_st33, shC_al34, shC_ld34, shC_st34, shC_fd35_0, shC_fd35_1, shC_pf35_1, shC_al36, shC_ld36, shC_st36, shC_fd37_0, shC_fd37_1, shC_pf37_1, shC_fd37_2, shC_pf37_2, shC_fd37_3, shC_pf37_3, shC_al38, shC_ld38, shC_st38, shC_fd39_0, shC_pf39_0, shC_fd39_1, shC_pf39_1, shC_fd39_2, shC_pf39_2, shC_fd39_3, shC_fd39_4, shC_al40, shC_ld40, shC_st40, shC_fd41_0, shC_fd41_1, shC_pf41_1, shC_al42, shC_ld42, shC_st42, shC_fd43_0, shC_pf43_0, shC_fd43_1, shC_pf43_1, shC_fd43_2, shC_pf43_2, shC_fd43_3, shC_fd43_4, shC_al44, shC_ld44, shC_st44, shC_fd45_0, shC_fd45_1, shC_pf45_1, shC_al46, shC_ld46, shC_st46]
theorem car_skips {k a : Int} {o : Option PV} (po : pad_ok G) (hs : ∀ s : Int, 0 ≤ s → sgn G s = psg K s) (hN : G 37 1 = (N : Int)) (ha : ¬ a < 0) : ∀ d i : Nat, (∀ j, i ≤ j → j < i + d → j < N ∧ j ≠ 0 ∧ ¬ psg K ((j : Int) - 1) = 44) → pm_dn pm_sC 85 21 [some (.inr (.inr 0)), some (.inl k), some (.inl a), some (.inl (i : Int)), o] [] G = pm_dn pm_sC 85 21 [some (.inr (.inr 0)), some (.inl k), some (.inl a), some (.inl ((i + d : Nat) : Int)), o] [] G := by
  intro d
  induction d with
  | zero => intro i _; rfl
  | succ d ih =>
    intro i h
    obtain ⟨h1, h2, h3⟩ := h i (Nat.le_refl _) (by omega)
    rw [car_skip po hs hN ha h1 h2 h3, ih (i + 1) (fun j a b => h j (by omega) (by omega)), show i + 1 + d = i + (d + 1) by omega]
/-- the reference's loop: at its end -/
theorem mcar_end {k g : Int} {M : Int} {o : Option PV} (hM : K 0 33 = M) (h : g = 0 ∨ M ≤ k) (hg : g = 0 ∨ g = 1) : pm_dn pm_sM 161 16 [some (.inr (.inr 0)), some (.inl k), some (.inl g), o] [] K = some (some (.inl k), pm_upd K 0 4 0) := by
  rw [u_161_16]
  by_cases c : g = 0
  · have c' := eq_true c
    simp (disch := first | assumption | omega | (simp (disch := omega) only [stv_ne, upd_ne])) only [ue_161, u_161_0, u_161_1, u_161_4, u_161_6, u_161_9, u_161_11, u_161_12, u_161_13, u_161_14, u_161_15, u_161_17, u_161_20, u_161_21, u_161_22, u_161_25, u_161_28, u_161_29, u_161_32, u_161_33, u_161_34, u_161_35, u_161_36, u_161_38, u_161_41, u_161_42, u_161_43, u_161_45, u_161_46, u_161_49, u_161_52, u_161_53, u_161_54, u_161_55, u_161_58, u_161_59, u_161_60, u_161_63, u_161_66, u_161_67, u_161_70, u_161_71, u_161_72, u_161_73, u_161_74, u_161_77, u_161_78, u_161_81, u_161_82, u_161_83, u_161_84, u_161_87, u_161_88, u_161_89, u_161_92, u_161_93, uc_137_0_0, uc_137_0_1, uc_137_0_2, uc_137_0_3, uc_138_0_0, uc_138_0_1, uc_138_0_2, uc_138_0_3, uc_160_0_0, uc_160_0_1, uc_160_0_2, uc_160_0_3, c', if_true, if_false, pm_go_n, pm_go_c, pm_go_r, pm_go_i, pm_oIL, pm_oLL, pm_oAL, pm_oIS, pm_oLS, pm_oAS, pm_oK, pm_oKL, pe_add, pe_sub, pe_mul, pe_div, pe_rem, pe_shr, pe_and, pm_oInc, pe_rgb, pe_if, pe_ic, pe_b1, pe_nn, pe_eq, pe_ne, pe_lt, pe_ge, pe_gt, pe_le, pe_go, pe_ri0, pe_ri1, pe_ri2, pe_i2c, pm_oRv, pm_oGf, pm_oLen, pm_oDup, pm_oDu2, pm_oPop, pm_oL2i, pm_oLand, pm_oLus, pm_oLsh, pm_oLcm, lk_0, lk_1, lk_2, lk_3, lk_4, lk_5, lk_6, lk_7, lk_8, st_0, st_1n, st_1i, st_1r, st_2, st_3, st_4, st_5, st_6, st_7, st_8, Option.toList_some, Option.toList_none, List.cons_append, List.nil_append, shM_fd0_0, shM_fd0_1, shM_fd0_2, shM_fd0_3, shM_fd0_4, shM_pf0_4, shM_fd0_5, shM_pf0_5, shM_fd0_6, shM_pf0_6, shM_fd0_7, shM_pf0_7, shM_fd0_8, shM_fd0_9, shM_fd0_10, shM_fd0_11, shM_fd0_12, shM_fd0_13, shM_fd0_14, shM_fd0_15, shM_fd0_16, shM_fd0_17, shM_fd0_18, shM_fd0_19, shM_fd0_20, shM_fd0_21, shM_fd0_22, shM_fd0_23, shM_fd0_24, shM_fd0_25, shM_pf0_25, shM_fd0_26, shM_pf0_26, shM_fd0_27, shM_fd0_28, shM_fd0_29, shM_pf0_29, shM_fd0_30, shM_pf0_30, shM_fd0_31, shM_fd0_32, shM_fd0_33, shM_pf0_33, shM_al1, shM_ld1, shM_st1, shM_al2, shM_ld2, shM_st2, shM_al3, shM_ld3, shM_st3, shM_al4, shM_ld4, shM_st4, shM_al5, shM_ld5, shM_st5, shM_al6, shM_ld6, shM_st6, shM_al7, shM_ld7, shM_st7, shM_al8, shM_ld8, shM_st8, shM_al9, shM_ld9, shM_st9, shM_al10, shM_ld10, shM_st10, shM_al11, shM_ld11, shM_st11, shM_al12, shM_ld12, shM_st12, shM_al13, shM_ld13, shM_st13, shM_al14, shM_ld14, shM_st14, shM_al15, shM_ld15, shM_st15, shM_al16, shM_ld16, shM_st16, shM_al17, shM_ld17, shM_st17, shM_al18, shM_ld18, shM_st18, shM_al19, shM_ld19, shM_st19, shM_al20, shM_ld20, shM_st20, shM_al21, shM_ld21, shM_st21, shM_al22, shM_ld22, shM_st22, shM_al23, shM_ld23, shM_st23, shM_al24, shM_ld24, shM_st24, shM_al25, shM_ld25, shM_st25]
  · have c2 := h.resolve_left c
    simp (disch := first | assumption | omega | (simp (disch := omega) only [stv_ne, upd_ne])) only [ue_161, u_161_0, u_161_1, u_161_4, u_161_6, u_161_9, u_161_11, u_161_12, u_161_13, u_161_14, u_161_15, u_161_17, u_161_20, u_161_21, u_161_22, u_161_25, u_161_28, u_161_29, u_161_32, u_161_33, u_161_34, u_161_35, u_161_36, u_161_38, u_161_41, u_161_42, u_161_43, u_161_45, u_161_46, u_161_49, u_161_52, u_161_53, u_161_54, u_161_55, u_161_58, u_161_59, u_161_60, u_161_63, u_161_66, u_161_67, u_161_70, u_161_71, u_161_72, u_161_73, u_161_74, u_161_77, u_161_78, u_161_81, u_161_82, u_161_83, u_161_84, u_161_87, u_161_88, u_161_89, u_161_92, u_161_93, uc_137_0_0, uc_137_0_1, uc_137_0_2, uc_137_0_3, uc_138_0_0, uc_138_0_1, uc_138_0_2, uc_138_0_3, uc_160_0_0, uc_160_0_1, uc_160_0_2, uc_160_0_3, hM, c, c2, if_true, if_false, pm_go_n, pm_go_c, pm_go_r, pm_go_i, pm_oIL, pm_oLL, pm_oAL, pm_oIS, pm_oLS, pm_oAS, pm_oK, pm_oKL, pe_add, pe_sub, pe_mul, pe_div, pe_rem, pe_shr, pe_and, pm_oInc, pe_rgb, pe_if, pe_ic, pe_b1, pe_nn, pe_eq, pe_ne, pe_lt, pe_ge, pe_gt, pe_le, pe_go, pe_ri0, pe_ri1, pe_ri2, pe_i2c, pm_oRv, pm_oGf, pm_oLen, pm_oDup, pm_oDu2, pm_oPop, pm_oL2i, pm_oLand, pm_oLus, pm_oLsh, pm_oLcm, lk_0, lk_1, lk_2, lk_3, lk_4, lk_5, lk_6, lk_7, lk_8, st_0, st_1n, st_1i, st_1r, st_2, st_3, st_4, st_5, st_6, st_7, st_8, Option.toList_some, Option.toList_none, List.cons_append, List.nil_append, shM_fd0_0, shM_fd0_1, shM_fd0_2, shM_fd0_3, shM_fd0_4, shM_pf0_4, shM_fd0_5, shM_pf0_5, shM_fd0_6, shM_pf0_6, shM_fd0_7, shM_pf0_7, shM_fd0_8, shM_fd0_9, shM_fd0_10, shM_fd0_11, shM_fd0_12, shM_fd0_13, shM_fd0_14, shM_fd0_15, shM_fd0_16, shM_fd0_17, shM_fd0_18, shM_fd0_19, shM_fd0_20, shM_fd0_21, shM_fd0_22, shM_fd0_23, shM_fd0_24, shM_fd0_25, shM_pf0_25, shM_fd0_26, shM_pf0_26, shM_fd0_27, shM_fd0_28, shM_fd0_29, shM_pf0_29, shM_fd0_30, shM_pf0_30, shM_fd0_31, shM_fd0_32, shM_fd0_33, shM_pf0_33, shM_al1, shM_ld1, shM_st1, shM_al2, shM_ld2, shM_st2, shM_al3, shM_ld3, shM_st3, shM_al4, shM_ld4, shM_st4, shM_al5, shM_ld5, shM_st5, shM_al6, shM_ld6, shM_st6, shM_al7, shM_ld7, shM_st7, shM_al8, shM_ld8, shM_st8, shM_al9, shM_ld9, shM_st9, shM_al10, shM_ld10, shM_st10, shM_al11, shM_ld11, shM_st11, shM_al12, shM_ld12, shM_st12, shM_al13, shM_ld13, shM_st13, shM_al14, shM_ld14, shM_st14, shM_al15, shM_ld15, shM_st15, shM_al16, shM_ld16, shM_st16, shM_al17, shM_ld17, shM_st17, shM_al18, shM_ld18, shM_st18, shM_al19, shM_ld19, shM_st19, shM_al20, shM_ld20, shM_st20, shM_al21, shM_ld21, shM_st21, shM_al22, shM_ld22, shM_st22, shM_al23, shM_ld23, shM_st23, shM_al24, shM_ld24, shM_st24, shM_al25, shM_ld25, shM_st25]
end CAR
