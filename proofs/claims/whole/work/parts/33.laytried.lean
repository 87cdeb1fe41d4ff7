/-! the reference: all matches laid -/
theorem row_upd {G : PW} {r i : Nat} {f : Nat → Int} {x : Int} : pm_upd (pm_row G r f) r i x = pm_row G r (fup f i x) := by
  funext a b
  rw [pm_upd_eq]
  unfold pm_row fup
  by_cases h : a = r
  · rw [if_pos h, if_pos h]
    by_cases hb : b = i
    · rw [if_pos ⟨h, hb⟩, if_pos hb]
    · rw [if_neg (fun z => hb z.2), if_neg hb]
  · rw [if_neg h, if_neg h, if_neg (fun z => h z.1)]
theorem mix_u {f g : Nat → Int} {i : Nat} : fup (mixf i f g) i (f i) = mixf (i + 1) f g := by
  funext j
  unfold fup mixf
  by_cases h : j = i
  · rw [if_pos h, h, if_pos (by omega)]
  · rw [if_neg h]
    by_cases h2 : j < i
    · rw [if_pos h2, if_pos (by omega)]
    · rw [if_neg h2, if_neg (by omega)]
def sall (F : Nat) (B : R4) : Prop := ∀ s, s < 2 * F → sid (B.1 s)
theorem sid_fup {F : Nat} {S : Nat → Int} {k : Nat} {x : Int} (h : ∀ s, s < 2 * F → sid (S s)) (hx : sid x) : ∀ s, s < 2 * F → sid (fup S k x s) := fun s hs => by
  unfold fup
  by_cases q : s = k
  · rw [if_pos q]; exact hx
  · rw [if_neg q]; exact h s hs
theorem rdec_wl {F m : Nat} {way sd : Int} {B : R4} (hm : m < F) (hs : sd = 0 ∨ sd = 1) (h : sall F B) : sid ((rdec m way sd B).2.2.1 m) ∧ sid ((rdec m way sd B).2.2.2 m) := by
  have e1 : (rdec m way sd B).2.2.1 m = B.1 (2 * m + sd.toNat) := by
    show fup _ m _ m = _
    unfold fup
    rw [if_pos rfl]
  have e2 : (rdec m way sd B).2.2.2 m = B.1 (2 * m + (1 - sd).toNat) := by
    show fup _ m _ m = _
    unfold fup
    rw [if_pos rfl]
  rw [e1, e2]
  exact ⟨h _ (by omega), h _ (by omega)⟩
theorem rdec_1 {m : Nat} {way sd : Int} {B : R4} : (rdec m way sd B).1 = B.1 := rfl
theorem ite10 {c : Prop} [Decidable c] : (if c then (1 : Int) else 0) = 0 ∨ (if c then (1 : Int) else 0) = 1 := by
  by_cases h : c
  · rw [if_pos h]; exact Or.inr rfl
  · rw [if_neg h]; exact Or.inl rfl
theorem rtry_1 {T g R : Nat → Int} {mode fav : Int} {m : Nat} {B : R4} : (rtry T g R mode fav m B).1 = B.1 := by
  unfold rtry rbet
  by_cases c0 : B.1 (2 * m) = 16 ∨ B.1 (2 * m + 1) = 16
  · rw [if_pos c0]; rfl
  · rw [if_neg c0]
    by_cases c1 : T m ≠ -6
    · rw [if_pos c1]; rfl
    · rw [if_neg c1]
      by_cases c2 : g (B.1 (2 * m)).toNat = 1 ∨ g (B.1 (2 * m + 1)).toNat = 1
      · rw [if_pos c2]; rfl
      · rw [if_neg c2]
        by_cases c3 : mode = 1
        · rw [if_pos c3]; rfl
        · rw [if_neg c3]; rfl
theorem rtry_wl {T g R : Nat → Int} {mode fav : Int} {F m : Nat} {B : R4} (hm : m < F) (hT : T m = -6 ∨ T m = 0 ∨ T m = 1) (h : sall F B) : (rtry T g R mode fav m B).2.1 m = 0 ∨ (sid ((rtry T g R mode fav m B).2.2.1 m) ∧ sid ((rtry T g R mode fav m B).2.2.2 m)) := by
  have hn : sall F (rnul m B) := h
  unfold rtry rbet
  by_cases c0 : B.1 (2 * m) = 16 ∨ B.1 (2 * m + 1) = 16
  · rw [if_pos c0]; exact Or.inr (rdec_wl hm ite10 hn)
  · rw [if_neg c0]
    by_cases c1 : T m ≠ -6
    · rw [if_pos c1]; exact Or.inr (rdec_wl hm (by omega) hn)
    · rw [if_neg c1]
      by_cases c2 : g (B.1 (2 * m)).toNat = 1 ∨ g (B.1 (2 * m + 1)).toNat = 1
      · rw [if_pos c2]; exact Or.inr (rdec_wl hm ite10 hn)
      · rw [if_neg c2]
        by_cases c3 : mode = 1
        · rw [if_pos c3]; exact Or.inr (rdec_wl hm ite01 hn)
        · rw [if_neg c3]
          refine Or.inl ?_
          show fup _ m 0 m = 0
          unfold fup
          rw [if_pos rfl]
theorem sall_rone {WT WD LT LD T g R : Nat → Int} {mode fav : Int} {F m : Nat} {B : R4} (hm : m < F) (hT : T m = -6 ∨ T m = 0 ∨ T m = 1) (h : sall F B) : sall F (rone WT WD LT LD T g R mode fav F m B) := by
  have h0 := h (2 * m) (by omega)
  have h1 := h (2 * m + 1) (by omega)
  have wl := rtry_wl (g := g) (R := R) (mode := mode) (fav := fav) hm hT h
  have e1 := rtry_1 (T := T) (g := g) (R := R) (mode := mode) (fav := fav) (m := m) (B := B)
  unfold rone
  by_cases c0 : B.1 (2 * m) = -6 ∨ B.1 (2 * m + 1) = -6
  · rw [if_pos c0]; exact h
  · rw [if_neg c0]
    generalize rtry T g R mode fav m B = B1 at wl e1 ⊢
    have hB1 : sall F B1 := fun s hs => by rw [e1]; exact h s hs
    by_cases c1 : B1.2.1 m = 0
    · rw [if_pos c1]; exact hB1
    · rw [if_neg c1]
      obtain ⟨w1, w2⟩ := wl.resolve_left c1
      have hw : sall F (rwin WT WD m B1) ∧ (rwin WT WD m B1).2 = B1.2 := by
        unfold rwin
        by_cases q : WT m = -6
        · rw [if_pos q]; exact ⟨hB1, rfl⟩
        · rw [if_neg q]; exact ⟨sid_fup hB1 w1, rfl⟩
      generalize rwin WT WD m B1 = B2 at hw ⊢
      have hl : sall F (rlos LT LD m B2) := by
        unfold rlos
        by_cases q : LT m = -6
        · rw [if_pos q]; exact hw.1
        · rw [if_neg q]; exact sid_fup hw.1 (by rw [hw.2]; exact w2)
      generalize rlos LT LD m B2 = B3 at hl ⊢
      unfold rfin
      by_cases q : m + 2 = F ∧ B3.2.2.1 m = B.1 (2 * m + 1)
      · rw [if_pos q]; exact sid_fup (sid_fup hl h0) h1
      · rw [if_neg q]; exact hl
def rruns (WT WD LT LD T g R : Nat → Int) (mode fav : Int) (F : Nat) (B : R4) : Nat → R4
  | 0 => B
  | m + 1 => rone WT WD LT LD T g R mode fav F m (rruns WT WD LT LD T g R mode fav F B m)
theorem sall_rruns {WT WD LT LD T g R : Nat → Int} {mode fav : Int} {F : Nat} {B : R4} (hT : ∀ m, m < F → T m = -6 ∨ T m = 0 ∨ T m = 1) (h : sall F B) : ∀ k, k ≤ F → sall F (rruns WT WD LT LD T g R mode fav F B k) := by
  intro k
  induction k with
  | zero => intro _; exact h
  | succ k ih => intro hk; exact sall_rone (by omega) (hT k (by omega)) (ih (by omega))
/-- with mode and favourite -/
def moded (G : PW) (a b : Int) : PW := pm_upd (pm_upd G 0 25 a) 0 26 b
def inim (G : PW) (s : Nat) : Int := if G 15 s < G 1 0 then G 15 s else 16
theorem m_layTried_3 {F : Nat} {G : PW} {x y : Int} {B : R4} (hG : lay_ok G F) (hs : sall F B) : ∀ f i : Nat, i + f = F → pm_dn pm_sM 122 86 [some (.inr (.inr 0)), some (.inl x), some (.inl y), some (.inl (i : Int))] [] (r4 G (rruns (G 8) (G 9) (G 10) (G 11) (G 21) (fun p => G 1 (50 + p)) (fun p => G 1 (3 + p)) (G 0 25) (G 0 26) F B i)) = some (none, r4 G (rruns (G 8) (G 9) (G 10) (G 11) (G 21) (fun p => G 1 (50 + p)) (fun p => G 1 (3 + p)) (G 0 25) (G 0 26) F B F)) := by
  have hF := hG.1.1
  have hF2 := hG.1.2
  have hT := fun m hm => (hG.2.1 m hm).2
  intro f
  induction f with
  | zero =>
    intro i hi
    have : i = F := by omega
    subst this
    have t0 : ∀ B', r4 G B' 0 7 = (i : Int) := fun _ => hF
    have hc : (i : Int) ≤ (i : Int) := Int.le_refl _
    rw [u_122_86]
    simp (disch := first | assumption | omega | (simp (disch := omega) only [stv_ne, upd_ne])) only [ue_122, u_122_0, u_122_1, u_122_2, u_122_5, u_122_6, u_122_7, u_122_10, u_122_11, u_122_13, u_122_14, u_122_15, u_122_18, u_122_19, u_122_22, u_122_23, u_122_26, u_122_27, u_122_29, u_122_30, u_122_33, u_122_36, u_122_37, u_122_39, u_122_40, u_122_43, u_122_46, u_122_47, u_122_50, u_122_51, u_122_52, u_122_55, u_122_56, u_122_57, u_122_58, u_122_61, u_122_62, u_122_63, u_122_66, u_122_67, u_122_70, u_122_71, u_122_72, u_122_75, u_122_77, u_122_78, u_122_81, u_122_84, u_122_85, u_122_87, u_122_88, u_122_91, u_122_94, u_122_95, u_122_96, u_122_99, u_122_102, u_122_105, uc_121_0_0, uc_121_0_1, uc_121_0_2, uc_121_0_3, t0, hc, if_true, if_false, pm_go_n, pm_go_c, pm_go_r, pm_go_i, pm_oIL, pm_oLL, pm_oAL, pm_oIS, pm_oLS, pm_oAS, pm_oK, pm_oKL, pe_add, pe_sub, pe_mul, pe_div, pe_rem, pe_shr, pe_and, pm_oInc, pe_rgb, pe_if, pe_ic, pe_b1, pe_nn, pe_eq, pe_ne, pe_lt, pe_ge, pe_gt, pe_le, pe_go, pe_ri0, pe_ri1, pe_ri2, pe_i2c, pm_oRv, pm_oGf, pm_oLen, pm_oDup, pm_oDu2, pm_oPop, pm_oL2i, pm_oLand, pm_oLus, pm_oLsh, pm_oLcm, lk_0, lk_1, lk_2, lk_3, lk_4, lk_5, lk_6, lk_7, lk_8, st_0, st_1n, st_1i, st_1r, st_2, st_3, st_4, st_5, st_6, st_7, st_8, Option.toList_some, Option.toList_none, List.cons_append, List.nil_append, shM_fd0_0, shM_fd0_1, shM_fd0_2, shM_fd0_3, shM_fd0_4, shM_pf0_4, shM_fd0_5, shM_pf0_5, shM_fd0_6, shM_pf0_6, shM_fd0_7, shM_pf0_7, shM_fd0_8, shM_fd0_9, shM_fd0_10, shM_fd0_11, shM_fd0_12, shM_fd0_13, shM_fd0_14, shM_fd0_15, shM_fd0_16, shM_fd0_17, shM_fd0_18, shM_fd0_19, shM_fd0_20, shM_fd0_21, shM_fd0_22, shM_fd0_23, shM_fd0_24, shM_fd0_25, shM_pf0_25, shM_fd0_26, shM_pf0_26, shM_fd0_27, shM_fd0_28, shM_fd0_29, shM_pf0_29, shM_fd0_30, shM_pf0_30, shM_fd0_31, shM_fd0_32, shM_fd0_33, shM_pf0_33, shM_al1, shM_ld1, shM_st1, shM_al2, shM_ld2, shM_st2, shM_al3, shM_ld3, shM_st3, shM_al4, shM_ld4, shM_st4, shM_al5, shM_ld5, shM_st5, shM_al6, shM_ld6, shM_st6, shM_al7, shM_ld7, shM_st7, shM_al8, shM_ld8, shM_st8, shM_al9, shM_ld9, shM_st9, shM_al10, shM_ld10, shM_st10, shM_al11, shM_ld11, shM_st11, shM_al12, shM_ld12, shM_st12, shM_al13, shM_ld13, shM_st13, shM_al14, shM_ld14, shM_st14, shM_al15, shM_ld15, shM_st15, shM_al16, shM_ld16, shM_st16, shM_al17, shM_ld17, shM_st17, shM_al18, shM_ld18, shM_st18, shM_al19, shM_ld19, shM_st19, shM_al20, shM_ld20, shM_st20, shM_al21, shM_ld21, shM_st21, shM_al22, shM_ld22, shM_st22, shM_al23, shM_ld23, shM_st23, shM_al24, shM_ld24, shM_st24, shM_al25, shM_ld25, shM_st25]
  | succ f ih =>
    intro i hi
    have t0 : ∀ B', r4 G B' 0 7 = (F : Int) := fun _ => hF
    have hc : ¬ (F : Int) ≤ (i : Int) := by omega
    have e1 : (i : Int) + 1 = ((i + 1 : Nat) : Int) := by omega
    have ih1 := ih (i + 1) (by omega)
    have sk := sall_rruns (WT := G 8) (WD := G 9) (LT := G 10) (LD := G 11) (g := fun p => G 1 (50 + p)) (R := fun p => G 1 (3 + p)) (mode := G 0 25) (fav := G 0 26) hT hs i (by omega)
    have q := m_layOne (m := i) hG (by omega) (sk _ (by omega)) (sk _ (by omega))
    rw [u_122_86]
    simp (disch := first | assumption | omega | (simp (disch := omega) only [stv_ne, upd_ne])) only [ue_122, u_122_0, u_122_1, u_122_2, u_122_5, u_122_6, u_122_7, u_122_10, u_122_11, u_122_13, u_122_14, u_122_15, u_122_18, u_122_19, u_122_22, u_122_23, u_122_26, u_122_27, u_122_29, u_122_30, u_122_33, u_122_36, u_122_37, u_122_39, u_122_40, u_122_43, u_122_46, u_122_47, u_122_50, u_122_51, u_122_52, u_122_55, u_122_56, u_122_57, u_122_58, u_122_61, u_122_62, u_122_63, u_122_66, u_122_67, u_122_70, u_122_71, u_122_72, u_122_75, u_122_77, u_122_78, u_122_81, u_122_84, u_122_85, u_122_87, u_122_88, u_122_91, u_122_94, u_122_95, u_122_96, u_122_99, u_122_102, u_122_105, uc_121_0_0, uc_121_0_1, uc_121_0_2, uc_121_0_3, t0, hc, q, if_true, if_false, pm_go_n, pm_go_c, pm_go_r, pm_go_i, pm_oIL, pm_oLL, pm_oAL, pm_oIS, pm_oLS, pm_oAS, pm_oK, pm_oKL, pe_add, pe_sub, pe_mul, pe_div, pe_rem, pe_shr, pe_and, pm_oInc, pe_rgb, pe_if, pe_ic, pe_b1, pe_nn, pe_eq, pe_ne, pe_lt, pe_ge, pe_gt, pe_le, pe_go, pe_ri0, pe_ri1, pe_ri2, pe_i2c, pm_oRv, pm_oGf, pm_oLen, pm_oDup, pm_oDu2, pm_oPop, pm_oL2i, pm_oLand, pm_oLus, pm_oLsh, pm_oLcm, lk_0, lk_1, lk_2, lk_3, lk_4, lk_5, lk_6, lk_7, lk_8, st_0, st_1n, st_1i, st_1r, st_2, st_3, st_4, st_5, st_6, st_7, st_8, Option.toList_some, Option.toList_none, List.cons_append, List.nil_append, shM_fd0_0, shM_fd0_1, shM_fd0_2, shM_fd0_3, shM_fd0_4, shM_pf0_4, shM_fd0_5, shM_pf0_5, shM_fd0_6, shM_pf0_6, shM_fd0_7, shM_pf0_7, shM_fd0_8, shM_fd0_9, shM_fd0_10, shM_fd0_11, shM_fd0_12, shM_fd0_13, shM_fd0_14, shM_fd0_15, shM_fd0_16, shM_fd0_17, shM_fd0_18, shM_fd0_19, shM_fd0_20, shM_fd0_21, shM_fd0_22, shM_fd0_23, shM_fd0_24, shM_fd0_25, shM_pf0_25, shM_fd0_26, shM_pf0_26, shM_fd0_27, shM_fd0_28, shM_fd0_29, shM_pf0_29, shM_fd0_30, shM_pf0_30, shM_fd0_31, shM_fd0_32, shM_fd0_33, shM_pf0_33, shM_al1, shM_ld1, shM_st1, shM_al2, shM_ld2, shM_st2, shM_al3, shM_ld3, shM_st3, shM_al4, shM_ld4, shM_st4, shM_al5, shM_ld5, shM_st5, shM_al6, shM_ld6, shM_st6, shM_al7, shM_ld7, shM_st7, shM_al8, shM_ld8, shM_st8, shM_al9, shM_ld9, shM_st9, shM_al10, shM_ld10, shM_st10, shM_al11, shM_ld11, shM_st11, shM_al12, shM_ld12, shM_st12, shM_al13, shM_ld13, shM_st13, shM_al14, shM_ld14, shM_st14, shM_al15, shM_ld15, shM_st15, shM_al16, shM_ld16, shM_st16, shM_al17, shM_ld17, shM_st17, shM_al18, shM_ld18, shM_st18, shM_al19, shM_ld19, shM_st19, shM_al20, shM_ld20, shM_st20, shM_al21, shM_ld21, shM_st21, shM_al22, shM_ld22, shM_st22, shM_al23, shM_ld23, shM_st23, shM_al24, shM_ld24, shM_st24, shM_al25, shM_ld25, shM_st25]
    rw [e1]
    exact ih1
theorem m_layTried_1 {F : Nat} {G : PW} {x y : Int} (hF : mcF G F) : ∀ f i : Nat, i + f = 2 * F → pm_dn pm_sM 122 12 [some (.inr (.inr 0)), some (.inl x), some (.inl y), some (.inl (i : Int))] [] (pm_row G 17 (mixf i (fun _ => -6) (G 17))) = pm_dn pm_sM 122 38 [some (.inr (.inr 0)), some (.inl x), some (.inl y), some (.inl 0)] [] (pm_row G 17 (mixf (2 * F) (fun _ => -6) (G 17))) := by
  obtain ⟨hF, hF2⟩ := hF
  have t0 : ∀ S, pm_row G 17 S 0 7 = (F : Int) := fun _ => hF
  intro f
  induction f with
  | zero =>
    intro i hi
    have : i = 2 * F := by omega
    subst this
    have hc : 2 * (F : Int) ≤ ((2 * F : Nat) : Int) := by omega
    rw [u_122_12]
    simp (disch := first | assumption | omega | (simp (disch := omega) only [stv_ne, upd_ne])) only [ue_122, u_122_0, u_122_1, u_122_2, u_122_5, u_122_6, u_122_7, u_122_10, u_122_11, u_122_13, u_122_14, u_122_15, u_122_18, u_122_19, u_122_22, u_122_23, u_122_26, u_122_27, u_122_29, u_122_30, u_122_33, u_122_36, u_122_37, u_122_39, u_122_40, u_122_43, u_122_46, u_122_47, u_122_50, u_122_51, u_122_52, u_122_55, u_122_56, u_122_57, u_122_58, u_122_61, u_122_62, u_122_63, u_122_66, u_122_67, u_122_70, u_122_71, u_122_72, u_122_75, u_122_77, u_122_78, u_122_81, u_122_84, u_122_85, u_122_87, u_122_88, u_122_91, u_122_94, u_122_95, u_122_96, u_122_99, u_122_102, u_122_105, uc_121_0_0, uc_121_0_1, uc_121_0_2, uc_121_0_3, t0, hc, if_true, if_false, pm_go_n, pm_go_c, pm_go_r, pm_go_i, pm_oIL, pm_oLL, pm_oAL, pm_oIS, pm_oLS, pm_oAS, pm_oK, pm_oKL, pe_add, pe_sub, pe_mul, pe_div, pe_rem, pe_shr, pe_and, pm_oInc, pe_rgb, pe_if, pe_ic, pe_b1, pe_nn, pe_eq, pe_ne, pe_lt, pe_ge, pe_gt, pe_le, pe_go, pe_ri0, pe_ri1, pe_ri2, pe_i2c, pm_oRv, pm_oGf, pm_oLen, pm_oDup, pm_oDu2, pm_oPop, pm_oL2i, pm_oLand, pm_oLus, pm_oLsh, pm_oLcm, lk_0, lk_1, lk_2, lk_3, lk_4, lk_5, lk_6, lk_7, lk_8, st_0, st_1n, st_1i, st_1r, st_2, st_3, st_4, st_5, st_6, st_7, st_8, Option.toList_some, Option.toList_none, List.cons_append, List.nil_append, shM_fd0_0, shM_fd0_1, shM_fd0_2, shM_fd0_3, shM_fd0_4, shM_pf0_4, shM_fd0_5, shM_pf0_5, shM_fd0_6, shM_pf0_6, shM_fd0_7, shM_pf0_7, shM_fd0_8, shM_fd0_9, shM_fd0_10, shM_fd0_11, shM_fd0_12, shM_fd0_13, shM_fd0_14, shM_fd0_15, shM_fd0_16, shM_fd0_17, shM_fd0_18, shM_fd0_19, shM_fd0_20, shM_fd0_21, shM_fd0_22, shM_fd0_23, shM_fd0_24, shM_fd0_25, shM_pf0_25, shM_fd0_26, shM_pf0_26, shM_fd0_27, shM_fd0_28, shM_fd0_29, shM_pf0_29, shM_fd0_30, shM_pf0_30, shM_fd0_31, shM_fd0_32, shM_fd0_33, shM_pf0_33, shM_al1, shM_ld1, shM_st1, shM_al2, shM_ld2, shM_st2, shM_al3, shM_ld3, shM_st3, shM_al4, shM_ld4, shM_st4, shM_al5, shM_ld5, shM_st5, shM_al6, shM_ld6, shM_st6, shM_al7, shM_ld7, shM_st7, shM_al8, shM_ld8, shM_st8, shM_al9, shM_ld9, shM_st9, shM_al10, shM_ld10, shM_st10, shM_al11, shM_ld11, shM_st11, shM_al12, shM_ld12, shM_st12, shM_al13, shM_ld13, shM_st13, shM_al14, shM_ld14, shM_st14, shM_al15, shM_ld15, shM_st15, shM_al16, shM_ld16, shM_st16, shM_al17, shM_ld17, shM_st17, shM_al18, shM_ld18, shM_st18, shM_al19, shM_ld19, shM_st19, shM_al20, shM_ld20, shM_st20, shM_al21, shM_ld21, shM_st21, shM_al22, shM_ld22, shM_st22, shM_al23, shM_ld23, shM_st23, shM_al24, shM_ld24, shM_st24, shM_al25, shM_ld25, shM_st25]
  | succ f ih =>
    intro i hi
    have hc : ¬ 2 * (F : Int) ≤ (i : Int) := by omega
    have e1 : (i : Int) + 1 = ((i + 1 : Nat) : Int) := by omega
    have e : ((i : Int)).toNat = i := by omega
    have ih1 := ih (i + 1) (by omega)
    rw [← ih1, u_122_12]
    simp (disch := first | assumption | omega | (simp (disch := omega) only [stv_ne, upd_ne])) only [ue_122, u_122_0, u_122_1, u_122_2, u_122_5, u_122_6, u_122_7, u_122_10, u_122_11, u_122_13, u_122_14, u_122_15, u_122_18, u_122_19, u_122_22, u_122_23, u_122_26, u_122_27, u_122_29, u_122_30, u_122_33, u_122_36, u_122_37, u_122_39, u_122_40, u_122_43, u_122_46, u_122_47, u_122_50, u_122_51, u_122_52, u_122_55, u_122_56, u_122_57, u_122_58, u_122_61, u_122_62, u_122_63, u_122_66, u_122_67, u_122_70, u_122_71, u_122_72, u_122_75, u_122_77, u_122_78, u_122_81, u_122_84, u_122_85, u_122_87, u_122_88, u_122_91, u_122_94, u_122_95, u_122_96, u_122_99, u_122_102, u_122_105, uc_121_0_0, uc_121_0_1, uc_121_0_2, uc_121_0_3, t0, hc, e, row_upd, if_true, if_false, pm_go_n, pm_go_c, pm_go_r, pm_go_i, pm_oIL, pm_oLL, pm_oAL, pm_oIS, pm_oLS, pm_oAS, pm_oK, pm_oKL, pe_add, pe_sub, pe_mul, pe_div, pe_rem, pe_shr, pe_and, pm_oInc, pe_rgb, pe_if, pe_ic, pe_b1, pe_nn, pe_eq, pe_ne, pe_lt, pe_ge, pe_gt, pe_le, pe_go, pe_ri0, pe_ri1, pe_ri2, pe_i2c, pm_oRv, pm_oGf, pm_oLen, pm_oDup, pm_oDu2, pm_oPop, pm_oL2i, pm_oLand, pm_oLus, pm_oLsh, pm_oLcm, lk_0, lk_1, lk_2, lk_3, lk_4, lk_5, lk_6, lk_7, lk_8, st_0, st_1n, st_1i, st_1r, st_2, st_3, st_4, st_5, st_6, st_7, st_8, Option.toList_some, Option.toList_none, List.cons_append, List.nil_append, shM_fd0_0, shM_fd0_1, shM_fd0_2, shM_fd0_3, shM_fd0_4, shM_pf0_4, shM_fd0_5, shM_pf0_5, shM_fd0_6, shM_pf0_6, shM_fd0_7, shM_pf0_7, shM_fd0_8, shM_fd0_9, shM_fd0_10, shM_fd0_11, shM_fd0_12, shM_fd0_13, shM_fd0_14, shM_fd0_15, shM_fd0_16, shM_fd0_17, shM_fd0_18, shM_fd0_19, shM_fd0_20, shM_fd0_21, shM_fd0_22, shM_fd0_23, shM_fd0_24, shM_fd0_25, shM_pf0_25, shM_fd0_26, shM_pf0_26, shM_fd0_27, shM_fd0_28, shM_fd0_29, shM_pf0_29, shM_fd0_30, shM_pf0_30, shM_fd0_31, shM_fd0_32, shM_fd0_33, shM_pf0_33, shM_al1, shM_ld1, shM_st1, shM_al2, shM_ld2, shM_st2, shM_al3, shM_ld3, shM_st3, shM_al4, shM_ld4, shM_st4, shM_al5, shM_ld5, shM_st5, shM_al6, shM_ld6, shM_st6, shM_al7, shM_ld7, shM_st7, shM_al8, shM_ld8, shM_st8, shM_al9, shM_ld9, shM_st9, shM_al10, shM_ld10, shM_st10, shM_al11, shM_ld11, shM_st11, shM_al12, shM_ld12, shM_st12, shM_al13, shM_ld13, shM_st13, shM_al14, shM_ld14, shM_st14, shM_al15, shM_ld15, shM_st15, shM_al16, shM_ld16, shM_st16, shM_al17, shM_ld17, shM_st17, shM_al18, shM_ld18, shM_st18, shM_al19, shM_ld19, shM_st19, shM_al20, shM_ld20, shM_st20, shM_al21, shM_ld21, shM_st21, shM_al22, shM_ld22, shM_st22, shM_al23, shM_ld23, shM_st23, shM_al24, shM_ld24, shM_st24, shM_al25, shM_ld25, shM_st25]
    rw [e1]
    have em : fup (mixf i (fun _ => -6) (G 17)) i (-6) = mixf (i + 1) (fun _ => -6) (G 17) := mix_u (f := fun _ => -6)
    rw [em]
theorem m_layTried_2 {sz : Nat} {G : PW} {x y : Int} {S : Nat → Int} (hz : G 0 5 = (sz : Int)) (hz2 : sz ≤ 16) : ∀ f i : Nat, i + f = sz → pm_dn pm_sM 122 38 [some (.inr (.inr 0)), some (.inl x), some (.inl y), some (.inl (i : Int))] [] (pm_row G 17 (mixf i (inim G) S)) = pm_dn pm_sM 122 86 [some (.inr (.inr 0)), some (.inl x), some (.inl y), some (.inl 0)] [] (pm_row G 17 (mixf sz (inim G) S)) := by
  have t0 : ∀ S, pm_row G 17 S 0 5 = (sz : Int) := fun _ => hz
  have t15 : ∀ S, pm_row G 17 S 15 = G 15 := fun _ => row_ne (by decide)
  have t1 : ∀ S, pm_row G 17 S 1 = G 1 := fun _ => row_ne (by decide)
  have z : ((0 : Int)).toNat = 0 := rfl
  intro f
  induction f with
  | zero =>
    intro i hi
    have : i = sz := by omega
    subst this
    have hc : (i : Int) ≤ (i : Int) := Int.le_refl _
    rw [u_122_38]
    simp (disch := first | assumption | omega | (simp (disch := omega) only [stv_ne, upd_ne])) only [ue_122, u_122_0, u_122_1, u_122_2, u_122_5, u_122_6, u_122_7, u_122_10, u_122_11, u_122_13, u_122_14, u_122_15, u_122_18, u_122_19, u_122_22, u_122_23, u_122_26, u_122_27, u_122_29, u_122_30, u_122_33, u_122_36, u_122_37, u_122_39, u_122_40, u_122_43, u_122_46, u_122_47, u_122_50, u_122_51, u_122_52, u_122_55, u_122_56, u_122_57, u_122_58, u_122_61, u_122_62, u_122_63, u_122_66, u_122_67, u_122_70, u_122_71, u_122_72, u_122_75, u_122_77, u_122_78, u_122_81, u_122_84, u_122_85, u_122_87, u_122_88, u_122_91, u_122_94, u_122_95, u_122_96, u_122_99, u_122_102, u_122_105, uc_121_0_0, uc_121_0_1, uc_121_0_2, uc_121_0_3, t0, hc, if_true, if_false, pm_go_n, pm_go_c, pm_go_r, pm_go_i, pm_oIL, pm_oLL, pm_oAL, pm_oIS, pm_oLS, pm_oAS, pm_oK, pm_oKL, pe_add, pe_sub, pe_mul, pe_div, pe_rem, pe_shr, pe_and, pm_oInc, pe_rgb, pe_if, pe_ic, pe_b1, pe_nn, pe_eq, pe_ne, pe_lt, pe_ge, pe_gt, pe_le, pe_go, pe_ri0, pe_ri1, pe_ri2, pe_i2c, pm_oRv, pm_oGf, pm_oLen, pm_oDup, pm_oDu2, pm_oPop, pm_oL2i, pm_oLand, pm_oLus, pm_oLsh, pm_oLcm, lk_0, lk_1, lk_2, lk_3, lk_4, lk_5, lk_6, lk_7, lk_8, st_0, st_1n, st_1i, st_1r, st_2, st_3, st_4, st_5, st_6, st_7, st_8, Option.toList_some, Option.toList_none, List.cons_append, List.nil_append, shM_fd0_0, shM_fd0_1, shM_fd0_2, shM_fd0_3, shM_fd0_4, shM_pf0_4, shM_fd0_5, shM_pf0_5, shM_fd0_6, shM_pf0_6, shM_fd0_7, shM_pf0_7, shM_fd0_8, shM_fd0_9, shM_fd0_10, shM_fd0_11, shM_fd0_12, shM_fd0_13, shM_fd0_14, shM_fd0_15, shM_fd0_16, shM_fd0_17, shM_fd0_18, shM_fd0_19, shM_fd0_20, shM_fd0_21, shM_fd0_22, shM_fd0_23, shM_fd0_24, shM_fd0_25, shM_pf0_25, shM_fd0_26, shM_pf0_26, shM_fd0_27, shM_fd0_28, shM_fd0_29, shM_pf0_29, shM_fd0_30, shM_pf0_30, shM_fd0_31, shM_fd0_32, shM_fd0_33, shM_pf0_33, shM_al1, shM_ld1, shM_st1, shM_al2, shM_ld2, shM_st2, shM_al3, shM_ld3, shM_st3, shM_al4, shM_ld4, shM_st4, shM_al5, shM_ld5, shM_st5, shM_al6, shM_ld6, shM_st6, shM_al7, shM_ld7, shM_st7, shM_al8, shM_ld8, shM_st8, shM_al9, shM_ld9, shM_st9, shM_al10, shM_ld10, shM_st10, shM_al11, shM_ld11, shM_st11, shM_al12, shM_ld12, shM_st12, shM_al13, shM_ld13, shM_st13, shM_al14, shM_ld14, shM_st14, shM_al15, shM_ld15, shM_st15, shM_al16, shM_ld16, shM_st16, shM_al17, shM_ld17, shM_st17, shM_al18, shM_ld18, shM_st18, shM_al19, shM_ld19, shM_st19, shM_al20, shM_ld20, shM_st20, shM_al21, shM_ld21, shM_st21, shM_al22, shM_ld22, shM_st22, shM_al23, shM_ld23, shM_st23, shM_al24, shM_ld24, shM_st24, shM_al25, shM_ld25, shM_st25]
  | succ f ih =>
    intro i hi
    have hc : ¬ (sz : Int) ≤ (i : Int) := by omega
    have e1 : (i : Int) + 1 = ((i + 1 : Nat) : Int) := by omega
    have e : ((i : Int)).toNat = i := by omega
    have ih1 := ih (i + 1) (by omega)
    have em : fup (mixf i (inim G) S) i (inim G i) = mixf (i + 1) (inim G) S := mix_u
    rw [← ih1, u_122_38, ← em]
    by_cases c : G 15 i < G 1 0
    · have c' : ¬ G 1 0 ≤ G 15 i := by omega
      have ei : inim G i = G 15 i := by unfold inim; rw [if_pos c]
      rw [ei]
      simp (disch := first | assumption | omega | (simp (disch := omega) only [stv_ne, upd_ne])) only [ue_122, u_122_0, u_122_1, u_122_2, u_122_5, u_122_6, u_122_7, u_122_10, u_122_11, u_122_13, u_122_14, u_122_15, u_122_18, u_122_19, u_122_22, u_122_23, u_122_26, u_122_27, u_122_29, u_122_30, u_122_33, u_122_36, u_122_37, u_122_39, u_122_40, u_122_43, u_122_46, u_122_47, u_122_50, u_122_51, u_122_52, u_122_55, u_122_56, u_122_57, u_122_58, u_122_61, u_122_62, u_122_63, u_122_66, u_122_67, u_122_70, u_122_71, u_122_72, u_122_75, u_122_77, u_122_78, u_122_81, u_122_84, u_122_85, u_122_87, u_122_88, u_122_91, u_122_94, u_122_95, u_122_96, u_122_99, u_122_102, u_122_105, uc_121_0_0, uc_121_0_1, uc_121_0_2, uc_121_0_3, t0, t15, t1, z, hc, e, c, c', row_upd, if_true, if_false, pm_go_n, pm_go_c, pm_go_r, pm_go_i, pm_oIL, pm_oLL, pm_oAL, pm_oIS, pm_oLS, pm_oAS, pm_oK, pm_oKL, pe_add, pe_sub, pe_mul, pe_div, pe_rem, pe_shr, pe_and, pm_oInc, pe_rgb, pe_if, pe_ic, pe_b1, pe_nn, pe_eq, pe_ne, pe_lt, pe_ge, pe_gt, pe_le, pe_go, pe_ri0, pe_ri1, pe_ri2, pe_i2c, pm_oRv, pm_oGf, pm_oLen, pm_oDup, pm_oDu2, pm_oPop, pm_oL2i, pm_oLand, pm_oLus, pm_oLsh, pm_oLcm, lk_0, lk_1, lk_2, lk_3, lk_4, lk_5, lk_6, lk_7, lk_8, st_0, st_1n, st_1i, st_1r, st_2, st_3, st_4, st_5, st_6, st_7, st_8, Option.toList_some, Option.toList_none, List.cons_append, List.nil_append, shM_fd0_0, shM_fd0_1, shM_fd0_2, shM_fd0_3, shM_fd0_4, shM_pf0_4, shM_fd0_5, shM_pf0_5, shM_fd0_6, shM_pf0_6, shM_fd0_7, shM_pf0_7, shM_fd0_8, shM_fd0_9, shM_fd0_10, shM_fd0_11, shM_fd0_12, shM_fd0_13, shM_fd0_14, shM_fd0_15, shM_fd0_16, shM_fd0_17, shM_fd0_18, shM_fd0_19, shM_fd0_20, shM_fd0_21, shM_fd0_22, shM_fd0_23, shM_fd0_24, shM_fd0_25, shM_pf0_25, shM_fd0_26, shM_pf0_26, shM_fd0_27, shM_fd0_28, shM_fd0_29, shM_pf0_29, shM_fd0_30, shM_pf0_30, shM_fd0_31, shM_fd0_32, shM_fd0_33, shM_pf0_33, shM_al1, shM_ld1, shM_st1, shM_al2, shM_ld2, shM_st2, shM_al3, shM_ld3, shM_st3, shM_al4, shM_ld4, shM_st4, shM_al5, shM_ld5, shM_st5, shM_al6, shM_ld6, shM_st6, shM_al7, shM_ld7, shM_st7, shM_al8, shM_ld8, shM_st8, shM_al9, shM_ld9, shM_st9, shM_al10, shM_ld10, shM_st10, shM_al11, shM_ld11, shM_st11, shM_al12, shM_ld12, shM_st12, shM_al13, shM_ld13, shM_st13, shM_al14, shM_ld14, shM_st14, shM_al15, shM_ld15, shM_st15, shM_al16, shM_ld16, shM_st16, shM_al17, shM_ld17, shM_st17, shM_al18, shM_ld18, shM_st18, shM_al19, shM_ld19, shM_st19, shM_al20, shM_ld20, shM_st20, shM_al21, shM_ld21, shM_st21, shM_al22, shM_ld22, shM_st22, shM_al23, shM_ld23, shM_st23, shM_al24, shM_ld24, shM_st24, shM_al25, shM_ld25, shM_st25]
      rw [e1]
    · have c' : G 1 0 ≤ G 15 i := by omega
      have ei : inim G i = 16 := by unfold inim; rw [if_neg c]
      rw [ei]
      simp (disch := first | assumption | omega | (simp (disch := omega) only [stv_ne, upd_ne])) only [ue_122, u_122_0, u_122_1, u_122_2, u_122_5, u_122_6, u_122_7, u_122_10, u_122_11, u_122_13, u_122_14, u_122_15, u_122_18, u_122_19, u_122_22, u_122_23, u_122_26, u_122_27, u_122_29, u_122_30, u_122_33, u_122_36, u_122_37, u_122_39, u_122_40, u_122_43, u_122_46, u_122_47, u_122_50, u_122_51, u_122_52, u_122_55, u_122_56, u_122_57, u_122_58, u_122_61, u_122_62, u_122_63, u_122_66, u_122_67, u_122_70, u_122_71, u_122_72, u_122_75, u_122_77, u_122_78, u_122_81, u_122_84, u_122_85, u_122_87, u_122_88, u_122_91, u_122_94, u_122_95, u_122_96, u_122_99, u_122_102, u_122_105, uc_121_0_0, uc_121_0_1, uc_121_0_2, uc_121_0_3, t0, t15, t1, z, hc, e, c, c', row_upd, if_true, if_false, pm_go_n, pm_go_c, pm_go_r, pm_go_i, pm_oIL, pm_oLL, pm_oAL, pm_oIS, pm_oLS, pm_oAS, pm_oK, pm_oKL, pe_add, pe_sub, pe_mul, pe_div, pe_rem, pe_shr, pe_and, pm_oInc, pe_rgb, pe_if, pe_ic, pe_b1, pe_nn, pe_eq, pe_ne, pe_lt, pe_ge, pe_gt, pe_le, pe_go, pe_ri0, pe_ri1, pe_ri2, pe_i2c, pm_oRv, pm_oGf, pm_oLen, pm_oDup, pm_oDu2, pm_oPop, pm_oL2i, pm_oLand, pm_oLus, pm_oLsh, pm_oLcm, lk_0, lk_1, lk_2, lk_3, lk_4, lk_5, lk_6, lk_7, lk_8, st_0, st_1n, st_1i, st_1r, st_2, st_3, st_4, st_5, st_6, st_7, st_8, Option.toList_some, Option.toList_none, List.cons_append, List.nil_append, shM_fd0_0, shM_fd0_1, shM_fd0_2, shM_fd0_3, shM_fd0_4, shM_pf0_4, shM_fd0_5, shM_pf0_5, shM_fd0_6, shM_pf0_6, shM_fd0_7, shM_pf0_7, shM_fd0_8, shM_fd0_9, shM_fd0_10, shM_fd0_11, shM_fd0_12, shM_fd0_13, shM_fd0_14, shM_fd0_15, shM_fd0_16, shM_fd0_17, shM_fd0_18, shM_fd0_19, shM_fd0_20, shM_fd0_21, shM_fd0_22, shM_fd0_23, shM_fd0_24, shM_fd0_25, shM_pf0_25, shM_fd0_26, shM_pf0_26, shM_fd0_27, shM_fd0_28, shM_fd0_29, shM_pf0_29, shM_fd0_30, shM_pf0_30, shM_fd0_31, shM_fd0_32, shM_fd0_33, shM_pf0_33, shM_al1, shM_ld1, shM_st1, shM_al2, shM_ld2, shM_st2, shM_al3, shM_ld3, shM_st3, shM_al4, shM_ld4, shM_st4, shM_al5, shM_ld5, shM_st5, shM_al6, shM_ld6, shM_st6, shM_al7, shM_ld7, shM_st7, shM_al8, shM_ld8, shM_st8, shM_al9, shM_ld9, shM_st9, shM_al10, shM_ld10, shM_st10, shM_al11, shM_ld11, shM_st11, shM_al12, shM_ld12, shM_st12, shM_al13, shM_ld13, shM_st13, shM_al14, shM_ld14, shM_st14, shM_al15, shM_ld15, shM_st15, shM_al16, shM_ld16, shM_st16, shM_al17, shM_ld17, shM_st17, shM_al18, shM_ld18, shM_st18, shM_al19, shM_ld19, shM_st19, shM_al20, shM_ld20, shM_st20, shM_al21, shM_ld21, shM_st21, shM_al22, shM_ld22, shM_st22, shM_al23, shM_ld23, shM_st23, shM_al24, shM_ld24, shM_st24, shM_al25, shM_ld25, shM_st25]
      rw [e1]
theorem r4_row {G : PW} {S : Nat → Int} : pm_row G 17 S = r4 G (S, G 20, G 18, G 19) := by
  funext r i
  unfold pm_row r4
  dsimp only
  by_cases h1 : r = 17
  · rw [if_pos h1, if_pos h1]
  · rw [if_neg h1, if_neg h1]
    by_cases h2 : r = 20
    · rw [if_pos h2, h2]
    · rw [if_neg h2]
      by_cases h3 : r = 18
      · rw [if_pos h3, h3]
      · rw [if_neg h3]
        by_cases h4 : r = 19
        · rw [if_pos h4, h4]
        · rw [if_neg h4]
/-- the matches before they are laid -/
def rbeg (G : PW) (F sz : Nat) : R4 := (mixf sz (inim G) (mixf (2 * F) (fun _ => -6) (G 17)), G 20, G 18, G 19)
def tried0 (G : PW) (F sz : Nat) (a b : Int) : R4 := rruns (G 8) (G 9) (G 10) (G 11) (G 21) (fun p => G 1 (50 + p)) (fun p => G 1 (3 + p)) a b F (rbeg G F sz) F
/-- what laying all needs -/
def all_ok (G : PW) (F sz : Nat) : Prop := lay_ok G F ∧ G 0 5 = (sz : Int) ∧ sz ≤ 16 ∧ ∀ k, k < sz → 0 ≤ G 15 k ∧ G 15 k ≤ 15
theorem sall_rbeg {G : PW} {F sz : Nat} (h : all_ok G F sz) : sall F (rbeg G F sz) := fun s hs => by
  show sid (mixf sz (inim G) (mixf (2 * F) (fun _ => -6) (G 17)) s)
  unfold mixf
  by_cases c : s < sz
  · rw [if_pos c]
    have := h.2.2.2 s c
    unfold inim
    by_cases c2 : G 15 s < G 1 0
    · rw [if_pos c2]; exact Or.inr (by omega)
    · rw [if_neg c2]; exact Or.inr (by omega)
  · rw [if_neg c, if_pos hs]
    exact Or.inl rfl
theorem m_layTried {F sz : Nat} {G : PW} {a b : Int} (h : all_ok G F sz) : pm_ca pm_sM 122 [.inr (.inr 0), .inl a, .inl b] G = some (none, r4 (moded G a b) (tried0 G F sz a b)) := by
  have hM : all_ok (moded G a b) F sz := h
  have hs := sall_rbeg hM
  have h1 := m_layTried_1 (G := moded G a b) (x := a) (y := b) hM.1.1 (2 * F) 0 (by omega)
  rw [mix_0, row_id] at h1
  have h1 : pm_dn pm_sM 122 12 [some (.inr (.inr 0)), some (.inl a), some (.inl b), some (.inl 0)] [] (moded G a b) = _ := h1
  have h2 := m_layTried_2 (G := moded G a b) (x := a) (y := b) (S := mixf (2 * F) (fun _ => -6) (moded G a b 17)) hM.2.1 hM.2.2.1 sz 0 (by omega)
  rw [mix_0] at h2
  have h2 : pm_dn pm_sM 122 38 [some (.inr (.inr 0)), some (.inl a), some (.inl b), some (.inl 0)] [] (pm_row (moded G a b) 17 (mixf (2 * F) (fun _ => -6) (moded G a b 17))) = _ := h2
  have h3 := m_layTried_3 (G := moded G a b) (x := a) (y := b) hM.1 hs F 0 (by omega)
  have h3 : pm_dn pm_sM 122 86 [some (.inr (.inr 0)), some (.inl a), some (.inl b), some (.inl 0)] [] (r4 (moded G a b) (rbeg (moded G a b) F sz)) = some (none, r4 (moded G a b) (tried0 G F sz a b)) := h3
  have e : pm_row (moded G a b) 17 (mixf sz (inim (moded G a b)) (mixf (2 * F) (fun _ => -6) (moded G a b 17))) = r4 (moded G a b) (rbeg (moded G a b) F sz) := r4_row
  rw [e] at h2
  have em : pm_upd (pm_upd G 0 25 a) 0 26 b = moded G a b := rfl
  simp (disch := first | assumption | omega | (simp (disch := omega) only [stv_ne, upd_ne])) only [ue_122, u_122_0, u_122_1, u_122_2, u_122_5, u_122_6, u_122_7, u_122_10, u_122_11, u_122_13, u_122_14, u_122_15, u_122_18, u_122_19, u_122_22, u_122_23, u_122_26, u_122_27, u_122_29, u_122_30, u_122_33, u_122_36, u_122_37, u_122_39, u_122_40, u_122_43, u_122_46, u_122_47, u_122_50, u_122_51, u_122_52, u_122_55, u_122_56, u_122_57, u_122_58, u_122_61, u_122_62, u_122_63, u_122_66, u_122_67, u_122_70, u_122_71, u_122_72, u_122_75, u_122_77, u_122_78, u_122_81, u_122_84, u_122_85, u_122_87, u_122_88, u_122_91, u_122_94, u_122_95, u_122_96, u_122_99, u_122_102, u_122_105, uc_121_0_0, uc_121_0_1, uc_121_0_2, uc_121_0_3, em, if_true, if_false, pm_go_n, pm_go_c, pm_go_r, pm_go_i, pm_oIL, pm_oLL, pm_oAL, pm_oIS, pm_oLS, pm_oAS, pm_oK, pm_oKL, pe_add, pe_sub, pe_mul, pe_div, pe_rem, pe_shr, pe_and, pm_oInc, pe_rgb, pe_if, pe_ic, pe_b1, pe_nn, pe_eq, pe_ne, pe_lt, pe_ge, pe_gt, pe_le, pe_go, pe_ri0, pe_ri1, pe_ri2, pe_i2c, pm_oRv, pm_oGf, pm_oLen, pm_oDup, pm_oDu2, pm_oPop, pm_oL2i, pm_oLand, pm_oLus, pm_oLsh, pm_oLcm, lk_0, lk_1, lk_2, lk_3, lk_4, lk_5, lk_6, lk_7, lk_8, st_0, st_1n, st_1i, st_1r, st_2, st_3, st_4, st_5, st_6, st_7, st_8, Option.toList_some, Option.toList_none, List.cons_append, List.nil_append, shM_fd0_0, shM_fd0_1, shM_fd0_2, shM_fd0_3, shM_fd0_4, shM_pf0_4, shM_fd0_5, shM_pf0_5, shM_fd0_6, shM_pf0_6, shM_fd0_7, shM_pf0_7, shM_fd0_8, shM_fd0_9, shM_fd0_10, shM_fd0_11, shM_fd0_12, shM_fd0_13, shM_fd0_14, shM_fd0_15, shM_fd0_16, shM_fd0_17, shM_fd0_18, shM_fd0_19, shM_fd0_20, shM_fd0_21, shM_fd0_22, shM_fd0_23, shM_fd0_24, shM_fd0_25, shM_pf0_25, shM_fd0_26, shM_pf0_26, shM_fd0_27, shM_fd0_28, shM_fd0_29, shM_pf0_29, shM_fd0_30, shM_pf0_30, shM_fd0_31, shM_fd0_32, shM_fd0_33, shM_pf0_33, shM_al1, shM_ld1, shM_st1, shM_al2, shM_ld2, shM_st2, shM_al3, shM_ld3, shM_st3, shM_al4, shM_ld4, shM_st4, shM_al5, shM_ld5, shM_st5, shM_al6, shM_ld6, shM_st6, shM_al7, shM_ld7, shM_st7, shM_al8, shM_ld8, shM_st8, shM_al9, shM_ld9, shM_st9, shM_al10, shM_ld10, shM_st10, shM_al11, shM_ld11, shM_st11, shM_al12, shM_ld12, shM_st12, shM_al13, shM_ld13, shM_st13, shM_al14, shM_ld14, shM_st14, shM_al15, shM_ld15, shM_st15, shM_al16, shM_ld16, shM_st16, shM_al17, shM_ld17, shM_st17, shM_al18, shM_ld18, shM_st18, shM_al19, shM_ld19, shM_st19, shM_al20, shM_ld20, shM_st20, shM_al21, shM_ld21, shM_st21, shM_al22, shM_ld22, shM_st22, shM_al23, shM_ld23, shM_st23, shM_al24, shM_ld24, shM_st24, shM_al25, shM_ld25, shM_st25]
  rw [h1, h2, h3]
theorem m_lay_l {G : PW} {x y : Int} : ∀ f i : Nat, i + f = 31 → pm_dn pm_sM 123 6 [some (.inr (.inr 0)), some (.inl x), some (.inl y), some (.inl (i : Int))] [] (pm_row G 21 (mixf i (fun m => G 1 (19 + m)) (G 21))) = pm_dn pm_sM 123 6 [some (.inr (.inr 0)), some (.inl x), some (.inl y), some (.inl 31)] [] (pm_row G 21 (mixf 31 (fun m => G 1 (19 + m)) (G 21))) := by
  have t1 : ∀ S, pm_row G 21 S 1 = G 1 := fun _ => row_ne (by decide)
  intro f
  induction f with
  | zero =>
    intro i hi
    have : i = 31 := by omega
    subst this
    rfl
  | succ f ih =>
    intro i hi
    have hc : ¬ (31 : Int) ≤ (i : Int) := by omega
    have e1 : (i : Int) + 1 = ((i + 1 : Nat) : Int) := by omega
    have e : ((i : Int)).toNat = i := by omega
    have e2 : (19 + (i : Int)).toNat = 19 + i := by omega
    have em : fup (mixf i (fun m => G 1 (19 + m)) (G 21)) i (G 1 (19 + i)) = mixf (i + 1) (fun m => G 1 (19 + m)) (G 21) := mix_u (f := fun m => G 1 (19 + m))
    rw [← ih (i + 1) (by omega), u_123_6, ← em]
    simp (disch := first | assumption | omega | (simp (disch := omega) only [stv_ne, upd_ne])) only [ue_123, u_123_0, u_123_1, u_123_4, u_123_5, u_123_7, u_123_9, u_123_12, u_123_13, u_123_16, u_123_17, u_123_18, u_123_21, u_123_23, u_123_24, u_123_25, u_123_26, u_123_27, u_123_30, u_123_33, u_123_34, u_123_35, u_123_36, u_123_39, uc_116_0_0, uc_116_0_1, uc_116_0_2, uc_116_0_3, uc_122_0_0, uc_122_0_1, uc_122_0_2, uc_122_0_3, t1, hc, e, e2, row_upd, if_true, if_false, pm_go_n, pm_go_c, pm_go_r, pm_go_i, pm_oIL, pm_oLL, pm_oAL, pm_oIS, pm_oLS, pm_oAS, pm_oK, pm_oKL, pe_add, pe_sub, pe_mul, pe_div, pe_rem, pe_shr, pe_and, pm_oInc, pe_rgb, pe_if, pe_ic, pe_b1, pe_nn, pe_eq, pe_ne, pe_lt, pe_ge, pe_gt, pe_le, pe_go, pe_ri0, pe_ri1, pe_ri2, pe_i2c, pm_oRv, pm_oGf, pm_oLen, pm_oDup, pm_oDu2, pm_oPop, pm_oL2i, pm_oLand, pm_oLus, pm_oLsh, pm_oLcm, lk_0, lk_1, lk_2, lk_3, lk_4, lk_5, lk_6, lk_7, lk_8, st_0, st_1n, st_1i, st_1r, st_2, st_3, st_4, st_5, st_6, st_7, st_8, Option.toList_some, Option.toList_none, List.cons_append, List.nil_append, shM_fd0_0, shM_fd0_1, shM_fd0_2, shM_fd0_3, shM_fd0_4, shM_pf0_4, shM_fd0_5, shM_pf0_5, shM_fd0_6, shM_pf0_6, shM_fd0_7, shM_pf0_7, shM_fd0_8, shM_fd0_9, shM_fd0_10, shM_fd0_11, shM_fd0_12, shM_fd0_13, shM_fd0_14, shM_fd0_15, shM_fd0_16, shM_fd0_17, shM_fd0_18, shM_fd0_19, shM_fd0_20, shM_fd0_21, shM_fd0_22, shM_fd0_23, shM_fd0_24, shM_fd0_25, shM_pf0_25, shM_fd0_26, shM_pf0_26, shM_fd0_27, shM_fd0_28, shM_fd0_29, shM_pf0_29, shM_fd0_30, shM_pf0_30, shM_fd0_31, shM_fd0_32, shM_fd0_33, shM_pf0_33, shM_al1, shM_ld1, shM_st1, shM_al2, shM_ld2, shM_st2, shM_al3, shM_ld3, shM_st3, shM_al4, shM_ld4, shM_st4, shM_al5, shM_ld5, shM_st5, shM_al6, shM_ld6, shM_st6, shM_al7, shM_ld7, shM_st7, shM_al8, shM_ld8, shM_st8, shM_al9, shM_ld9, shM_st9, shM_al10, shM_ld10, shM_st10, shM_al11, shM_ld11, shM_st11, shM_al12, shM_ld12, shM_st12, shM_al13, shM_ld13, shM_st13, shM_al14, shM_ld14, shM_st14, shM_al15, shM_ld15, shM_st15, shM_al16, shM_ld16, shM_st16, shM_al17, shM_ld17, shM_st17, shM_al18, shM_ld18, shM_st18, shM_al19, shM_ld19, shM_st19, shM_al20, shM_ld20, shM_st20, shM_al21, shM_ld21, shM_st21, shM_al22, shM_ld22, shM_st22, shM_al23, shM_ld23, shM_st23, shM_al24, shM_ld24, shM_st24, shM_al25, shM_ld25, shM_st25]
    rw [e1]
/-- the results noted to be tried -/
def noted (M : PW) : PW := pm_row M 21 (mixf 31 (fun m => M 1 (19 + m)) (M 21))
theorem m_lay {F sz : Nat} {G M : PW} {a b : Int} (hw : pm_ca pm_sM 116 [.inr (.inr 0)] G = some (none, M)) (h : all_ok (noted M) F sz) : pm_ca pm_sM 123 [.inr (.inr 0), .inl a, .inl b] G = some (none, r4 (moded (noted M) a b) (tried0 (noted M) F sz a b)) := by
  have l := m_lay_l (G := M) (x := a) (y := b) 31 0 (by omega)
  rw [mix_0, row_id] at l
  have l : pm_dn pm_sM 123 6 [some (.inr (.inr 0)), some (.inl a), some (.inl b), some (.inl 0)] [] M = pm_dn pm_sM 123 6 [some (.inr (.inr 0)), some (.inl a), some (.inl b), some (.inl 31)] [] (noted M) := l
  have q := m_layTried (a := a) (b := b) h
  have hc : (31 : Int) ≤ 31 := Int.le_refl _
  simp (disch := first | assumption | omega | (simp (disch := omega) only [stv_ne, upd_ne])) only [ue_123, u_123_0, u_123_1, u_123_4, u_123_5, u_123_7, u_123_9, u_123_12, u_123_13, u_123_16, u_123_17, u_123_18, u_123_21, u_123_23, u_123_24, u_123_25, u_123_26, u_123_27, u_123_30, u_123_33, u_123_34, u_123_35, u_123_36, u_123_39, uc_116_0_0, uc_116_0_1, uc_116_0_2, uc_116_0_3, uc_122_0_0, uc_122_0_1, uc_122_0_2, uc_122_0_3, hw, if_true, if_false, pm_go_n, pm_go_c, pm_go_r, pm_go_i, pm_oIL, pm_oLL, pm_oAL, pm_oIS, pm_oLS, pm_oAS, pm_oK, pm_oKL, pe_add, pe_sub, pe_mul, pe_div, pe_rem, pe_shr, pe_and, pm_oInc, pe_rgb, pe_if, pe_ic, pe_b1, pe_nn, pe_eq, pe_ne, pe_lt, pe_ge, pe_gt, pe_le, pe_go, pe_ri0, pe_ri1, pe_ri2, pe_i2c, pm_oRv, pm_oGf, pm_oLen, pm_oDup, pm_oDu2, pm_oPop, pm_oL2i, pm_oLand, pm_oLus, pm_oLsh, pm_oLcm, lk_0, lk_1, lk_2, lk_3, lk_4, lk_5, lk_6, lk_7, lk_8, st_0, st_1n, st_1i, st_1r, st_2, st_3, st_4, st_5, st_6, st_7, st_8, Option.toList_some, Option.toList_none, List.cons_append, List.nil_append, shM_fd0_0, shM_fd0_1, shM_fd0_2, shM_fd0_3, shM_fd0_4, shM_pf0_4, shM_fd0_5, shM_pf0_5, shM_fd0_6, shM_pf0_6, shM_fd0_7, shM_pf0_7, shM_fd0_8, shM_fd0_9, shM_fd0_10, shM_fd0_11, shM_fd0_12, shM_fd0_13, shM_fd0_14, shM_fd0_15, shM_fd0_16, shM_fd0_17, shM_fd0_18, shM_fd0_19, shM_fd0_20, shM_fd0_21, shM_fd0_22, shM_fd0_23, shM_fd0_24, shM_fd0_25, shM_pf0_25, shM_fd0_26, shM_pf0_26, shM_fd0_27, shM_fd0_28, shM_fd0_29, shM_pf0_29, shM_fd0_30, shM_pf0_30, shM_fd0_31, shM_fd0_32, shM_fd0_33, shM_pf0_33, shM_al1, shM_ld1, shM_st1, shM_al2, shM_ld2, shM_st2, shM_al3, shM_ld3, shM_st3, shM_al4, shM_ld4, shM_st4, shM_al5, shM_ld5, shM_st5, shM_al6, shM_ld6, shM_st6, shM_al7, shM_ld7, shM_st7, shM_al8, shM_ld8, shM_st8, shM_al9, shM_ld9, shM_st9, shM_al10, shM_ld10, shM_st10, shM_al11, shM_ld11, shM_st11, shM_al12, shM_ld12, shM_st12, shM_al13, shM_ld13, shM_st13, shM_al14, shM_ld14, shM_st14, shM_al15, shM_ld15, shM_st15, shM_al16, shM_ld16, shM_st16, shM_al17, shM_ld17, shM_st17, shM_al18, shM_ld18, shM_st18, shM_al19, shM_ld19, shM_st19, shM_al20, shM_ld20, shM_st20, shM_al21, shM_ld21, shM_st21, shM_al22, shM_ld22, shM_st22, shM_al23, shM_ld23, shM_st23, shM_al24, shM_ld24, shM_st24, shM_al25, shM_ld25, shM_st25]
  rw [l, u_123_6]
  simp (disch := first | assumption | omega | (simp (disch := omega) only [stv_ne, upd_ne])) only [ue_123, u_123_0, u_123_1, u_123_4, u_123_5, u_123_7, u_123_9, u_123_12, u_123_13, u_123_16, u_123_17, u_123_18, u_123_21, u_123_23, u_123_24, u_123_25, u_123_26, u_123_27, u_123_30, u_123_33, u_123_34, u_123_35, u_123_36, u_123_39, uc_116_0_0, uc_116_0_1, uc_116_0_2, uc_116_0_3, uc_122_0_0, uc_122_0_1, uc_122_0_2, uc_122_0_3, hc, q, if_true, if_false, pm_go_n, pm_go_c, pm_go_r, pm_go_i, pm_oIL, pm_oLL, pm_oAL, pm_oIS, pm_oLS, pm_oAS, pm_oK, pm_oKL, pe_add, pe_sub, pe_mul, pe_div, pe_rem, pe_shr, pe_and, pm_oInc, pe_rgb, pe_if, pe_ic, pe_b1, pe_nn, pe_eq, pe_ne, pe_lt, pe_ge, pe_gt, pe_le, pe_go, pe_ri0, pe_ri1, pe_ri2, pe_i2c, pm_oRv, pm_oGf, pm_oLen, pm_oDup, pm_oDu2, pm_oPop, pm_oL2i, pm_oLand, pm_oLus, pm_oLsh, pm_oLcm, lk_0, lk_1, lk_2, lk_3, lk_4, lk_5, lk_6, lk_7, lk_8, st_0, st_1n, st_1i, st_1r, st_2, st_3, st_4, st_5, st_6, st_7, st_8, Option.toList_some, Option.toList_none, List.cons_append, List.nil_append, shM_fd0_0, shM_fd0_1, shM_fd0_2, shM_fd0_3, shM_fd0_4, shM_pf0_4, shM_fd0_5, shM_pf0_5, shM_fd0_6, shM_pf0_6, shM_fd0_7, shM_pf0_7, shM_fd0_8, shM_fd0_9, shM_fd0_10, shM_fd0_11, shM_fd0_12, shM_fd0_13, shM_fd0_14, shM_fd0_15, shM_fd0_16, shM_fd0_17, shM_fd0_18, shM_fd0_19, shM_fd0_20, shM_fd0_21, shM_fd0_22, shM_fd0_23, shM_fd0_24, shM_fd0_25, shM_pf0_25, shM_fd0_26, shM_pf0_26, shM_fd0_27, shM_fd0_28, shM_fd0_29, shM_pf0_29, shM_fd0_30, shM_pf0_30, shM_fd0_31, shM_fd0_32, shM_fd0_33, shM_pf0_33, shM_al1, shM_ld1, shM_st1, shM_al2, shM_ld2, shM_st2, shM_al3, shM_ld3, shM_st3, shM_al4, shM_ld4, shM_st4, shM_al5, shM_ld5, shM_st5, shM_al6, shM_ld6, shM_st6, shM_al7, shM_ld7, shM_st7, shM_al8, shM_ld8, shM_st8, shM_al9, shM_ld9, shM_st9, shM_al10, shM_ld10, shM_st10, shM_al11, shM_ld11, shM_st11, shM_al12, shM_ld12, shM_st12, shM_al13, shM_ld13, shM_st13, shM_al14, shM_ld14, shM_st14, shM_al15, shM_ld15, shM_st15, shM_al16, shM_ld16, shM_st16, shM_al17, shM_ld17, shM_st17, shM_al18, shM_ld18, shM_st18, shM_al19, shM_ld19, shM_st19, shM_al20, shM_ld20, shM_st20, shM_al21, shM_ld21, shM_st21, shM_al22, shM_ld22, shM_st22, shM_al23, shM_ld23, shM_st23, shM_al24, shM_ld24, shM_st24, shM_al25, shM_ld25, shM_st25]
/-- all laid as things stand -/
def looked (M : PW) (F sz : Nat) : PW := r4 (moded (noted M) 0 (-6)) (tried0 (noted M) F sz 0 (-6))
theorem m_look {F sz : Nat} {G M : PW} (hw : pm_ca pm_sM 116 [.inr (.inr 0)] G = some (none, M)) (h : all_ok (noted M) F sz) : pm_ca pm_sM 124 [.inr (.inr 0)] G = some (none, looked M F sz) := by
  have q := m_lay (a := 0) (b := -6) hw h
  simp (disch := first | assumption | omega | (simp (disch := omega) only [stv_ne, upd_ne])) only [ue_124, u_124_0, u_124_1, u_124_2, u_124_4, u_124_7, uc_123_0_0, uc_123_0_1, uc_123_0_2, uc_123_0_3, q, if_true, if_false, pm_go_n, pm_go_c, pm_go_r, pm_go_i, pm_oIL, pm_oLL, pm_oAL, pm_oIS, pm_oLS, pm_oAS, pm_oK, pm_oKL, pe_add, pe_sub, pe_mul, pe_div, pe_rem, pe_shr, pe_and, pm_oInc, pe_rgb, pe_if, pe_ic, pe_b1, pe_nn, pe_eq, pe_ne, pe_lt, pe_ge, pe_gt, pe_le, pe_go, pe_ri0, pe_ri1, pe_ri2, pe_i2c, pm_oRv, pm_oGf, pm_oLen, pm_oDup, pm_oDu2, pm_oPop, pm_oL2i, pm_oLand, pm_oLus, pm_oLsh, pm_oLcm, lk_0, lk_1, lk_2, lk_3, lk_4, lk_5, lk_6, lk_7, lk_8, st_0, st_1n, st_1i, st_1r, st_2, st_3, st_4, st_5, st_6, st_7, st_8, Option.toList_some, Option.toList_none, List.cons_append, List.nil_append, shM_fd0_0, shM_fd0_1, shM_fd0_2, shM_fd0_3, shM_fd0_4, shM_pf0_4, shM_fd0_5, shM_pf0_5, shM_fd0_6, shM_pf0_6, shM_fd0_7, shM_pf0_7, shM_fd0_8, shM_fd0_9, shM_fd0_10, shM_fd0_11, shM_fd0_12, shM_fd0_13, shM_fd0_14, shM_fd0_15, shM_fd0_16, shM_fd0_17, shM_fd0_18, shM_fd0_19, shM_fd0_20, shM_fd0_21, shM_fd0_22, shM_fd0_23, shM_fd0_24, shM_fd0_25, shM_pf0_25, shM_fd0_26, shM_pf0_26, shM_fd0_27, shM_fd0_28, shM_fd0_29, shM_pf0_29, shM_fd0_30, shM_pf0_30, shM_fd0_31, shM_fd0_32, shM_fd0_33, shM_pf0_33, shM_al1, shM_ld1, shM_st1, shM_al2, shM_ld2, shM_st2, shM_al3, shM_ld3, shM_st3, shM_al4, shM_ld4, shM_st4, shM_al5, shM_ld5, shM_st5, shM_al6, shM_ld6, shM_st6, shM_al7, shM_ld7, shM_st7, shM_al8, shM_ld8, shM_st8, shM_al9, shM_ld9, shM_st9, shM_al10, shM_ld10, shM_st10, shM_al11, shM_ld11, shM_st11, shM_al12, shM_ld12, shM_st12, shM_al13, shM_ld13, shM_st13, shM_al14, shM_ld14, shM_st14, shM_al15, shM_ld15, shM_st15, shM_al16, shM_ld16, shM_st16, shM_al17, shM_ld17, shM_st17, shM_al18, shM_ld18, shM_st18, shM_al19, shM_ld19, shM_st19, shM_al20, shM_ld20, shM_st20, shM_al21, shM_ld21, shM_st21, shM_al22, shM_ld22, shM_st22, shM_al23, shM_ld23, shM_st23, shM_al24, shM_ld24, shM_st24, shM_al25, shM_ld25, shM_st25]
  rfl
