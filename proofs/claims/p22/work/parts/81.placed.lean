/-! arePlaced(): what it checks, in numbers -/
def tcn (n x d : Nat) : Int := cnt (fun m => lowm n x m && decide (tbe n x m = (d : Int))) (tF (tz n) - 2)
def wk (n x : Nat) : Nat → Nat → Bool
  | 0, _ => false
  | f + 1, d => bif Nat.ble d n then (decide (1 ≤ tcn n x d) && wk n x f (d + (tcn n x d).toNat)) else Nat.beq d (n + 1)
def ck_q (n x : Nat) : Bool := (List.range (tF (tz n) - 2)).all (fun m => !(lowm n x m) || (decide (3 ≤ tbe n x m ∧ tbe n x m ≤ tla n x m ∧ tla n x m ≤ (n : Int)) && (List.range (tF (tz n) - 2)).all (fun k => !(lowm n x k) || decide ((tbe n x m = tbe n x k → tla n x m = tla n x k) ∧ ¬ (tbe n x m < tbe n x k ∧ tbe n x k ≤ tla n x m))))) && wk n x 20 3
theorem ck_q_all : (List.range 15).all (fun i => (List.range 2).all (fun x => ck_q (i + 2) x)) = true := by decide +kernel
theorem tb_grp {n x : Nat} (hn : 2 ≤ n ∧ n ≤ 16) (hx : x = 0 ∨ x = 1) {m : Nat} (hm : m < tF (tz n) - 2) (hl : lowm n x m = true) : (3 ≤ tbe n x m ∧ tbe n x m ≤ tla n x m ∧ tla n x m ≤ (n : Int)) ∧ ∀ k, k < tF (tz n) - 2 → lowm n x k = true → (tbe n x m = tbe n x k → tla n x m = tla n x k) ∧ ¬ (tbe n x m < tbe n x k ∧ tbe n x k ≤ tla n x m) := by
  have h := nx_all ck_q_all hn hx
  unfold ck_q at h
  rw [Bool.and_eq_true] at h
  have a := all_lt h.1 m hm
  rw [hl, Bool.not_true, Bool.false_or, Bool.and_eq_true] at a
  refine ⟨of_decide_eq_true a.1, fun k hk hl2 => ?_⟩
  have b := all_lt a.2 k hk
  rw [hl2, Bool.not_true, Bool.false_or] at b
  exact of_decide_eq_true b
theorem tb_wk {n x : Nat} (hn : 2 ≤ n ∧ n ≤ 16) (hx : x = 0 ∨ x = 1) : wk n x 20 3 = true := by
  have h := nx_all ck_q_all hn hx
  unfold ck_q at h
  rw [Bool.and_eq_true] at h
  exact h.2
section GRP
variable {G : PW} {n x L : Nat}
abbrev bes (G : PW) (n p : Nat) : Int := cplace G (tF (tz n)) 10 (p : Int)
abbrev las (G : PW) (n p : Nat) : Int := cplace G (tF (tz n)) 11 (p : Int)
/-- the groups of a tournament that is over -/
theorem ov_grp (h : CI G n x L) (q : cchamp G (tF (tz n)) ≠ -6) : (∀ p, p < n → 1 ≤ bes G n p ∧ bes G n p ≤ las G n p ∧ las G n p ≤ (n : Int)) ∧ (∀ p r, p < n → r < n → (bes G n r = bes G n p → las G n r = las G n p) ∧ ¬ (bes G n p < bes G n r ∧ bes G n r ≤ las G n p)) ∧ cnt (fun p => decide (bes G n p = 1)) n = 1 ∧ cnt (fun p => decide (bes G n p = 2)) n = 1 ∧ ∀ d : Nat, 3 ≤ d → cnt (fun p => decide (bes G n p = (d : Int))) n = tcn n x d := by
  obtain ⟨ps, hf⟩ := CI_fin h
  obtain ⟨f1, f2, f3, f4⟩ := cfg_F hf.1
  obtain ⟨a, b, ha, hb, hab, hch, hT, hb1, hb2⟩ := over_fin h hf q
  have hn := h.1
  have al := f_all hf q
  -- the three kinds
  have K : ∀ p, p < n → ((ps p - 64) / 2 < tF (tz n) - 2 ∧ lowm n x ((ps p - 64) / 2) = true ∧ bes G n p = tbe n x ((ps p - 64) / 2) ∧ las G n p = tla n x ((ps p - 64) / 2) ∧ p ≠ a ∧ p ≠ b) ∨ (p = a ∧ bes G n p = 1 ∧ las G n p = 1) ∨ (p = b ∧ bes G n p = 2 ∧ las G n p = 2) := fun p hp => by
    rcases CI_pl h hf hp with c | ⟨c0, c1, c2, c3, c4, c5, c6, c7⟩ | ⟨c0, c1, c2, c3, c4⟩
    · have := al p hp
      omega
    · left
      have t := CI_tab h c2 c3
      refine ⟨c2, out_low h hf hp c0 c2, by show cplace _ _ _ _ = _; rw [c4, t.1], by show cplace _ _ _ _ = _; rw [c5, t.2], fun y => c7 (by rw [hch, y]), fun y => ?_⟩
      subst y
      omega
    · right
      rcases c4 with ⟨d1, d2, d3, -⟩ | ⟨d1, d2, d3, -⟩
      · left
        exact ⟨by omega, d2, d3⟩
      · right
        refine ⟨?_, d2, d3⟩
        rcases hT p hp c0 c2 with y | y
        · exact absurd (by rw [hch, y]) d1
        · exact y
  have K3 : ∀ p, p < n → (ps p - 64) / 2 < tF (tz n) - 2 → lowm n x ((ps p - 64) / 2) = true → 3 ≤ tbe n x ((ps p - 64) / 2) := fun p hp c1 c2 => (tb_grp hn h.2.1 c1 c2).1.1
  refine ⟨fun p hp => ?_, fun p r hp hr => ?_, ?_, ?_, fun d hd => ?_⟩
  · rcases K p hp with ⟨c1, c2, c3, c4, -, -⟩ | ⟨-, c3, c4⟩ | ⟨-, c3, c4⟩
    · have := (tb_grp hn h.2.1 c1 c2).1
      rw [c3, c4]
      omega
    · rw [c3, c4]; omega
    · rw [c3, c4]; omega
  · rcases K p hp with ⟨c1, c2, c3, c4, -, -⟩ | ⟨-, c3, c4⟩ | ⟨-, c3, c4⟩
    · have c5 := K3 p hp c1 c2
      rcases K r hr with ⟨e1, e2, e3, e4, -, -⟩ | ⟨-, e3, e4⟩ | ⟨-, e3, e4⟩
      · have t := (tb_grp hn h.2.1 c1 c2).2 _ e1 e2
        rw [c3, c4, e3, e4]
        exact ⟨fun y => (t.1 y.symm).symm, t.2⟩
      · rw [c3, c4, e3, e4]
        exact ⟨fun y => by omega, by omega⟩
      · rw [c3, c4, e3, e4]
        exact ⟨fun y => by omega, by omega⟩
    · rcases K r hr with ⟨e1, e2, e3, e4, -, -⟩ | ⟨-, e3, e4⟩ | ⟨-, e3, e4⟩
      · have e5 := K3 r hr e1 e2
        rw [c3, c4, e3, e4]
        exact ⟨fun y => by omega, by omega⟩
      · rw [c3, c4, e3, e4]
        exact ⟨fun y => rfl, by omega⟩
      · rw [c3, c4, e3, e4]
        exact ⟨fun y => by omega, by omega⟩
    · rcases K r hr with ⟨e1, e2, e3, e4, -, -⟩ | ⟨-, e3, e4⟩ | ⟨-, e3, e4⟩
      · have e5 := K3 r hr e1 e2
        rw [c3, c4, e3, e4]
        exact ⟨fun y => by omega, by omega⟩
      · rw [c3, c4, e3, e4]
        exact ⟨fun y => by omega, by omega⟩
      · rw [c3, c4, e3, e4]
        exact ⟨fun y => rfl, by omega⟩
  · refine cnt_uniq (k := a) n ha (decide_eq_true ?_) (fun p hp y => ?_)
    · rcases K a ha with ⟨-, -, -, -, y, -⟩ | ⟨-, y, -⟩ | ⟨y, -, -⟩
      · exact absurd rfl y
      · exact y
      · exact absurd y hab
    · have y := of_decide_eq_true y
      rcases K p hp with ⟨c1, c2, c3, -, -, -⟩ | ⟨c, -, -⟩ | ⟨-, c3, -⟩
      · have := K3 p hp c1 c2
        omega
      · exact c
      · omega
  · refine cnt_uniq (k := b) n hb (decide_eq_true ?_) (fun p hp y => ?_)
    · rcases K b hb with ⟨-, -, -, -, -, y⟩ | ⟨y, -, -⟩ | ⟨-, y, -⟩
      · exact absurd rfl y
      · exact absurd y.symm hab
      · exact y
    · have y := of_decide_eq_true y
      rcases K p hp with ⟨c1, c2, c3, -, -, -⟩ | ⟨-, c3, -⟩ | ⟨c, -, -⟩
      · have := K3 p hp c1 c2
        omega
      · omega
      · exact c
  · refine cnt_bij (f := fun p => (ps p - 64) / 2) (fun p hp y => ?_) (fun p r hp hr y1 y2 e => ?_) (fun m hm y => ?_)
    · have y := of_decide_eq_true y
      rcases K p hp with ⟨c1, c2, c3, -, -, -⟩ | ⟨-, c3, -⟩ | ⟨-, c3, -⟩
      · exact ⟨c1, by rw [c2, Bool.true_and]; exact decide_eq_true (by rw [← c3]; exact y)⟩
      · omega
      · omega
    · have y1 := of_decide_eq_true y1
      rcases K p hp with ⟨c1, c2, c3, -, -, -⟩ | ⟨-, c3, -⟩ | ⟨-, c3, -⟩
      · exact out_inj hf hp hr (al p hp) (al r hr) c1 e
      · omega
      · omega
    · rw [Bool.and_eq_true, decide_eq_true_eq] at y
      obtain ⟨p, hp, c1, c2⟩ := out_sur h hf q hm y.1
      refine ⟨p, hp, decide_eq_true ?_, c2⟩
      rcases K p hp with ⟨-, -, c3, -, -, -⟩ | ⟨c, -, -⟩ | ⟨c, -, -⟩
      · rw [c3, c2]; exact y.2
      · subst c
        exact absurd hch (by
          rcases CI_pl h hf hp with d | ⟨d0, d1, d2, d3, d4, d5, d6, d7⟩ | ⟨d0, d1, d2, d3, d4⟩
          · omega
          · exact d7
          · omega)
      · subst c
        omega
end GRP
/-! arePlaced(): its run -/
def pmem (G : PW) (a : Nat → Int) : PW := pm_row G 47 a
section ARP
variable {G M : PW} {n p q best last bq lq : Int}
set_option maxHeartbeats 4000000 in
theorem ap_in (hq : q < n) (q0 : 0 ≤ q ∧ q < 100) (c6 : pm_ca pm_sP 58 [.inr (.inr 0), .inl q, .inl 6] M = some (some (.inl bq), M)) (c7 : pm_ca pm_sP 58 [.inr (.inr 0), .inl q, .inl 7] M = some (some (.inl lq), M)) (h1 : bq = best → lq = last) (h2 : ¬ (best < bq ∧ bq ≤ last)) : pm_dn pm_sP 87 62 [some (.inr (.inr 0)), some (.inl n), some (.inr (.inr 47)), some (.inl p), some (.inl best), some (.inl last), some (.inl q)] [] M = pm_dn pm_sP 87 62 [some (.inr (.inr 0)), some (.inl n), some (.inr (.inr 47)), some (.inl p), some (.inl best), some (.inl last), some (.inl (q + 1))] [] M := by
  have hq' : ¬ n ≤ q := by omega
  rw [u_87_62]
  by_cases e : bq = best
  · have l := h1 e
    have e2 : best ≤ best := Int.le_refl _
    simp (maxSteps := 4000000) (disch := first | assumption | omega | (simp (disch := omega) only [stv_ne, upd_ne])) only [ue_87, u_87_0, u_87_4, u_87_5, u_87_6, u_87_8, u_87_9, u_87_12, u_87_13, u_87_14, u_87_16, u_87_19, u_87_21, u_87_22, u_87_23, u_87_25, u_87_28, u_87_30, u_87_32, u_87_33, u_87_36, u_87_38, u_87_40, u_87_43, u_87_45, u_87_46, u_87_49, u_87_50, u_87_51, u_87_52, u_87_54, u_87_55, u_87_56, u_87_57, u_87_58, u_87_59, u_87_60, u_87_64, u_87_65, u_87_68, u_87_69, u_87_71, u_87_73, u_87_76, u_87_78, u_87_81, u_87_82, u_87_84, u_87_86, u_87_89, u_87_91, u_87_94, u_87_95, u_87_97, u_87_99, u_87_102, u_87_104, u_87_107, u_87_108, u_87_110, u_87_112, u_87_115, u_87_117, u_87_120, u_87_121, u_87_122, u_87_125, u_87_131, u_87_134, u_87_135, u_87_137, u_87_138, u_87_141, u_87_142, u_87_143, u_87_144, u_87_147, u_87_148, u_87_149, u_87_150, u_87_151, u_87_152, u_87_153, u_87_154, u_87_155, u_87_158, u_87_159, u_87_160, u_87_161, u_87_162, u_87_165, u_87_166, u_87_167, u_87_168, u_87_169, u_87_172, u_87_173, u_87_174, u_87_177, u_87_178, u_87_179, u_87_180, u_87_181, u_87_184, u_87_185, u_87_188, u_87_189, uc_58_0_0_P, uc_58_0_1_P, uc_58_0_2_P, uc_58_0_3_P, hq', c6, c7, e, l, e2, pe_10, not_true, not_false_eq_true, if_true, if_false, pm_go_n, pm_go_c, pm_go_r, pm_go_i, pm_oIL, pm_oLL, pm_oAL, pm_oIS, pm_oLS, pm_oAS, pm_oK, pm_oKL, pe_add, pe_sub, pe_mul, pe_div, pe_rem, pe_shr, pe_and, pm_or_ok, pm_oInc, pe_rgb, pe_if, pe_ic, pe_b1, pe_nn, pe_eq, pe_ne, pe_lt, pe_ge, pe_gt, pe_le, pe_go, pe_ri0, pe_ri1, pe_ri2, pe_i2c, pm_oRv, pm_oGf, pm_oLen, pm_oDup, pm_oDu2, pm_oPop, pm_oL2i, pm_oLand, pm_oLus, pm_oLsh, pm_oLcm, lk_0, lk_1, lk_2, lk_3, lk_4, lk_5, lk_6, lk_7, lk_8, lk_9, lk_10, lk_11, lk_12, lk_13, st_0, st_1n, st_1i, st_1r, st_2, st_3, st_4, st_5, st_6, st_7, st_8, st_9, st_10, st_11, st_12, st_13, Option.toList_some, Option.toList_none, List.cons_append, List.nil_append, shP_fd0_0, shP_fd0_1, shP_fd0_2, shP_fd0_3, shP_fd0_4, shP_fd0_5, shP_fd0_6, shP_fd0_7, shP_al47, shP_ld47, shP_st47, ↓reduceIte, ite_self, Int.reduceLT, Int.reduceLE, Int.reduceEq, Int.reduceNeg]
  · by_cases e2 : bq ≤ best
    · simp (maxSteps := 4000000) (disch := first | assumption | omega | (simp (disch := omega) only [stv_ne, upd_ne])) only [ue_87, u_87_0, u_87_4, u_87_5, u_87_6, u_87_8, u_87_9, u_87_12, u_87_13, u_87_14, u_87_16, u_87_19, u_87_21, u_87_22, u_87_23, u_87_25, u_87_28, u_87_30, u_87_32, u_87_33, u_87_36, u_87_38, u_87_40, u_87_43, u_87_45, u_87_46, u_87_49, u_87_50, u_87_51, u_87_52, u_87_54, u_87_55, u_87_56, u_87_57, u_87_58, u_87_59, u_87_60, u_87_64, u_87_65, u_87_68, u_87_69, u_87_71, u_87_73, u_87_76, u_87_78, u_87_81, u_87_82, u_87_84, u_87_86, u_87_89, u_87_91, u_87_94, u_87_95, u_87_97, u_87_99, u_87_102, u_87_104, u_87_107, u_87_108, u_87_110, u_87_112, u_87_115, u_87_117, u_87_120, u_87_121, u_87_122, u_87_125, u_87_131, u_87_134, u_87_135, u_87_137, u_87_138, u_87_141, u_87_142, u_87_143, u_87_144, u_87_147, u_87_148, u_87_149, u_87_150, u_87_151, u_87_152, u_87_153, u_87_154, u_87_155, u_87_158, u_87_159, u_87_160, u_87_161, u_87_162, u_87_165, u_87_166, u_87_167, u_87_168, u_87_169, u_87_172, u_87_173, u_87_174, u_87_177, u_87_178, u_87_179, u_87_180, u_87_181, u_87_184, u_87_185, u_87_188, u_87_189, uc_58_0_0_P, uc_58_0_1_P, uc_58_0_2_P, uc_58_0_3_P, hq', c6, c7, e, e2, pe_10, not_true, not_false_eq_true, if_true, if_false, pm_go_n, pm_go_c, pm_go_r, pm_go_i, pm_oIL, pm_oLL, pm_oAL, pm_oIS, pm_oLS, pm_oAS, pm_oK, pm_oKL, pe_add, pe_sub, pe_mul, pe_div, pe_rem, pe_shr, pe_and, pm_or_ok, pm_oInc, pe_rgb, pe_if, pe_ic, pe_b1, pe_nn, pe_eq, pe_ne, pe_lt, pe_ge, pe_gt, pe_le, pe_go, pe_ri0, pe_ri1, pe_ri2, pe_i2c, pm_oRv, pm_oGf, pm_oLen, pm_oDup, pm_oDu2, pm_oPop, pm_oL2i, pm_oLand, pm_oLus, pm_oLsh, pm_oLcm, lk_0, lk_1, lk_2, lk_3, lk_4, lk_5, lk_6, lk_7, lk_8, lk_9, lk_10, lk_11, lk_12, lk_13, st_0, st_1n, st_1i, st_1r, st_2, st_3, st_4, st_5, st_6, st_7, st_8, st_9, st_10, st_11, st_12, st_13, Option.toList_some, Option.toList_none, List.cons_append, List.nil_append, shP_fd0_0, shP_fd0_1, shP_fd0_2, shP_fd0_3, shP_fd0_4, shP_fd0_5, shP_fd0_6, shP_fd0_7, shP_al47, shP_ld47, shP_st47, ↓reduceIte, ite_self, Int.reduceLT, Int.reduceLE, Int.reduceEq, Int.reduceNeg]
    · have e3 : last < bq := by omega
      simp (maxSteps := 4000000) (disch := first | assumption | omega | (simp (disch := omega) only [stv_ne, upd_ne])) only [ue_87, u_87_0, u_87_4, u_87_5, u_87_6, u_87_8, u_87_9, u_87_12, u_87_13, u_87_14, u_87_16, u_87_19, u_87_21, u_87_22, u_87_23, u_87_25, u_87_28, u_87_30, u_87_32, u_87_33, u_87_36, u_87_38, u_87_40, u_87_43, u_87_45, u_87_46, u_87_49, u_87_50, u_87_51, u_87_52, u_87_54, u_87_55, u_87_56, u_87_57, u_87_58, u_87_59, u_87_60, u_87_64, u_87_65, u_87_68, u_87_69, u_87_71, u_87_73, u_87_76, u_87_78, u_87_81, u_87_82, u_87_84, u_87_86, u_87_89, u_87_91, u_87_94, u_87_95, u_87_97, u_87_99, u_87_102, u_87_104, u_87_107, u_87_108, u_87_110, u_87_112, u_87_115, u_87_117, u_87_120, u_87_121, u_87_122, u_87_125, u_87_131, u_87_134, u_87_135, u_87_137, u_87_138, u_87_141, u_87_142, u_87_143, u_87_144, u_87_147, u_87_148, u_87_149, u_87_150, u_87_151, u_87_152, u_87_153, u_87_154, u_87_155, u_87_158, u_87_159, u_87_160, u_87_161, u_87_162, u_87_165, u_87_166, u_87_167, u_87_168, u_87_169, u_87_172, u_87_173, u_87_174, u_87_177, u_87_178, u_87_179, u_87_180, u_87_181, u_87_184, u_87_185, u_87_188, u_87_189, uc_58_0_0_P, uc_58_0_1_P, uc_58_0_2_P, uc_58_0_3_P, hq', c6, c7, e, e2, e3, pe_10, not_true, not_false_eq_true, if_true, if_false, pm_go_n, pm_go_c, pm_go_r, pm_go_i, pm_oIL, pm_oLL, pm_oAL, pm_oIS, pm_oLS, pm_oAS, pm_oK, pm_oKL, pe_add, pe_sub, pe_mul, pe_div, pe_rem, pe_shr, pe_and, pm_or_ok, pm_oInc, pe_rgb, pe_if, pe_ic, pe_b1, pe_nn, pe_eq, pe_ne, pe_lt, pe_ge, pe_gt, pe_le, pe_go, pe_ri0, pe_ri1, pe_ri2, pe_i2c, pm_oRv, pm_oGf, pm_oLen, pm_oDup, pm_oDu2, pm_oPop, pm_oL2i, pm_oLand, pm_oLus, pm_oLsh, pm_oLcm, lk_0, lk_1, lk_2, lk_3, lk_4, lk_5, lk_6, lk_7, lk_8, lk_9, lk_10, lk_11, lk_12, lk_13, st_0, st_1n, st_1i, st_1r, st_2, st_3, st_4, st_5, st_6, st_7, st_8, st_9, st_10, st_11, st_12, st_13, Option.toList_some, Option.toList_none, List.cons_append, List.nil_append, shP_fd0_0, shP_fd0_1, shP_fd0_2, shP_fd0_3, shP_fd0_4, shP_fd0_5, shP_fd0_6, shP_fd0_7, shP_al47, shP_ld47, shP_st47, ↓reduceIte, ite_self, Int.reduceLT, Int.reduceLE, Int.reduceEq, Int.reduceNeg]
set_option maxHeartbeats 4000000 in
theorem ap_out {a : Nat → Int} (hp : p < n) (p0 : 0 ≤ p ∧ p < 100) (c6 : pm_ca pm_sP 58 [.inr (.inr 0), .inl p, .inl 6] (pmem G a) = some (some (.inl best), pmem G a)) (c7 : pm_ca pm_sP 58 [.inr (.inr 0), .inl p, .inl 7] (pmem G a) = some (some (.inl last), pmem G a)) (h1 : 1 ≤ best ∧ best ≤ last ∧ last ≤ n) (hn : n ≤ 16) (ha : 0 ≤ a best.toNat ∧ a best.toNat ≤ 100) : pm_dn pm_sP 87 7 [some (.inr (.inr 0)), some (.inl n), some (.inr (.inr 47)), some (.inl p), none, none, none] [] (pmem G a) = pm_dn pm_sP 87 62 [some (.inr (.inr 0)), some (.inl n), some (.inr (.inr 47)), some (.inl p), some (.inl best), some (.inl last), some (.inl 0)] [] (pmem G (fup a best.toNat (a best.toNat + 1))) := by
  obtain ⟨g1, g2, g3⟩ := h1
  have hp' : ¬ n ≤ p := by omega
  have e1 : ¬ best < 1 := by omega
  have e2 : ¬ last < best := by omega
  have b0 : 0 ≤ best := by omega
  have b1 : best < 20 := by omega
  have e47 : pmem G a 47 = a := row_eq
  have u47 : ∀ v : Int, pm_upd (pmem G a) 47 best.toNat v = pmem G (fup a best.toNat v) := fun v => by
    funext r
    by_cases c : r = 47
    · rw [c, upd_eq, e47]
      exact row_eq.symm
    · rw [upd_ne c]
      unfold pmem
      rw [row_ne c, row_ne c]
  rw [u_87_7]
  simp (maxSteps := 4000000) (disch := first | assumption | omega | (simp (disch := omega) only [stv_ne, upd_ne])) only [ue_87, u_87_0, u_87_4, u_87_5, u_87_6, u_87_8, u_87_9, u_87_12, u_87_13, u_87_14, u_87_16, u_87_19, u_87_21, u_87_22, u_87_23, u_87_25, u_87_28, u_87_30, u_87_32, u_87_33, u_87_36, u_87_38, u_87_40, u_87_43, u_87_45, u_87_46, u_87_49, u_87_50, u_87_51, u_87_52, u_87_54, u_87_55, u_87_56, u_87_57, u_87_58, u_87_59, u_87_60, u_87_64, u_87_65, u_87_68, u_87_69, u_87_71, u_87_73, u_87_76, u_87_78, u_87_81, u_87_82, u_87_84, u_87_86, u_87_89, u_87_91, u_87_94, u_87_95, u_87_97, u_87_99, u_87_102, u_87_104, u_87_107, u_87_108, u_87_110, u_87_112, u_87_115, u_87_117, u_87_120, u_87_121, u_87_122, u_87_125, u_87_131, u_87_134, u_87_135, u_87_137, u_87_138, u_87_141, u_87_142, u_87_143, u_87_144, u_87_147, u_87_148, u_87_149, u_87_150, u_87_151, u_87_152, u_87_153, u_87_154, u_87_155, u_87_158, u_87_159, u_87_160, u_87_161, u_87_162, u_87_165, u_87_166, u_87_167, u_87_168, u_87_169, u_87_172, u_87_173, u_87_174, u_87_177, u_87_178, u_87_179, u_87_180, u_87_181, u_87_184, u_87_185, u_87_188, u_87_189, uc_58_0_0_P, uc_58_0_1_P, uc_58_0_2_P, uc_58_0_3_P, hp', c6, c7, e1, e2, g3, e47, u47, pe_10, not_true, not_false_eq_true, if_true, if_false, pm_go_n, pm_go_c, pm_go_r, pm_go_i, pm_oIL, pm_oLL, pm_oAL, pm_oIS, pm_oLS, pm_oAS, pm_oK, pm_oKL, pe_add, pe_sub, pe_mul, pe_div, pe_rem, pe_shr, pe_and, pm_or_ok, pm_oInc, pe_rgb, pe_if, pe_ic, pe_b1, pe_nn, pe_eq, pe_ne, pe_lt, pe_ge, pe_gt, pe_le, pe_go, pe_ri0, pe_ri1, pe_ri2, pe_i2c, pm_oRv, pm_oGf, pm_oLen, pm_oDup, pm_oDu2, pm_oPop, pm_oL2i, pm_oLand, pm_oLus, pm_oLsh, pm_oLcm, lk_0, lk_1, lk_2, lk_3, lk_4, lk_5, lk_6, lk_7, lk_8, lk_9, lk_10, lk_11, lk_12, lk_13, st_0, st_1n, st_1i, st_1r, st_2, st_3, st_4, st_5, st_6, st_7, st_8, st_9, st_10, st_11, st_12, st_13, Option.toList_some, Option.toList_none, List.cons_append, List.nil_append, shP_fd0_0, shP_fd0_1, shP_fd0_2, shP_fd0_3, shP_fd0_4, shP_fd0_5, shP_fd0_6, shP_fd0_7, shP_al47, shP_ld47, shP_st47, ↓reduceIte, ite_self, Int.reduceLT, Int.reduceLE, Int.reduceEq, Int.reduceNeg]
set_option maxHeartbeats 4000000 in
theorem ap_next (hq : n ≤ q) (p0 : 0 ≤ p ∧ p < 100) : pm_dn pm_sP 87 62 [some (.inr (.inr 0)), some (.inl n), some (.inr (.inr 47)), some (.inl p), some (.inl best), some (.inl last), some (.inl q)] [] M = pm_dn pm_sP 87 7 [some (.inr (.inr 0)), some (.inl n), some (.inr (.inr 47)), some (.inl (p + 1)), some (.inl best), some (.inl last), some (.inl q)] [] M := by
  rw [u_87_62]
  simp (maxSteps := 4000000) (disch := first | assumption | omega | (simp (disch := omega) only [stv_ne, upd_ne])) only [ue_87, u_87_0, u_87_4, u_87_5, u_87_6, u_87_8, u_87_9, u_87_12, u_87_13, u_87_14, u_87_16, u_87_19, u_87_21, u_87_22, u_87_23, u_87_25, u_87_28, u_87_30, u_87_32, u_87_33, u_87_36, u_87_38, u_87_40, u_87_43, u_87_45, u_87_46, u_87_49, u_87_50, u_87_51, u_87_52, u_87_54, u_87_55, u_87_56, u_87_57, u_87_58, u_87_59, u_87_60, u_87_64, u_87_65, u_87_68, u_87_69, u_87_71, u_87_73, u_87_76, u_87_78, u_87_81, u_87_82, u_87_84, u_87_86, u_87_89, u_87_91, u_87_94, u_87_95, u_87_97, u_87_99, u_87_102, u_87_104, u_87_107, u_87_108, u_87_110, u_87_112, u_87_115, u_87_117, u_87_120, u_87_121, u_87_122, u_87_125, u_87_128, u_87_131, u_87_134, u_87_135, u_87_137, u_87_138, u_87_141, u_87_142, u_87_143, u_87_144, u_87_147, u_87_148, u_87_149, u_87_150, u_87_151, u_87_152, u_87_153, u_87_154, u_87_155, u_87_158, u_87_159, u_87_160, u_87_161, u_87_162, u_87_165, u_87_166, u_87_167, u_87_168, u_87_169, u_87_172, u_87_173, u_87_174, u_87_177, u_87_178, u_87_179, u_87_180, u_87_181, u_87_184, u_87_185, u_87_188, u_87_189, uc_58_0_0_P, uc_58_0_1_P, uc_58_0_2_P, uc_58_0_3_P, hq, pe_10, not_true, not_false_eq_true, if_true, if_false, pm_go_n, pm_go_c, pm_go_r, pm_go_i, pm_oIL, pm_oLL, pm_oAL, pm_oIS, pm_oLS, pm_oAS, pm_oK, pm_oKL, pe_add, pe_sub, pe_mul, pe_div, pe_rem, pe_shr, pe_and, pm_or_ok, pm_oInc, pe_rgb, pe_if, pe_ic, pe_b1, pe_nn, pe_eq, pe_ne, pe_lt, pe_ge, pe_gt, pe_le, pe_go, pe_ri0, pe_ri1, pe_ri2, pe_i2c, pm_oRv, pm_oGf, pm_oLen, pm_oDup, pm_oDu2, pm_oPop, pm_oL2i, pm_oLand, pm_oLus, pm_oLsh, pm_oLcm, lk_0, lk_1, lk_2, lk_3, lk_4, lk_5, lk_6, lk_7, lk_8, lk_9, lk_10, lk_11, lk_12, lk_13, st_0, st_1n, st_1i, st_1r, st_2, st_3, st_4, st_5, st_6, st_7, st_8, st_9, st_10, st_11, st_12, st_13, Option.toList_some, Option.toList_none, List.cons_append, List.nil_append, shP_fd0_0, shP_fd0_1, shP_fd0_2, shP_fd0_3, shP_fd0_4, shP_fd0_5, shP_fd0_6, shP_fd0_7, shP_al47, shP_ld47, shP_st47, ↓reduceIte, ite_self, Int.reduceLT, Int.reduceLE, Int.reduceEq, Int.reduceNeg]
set_option maxHeartbeats 4000000 in
theorem ap_due (hp : n ≤ p) : pm_dn pm_sP 87 7 [some (.inr (.inr 0)), some (.inl n), some (.inr (.inr 47)), some (.inl p), none, none, none] [] M = pm_dn pm_sP 87 136 [some (.inr (.inr 0)), some (.inl n), some (.inr (.inr 47)), some (.inl 1), none, none, none] [] M := by
  rw [u_87_7]
  simp (maxSteps := 4000000) (disch := first | assumption | omega | (simp (disch := omega) only [stv_ne, upd_ne])) only [ue_87, u_87_0, u_87_4, u_87_5, u_87_6, u_87_8, u_87_9, u_87_12, u_87_13, u_87_14, u_87_16, u_87_19, u_87_21, u_87_22, u_87_23, u_87_25, u_87_28, u_87_30, u_87_32, u_87_33, u_87_36, u_87_38, u_87_40, u_87_43, u_87_45, u_87_46, u_87_49, u_87_50, u_87_51, u_87_52, u_87_54, u_87_55, u_87_56, u_87_57, u_87_58, u_87_59, u_87_60, u_87_64, u_87_65, u_87_68, u_87_69, u_87_71, u_87_73, u_87_76, u_87_78, u_87_81, u_87_82, u_87_84, u_87_86, u_87_89, u_87_91, u_87_94, u_87_95, u_87_97, u_87_99, u_87_102, u_87_104, u_87_107, u_87_108, u_87_110, u_87_112, u_87_115, u_87_117, u_87_120, u_87_121, u_87_122, u_87_125, u_87_128, u_87_131, u_87_134, u_87_135, u_87_137, u_87_138, u_87_141, u_87_142, u_87_143, u_87_144, u_87_147, u_87_148, u_87_149, u_87_150, u_87_151, u_87_152, u_87_153, u_87_154, u_87_155, u_87_158, u_87_159, u_87_160, u_87_161, u_87_162, u_87_165, u_87_166, u_87_167, u_87_168, u_87_169, u_87_172, u_87_173, u_87_174, u_87_177, u_87_178, u_87_179, u_87_180, u_87_181, u_87_184, u_87_185, u_87_188, u_87_189, uc_58_0_0_P, uc_58_0_1_P, uc_58_0_2_P, uc_58_0_3_P, hp, pe_10, not_true, not_false_eq_true, if_true, if_false, pm_go_n, pm_go_c, pm_go_r, pm_go_i, pm_oIL, pm_oLL, pm_oAL, pm_oIS, pm_oLS, pm_oAS, pm_oK, pm_oKL, pe_add, pe_sub, pe_mul, pe_div, pe_rem, pe_shr, pe_and, pm_or_ok, pm_oInc, pe_rgb, pe_if, pe_ic, pe_b1, pe_nn, pe_eq, pe_ne, pe_lt, pe_ge, pe_gt, pe_le, pe_go, pe_ri0, pe_ri1, pe_ri2, pe_i2c, pm_oRv, pm_oGf, pm_oLen, pm_oDup, pm_oDu2, pm_oPop, pm_oL2i, pm_oLand, pm_oLus, pm_oLsh, pm_oLcm, lk_0, lk_1, lk_2, lk_3, lk_4, lk_5, lk_6, lk_7, lk_8, lk_9, lk_10, lk_11, lk_12, lk_13, st_0, st_1n, st_1i, st_1r, st_2, st_3, st_4, st_5, st_6, st_7, st_8, st_9, st_10, st_11, st_12, st_13, Option.toList_some, Option.toList_none, List.cons_append, List.nil_append, shP_fd0_0, shP_fd0_1, shP_fd0_2, shP_fd0_3, shP_fd0_4, shP_fd0_5, shP_fd0_6, shP_fd0_7, shP_al47, shP_ld47, shP_st47, ↓reduceIte, ite_self, Int.reduceLT, Int.reduceLE, Int.reduceEq, Int.reduceNeg]
set_option maxHeartbeats 4000000 in
theorem ap_walk (hq : q ≤ n) (q0 : 0 ≤ q ∧ q < 20) (hv : 1 ≤ M 47 q.toNat ∧ M 47 q.toNat ≤ 100) : pm_dn pm_sP 87 136 [some (.inr (.inr 0)), some (.inl n), some (.inr (.inr 47)), some (.inl q), none, none, none] [] M = pm_dn pm_sP 87 136 [some (.inr (.inr 0)), some (.inl n), some (.inr (.inr 47)), some (.inl (q + M 47 q.toNat)), none, none, none] [] M := by
  obtain ⟨g1, g2⟩ := q0
  have e1 : ¬ n < q := by omega
  have e2 : ¬ M 47 q.toNat = 0 := by omega
  rw [u_87_136]
  simp (maxSteps := 4000000) (disch := first | assumption | omega | (simp (disch := omega) only [stv_ne, upd_ne])) only [ue_87, u_87_0, u_87_4, u_87_5, u_87_6, u_87_8, u_87_9, u_87_12, u_87_13, u_87_14, u_87_16, u_87_19, u_87_21, u_87_22, u_87_23, u_87_25, u_87_28, u_87_30, u_87_32, u_87_33, u_87_36, u_87_38, u_87_40, u_87_43, u_87_45, u_87_46, u_87_49, u_87_50, u_87_51, u_87_52, u_87_54, u_87_55, u_87_56, u_87_57, u_87_58, u_87_59, u_87_60, u_87_64, u_87_65, u_87_68, u_87_69, u_87_71, u_87_73, u_87_76, u_87_78, u_87_81, u_87_82, u_87_84, u_87_86, u_87_89, u_87_91, u_87_94, u_87_95, u_87_97, u_87_99, u_87_102, u_87_104, u_87_107, u_87_108, u_87_110, u_87_112, u_87_115, u_87_117, u_87_120, u_87_121, u_87_122, u_87_125, u_87_128, u_87_131, u_87_134, u_87_135, u_87_137, u_87_138, u_87_141, u_87_142, u_87_143, u_87_144, u_87_147, u_87_148, u_87_149, u_87_150, u_87_151, u_87_152, u_87_153, u_87_154, u_87_155, u_87_158, u_87_159, u_87_160, u_87_161, u_87_162, u_87_165, u_87_166, u_87_167, u_87_168, u_87_169, u_87_172, u_87_173, u_87_174, u_87_177, u_87_178, u_87_179, u_87_180, u_87_181, u_87_184, u_87_185, u_87_188, u_87_189, uc_58_0_0_P, uc_58_0_1_P, uc_58_0_2_P, uc_58_0_3_P, e1, e2, pe_10, not_true, not_false_eq_true, if_true, if_false, pm_go_n, pm_go_c, pm_go_r, pm_go_i, pm_oIL, pm_oLL, pm_oAL, pm_oIS, pm_oLS, pm_oAS, pm_oK, pm_oKL, pe_add, pe_sub, pe_mul, pe_div, pe_rem, pe_shr, pe_and, pm_or_ok, pm_oInc, pe_rgb, pe_if, pe_ic, pe_b1, pe_nn, pe_eq, pe_ne, pe_lt, pe_ge, pe_gt, pe_le, pe_go, pe_ri0, pe_ri1, pe_ri2, pe_i2c, pm_oRv, pm_oGf, pm_oLen, pm_oDup, pm_oDu2, pm_oPop, pm_oL2i, pm_oLand, pm_oLus, pm_oLsh, pm_oLcm, lk_0, lk_1, lk_2, lk_3, lk_4, lk_5, lk_6, lk_7, lk_8, lk_9, lk_10, lk_11, lk_12, lk_13, st_0, st_1n, st_1i, st_1r, st_2, st_3, st_4, st_5, st_6, st_7, st_8, st_9, st_10, st_11, st_12, st_13, Option.toList_some, Option.toList_none, List.cons_append, List.nil_append, shP_fd0_0, shP_fd0_1, shP_fd0_2, shP_fd0_3, shP_fd0_4, shP_fd0_5, shP_fd0_6, shP_fd0_7, shP_al47, shP_ld47, shP_st47, ↓reduceIte, ite_self, Int.reduceLT, Int.reduceLE, Int.reduceEq, Int.reduceNeg]
set_option maxHeartbeats 4000000 in
theorem ap_end (hn : 2 ≤ n ∧ n ≤ 16) (hq : q = n + 1) (h1 : M 47 (Int.toNat 1) = 1) (h2 : M 47 (Int.toNat 2) = 1) : pm_dn pm_sP 87 136 [some (.inr (.inr 0)), some (.inl n), some (.inr (.inr 47)), some (.inl q), none, none, none] [] M = some (some (.inl 1), M) := by
  have e1 : n < n + 1 := by omega
  have e2 : ¬ n < 2 := by omega
  rw [u_87_136]
  simp (maxSteps := 4000000) (disch := first | assumption | omega | (simp (disch := omega) only [stv_ne, upd_ne])) only [ue_87, u_87_0, u_87_4, u_87_5, u_87_6, u_87_8, u_87_9, u_87_12, u_87_13, u_87_14, u_87_16, u_87_19, u_87_21, u_87_22, u_87_23, u_87_25, u_87_28, u_87_30, u_87_32, u_87_33, u_87_36, u_87_38, u_87_40, u_87_43, u_87_45, u_87_46, u_87_49, u_87_50, u_87_51, u_87_52, u_87_54, u_87_55, u_87_56, u_87_57, u_87_58, u_87_59, u_87_60, u_87_64, u_87_65, u_87_68, u_87_69, u_87_71, u_87_73, u_87_76, u_87_78, u_87_81, u_87_82, u_87_84, u_87_86, u_87_89, u_87_91, u_87_94, u_87_95, u_87_97, u_87_99, u_87_102, u_87_104, u_87_107, u_87_108, u_87_110, u_87_112, u_87_115, u_87_117, u_87_120, u_87_121, u_87_122, u_87_125, u_87_128, u_87_131, u_87_134, u_87_135, u_87_137, u_87_138, u_87_141, u_87_142, u_87_143, u_87_144, u_87_147, u_87_148, u_87_149, u_87_150, u_87_151, u_87_152, u_87_153, u_87_154, u_87_155, u_87_158, u_87_159, u_87_160, u_87_161, u_87_162, u_87_165, u_87_166, u_87_167, u_87_168, u_87_169, u_87_172, u_87_173, u_87_174, u_87_177, u_87_178, u_87_179, u_87_180, u_87_181, u_87_184, u_87_185, u_87_188, u_87_189, uc_58_0_0_P, uc_58_0_1_P, uc_58_0_2_P, uc_58_0_3_P, e1, e2, hq, h1, h2, pe_10, not_true, not_false_eq_true, if_true, if_false, pm_go_n, pm_go_c, pm_go_r, pm_go_i, pm_oIL, pm_oLL, pm_oAL, pm_oIS, pm_oLS, pm_oAS, pm_oK, pm_oKL, pe_add, pe_sub, pe_mul, pe_div, pe_rem, pe_shr, pe_and, pm_or_ok, pm_oInc, pe_rgb, pe_if, pe_ic, pe_b1, pe_nn, pe_eq, pe_ne, pe_lt, pe_ge, pe_gt, pe_le, pe_go, pe_ri0, pe_ri1, pe_ri2, pe_i2c, pm_oRv, pm_oGf, pm_oLen, pm_oDup, pm_oDu2, pm_oPop, pm_oL2i, pm_oLand, pm_oLus, pm_oLsh, pm_oLcm, lk_0, lk_1, lk_2, lk_3, lk_4, lk_5, lk_6, lk_7, lk_8, lk_9, lk_10, lk_11, lk_12, lk_13, st_0, st_1n, st_1i, st_1r, st_2, st_3, st_4, st_5, st_6, st_7, st_8, st_9, st_10, st_11, st_12, st_13, Option.toList_some, Option.toList_none, List.cons_append, List.nil_append, shP_fd0_0, shP_fd0_1, shP_fd0_2, shP_fd0_3, shP_fd0_4, shP_fd0_5, shP_fd0_6, shP_fd0_7, shP_al47, shP_ld47, shP_st47, ↓reduceIte, ite_self, Int.reduceLT, Int.reduceLE, Int.reduceEq, Int.reduceNeg]
end ARP
section ARQ
variable {G : PW} {n x L : Nat}
def pmr (G : PW) (n p : Nat) : Nat → Int := fun b => cnt (fun r => decide (bes G n r = (b : Int))) p
theorem pn_lo {a : Nat → Int} {r : Nat} (h : r < 47) : pmem G a r = G r := row_ne (by omega)
theorem pm_player {F : Nat} {a : Nat → Int} {m w : Int} (hl : live_ok G F n) : pm_ca pm_sP 58 [.inr (.inr 0), .inl m, .inl w] (pmem G a) = some (some (.inl (if 0 ≤ m ∧ m < (n : Int) then cplayer G F m w else -1)), pmem G a) := sh_ca sh_P (c_player (G := pmem G a) (x := m) (w := w) (show live_ok (pmem G a) F n from hl))
/-- AREPLACED: it answers 1 where there is a champion -/
theorem placed_run (h : CI G n x L) (q : cchamp G (tF (tz n)) ≠ -6) : ∃ M, pm_dn pm_sP 87 5 [some (.inr (.inr 0)), some (.inl (n : Int)), some (.inr (.inr 47)), none, none, none, none] [] (pmem G (fun _ => 0)) = some (some (.inl 1), M) ∧ ∀ r, r < 47 → M r = G r := by
  obtain ⟨k1, k2, k3, k4, k5⟩ := ov_grp h q
  have hl := CI_ok h
  have hn := h.1
  refine ⟨pmem G (pmr G n n), ?_, fun r hr => pn_lo hr⟩
  have pl : ∀ (a : Nat → Int) (p : Nat), p < n → pm_ca pm_sP 58 [.inr (.inr 0), .inl (p : Int), .inl 6] (pmem G a) = some (some (.inl (bes G n p)), pmem G a) ∧ pm_ca pm_sP 58 [.inr (.inr 0), .inl (p : Int), .inl 7] (pmem G a) = some (some (.inl (las G n p)), pmem G a) := fun a p hp => by
    have u := pm_player (a := a) (m := (p : Int)) (w := 6) hl
    have v := pm_player (a := a) (m := (p : Int)) (w := 7) hl
    rw [if_pos ⟨by omega, by omega⟩] at u v
    exact ⟨u, v⟩
  -- the walk over the places
  have wkl : ∀ f d : Nat, 3 ≤ d → d < 40 → wk n x f d = true → pm_dn pm_sP 87 136 [some (.inr (.inr 0)), some (.inl (n : Int)), some (.inr (.inr 47)), some (.inl (d : Int)), none, none, none] [] (pmem G (pmr G n n)) = some (some (.inl 1), pmem G (pmr G n n)) := by
    intro f
    induction f with
    | zero => intro d _ _ y; cases y
    | succ f ih =>
      intro d hd hd2 y
      unfold wk at y
      by_cases c : d ≤ n
      · rw [Nat.ble_eq_true_of_le c, cond_true, Bool.and_eq_true, decide_eq_true_eq] at y
        have e47 : pmem G (pmr G n n) 47 (d : Int).toNat = tcn n x d := by
          rw [Int.toNat_natCast]
          exact k5 d hd
        have rg := cnt_rg (fun m => lowm n x m && decide (tbe n x m = (d : Int))) (tF (tz n) - 2)
        have r2 : tcn n x d ≤ 16 := by
          have := cnt_rg (fun r => decide (bes G n r = (d : Int))) n
          rw [k5 d hd] at this
          omega
        rw [ap_walk (by omega) ⟨by omega, by omega⟩ (by rw [e47]; omega), e47]
        have := ih (d + (tcn n x d).toNat) (by omega) (by omega) y.2
        rw [show ((d + (tcn n x d).toNat : Nat) : Int) = (d : Int) + tcn n x d by omega] at this
        exact this
      · have e : Nat.ble d n = false := by
          cases hb : Nat.ble d n with
          | false => rfl
          | true => exact absurd (Nat.le_of_ble_eq_true hb) c
        rw [e, cond_false] at y
        have y := Nat.eq_of_beq_eq_true y
        exact ap_end (by omega) (by omega) (by exact k3) (by exact k4)
  have due : pm_dn pm_sP 87 136 [some (.inr (.inr 0)), some (.inl (n : Int)), some (.inr (.inr 47)), some (.inl 1), none, none, none] [] (pmem G (pmr G n n)) = some (some (.inl 1), pmem G (pmr G n n)) := by
    have e1 : pmem G (pmr G n n) 47 (Int.toNat 1) = 1 := k3
    have e2 : pmem G (pmr G n n) 47 (Int.toNat 2) = 1 := k4
    rw [ap_walk (by omega) ⟨by decide, by decide⟩ (by rw [e1]; decide), e1, show (1 : Int) + 1 = 2 from rfl, ap_walk (by omega) ⟨by decide, by decide⟩ (by rw [e2]; decide), e2, show (2 : Int) + 1 = ((3 : Nat) : Int) from rfl]
    exact wkl 20 3 (by decide) (by decide) (tb_wk h.1 h.2.1)
  have inn : ∀ (M : PW) (p : Nat), M = pmem G (M 47) → p < n → ∀ f r : Nat, r + f = n → pm_dn pm_sP 87 62 [some (.inr (.inr 0)), some (.inl (n : Int)), some (.inr (.inr 47)), some (.inl (p : Int)), some (.inl (bes G n p)), some (.inl (las G n p)), some (.inl (r : Int))] [] M = pm_dn pm_sP 87 7 [some (.inr (.inr 0)), some (.inl (n : Int)), some (.inr (.inr 47)), some (.inl ((p + 1 : Nat) : Int)), some (.inl (bes G n p)), some (.inl (las G n p)), some (.inl (n : Int))] [] M := by
    intro M p hM hp f
    induction f with
    | zero =>
      intro r hr
      have : r = n := by omega
      subst this
      exact ap_next (by omega) (by omega)
    | succ f ih =>
      intro r hr
      have hr2 : r < n := by omega
      obtain ⟨u, v⟩ := pl (M 47) r hr2
      rw [← hM] at u v
      have g := k2 p r hp hr2
      rw [ap_in (by omega) (by omega) u v g.1 g.2]
      exact ih (r + 1) (by omega)
  have out : ∀ f p : Nat, p + f = n → pm_dn pm_sP 87 7 [some (.inr (.inr 0)), some (.inl (n : Int)), some (.inr (.inr 47)), some (.inl (p : Int)), none, none, none] [] (pmem G (pmr G n p)) = some (some (.inl 1), pmem G (pmr G n n)) := by
    intro f
    induction f with
    | zero =>
      intro p hp
      have : p = n := by omega
      subst this
      rw [ap_due (by omega)]
      exact due
    | succ f ih =>
      intro p hp
      have hp2 : p < n := by omega
      obtain ⟨u, v⟩ := pl (pmr G n p) p hp2
      have g := k1 p hp2
      have rg := cnt_rg (fun r => decide (bes G n r = ((bes G n p).toNat : Int))) p
      have e : fup (pmr G n p) (bes G n p).toNat (pmr G n p (bes G n p).toNat + 1) = pmr G n (p + 1) := by
        funext b
        unfold fup
        show _ = cnt (fun r => decide (bes G n r = (b : Int))) (p + 1)
        rw [cnt_step]
        by_cases c : b = (bes G n p).toNat
        · rw [if_pos c, if_pos (decide_eq_true (by omega)), c]
          rfl
        · rw [if_neg c, if_neg (by rw [decide_eq_true_eq]; omega)]
          show cnt _ p = cnt _ p + 0
          omega
      rw [ap_out (by omega) (by omega) u v g (by omega) ⟨rg.1, by show cnt _ p ≤ 100; omega⟩, e]
      have i0 := inn (pmem G (pmr G n (p + 1))) p (by rw [show pmem G (pmr G n (p + 1)) 47 = pmr G n (p + 1) from row_eq]) hp2 n 0 (Nat.zero_add _)
      have i0 : pm_dn pm_sP 87 62 [some (.inr (.inr 0)), some (.inl (n : Int)), some (.inr (.inr 47)), some (.inl (p : Int)), some (.inl (bes G n p)), some (.inl (las G n p)), some (.inl 0)] [] (pmem G (pmr G n (p + 1))) = _ := i0
      rw [i0]
      exact pm_dn_mono (pl_s (pl_s (pl_s (pl_s (pl_n (pl_n (pl_n pl_nil))))))) (ih (p + 1) (by omega))
  have o0 := out n 0 (Nat.zero_add _)
  have o0 : pm_dn pm_sP 87 7 [some (.inr (.inr 0)), some (.inl (n : Int)), some (.inr (.inr 47)), some (.inl 0), none, none, none] [] (pmem G (fun _ => 0)) = _ := o0
  rw [u_87_5]
  simp (maxSteps := 4000000) (disch := first | assumption | omega | (simp (disch := omega) only [stv_ne, upd_ne])) only [ue_87, u_87_0, u_87_4, u_87_6, u_87_8, u_87_9, u_87_12, u_87_13, u_87_14, u_87_16, u_87_19, u_87_21, u_87_22, u_87_23, u_87_25, u_87_28, u_87_30, u_87_32, u_87_33, u_87_36, u_87_38, u_87_40, u_87_43, u_87_45, u_87_46, u_87_49, u_87_50, u_87_51, u_87_52, u_87_54, u_87_55, u_87_56, u_87_57, u_87_58, u_87_59, u_87_60, u_87_64, u_87_65, u_87_68, u_87_69, u_87_71, u_87_73, u_87_76, u_87_78, u_87_81, u_87_82, u_87_84, u_87_86, u_87_89, u_87_91, u_87_94, u_87_95, u_87_97, u_87_99, u_87_102, u_87_104, u_87_107, u_87_108, u_87_110, u_87_112, u_87_115, u_87_117, u_87_120, u_87_121, u_87_122, u_87_125, u_87_128, u_87_131, u_87_134, u_87_135, u_87_137, u_87_138, u_87_141, u_87_142, u_87_143, u_87_144, u_87_147, u_87_148, u_87_149, u_87_150, u_87_151, u_87_152, u_87_153, u_87_154, u_87_155, u_87_158, u_87_159, u_87_160, u_87_161, u_87_162, u_87_165, u_87_166, u_87_167, u_87_168, u_87_169, u_87_172, u_87_173, u_87_174, u_87_177, u_87_178, u_87_179, u_87_180, u_87_181, u_87_184, u_87_185, u_87_188, u_87_189, uc_58_0_0_P, uc_58_0_1_P, uc_58_0_2_P, uc_58_0_3_P, o0, pe_10, not_true, not_false_eq_true, if_true, if_false, pm_go_n, pm_go_c, pm_go_r, pm_go_i, pm_oIL, pm_oLL, pm_oAL, pm_oIS, pm_oLS, pm_oAS, pm_oK, pm_oKL, pe_add, pe_sub, pe_mul, pe_div, pe_rem, pe_shr, pe_and, pm_or_ok, pm_oInc, pe_rgb, pe_if, pe_ic, pe_b1, pe_nn, pe_eq, pe_ne, pe_lt, pe_ge, pe_gt, pe_le, pe_go, pe_ri0, pe_ri1, pe_ri2, pe_i2c, pm_oRv, pm_oGf, pm_oLen, pm_oDup, pm_oDu2, pm_oPop, pm_oL2i, pm_oLand, pm_oLus, pm_oLsh, pm_oLcm, lk_0, lk_1, lk_2, lk_3, lk_4, lk_5, lk_6, lk_7, lk_8, lk_9, lk_10, lk_11, lk_12, lk_13, st_0, st_1n, st_1i, st_1r, st_2, st_3, st_4, st_5, st_6, st_7, st_8, st_9, st_10, st_11, st_12, st_13, Option.toList_some, Option.toList_none, List.cons_append, List.nil_append, shP_fd0_0, shP_fd0_1, shP_fd0_2, shP_fd0_3, shP_fd0_4, shP_fd0_5, shP_fd0_6, shP_fd0_7, shP_al47, shP_ld47, shP_st47, ↓reduceIte, ite_self, Int.reduceLT, Int.reduceLE, Int.reduceEq, Int.reduceNeg]
end ARQ
