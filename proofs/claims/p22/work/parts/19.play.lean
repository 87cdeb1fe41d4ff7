/-! the class: a trial played to its end; turns at several tables -/
def tmem (G : PW) (B : BB) (R : Nat → Int) : PW := pm_row (pm_b3 G 19 B) 30 R
theorem tmem_ne {G : PW} {B : BB} {R : Nat → Int} {r : Nat} (h0 : r ≠ 30) (h1 : r ≠ 32) (h2 : r ≠ 33) (h3 : r ≠ 34) : tmem G B R r = G r := by
  unfold tmem
  rw [row_ne h0, pm_b3_ne h1 h2 h3]
theorem tmem_30 {G : PW} {B : BB} {R : Nat → Int} : tmem G B R 30 = R := row_eq
theorem tmem_32 {G : PW} {B : BB} {R : Nat → Int} : tmem G B R 32 = B.1 := by
  unfold tmem
  rw [row_ne (by decide)]
  exact pm_b3_1
theorem tmem_33 {G : PW} {B : BB} {R : Nat → Int} : tmem G B R 33 = B.2.1 := by
  unfold tmem
  rw [row_ne (by decide)]
  exact pm_b3_2
theorem tmem_34 {G : PW} {B : BB} {R : Nat → Int} : tmem G B R 34 = B.2.2 := by
  unfold tmem
  rw [row_ne (by decide)]
  exact pm_b3_3
theorem tmem_rows {G : PW} {B : BB} {R : Nat → Int} : pm_rows (tmem G B R) 19 = B := by
  show (tmem G B R 32, tmem G B R 33, tmem G B R 34) = B
  rw [tmem_32, tmem_33, tmem_34]
theorem tmem_ext {G M : PW} {B : BB} {R : Nat → Int} (h : ∀ r, r ≠ 30 → r ≠ 32 → r ≠ 33 → r ≠ 34 → M r = G r) (h0 : M 30 = R) (h1 : M 32 = B.1) (h2 : M 33 = B.2.1) (h3 : M 34 = B.2.2) : M = tmem G B R := by
  funext r
  by_cases q0 : r = 30
  · rw [q0, tmem_30, h0]
  · by_cases q1 : r = 32
    · rw [q1, tmem_32, h1]
    · by_cases q2 : r = 33
      · rw [q2, tmem_33, h2]
      · by_cases q3 : r = 34
        · rw [q3, tmem_34, h3]
        · rw [tmem_ne q0 q1 q2 q3, h r q0 q1 q2 q3]
theorem tmem_b3 {G : PW} {B B' : BB} {R : Nat → Int} : pm_b3 (tmem G B R) 19 B' = tmem G B' R := by
  refine tmem_ext (fun r q0 q1 q2 q3 => ?_) ?_ pm_b3_1 pm_b3_2 pm_b3_3
  · rw [pm_b3_ne q1 q2 q3, tmem_ne q0 q1 q2 q3]
  · rw [pm_b3_ne (by decide) (by decide) (by decide), tmem_30]
theorem tmem_stv {G : PW} {B : BB} {R : Nat → Int} {m : Nat} {x : Int} (hm : m < 31) : pm_stv pm_sC (tmem G B R) 30 (m : Int) x = tmem G B (fup R m x) := by
  have e : ((m : Int)).toNat = m := by omega
  refine tmem_ext (fun r q0 q1 q2 q3 => ?_) ?_ ?_ ?_ ?_
  · rw [stv_ne q0, tmem_ne q0 q1 q2 q3]
  · rw [stv_eq, lenC_30, tmem_30, stf_in (by omega) (by omega), e]
  · rw [stv_ne (by decide), tmem_32]
  · rw [stv_ne (by decide), tmem_33]
  · rw [stv_ne (by decide), tmem_34]
theorem tmem_id {G : PW} : tmem G (pm_rows G 19) (G 30) = G := (tmem_ext (fun _ _ _ _ _ => rfl) rfl rfl rfl rfl).symm
/-- a match of a trial: settled, or played as the ratings say (the hero wins) -/
def tstp (WS LS : Nat → Int) (F : Nat) (g : Nat → Int) (n : Int) (rat : Nat → Int) (hero : Int) (m : Nat) (s : BB × (Nat → Int) × Int) : BB × (Nat → Int) × Int :=
  if bplay n (bstep WS LS F s.2.1 g m s.1) m = true then
    (bstep WS LS F (fup s.2.1 m (if hero = (bstep WS LS F s.2.1 g m s.1).1 (2 * m + (1 - favs rat ((bstep WS LS F s.2.1 g m s.1).1 (2 * m)) ((bstep WS LS F s.2.1 g m s.1).1 (2 * m + 1))).toNat) then 1 - favs rat ((bstep WS LS F s.2.1 g m s.1).1 (2 * m)) ((bstep WS LS F s.2.1 g m s.1).1 (2 * m + 1)) else favs rat ((bstep WS LS F s.2.1 g m s.1).1 (2 * m)) ((bstep WS LS F s.2.1 g m s.1).1 (2 * m + 1)))) g m (bstep WS LS F s.2.1 g m s.1),
     fup s.2.1 m (if hero = (bstep WS LS F s.2.1 g m s.1).1 (2 * m + (1 - favs rat ((bstep WS LS F s.2.1 g m s.1).1 (2 * m)) ((bstep WS LS F s.2.1 g m s.1).1 (2 * m + 1))).toNat) then 1 - favs rat ((bstep WS LS F s.2.1 g m s.1).1 (2 * m)) ((bstep WS LS F s.2.1 g m s.1).1 (2 * m + 1)) else favs rat ((bstep WS LS F s.2.1 g m s.1).1 (2 * m)) ((bstep WS LS F s.2.1 g m s.1).1 (2 * m + 1))),
     s.2.2 + if hero = (bstep WS LS F s.2.1 g m s.1).1 (2 * m + (1 - favs rat ((bstep WS LS F s.2.1 g m s.1).1 (2 * m)) ((bstep WS LS F s.2.1 g m s.1).1 (2 * m + 1))).toNat) then 1 else 0)
  else (bstep WS LS F s.2.1 g m s.1, s.2.1, s.2.2)
def trun (WS LS : Nat → Int) (F : Nat) (g : Nat → Int) (n : Int) (rat : Nat → Int) (hero : Int) (s : BB × (Nat → Int) × Int) : Nat → BB × (Nat → Int) × Int
  | 0 => s
  | m + 1 => tstp WS LS F g n rat hero m (trun WS LS F g n rat hero s m)
theorem favs_01 {rat : Nat → Int} {a b : Int} : favs rat a b = 0 ∨ favs rat a b = 1 := by
  unfold favs
  (repeat' split) <;> omega
def res3 (R : Nat → Int) : Prop := ∀ m, m < 31 → R m = -6 ∨ R m = 0 ∨ R m = 1
theorem res3_fup {R : Nat → Int} {k : Nat} {x : Int} (h : res3 R) (hx : x = 0 ∨ x = 1) : res3 (fup R k x) := fun m hm => by
  unfold fup
  by_cases q : m = k
  · rw [if_pos q]; exact Or.inr hx
  · rw [if_neg q]; exact h m hm
theorem tstp_ok {WS LS : Nat → Int} {F : Nat} {g : Nat → Int} {n : Int} {rat : Nat → Int} {hero : Int} {m : Nat} {s : BB × (Nat → Int) × Int} {k : Int} (h1 : res3 s.2.1) (h2 : 0 ≤ s.2.2 ∧ s.2.2 ≤ k) : res3 (tstp WS LS F g n rat hero m s).2.1 ∧ 0 ≤ (tstp WS LS F g n rat hero m s).2.2 ∧ (tstp WS LS F g n rat hero m s).2.2 ≤ k + 1 := by
  unfold tstp
  by_cases c : bplay n (bstep WS LS F s.2.1 g m s.1) m = true
  · rw [if_pos c]
    have hv := favs_01 (rat := rat) (a := (bstep WS LS F s.2.1 g m s.1).1 (2 * m)) (b := (bstep WS LS F s.2.1 g m s.1).1 (2 * m + 1))
    refine ⟨res3_fup h1 ?_, ?_⟩
    · (repeat' split) <;> omega
    · dsimp only
      (repeat' split) <;> omega
  · rw [if_neg c]
    show res3 s.2.1 ∧ 0 ≤ s.2.2 ∧ s.2.2 ≤ k + 1
    exact ⟨h1, h2.1, by omega⟩
theorem trun_ok {WS LS : Nat → Int} {F : Nat} {g : Nat → Int} {n : Int} {rat : Nat → Int} {hero : Int} {s : BB × (Nat → Int) × Int} (h1 : res3 s.2.1) (h2 : s.2.2 = 0) : ∀ k : Nat, res3 (trun WS LS F g n rat hero s k).2.1 ∧ 0 ≤ (trun WS LS F g n rat hero s k).2.2 ∧ (trun WS LS F g n rat hero s k).2.2 ≤ (k : Int) := by
  intro k
  induction k with
  | zero => exact ⟨h1, by show 0 ≤ s.2.2; omega, by show s.2.2 ≤ _; omega⟩
  | succ k ih =>
    have := tstp_ok (WS := WS) (LS := LS) (F := F) (g := g) (n := n) (rat := rat) (hero := hero) (m := k) ih.1 ih.2
    refine ⟨this.1, this.2.1, ?_⟩
    have h := this.2.2
    show (tstp WS LS F g n rat hero k (trun WS LS F g n rat hero s k)).2.2 ≤ _
    omega
/-- playTrial, once the trial bracket is laid like the live one -/
theorem c_playTrial_l {F n : Nat} {hero : Int} {G : PW} (hz : G 20 2 = 4 ∨ G 20 2 = 8 ∨ G 20 2 = 16) (hF : G 20 4 = (F : Int)) (hF1 : (F : Int) = 2 * G 20 2 - 1) (hn : G 20 0 = (n : Int)) (hn2 : n ≤ 16) (hr : ∀ x, x < 16 → -100000 ≤ G 1 x ∧ G 1 x ≤ 100000) (s : BB × (Nat → Int) × Int) (hs : res3 s.2.1) (hs2 : s.2.2 = 0) : ∀ f i : Nat, i + f = F → pm_dn pm_sC 71 15 [some (.inr (.inr 0)), some (.inl hero), some (.inl (trun (G 24) (G 25) F (G 31) n (G 1) hero s i).2.2), some (.inl (i : Int)), none, none] [] (tmem G (trun (G 24) (G 25) F (G 31) n (G 1) hero s i).1 (trun (G 24) (G 25) F (G 31) n (G 1) hero s i).2.1) = some (some (.inl (trun (G 24) (G 25) F (G 31) n (G 1) hero s F).2.2), tmem G (trun (G 24) (G 25) F (G 31) n (G 1) hero s F).1 (trun (G 24) (G 25) F (G 31) n (G 1) hero s F).2.1) := by
  have hF2 : F ≤ 31 := by omega
  have hFe : (2 * G 20 2 - 1).toNat = F := by omega
  intro f
  induction f with
  | zero =>
    intro i hi
    have : i = F := by omega
    subst this
    have hc : (i : Int) ≤ (i : Int) := Int.le_refl _
    have t20 : ∀ B R, tmem G B R 20 = G 20 := fun B R => tmem_ne (by decide) (by decide) (by decide) (by decide)
    rw [u_71_15]
    simp (disch := first | assumption | omega | (simp (disch := omega) only [stv_ne, upd_ne])) only [ue_71, u_71_0, u_71_1, u_71_4, u_71_5, u_71_8, u_71_11, u_71_12, u_71_13, u_71_14, u_71_16, u_71_17, u_71_20, u_71_23, u_71_26, u_71_29, u_71_30, u_71_33, u_71_34, u_71_37, u_71_38, u_71_41, u_71_42, u_71_45, u_71_48, u_71_49, u_71_50, u_71_53, u_71_55, u_71_56, u_71_57, u_71_60, u_71_61, u_71_62, u_71_64, u_71_65, u_71_68, u_71_71, u_71_72, u_71_74, u_71_75, u_71_78, u_71_80, u_71_82, u_71_84, u_71_86, u_71_89, u_71_92, u_71_93, u_71_96, u_71_97, u_71_99, u_71_102, u_71_103, u_71_106, u_71_107, u_71_110, u_71_113, u_71_116, u_71_117, uc_1_3_0, uc_1_3_1, uc_1_3_2, uc_1_3_3, uc_1_19_0, uc_1_19_1, uc_1_19_2, uc_1_19_3, uc_2_3_0, uc_2_3_1, uc_2_3_2, uc_2_3_3, uc_2_19_0, uc_2_19_1, uc_2_19_2, uc_2_19_3, uc_5_3_0, uc_5_3_1, uc_5_3_2, uc_5_3_3, uc_5_19_0, uc_5_19_1, uc_5_19_2, uc_5_19_3, uc_9_3_0, uc_9_3_1, uc_9_3_2, uc_9_3_3, uc_9_19_0, uc_9_19_1, uc_9_19_2, uc_9_19_3, uc_11_3_0, uc_11_3_1, uc_11_3_2, uc_11_3_3, uc_11_19_0, uc_11_19_1, uc_11_19_2, uc_11_19_3, uc_72_0_0, uc_72_0_1, uc_72_0_2, uc_72_0_3, t20, hF, hc, if_true, if_false, pm_go_n, pm_go_c, pm_go_r, pm_go_i, pm_oIL, pm_oLL, pm_oAL, pm_oIS, pm_oLS, pm_oAS, pm_oK, pm_oKL, pe_add, pe_sub, pe_mul, pe_div, pe_rem, pe_shr, pe_and, pm_or_ok, pm_oInc, pe_rgb, pe_if, pe_ic, pe_b1, pe_nn, pe_eq, pe_ne, pe_lt, pe_ge, pe_gt, pe_le, pe_go, pe_ri0, pe_ri1, pe_ri2, pe_i2c, pm_oRv, pm_oGf, pm_oLen, pm_oDup, pm_oDu2, pm_oPop, pm_oL2i, pm_oLand, pm_oLus, pm_oLsh, pm_oLcm, lk_0, lk_1, lk_2, lk_3, lk_4, lk_5, lk_6, lk_7, lk_8, lk_9, lk_10, lk_11, lk_12, lk_13, st_0, st_1n, st_1i, st_1r, st_2, st_3, st_4, st_5, st_6, st_7, st_8, st_9, st_10, st_11, st_12, st_13, Option.toList_some, Option.toList_none, List.cons_append, List.nil_append, shC_fd0_0, shC_fd0_1, shC_fd0_2, shC_fd0_3, shC_fd0_4, shC_fd0_5, shC_fd0_6, shC_fd0_7, shC_al1, shC_ld1, shC_st1, shC_al2, shC_ld2, shC_st2, shC_fd3_0, shC_fd3_1, shC_fd3_2, shC_fd3_3, shC_fd3_4, shC_fd3_5, shC_fd4_0, shC_pf4_0, shC_fd4_1, shC_pf4_1, shC_fd4_2, shC_pf4_2, shC_fd4_3, shC_pf4_3, shC_fd4_4, shC_pf4_4, shC_fd4_5, shC_fd4_6, shC_fd4_7, shC_fd4_8, shC_fd4_9, shC_fd4_10, shC_fd4_11, shC_fd4_12, shC_fd4_13, shC_al5, shC_ld5, shC_st5, shC_al6, shC_ld6, shC_st6, shC_al7, shC_ld7, shC_st7, shC_al8, shC_ld8, shC_st8, shC_al9, shC_ld9, shC_st9, shC_al10, shC_ld10, shC_st10, shC_al11, shC_ld11, shC_st11, shC_al12, shC_ld12, shC_st12, shC_al13, shC_ld13, shC_st13, shC_al14, shC_ld14, shC_st14, shC_al15, shC_ld15, shC_st15, shC_al16, shC_ld16, shC_st16, shC_al17, shC_ld17, shC_st17, shC_al18, shC_ld18, shC_st18, shC_fd19_0, shC_fd19_1, shC_fd19_2, shC_fd19_3, shC_fd19_4, shC_fd19_5, shC_fd20_0, shC_pf20_0, shC_fd20_1, shC_pf20_1, shC_fd20_2, shC_pf20_2, shC_fd20_3, shC_pf20_3, shC_fd20_4, shC_pf20_4, shC_fd20_5, shC_fd20_6, shC_fd20_7, shC_fd20_8, shC_fd20_9, shC_fd20_10, shC_fd20_11, shC_fd20_12, shC_fd20_13, shC_al21, shC_ld21, shC_st21, shC_al22, shC_ld22, shC_st22, shC_al23, shC_ld23, shC_st23, shC_al24, shC_ld24, shC_st24, shC_al25, shC_ld25, shC_st25, shC_al26, shC_ld26, shC_st26, shC_al27, shC_ld27, shC_st27, shC_al28, shC_ld28, shC_st28, shC_al29, shC_ld29, shC_st29, shC_al30, shC_ld30, shC_st30, shC_al31, shC_ld31, shC_st31, shC_al32, shC_ld32, shC_st32, shC_al33, shC_ld33, shC_st33, shC_al34, shC_ld34, shC_st34, shC_fd35_0, shC_fd35_1, shC_pf35_1, shC_al36, shC_ld36, shC_st36, shC_fd37_0, shC_fd37_1, shC_pf37_1, shC_fd37_2, shC_pf37_2, shC_fd37_3, shC_pf37_3, shC_al38, shC_ld38, shC_st38, shC_fd39_0, shC_pf39_0, shC_fd39_1, shC_pf39_1, shC_fd39_2, shC_pf39_2, shC_fd39_3, shC_fd39_4, shC_al40, shC_ld40, shC_st40, shC_fd41_0, shC_fd41_1, shC_pf41_1, shC_al42, shC_ld42, shC_st42, shC_fd43_0, shC_pf43_0, shC_fd43_1, shC_pf43_1, shC_fd43_2, shC_pf43_2, shC_fd43_3, shC_fd43_4, shC_al44, shC_ld44, shC_st44, shC_fd45_0, shC_fd45_1, shC_pf45_1, shC_al46, shC_ld46, shC_st46]
  | succ f ih =>
    intro i hi
    have hc : ¬ (F : Int) ≤ (i : Int) := by omega
    have e1 : (i : Int) + 1 = ((i + 1 : Nat) : Int) := by omega
    have ih1 := ih (i + 1) (by omega)
    have ok := trun_ok (WS := G 24) (LS := G 25) (F := F) (g := G 31) (n := n) (rat := G 1) (hero := hero) hs hs2 i
    have hru : trun (G 24) (G 25) F (G 31) n (G 1) hero s (i + 1) = tstp (G 24) (G 25) F (G 31) n (G 1) hero i (trun (G 24) (G 25) F (G 31) n (G 1) hero s i) := rfl
    rw [hru] at ih1
    generalize trun (G 24) (G 25) F (G 31) n (G 1) hero s i = q at ok ih1 ⊢
    obtain ⟨B, R, u⟩ := q
    have t20 : ∀ B R, tmem G B R 20 = G 20 := fun B R => tmem_ne (by decide) (by decide) (by decide) (by decide)
    have t24 : ∀ B R, tmem G B R 24 = G 24 := fun B R => tmem_ne (by decide) (by decide) (by decide) (by decide)
    have t25 : ∀ B R, tmem G B R 25 = G 25 := fun B R => tmem_ne (by decide) (by decide) (by decide) (by decide)
    have t31 : ∀ B R, tmem G B R 31 = G 31 := fun B R => tmem_ne (by decide) (by decide) (by decide) (by decide)
    have t1 : ∀ B R, tmem G B R 1 = G 1 := fun B R => tmem_ne (by decide) (by decide) (by decide) (by decide)
    have sm : ∀ B R, res3 R → pm_ca pm_sC 11 [.inr (.inr 19), .inl (i : Int)] (tmem G B R) = some (none, tmem G (bstep (G 24) (G 25) F R (G 31) i B) R) := fun B R h => by
      have := c_settleMatch_T (m := i) (G := tmem G B R) (by omega) (by rw [tmem_30]; exact h i (by omega)) (by rw [t20]; exact hz)
      rw [t20, t24, t25, t31, tmem_30, tmem_rows, tmem_b3, hFe] at this
      exact this
    have okR : res3 R := ok.1
    have oku : 0 ≤ u ∧ u ≤ (i : Int) := ok.2
    have s1 := sm B R okR
    unfold tstp at ih1
    dsimp only at ih1
    generalize hB1 : bstep (G 24) (G 25) F R (G 31) i B = B1 at s1 ih1
    have p1 := cb_playable_T (m := i) (G := tmem G B1 R) (by omega)
    rw [t20, tmem_rows, hn] at p1
    rw [u_71_15]
    cases hp : bplay (n : Int) B1 i with
    | false =>
      rw [hp] at p1 ih1
      rw [if_neg (by decide)] at p1 ih1
      simp (disch := first | assumption | omega | (simp (disch := omega) only [stv_ne, upd_ne])) only [ue_71, u_71_0, u_71_1, u_71_4, u_71_5, u_71_8, u_71_11, u_71_12, u_71_13, u_71_14, u_71_16, u_71_17, u_71_20, u_71_23, u_71_26, u_71_29, u_71_30, u_71_33, u_71_34, u_71_37, u_71_38, u_71_41, u_71_42, u_71_45, u_71_48, u_71_49, u_71_50, u_71_53, u_71_55, u_71_56, u_71_57, u_71_60, u_71_61, u_71_62, u_71_64, u_71_65, u_71_68, u_71_71, u_71_72, u_71_74, u_71_75, u_71_78, u_71_80, u_71_82, u_71_84, u_71_86, u_71_89, u_71_92, u_71_93, u_71_96, u_71_97, u_71_99, u_71_102, u_71_103, u_71_106, u_71_107, u_71_110, u_71_113, u_71_116, u_71_117, uc_1_3_0, uc_1_3_1, uc_1_3_2, uc_1_3_3, uc_1_19_0, uc_1_19_1, uc_1_19_2, uc_1_19_3, uc_2_3_0, uc_2_3_1, uc_2_3_2, uc_2_3_3, uc_2_19_0, uc_2_19_1, uc_2_19_2, uc_2_19_3, uc_5_3_0, uc_5_3_1, uc_5_3_2, uc_5_3_3, uc_5_19_0, uc_5_19_1, uc_5_19_2, uc_5_19_3, uc_9_3_0, uc_9_3_1, uc_9_3_2, uc_9_3_3, uc_9_19_0, uc_9_19_1, uc_9_19_2, uc_9_19_3, uc_11_3_0, uc_11_3_1, uc_11_3_2, uc_11_3_3, uc_11_19_0, uc_11_19_1, uc_11_19_2, uc_11_19_3, uc_72_0_0, uc_72_0_1, uc_72_0_2, uc_72_0_3, t20, hF, hc, s1, p1, if_true, if_false, pm_go_n, pm_go_c, pm_go_r, pm_go_i, pm_oIL, pm_oLL, pm_oAL, pm_oIS, pm_oLS, pm_oAS, pm_oK, pm_oKL, pe_add, pe_sub, pe_mul, pe_div, pe_rem, pe_shr, pe_and, pm_or_ok, pm_oInc, pe_rgb, pe_if, pe_ic, pe_b1, pe_nn, pe_eq, pe_ne, pe_lt, pe_ge, pe_gt, pe_le, pe_go, pe_ri0, pe_ri1, pe_ri2, pe_i2c, pm_oRv, pm_oGf, pm_oLen, pm_oDup, pm_oDu2, pm_oPop, pm_oL2i, pm_oLand, pm_oLus, pm_oLsh, pm_oLcm, lk_0, lk_1, lk_2, lk_3, lk_4, lk_5, lk_6, lk_7, lk_8, lk_9, lk_10, lk_11, lk_12, lk_13, st_0, st_1n, st_1i, st_1r, st_2, st_3, st_4, st_5, st_6, st_7, st_8, st_9, st_10, st_11, st_12, st_13, Option.toList_some, Option.toList_none, List.cons_append, List.nil_append, shC_fd0_0, shC_fd0_1, shC_fd0_2, shC_fd0_3, shC_fd0_4, shC_fd0_5, shC_fd0_6, shC_fd0_7, shC_al1, shC_ld1, shC_st1, shC_al2, shC_ld2, shC_st2, shC_fd3_0, shC_fd3_1, shC_fd3_2, shC_fd3_3, shC_fd3_4, shC_fd3_5, shC_fd4_0, shC_pf4_0, shC_fd4_1, shC_pf4_1, shC_fd4_2, shC_pf4_2, shC_fd4_3, shC_pf4_3, shC_fd4_4, shC_pf4_4, shC_fd4_5, shC_fd4_6, shC_fd4_7, shC_fd4_8, shC_fd4_9, shC_fd4_10, shC_fd4_11, shC_fd4_12, shC_fd4_13, shC_al5, shC_ld5, shC_st5, shC_al6, shC_ld6, shC_st6, shC_al7, shC_ld7, shC_st7, shC_al8, shC_ld8, shC_st8, shC_al9, shC_ld9, shC_st9, shC_al10, shC_ld10, shC_st10, shC_al11, shC_ld11, shC_st11, shC_al12, shC_ld12, shC_st12, shC_al13, shC_ld13, shC_st13, shC_al14, shC_ld14, shC_st14, shC_al15, shC_ld15, shC_st15, shC_al16, shC_ld16, shC_st16, shC_al17, shC_ld17, shC_st17, shC_al18, shC_ld18, shC_st18, shC_fd19_0, shC_fd19_1, shC_fd19_2, shC_fd19_3, shC_fd19_4, shC_fd19_5, shC_fd20_0, shC_pf20_0, shC_fd20_1, shC_pf20_1, shC_fd20_2, shC_pf20_2, shC_fd20_3, shC_pf20_3, shC_fd20_4, shC_pf20_4, shC_fd20_5, shC_fd20_6, shC_fd20_7, shC_fd20_8, shC_fd20_9, shC_fd20_10, shC_fd20_11, shC_fd20_12, shC_fd20_13, shC_al21, shC_ld21, shC_st21, shC_al22, shC_ld22, shC_st22, shC_al23, shC_ld23, shC_st23, shC_al24, shC_ld24, shC_st24, shC_al25, shC_ld25, shC_st25, shC_al26, shC_ld26, shC_st26, shC_al27, shC_ld27, shC_st27, shC_al28, shC_ld28, shC_st28, shC_al29, shC_ld29, shC_st29, shC_al30, shC_ld30, shC_st30, shC_al31, shC_ld31, shC_st31, shC_al32, shC_ld32, shC_st32, shC_al33, shC_ld33, shC_st33, shC_al34, shC_ld34, shC_st34, shC_fd35_0, shC_fd35_1, shC_pf35_1, shC_al36, shC_ld36, shC_st36, shC_fd37_0, shC_fd37_1, shC_pf37_1, shC_fd37_2, shC_pf37_2, shC_fd37_3, shC_pf37_3, shC_al38, shC_ld38, shC_st38, shC_fd39_0, shC_pf39_0, shC_fd39_1, shC_pf39_1, shC_fd39_2, shC_pf39_2, shC_fd39_3, shC_fd39_4, shC_al40, shC_ld40, shC_st40, shC_fd41_0, shC_fd41_1, shC_pf41_1, shC_al42, shC_ld42, shC_st42, shC_fd43_0, shC_pf43_0, shC_fd43_1, shC_pf43_1, shC_fd43_2, shC_pf43_2, shC_fd43_3, shC_fd43_4, shC_al44, shC_ld44, shC_st44, shC_fd45_0, shC_fd45_1, shC_pf45_1, shC_al46, shC_ld46, shC_st46]
      rw [e1]
      exact ih1
    | true =>
      rw [hp] at p1 ih1
      rw [if_pos rfl] at p1 ih1
      have hp' := hp
      unfold bplay at hp'
      rw [decide_eq_true_eq] at hp'
      obtain ⟨z0, z1, z2⟩ := hp'
      have z1 : 0 ≤ B1.1 (2 * i) ∧ B1.1 (2 * i) < (n : Int) := z1
      have z2 : 0 ≤ B1.1 (2 * i + 1) ∧ B1.1 (2 * i + 1) < (n : Int) := z2
      have fv := c_favouredSide (m := i) (G := tmem G B1 R) (by omega) (by rw [tmem_32]; omega) (by rw [tmem_32]; omega) (by rw [t1]; exact hr)
      rw [tmem_32, t1] at fv
      have v01 := favs_01 (rat := G 1) (a := B1.1 (2 * i)) (b := B1.1 (2 * i + 1))
      generalize hv : favs (G 1) (B1.1 (2 * i)) (B1.1 (2 * i + 1)) = v at fv ih1 v01
      have so := c_sideOf_T (m := (i : Int)) (s := 1 - v) (G := tmem G B1 R) (by omega) (by omega) (by omega) (by omega)
      rw [atv_in lenC_32 (by omega) (by omega), tmem_32, show (2 * (i : Int) + (1 - v)).toNat = 2 * i + (1 - v).toNat from by omega] at so
      have er := fun x => c_enterResult_T (m := (i : Int)) (s := x) (G := tmem G B1 R)
      have er : ∀ x, pm_ca pm_sC 2 [.inr (.inr 19), .inl (i : Int), .inl x] (tmem G B1 R) = some (none, tmem G B1 (fup R i x)) := fun x => by rw [er x, tmem_stv (by omega)]
      by_cases ch : hero = B1.1 (2 * i + (1 - v).toNat)
      · have s2 := sm B1 (fup R i (1 - v)) (res3_fup okR (by omega))
        rw [if_pos ch, if_pos ch] at ih1
        have nv : ¬ (1 - v) = v := by omega
        have ch' := eq_true ch
        simp (disch := first | assumption | omega | (simp (disch := omega) only [stv_ne, upd_ne])) only [ue_71, u_71_0, u_71_1, u_71_4, u_71_5, u_71_8, u_71_11, u_71_12, u_71_13, u_71_14, u_71_16, u_71_17, u_71_20, u_71_23, u_71_26, u_71_29, u_71_30, u_71_33, u_71_34, u_71_37, u_71_38, u_71_41, u_71_42, u_71_45, u_71_48, u_71_49, u_71_50, u_71_53, u_71_55, u_71_56, u_71_57, u_71_60, u_71_61, u_71_62, u_71_64, u_71_65, u_71_68, u_71_71, u_71_72, u_71_74, u_71_75, u_71_78, u_71_80, u_71_82, u_71_84, u_71_86, u_71_89, u_71_92, u_71_93, u_71_96, u_71_97, u_71_99, u_71_102, u_71_103, u_71_106, u_71_107, u_71_110, u_71_113, u_71_116, u_71_117, uc_1_3_0, uc_1_3_1, uc_1_3_2, uc_1_3_3, uc_1_19_0, uc_1_19_1, uc_1_19_2, uc_1_19_3, uc_2_3_0, uc_2_3_1, uc_2_3_2, uc_2_3_3, uc_2_19_0, uc_2_19_1, uc_2_19_2, uc_2_19_3, uc_5_3_0, uc_5_3_1, uc_5_3_2, uc_5_3_3, uc_5_19_0, uc_5_19_1, uc_5_19_2, uc_5_19_3, uc_9_3_0, uc_9_3_1, uc_9_3_2, uc_9_3_3, uc_9_19_0, uc_9_19_1, uc_9_19_2, uc_9_19_3, uc_11_3_0, uc_11_3_1, uc_11_3_2, uc_11_3_3, uc_11_19_0, uc_11_19_1, uc_11_19_2, uc_11_19_3, uc_72_0_0, uc_72_0_1, uc_72_0_2, uc_72_0_3, t20, hF, hc, s1, p1, fv, so, ch', er, nv, s2, not_true, not_false_eq_true, if_true, if_false, pm_go_n, pm_go_c, pm_go_r, pm_go_i, pm_oIL, pm_oLL, pm_oAL, pm_oIS, pm_oLS, pm_oAS, pm_oK, pm_oKL, pe_add, pe_sub, pe_mul, pe_div, pe_rem, pe_shr, pe_and, pm_or_ok, pm_oInc, pe_rgb, pe_if, pe_ic, pe_b1, pe_nn, pe_eq, pe_ne, pe_lt, pe_ge, pe_gt, pe_le, pe_go, pe_ri0, pe_ri1, pe_ri2, pe_i2c, pm_oRv, pm_oGf, pm_oLen, pm_oDup, pm_oDu2, pm_oPop, pm_oL2i, pm_oLand, pm_oLus, pm_oLsh, pm_oLcm, lk_0, lk_1, lk_2, lk_3, lk_4, lk_5, lk_6, lk_7, lk_8, lk_9, lk_10, lk_11, lk_12, lk_13, st_0, st_1n, st_1i, st_1r, st_2, st_3, st_4, st_5, st_6, st_7, st_8, st_9, st_10, st_11, st_12, st_13, Option.toList_some, Option.toList_none, List.cons_append, List.nil_append, shC_fd0_0, shC_fd0_1, shC_fd0_2, shC_fd0_3, shC_fd0_4, shC_fd0_5, shC_fd0_6, shC_fd0_7, shC_al1, shC_ld1, shC_st1, shC_al2, shC_ld2, shC_st2, shC_fd3_0, shC_fd3_1, shC_fd3_2, shC_fd3_3, shC_fd3_4, shC_fd3_5, shC_fd4_0, shC_pf4_0, shC_fd4_1, shC_pf4_1, shC_fd4_2, shC_pf4_2, shC_fd4_3, shC_pf4_3, shC_fd4_4, shC_pf4_4, shC_fd4_5, shC_fd4_6, shC_fd4_7, shC_fd4_8, shC_fd4_9, shC_fd4_10, shC_fd4_11, shC_fd4_12, shC_fd4_13, shC_al5, shC_ld5, shC_st5, shC_al6, shC_ld6, shC_st6, shC_al7, shC_ld7, shC_st7, shC_al8, shC_ld8, shC_st8, shC_al9, shC_ld9, shC_st9, shC_al10, shC_ld10, shC_st10, shC_al11, shC_ld11, shC_st11, shC_al12, shC_ld12, shC_st12, shC_al13, shC_ld13, shC_st13, shC_al14, shC_ld14, shC_st14, shC_al15, shC_ld15, shC_st15, shC_al16, shC_ld16, shC_st16, shC_al17, shC_ld17, shC_st17, shC_al18, shC_ld18, shC_st18, shC_fd19_0, shC_fd19_1, shC_fd19_2, shC_fd19_3, shC_fd19_4, shC_fd19_5, shC_fd20_0, shC_pf20_0, shC_fd20_1, shC_pf20_1, shC_fd20_2, shC_pf20_2, shC_fd20_3, shC_pf20_3, shC_fd20_4, shC_pf20_4, shC_fd20_5, shC_fd20_6, shC_fd20_7, shC_fd20_8, shC_fd20_9, shC_fd20_10, shC_fd20_11, shC_fd20_12, shC_fd20_13, shC_al21, shC_ld21, shC_st21, shC_al22, shC_ld22, shC_st22, shC_al23, shC_ld23, shC_st23, shC_al24, shC_ld24, shC_st24, shC_al25, shC_ld25, shC_st25, shC_al26, shC_ld26, shC_st26, shC_al27, shC_ld27, shC_st27, shC_al28, shC_ld28, shC_st28, shC_al29, shC_ld29, shC_st29, shC_al30, shC_ld30, shC_st30, shC_al31, shC_ld31, shC_st31, shC_al32, shC_ld32, shC_st32, shC_al33, shC_ld33, shC_st33, shC_al34, shC_ld34, shC_st34, shC_fd35_0, shC_fd35_1, shC_pf35_1, shC_al36, shC_ld36, shC_st36, shC_fd37_0, shC_fd37_1, shC_pf37_1, shC_fd37_2, shC_pf37_2, shC_fd37_3, shC_pf37_3, shC_al38, shC_ld38, shC_st38, shC_fd39_0, shC_pf39_0, shC_fd39_1, shC_pf39_1, shC_fd39_2, shC_pf39_2, shC_fd39_3, shC_fd39_4, shC_al40, shC_ld40, shC_st40, shC_fd41_0, shC_fd41_1, shC_pf41_1, shC_al42, shC_ld42, shC_st42, shC_fd43_0, shC_pf43_0, shC_fd43_1, shC_pf43_1, shC_fd43_2, shC_pf43_2, shC_fd43_3, shC_fd43_4, shC_al44, shC_ld44, shC_st44, shC_fd45_0, shC_fd45_1, shC_pf45_1, shC_al46, shC_ld46, shC_st46]
        rw [e1]
        exact pm_dn_mono (pl_s (pl_s (pl_s (pl_s (pl_n (pl_n pl_nil)))))) ih1
      · have s2 := sm B1 (fup R i v) (res3_fup okR v01)
        rw [if_neg ch, if_neg ch, Int.add_zero] at ih1
        simp (disch := first | assumption | omega | (simp (disch := omega) only [stv_ne, upd_ne])) only [ue_71, u_71_0, u_71_1, u_71_4, u_71_5, u_71_8, u_71_11, u_71_12, u_71_13, u_71_14, u_71_16, u_71_17, u_71_20, u_71_23, u_71_26, u_71_29, u_71_30, u_71_33, u_71_34, u_71_37, u_71_38, u_71_41, u_71_42, u_71_45, u_71_48, u_71_49, u_71_50, u_71_53, u_71_55, u_71_56, u_71_57, u_71_60, u_71_61, u_71_62, u_71_64, u_71_65, u_71_68, u_71_71, u_71_72, u_71_74, u_71_75, u_71_78, u_71_80, u_71_82, u_71_84, u_71_86, u_71_89, u_71_92, u_71_93, u_71_96, u_71_97, u_71_99, u_71_102, u_71_103, u_71_106, u_71_107, u_71_110, u_71_113, u_71_116, u_71_117, uc_1_3_0, uc_1_3_1, uc_1_3_2, uc_1_3_3, uc_1_19_0, uc_1_19_1, uc_1_19_2, uc_1_19_3, uc_2_3_0, uc_2_3_1, uc_2_3_2, uc_2_3_3, uc_2_19_0, uc_2_19_1, uc_2_19_2, uc_2_19_3, uc_5_3_0, uc_5_3_1, uc_5_3_2, uc_5_3_3, uc_5_19_0, uc_5_19_1, uc_5_19_2, uc_5_19_3, uc_9_3_0, uc_9_3_1, uc_9_3_2, uc_9_3_3, uc_9_19_0, uc_9_19_1, uc_9_19_2, uc_9_19_3, uc_11_3_0, uc_11_3_1, uc_11_3_2, uc_11_3_3, uc_11_19_0, uc_11_19_1, uc_11_19_2, uc_11_19_3, uc_72_0_0, uc_72_0_1, uc_72_0_2, uc_72_0_3, t20, hF, hc, s1, p1, fv, so, ch, er, s2, not_true, not_false_eq_true, if_true, if_false, pm_go_n, pm_go_c, pm_go_r, pm_go_i, pm_oIL, pm_oLL, pm_oAL, pm_oIS, pm_oLS, pm_oAS, pm_oK, pm_oKL, pe_add, pe_sub, pe_mul, pe_div, pe_rem, pe_shr, pe_and, pm_or_ok, pm_oInc, pe_rgb, pe_if, pe_ic, pe_b1, pe_nn, pe_eq, pe_ne, pe_lt, pe_ge, pe_gt, pe_le, pe_go, pe_ri0, pe_ri1, pe_ri2, pe_i2c, pm_oRv, pm_oGf, pm_oLen, pm_oDup, pm_oDu2, pm_oPop, pm_oL2i, pm_oLand, pm_oLus, pm_oLsh, pm_oLcm, lk_0, lk_1, lk_2, lk_3, lk_4, lk_5, lk_6, lk_7, lk_8, lk_9, lk_10, lk_11, lk_12, lk_13, st_0, st_1n, st_1i, st_1r, st_2, st_3, st_4, st_5, st_6, st_7, st_8, st_9, st_10, st_11, st_12, st_13, Option.toList_some, Option.toList_none, List.cons_append, List.nil_append, shC_fd0_0, shC_fd0_1, shC_fd0_2, shC_fd0_3, shC_fd0_4, shC_fd0_5, shC_fd0_6, shC_fd0_7, shC_al1, shC_ld1, shC_st1, shC_al2, shC_ld2, shC_st2, shC_fd3_0, shC_fd3_1, shC_fd3_2, shC_fd3_3, shC_fd3_4, shC_fd3_5, shC_fd4_0, shC_pf4_0, shC_fd4_1, shC_pf4_1, shC_fd4_2, shC_pf4_2, shC_fd4_3, shC_pf4_3, shC_fd4_4, shC_pf4_4, shC_fd4_5, shC_fd4_6, shC_fd4_7, shC_fd4_8, shC_fd4_9, shC_fd4_10, shC_fd4_11, shC_fd4_12, shC_fd4_13, shC_al5, shC_ld5, shC_st5, shC_al6, shC_ld6, shC_st6, shC_al7, shC_ld7, shC_st7, shC_al8, shC_ld8, shC_st8, shC_al9, shC_ld9, shC_st9, shC_al10, shC_ld10, shC_st10, shC_al11, shC_ld11, shC_st11, shC_al12, shC_ld12, shC_st12, shC_al13, shC_ld13, shC_st13, shC_al14, shC_ld14, shC_st14, shC_al15, shC_ld15, shC_st15, shC_al16, shC_ld16, shC_st16, shC_al17, shC_ld17, shC_st17, shC_al18, shC_ld18, shC_st18, shC_fd19_0, shC_fd19_1, shC_fd19_2, shC_fd19_3, shC_fd19_4, shC_fd19_5, shC_fd20_0, shC_pf20_0, shC_fd20_1, shC_pf20_1, shC_fd20_2, shC_pf20_2, shC_fd20_3, shC_pf20_3, shC_fd20_4, shC_pf20_4, shC_fd20_5, shC_fd20_6, shC_fd20_7, shC_fd20_8, shC_fd20_9, shC_fd20_10, shC_fd20_11, shC_fd20_12, shC_fd20_13, shC_al21, shC_ld21, shC_st21, shC_al22, shC_ld22, shC_st22, shC_al23, shC_ld23, shC_st23, shC_al24, shC_ld24, shC_st24, shC_al25, shC_ld25, shC_st25, shC_al26, shC_ld26, shC_st26, shC_al27, shC_ld27, shC_st27, shC_al28, shC_ld28, shC_st28, shC_al29, shC_ld29, shC_st29, shC_al30, shC_ld30, shC_st30, shC_al31, shC_ld31, shC_st31, shC_al32, shC_ld32, shC_st32, shC_al33, shC_ld33, shC_st33, shC_al34, shC_ld34, shC_st34, shC_fd35_0, shC_fd35_1, shC_pf35_1, shC_al36, shC_ld36, shC_st36, shC_fd37_0, shC_fd37_1, shC_pf37_1, shC_fd37_2, shC_pf37_2, shC_fd37_3, shC_pf37_3, shC_al38, shC_ld38, shC_st38, shC_fd39_0, shC_pf39_0, shC_fd39_1, shC_pf39_1, shC_fd39_2, shC_pf39_2, shC_fd39_3, shC_fd39_4, shC_al40, shC_ld40, shC_st40, shC_fd41_0, shC_fd41_1, shC_pf41_1, shC_al42, shC_ld42, shC_st42, shC_fd43_0, shC_pf43_0, shC_fd43_1, shC_pf43_1, shC_fd43_2, shC_pf43_2, shC_fd43_3, shC_fd43_4, shC_al44, shC_ld44, shC_st44, shC_fd45_0, shC_fd45_1, shC_pf45_1, shC_al46, shC_ld46, shC_st46]
        rw [e1]
        exact pm_dn_mono (pl_s (pl_s (pl_s (pl_s (pl_n (pl_n pl_nil)))))) ih1
/-- the trial bracket laid like the live one -/
def trial0 (G : PW) : PW := setl_T (taken G)
theorem c_playTrial {F n : Nat} {hero : Int} {G : PW} (hok : sok_T (taken G)) (hF : G 20 4 = (F : Int)) (hn : G 20 0 = (n : Int)) (hn2 : n ≤ 16) (hr : ∀ x, x < 16 → -100000 ≤ G 1 x ∧ G 1 x ≤ 100000) : pm_ca pm_sC 71 [.inr (.inr 0), .inl hero] G = some (some (.inl (trun (trial0 G 24) (trial0 G 25) F (trial0 G 31) n (trial0 G 1) hero (pm_rows (trial0 G) 19, trial0 G 30, 0) F).2.2), tmem (trial0 G) (trun (trial0 G 24) (trial0 G 25) F (trial0 G 31) n (trial0 G 1) hero (pm_rows (trial0 G) 19, trial0 G 30, 0) F).1 (trun (trial0 G 24) (trial0 G 25) F (trial0 G 31) n (trial0 G 1) hero (pm_rows (trial0 G) 19, trial0 G 30, 0) F).2.1) := by
  have hc := c_copyFrom (c_setl_T hok)
  have t20 : trial0 G 20 = G 20 := by
    unfold trial0 taken
    rw [setl_ne_T (by decide) (by decide) (by decide), row_ne (by decide), row_ne (by decide)]
  have t1 : trial0 G 1 = G 1 := by
    unfold trial0 taken
    rw [setl_ne_T (by decide) (by decide) (by decide), row_ne (by decide), row_ne (by decide)]
  have k20 : taken G 20 = G 20 := by
    unfold taken
    rw [row_ne (by decide), row_ne (by decide)]
  have t30 : res3 (trial0 G 30) := by
    have : trial0 G 30 = taken G 30 := by
      unfold trial0
      rw [setl_ne_T (by decide) (by decide) (by decide)]
    rw [this]
    exact hok.1
  have z1 := hok.2.1
  have z2 := hok.2.2
  rw [k20] at z1 z2
  have l := c_playTrial_l (F := F) (n := n) (hero := hero) (G := trial0 G) (by rw [t20]; exact z1) (by rw [t20]; exact hF) (by rw [t20]; omega) (by rw [t20]; exact hn) hn2 (by rw [t1]; exact hr) (pm_rows (trial0 G) 19, trial0 G 30, 0) t30 rfl F 0 (by omega)
  have l : pm_dn pm_sC 71 15 [some (.inr (.inr 0)), some (.inl hero), some (.inl 0), some (.inl 0), none, none] [] (tmem (trial0 G) (pm_rows (trial0 G) 19) (trial0 G 30)) = _ := l
  rw [tmem_id] at l
  have hc : pm_ca pm_sC 1 [.inr (.inr 19), .inr (.inr 3)] G = some (none, trial0 G) := hc
  simp (disch := first | assumption | omega | (simp (disch := omega) only [stv_ne, upd_ne])) only [ue_71, u_71_0, u_71_1, u_71_4, u_71_5, u_71_8, u_71_11, u_71_12, u_71_13, u_71_14, u_71_16, u_71_17, u_71_20, u_71_23, u_71_26, u_71_29, u_71_30, u_71_33, u_71_34, u_71_37, u_71_38, u_71_41, u_71_42, u_71_45, u_71_48, u_71_49, u_71_50, u_71_53, u_71_55, u_71_56, u_71_57, u_71_60, u_71_61, u_71_62, u_71_64, u_71_65, u_71_68, u_71_71, u_71_72, u_71_74, u_71_75, u_71_78, u_71_80, u_71_82, u_71_84, u_71_86, u_71_89, u_71_92, u_71_93, u_71_96, u_71_97, u_71_99, u_71_102, u_71_103, u_71_106, u_71_107, u_71_110, u_71_113, u_71_116, u_71_117, uc_1_3_0, uc_1_3_1, uc_1_3_2, uc_1_3_3, uc_1_19_0, uc_1_19_1, uc_1_19_2, uc_1_19_3, uc_2_3_0, uc_2_3_1, uc_2_3_2, uc_2_3_3, uc_2_19_0, uc_2_19_1, uc_2_19_2, uc_2_19_3, uc_5_3_0, uc_5_3_1, uc_5_3_2, uc_5_3_3, uc_5_19_0, uc_5_19_1, uc_5_19_2, uc_5_19_3, uc_9_3_0, uc_9_3_1, uc_9_3_2, uc_9_3_3, uc_9_19_0, uc_9_19_1, uc_9_19_2, uc_9_19_3, uc_11_3_0, uc_11_3_1, uc_11_3_2, uc_11_3_3, uc_11_19_0, uc_11_19_1, uc_11_19_2, uc_11_19_3, uc_72_0_0, uc_72_0_1, uc_72_0_2, uc_72_0_3, hc, if_true, if_false, pm_go_n, pm_go_c, pm_go_r, pm_go_i, pm_oIL, pm_oLL, pm_oAL, pm_oIS, pm_oLS, pm_oAS, pm_oK, pm_oKL, pe_add, pe_sub, pe_mul, pe_div, pe_rem, pe_shr, pe_and, pm_or_ok, pm_oInc, pe_rgb, pe_if, pe_ic, pe_b1, pe_nn, pe_eq, pe_ne, pe_lt, pe_ge, pe_gt, pe_le, pe_go, pe_ri0, pe_ri1, pe_ri2, pe_i2c, pm_oRv, pm_oGf, pm_oLen, pm_oDup, pm_oDu2, pm_oPop, pm_oL2i, pm_oLand, pm_oLus, pm_oLsh, pm_oLcm, lk_0, lk_1, lk_2, lk_3, lk_4, lk_5, lk_6, lk_7, lk_8, lk_9, lk_10, lk_11, lk_12, lk_13, st_0, st_1n, st_1i, st_1r, st_2, st_3, st_4, st_5, st_6, st_7, st_8, st_9, st_10, st_11, st_12, st_13, Option.toList_some, Option.toList_none, List.cons_append, List.nil_append, shC_fd0_0, shC_fd0_1, shC_fd0_2, shC_fd0_3, shC_fd0_4, shC_fd0_5, shC_fd0_6, shC_fd0_7, shC_al1, shC_ld1, shC_st1, shC_al2, shC_ld2, shC_st2, shC_fd3_0, shC_fd3_1, shC_fd3_2, shC_fd3_3, shC_fd3_4, shC_fd3_5, shC_fd4_0, shC_pf4_0, shC_fd4_1, shC_pf4_1, shC_fd4_2, shC_pf4_2, shC_fd4_3, shC_pf4_3, shC_fd4_4, shC_pf4_4, shC_fd4_5, shC_fd4_6, shC_fd4_7, shC_fd4_8, shC_fd4_9, shC_fd4_10, shC_fd4_11, shC_fd4_12, shC_fd4_13, shC_al5, shC_ld5, shC_st5, shC_al6, shC_ld6, shC_st6, shC_al7, shC_ld7, shC_st7, shC_al8, shC_ld8, shC_st8, shC_al9, shC_ld9, shC_st9, shC_al10, shC_ld10, shC_st10, shC_al11, shC_ld11, shC_st11, shC_al12, shC_ld12, shC_st12, shC_al13, shC_ld13, shC_st13, shC_al14, shC_ld14, shC_st14, shC_al15, shC_ld15, shC_st15, shC_al16, shC_ld16, shC_st16, shC_al17, shC_ld17, shC_st17, shC_al18, shC_ld18, shC_st18, shC_fd19_0, shC_fd19_1, shC_fd19_2, shC_fd19_3, shC_fd19_4, shC_fd19_5, shC_fd20_0, shC_pf20_0, shC_fd20_1, shC_pf20_1, shC_fd20_2, shC_pf20_2, shC_fd20_3, shC_pf20_3, shC_fd20_4, shC_pf20_4, shC_fd20_5, shC_fd20_6, shC_fd20_7, shC_fd20_8, shC_fd20_9, shC_fd20_10, shC_fd20_11, shC_fd20_12, shC_fd20_13, shC_al21, shC_ld21, shC_st21, shC_al22, shC_ld22, shC_st22, shC_al23, shC_ld23, shC_st23, shC_al24, shC_ld24, shC_st24, shC_al25, shC_ld25, shC_st25, shC_al26, shC_ld26, shC_st26, shC_al27, shC_ld27, shC_st27, shC_al28, shC_ld28, shC_st28, shC_al29, shC_ld29, shC_st29, shC_al30, shC_ld30, shC_st30, shC_al31, shC_ld31, shC_st31, shC_al32, shC_ld32, shC_st32, shC_al33, shC_ld33, shC_st33, shC_al34, shC_ld34, shC_st34, shC_fd35_0, shC_fd35_1, shC_pf35_1, shC_al36, shC_ld36, shC_st36, shC_fd37_0, shC_fd37_1, shC_pf37_1, shC_fd37_2, shC_pf37_2, shC_fd37_3, shC_pf37_3, shC_al38, shC_ld38, shC_st38, shC_fd39_0, shC_pf39_0, shC_fd39_1, shC_pf39_1, shC_fd39_2, shC_pf39_2, shC_fd39_3, shC_fd39_4, shC_al40, shC_ld40, shC_st40, shC_fd41_0, shC_fd41_1, shC_pf41_1, shC_al42, shC_ld42, shC_st42, shC_fd43_0, shC_pf43_0, shC_fd43_1, shC_pf43_1, shC_fd43_2, shC_pf43_2, shC_fd43_3, shC_fd43_4, shC_al44, shC_ld44, shC_st44, shC_fd45_0, shC_fd45_1, shC_pf45_1, shC_al46, shC_ld46, shC_st46]
  exact l
