/-! the class: forecasts, upsets; what a decided bracket keeps -/
theorem bok_bdec {WS LS : Nat → Int} {F m : Nat} {sd kd : Int} {B : BB} (h : bok B) (hs : sd = 0 ∨ sd = 1) : bok (bdec WS LS F m sd kd B) := fun k hk => by
  show (fup B.2.2 m sd k = -6 ∧ fup B.2.1 m kd k = 0) ∨ fup B.2.2 m sd k = 0 ∨ fup B.2.2 m sd k = 1
  unfold fup
  by_cases q : k = m
  · rw [if_pos q]
    exact Or.inr hs
  · rw [if_neg q, if_neg q]
    exact h k hk
theorem ite01 {c : Prop} [Decidable c] : (if c then (0 : Int) else 1) = 0 ∨ (if c then (0 : Int) else 1) = 1 := by
  by_cases h : c
  · rw [if_pos h]; exact Or.inl rfl
  · rw [if_neg h]; exact Or.inr rfl
theorem bok_bstep {WS LS : Nat → Int} {F : Nat} {R g : Nat → Int} {m : Nat} {B : BB} (h : bok B) (hR : R m = -6 ∨ R m = 0 ∨ R m = 1) : bok (bstep WS LS F R g m B) := by
  unfold bstep
  by_cases c1 : B.2.1 m ≠ 0 ∨ B.1 (2 * m) = -6 ∨ B.1 (2 * m + 1) = -6
  · rw [if_pos c1]; exact h
  · rw [if_neg c1]
    by_cases c2 : B.1 (2 * m) = 16 ∨ B.1 (2 * m + 1) = 16
    · rw [if_pos c2]; exact bok_bdec h ite01
    · rw [if_neg c2]
      by_cases c3 : R m ≠ -6
      · rw [if_pos c3]; exact bok_bdec h (by omega)
      · rw [if_neg c3]
        by_cases c4 : gon g (B.1 (2 * m)) ∨ gon g (B.1 (2 * m + 1))
        · rw [if_pos c4]; exact bok_bdec h ite01
        · rw [if_neg c4]; exact h
theorem bok_bruns {WS LS : Nat → Int} {F : Nat} {R g : Nat → Int} {B : BB} (h : bok B) (hR : res3 R) : ∀ k, k ≤ 31 → bok (bruns WS LS F R g B k) := by
  intro k
  induction k with
  | zero => intro _; exact h
  | succ k ih => intro hk; exact bok_bstep (ih (by omega)) (hR k (by omega))
theorem bok_tstp {WS LS : Nat → Int} {F : Nat} {g : Nat → Int} {n : Int} {rat : Nat → Int} {hero : Int} {m : Nat} {s : BB × (Nat → Int) × Int} (h : bok s.1) (hR : res3 s.2.1) (hm : m < 31) : bok (tstp WS LS F g n rat hero m s).1 := by
  have ok := (tstp_ok (WS := WS) (LS := LS) (F := F) (g := g) (n := n) (rat := rat) (hero := hero) (m := m) (s := (s.1, s.2.1, 0)) (k := 0) hR ⟨Int.le_refl _, Int.le_refl _⟩).1
  unfold tstp at ok ⊢
  by_cases c : bplay n (bstep WS LS F s.2.1 g m s.1) m = true
  · rw [if_pos c] at ok ⊢
    exact bok_bstep (bok_bstep h (hR m hm)) (ok m hm)
  · rw [if_neg c]
    exact bok_bstep h (hR m hm)
theorem bok_trun {WS LS : Nat → Int} {F : Nat} {g : Nat → Int} {n : Int} {rat : Nat → Int} {hero : Int} {s : BB × (Nat → Int) × Int} (h : bok s.1) (h1 : res3 s.2.1) (h2 : s.2.2 = 0) : ∀ k : Nat, k ≤ 31 → bok (trun WS LS F g n rat hero s k).1 := by
  intro k
  induction k with
  | zero => intro _; exact h
  | succ k ih => intro hk; exact bok_tstp (ih (by omega)) (trun_ok h1 h2 k).1 (by omega)
theorem bok_bbeg_L {G : PW} : bok (bbeg_L G) := fun m hm => Or.inl ⟨by show mixf 31 (fun _ => -6) _ m = -6; unfold mixf; rw [if_pos hm], by show mixf 31 (fun _ => 0) _ m = 0; unfold mixf; rw [if_pos hm]⟩
theorem bok_setl_L {G : PW} (h : sok_L G) : bok (pm_rows (setl_L G) 3) := by
  have e : pm_rows (setl_L G) 3 = bruns (G 8) (G 9) (2 * G 4 2 - 1).toNat (G 14) (G 15) (bbeg_L G) (2 * G 4 2 - 1).toNat := by
    unfold setl_L
    show (pm_b3 G 3 _ 16, pm_b3 G 3 _ 17, pm_b3 G 3 _ 18) = _
    rw [pm_b3_1, pm_b3_2, pm_b3_3]
  rw [e]
  have := h.2.1
  exact bok_bruns bok_bbeg_L h.1 _ (by omega)
theorem bok_bbeg_T {G : PW} : bok (bbeg_T G) := fun m hm => Or.inl ⟨by show mixf 31 (fun _ => -6) _ m = -6; unfold mixf; rw [if_pos hm], by show mixf 31 (fun _ => 0) _ m = 0; unfold mixf; rw [if_pos hm]⟩
theorem bok_setl_T {G : PW} (h : sok_T G) : bok (pm_rows (setl_T G) 19) := by
  have e : pm_rows (setl_T G) 19 = bruns (G 24) (G 25) (2 * G 20 2 - 1).toNat (G 30) (G 31) (bbeg_T G) (2 * G 20 2 - 1).toNat := by
    unfold setl_T
    show (pm_b3 G 19 _ 32, pm_b3 G 19 _ 33, pm_b3 G 19 _ 34) = _
    rw [pm_b3_1, pm_b3_2, pm_b3_3]
  rw [e]
  have := h.2.1
  exact bok_bruns bok_bbeg_T h.1 _ (by omega)
/-- the trial's end -/
def tend (G : PW) (F n : Nat) (hero : Int) : BB × (Nat → Int) × Int := trun (trial0 G 24) (trial0 G 25) F (trial0 G 31) n (trial0 G 1) hero (pm_rows (trial0 G) 19, trial0 G 30, 0) F
def bch (F : Nat) (B : BB) : Int := if bw B (F - 1) = -6 then (if B.2.2 (F - 2) = 0 then bw B (F - 2) else -6) else bw B (F - 1)
/-- what the trials need -/
def tri_ok (G : PW) (F n : Nat) : Prop := sok_T (taken G) ∧ G 20 4 = (F : Int) ∧ (F : Int) = 2 * G 20 2 - 1 ∧ G 20 0 = (n : Int) ∧ n ≤ 16 ∧ ∀ x, x < 16 → -100000 ≤ G 1 x ∧ G 1 x ≤ 100000
theorem c_playTrial' {F n : Nat} {hero : Int} {G : PW} (h : tri_ok G F n) : pm_ca pm_sC 71 [.inr (.inr 0), .inl hero] G = some (some (.inl (tend G F n hero).2.2), tmem (trial0 G) (tend G F n hero).1 (tend G F n hero).2.1) := c_playTrial h.1 h.2.1 h.2.2.2.1 h.2.2.2.2.1 h.2.2.2.2.2
theorem trial0_30 {G : PW} : trial0 G 30 = taken G 30 := by
  unfold trial0
  rw [setl_ne_T (by decide) (by decide) (by decide)]
theorem trial0_20 {G : PW} : trial0 G 20 = G 20 := by
  unfold trial0 taken
  rw [setl_ne_T (by decide) (by decide) (by decide), row_ne (by decide), row_ne (by decide)]
theorem c_forecast {F n : Nat} {G : PW} (h : tri_ok G F n) : pm_ca pm_sC 61 [.inr (.inr 0)] G = some (some (.inl (bch F (tend G F n (-6)).1)), tmem (trial0 G) (tend G F n (-6)).1 (tend G F n (-6)).2.1) := by
  have h1 := c_playTrial' (hero := -6) h
  obtain ⟨hok, hF, hF2, hn, hn2, hr⟩ := h
  have hz := hok.2.1
  have k20 : taken G 20 = G 20 := by
    unfold taken
    rw [row_ne (by decide), row_ne (by decide)]
  rw [k20] at hz
  have hb : bok (tend G F n (-6)).1 := bok_trun (bok_setl_T hok) (by show res3 (trial0 G 30); rw [trial0_30]; exact hok.1) rfl F (by omega)
  have e20 : tmem (trial0 G) (tend G F n (-6)).1 (tend G F n (-6)).2.1 20 = G 20 := by
    rw [tmem_ne (by decide) (by decide) (by decide) (by decide), trial0_20]
  have h2 := c_champion_T (F := F) (G := tmem (trial0 G) (tend G F n (-6)).1 (tend G F n (-6)).2.1) (by rw [e20]; exact hz) (by rw [e20]; exact hF2) (by rw [tmem_rows]; exact hb)
  rw [tmem_rows, tmem_34] at h2
  simp (disch := first | assumption | omega | (simp (disch := omega) only [stv_ne, upd_ne])) only [ue_61, u_61_0, u_61_1, u_61_3, u_61_6, u_61_7, u_61_8, u_61_11, u_61_14, uc_15_3_0, uc_15_3_1, uc_15_3_2, uc_15_3_3, uc_15_19_0, uc_15_19_1, uc_15_19_2, uc_15_19_3, uc_71_0_0, uc_71_0_1, uc_71_0_2, uc_71_0_3, h1, h2, if_true, if_false, pm_go_n, pm_go_c, pm_go_r, pm_go_i, pm_oIL, pm_oLL, pm_oAL, pm_oIS, pm_oLS, pm_oAS, pm_oK, pm_oKL, pe_add, pe_sub, pe_mul, pe_div, pe_rem, pe_shr, pe_and, pm_or_ok, pm_oInc, pe_rgb, pe_if, pe_ic, pe_b1, pe_nn, pe_eq, pe_ne, pe_lt, pe_ge, pe_gt, pe_le, pe_go, pe_ri0, pe_ri1, pe_ri2, pe_i2c, pm_oRv, pm_oGf, pm_oLen, pm_oDup, pm_oDu2, pm_oPop, pm_oL2i, pm_oLand, pm_oLus, pm_oLsh, pm_oLcm, lk_0, lk_1, lk_2, lk_3, lk_4, lk_5, lk_6, lk_7, lk_8, lk_9, lk_10, lk_11, lk_12, lk_13, st_0, st_1n, st_1i, st_1r, st_2, st_3, st_4, st_5, st_6, st_7, st_8, st_9, st_10, st_11, st_12, st_13, Option.toList_some, Option.toList_none, List.cons_append, List.nil_append, shC_fd0_0, shC_fd0_1, shC_fd0_2, shC_fd0_3, shC_fd0_4, shC_fd0_5, shC_fd0_6, shC_fd0_7, shC_al1, shC_ld1, shC_st1, shC_al2, shC_ld2, shC_st2, shC_fd3_0, shC_fd3_1, shC_fd3_2, shC_fd3_3, shC_fd3_4, shC_fd3_5, shC_fd4_0, shC_pf4_0, shC_fd4_1, shC_pf4_1, shC_fd4_2, shC_pf4_2, shC_fd4_3, shC_pf4_3, shC_fd4_4, shC_pf4_4, shC_fd4_5, shC_fd4_6, shC_fd4_7, shC_fd4_8, shC_fd4_9, shC_fd4_10, shC_fd4_11, shC_fd4_12, shC_fd4_13, shC_al5, shC_ld5, shC_st5, shC_al6, shC_ld6, shC_st6, shC_al7, shC_ld7, shC_st7, shC_al8, shC_ld8, shC_st8, shC_al9, shC_ld9, shC_st9, shC_al10, shC_ld10, shC_st10, shC_al11, shC_ld11, shC_st11, shC_al12, shC_ld12, shC_st12, shC_al13, shC_ld13, shC_st13, shC_al14, shC_ld14, shC_st14, shC_al15, shC_ld15, shC_st15, shC_al16, shC_ld16, shC_st16, shC_al17, shC_ld17, shC_st17, shC_al18, shC_ld18, shC_st18, shC_fd19_0, shC_fd19_1, shC_fd19_2, shC_fd19_3, shC_fd19_4, shC_fd19_5, shC_fd20_0, shC_pf20_0, shC_fd20_1, shC_pf20_1, shC_fd20_2, shC_pf20_2, shC_fd20_3, shC_pf20_3, shC_fd20_4, shC_pf20_4, shC_fd20_5, shC_fd20_6, shC_fd20_7, shC_fd20_8, shC_fd20_9, shC_fd20_10, shC_fd20_11, shC_fd20_12, shC_fd20_13, shC_al21, shC_ld21, shC_st21, shC_al22, shC_ld22, shC_st22, shC_al23, shC_ld23, shC_st23, shC_al24, shC_ld24, shC_st24, shC_al25, shC_ld25, shC_st25, shC_al26, shC_ld26, shC_st26, shC_al27, shC_ld27, shC_st27, shC_al28, shC_ld28, shC_st28, shC_al29, shC_ld29, shC_st29, shC_al30, shC_ld30, shC_st30, shC_al31, shC_ld31, shC_st31, shC_al32, shC_ld32, shC_st32, shC_al33, shC_ld33, shC_st33, shC_al34, shC_ld34, shC_st34, shC_fd35_0, shC_fd35_1, shC_pf35_1, shC_al36, shC_ld36, shC_st36, shC_fd37_0, shC_fd37_1, shC_pf37_1, shC_fd37_2, shC_pf37_2, shC_fd37_3, shC_pf37_3, shC_al38, shC_ld38, shC_st38, shC_fd39_0, shC_pf39_0, shC_fd39_1, shC_pf39_1, shC_fd39_2, shC_pf39_2, shC_fd39_3, shC_fd39_4, shC_al40, shC_ld40, shC_st40, shC_fd41_0, shC_fd41_1, shC_pf41_1, shC_al42, shC_ld42, shC_st42, shC_fd43_0, shC_pf43_0, shC_fd43_1, shC_pf43_1, shC_fd43_2, shC_pf43_2, shC_fd43_3, shC_fd43_4, shC_al44, shC_ld44, shC_st44, shC_fd45_0, shC_fd45_1, shC_pf45_1, shC_al46, shC_ld46, shC_st46]
  rfl