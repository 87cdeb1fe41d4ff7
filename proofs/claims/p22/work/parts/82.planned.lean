/-! isPlanned() and isSeeded(): closed runs of methods that touch no memory of their own, over the calls' answers -/
def nm_ex (S : PS) (O : Nat → List PV → Option Int) (k : Nat) : Nat → Nat → PL → List PV → Option (Option PV)
  | 0, _, _, _ => none
  | n + 1, pc, P, st => match pm_ins k pc with
    | none => none
    | some (i, len) => bif pw_ok S k i st [] && (pw_wr k i st).isNone then (match pm_stp S k pc i len P st (pw_W []) with
      | none => none
      | some (.inl (pc', P', st', _)) => nm_ex S O k n pc' P' st'
      | some (.inr (.inl (k', as, pc', P', st'))) => (match O k' as with
        | none => none
        | some v => nm_ex S O k n pc' P' (.inl v :: st'))
      | some (.inr (.inr v)) => some v) else none
theorem nm_sound (S : PS) (O : Nat → List PV → Option Int) (k : Nat) (G : PW) (hO : ∀ k' as v, O k' as = some v → pm_ca S k' as G = some (some (.inl v), G)) : ∀ (n pc : Nat) (P : PL) (st : List PV) (v : Option PV), nm_ex S O k n pc P st = some v → pm_dn S k pc P st G = some (v, G) := by
  intro n
  induction n with
  | zero => intro pc P st v h; cases h
  | succ n ih =>
    intro pc P st v h
    simp only [nm_ex] at h
    cases hi : pm_ins k pc with
    | none => rw [hi] at h; cases h
    | some q =>
      obtain ⟨i, len⟩ := q
      rw [hi] at h
      dsimp only at h
      obtain ⟨hc, h⟩ := pm_bif h rfl
      obtain ⟨hok, hw⟩ := pm_and2 hc
      cases ha : pm_stp S k pc i len P st (pw_W []) with
      | none => rw [ha] at h; cases h
      | some a =>
        have hs := pw_step (M := []) (G := G) (fun r j y hy => by cases r <;> cases hy) hok ha
        rw [ha] at h
        rw [pm_dn_eq hi]
        rcases a with ⟨pc', P', st', W'⟩ | ⟨k', as, pc', P', st'⟩ | v'
        · obtain ⟨G', e1, -, e3, -⟩ := hs
          have eG : G' = G := by
            funext r j
            refine e3 r j ?_
            unfold pw_nx
            cases hw2 : pw_wr k i st with
            | none => cases r <;> rfl
            | some q => rw [hw2] at hw; cases hw
          rw [e1, eG]
          exact ih _ _ _ _ h
        · have e1 : pm_stp S k pc i len P st G = some (.inr (.inl (k', as, pc', P', st'))) := hs
          dsimp only at h
          cases ho : O k' as with
          | none => rw [ho] at h; cases h
          | some v' =>
            rw [ho] at h
            rw [e1]
            have := hO k' as v' ho
            rw [pm_go_c, this]
            exact ih _ _ _ _ h
        · have e1 : pm_stp S k pc i len P st G = some (.inr (.inr v')) := hs
          cases h
          rw [e1]
          rfl
/-! numberOf() -/
def nfr (z : Nat) (b r i : Int) : Nat → Nat → Int
  | 0, _ => -1
  | f + 1, m => if tPT z m = b ∧ tr (tz_round z) m = r ∧ tr (tz_index z) m = i then (m : Int) else nfr z b r i f (m + 1)
section NUM
variable {G : PW} {n x L : Nat}
theorem CI_m (h : CI G n x L) {m : Nat} (hm : m < tF (tz n)) (w : Int) : pm_ca pm_sC 57 [.inr (.inr 0), .inl (m : Int), .inl w] G = some (some (.inl (cmatch G m w)), G) := by
  have := c_match (m := (m : Int)) (w := w) (CI_ok h)
  rw [if_pos ⟨by omega, by omega⟩, Int.toNat_natCast] at this
  exact this
theorem CI_cnt (h : CI G n x L) (w : Int) : pm_ca pm_sC 60 [.inr (.inr 0), .inl w] G = some (some (.inl (ccount G (tF (tz n)) n w)), G) := c_count (CI_ok h)
set_option maxHeartbeats 4000000 in
theorem c_numberOf (h : CI G n x L) (b r i : Int) : pm_ca pm_sC 83 [.inr (.inr 0), .inl b, .inl r, .inl i] G = some (some (.inl (nfr (tz n) b r i (tF (tz n)) 0)), G) := by
  obtain ⟨hc, g1, g2, g3, g4, g5⟩ := tz_facts h.1 h.2.1
  have c2 := CI_cnt h 2
  rw [show ccount G (tF (tz n)) n 2 = G 4 4 from rfl, (CI_ok h).2.2.1] at c2
  have loop : ∀ f m : Nat, m + f = tF (tz n) → pm_dn pm_sC 83 3 [some (.inr (.inr 0)), some (.inl b), some (.inl r), some (.inl i), some (.inl (m : Int))] [] G = some (some (.inl (nfr (tz n) b r i f m)), G) := by
    intro f
    induction f with
    | zero =>
      intro m hm
      have e : (tF (tz n) : Int) ≤ (m : Int) := by omega
      rw [u_83_3]
      simp (maxSteps := 4000000) (disch := first | assumption | omega | (simp (disch := omega) only [stv_ne, upd_ne])) only [ue_83, u_83_0, u_83_1, u_83_5, u_83_6, u_83_7, u_83_10, u_83_13, u_83_14, u_83_16, u_83_17, u_83_20, u_83_21, u_83_24, u_83_25, u_83_27, u_83_29, u_83_32, u_83_33, u_83_36, u_83_37, u_83_39, u_83_41, u_83_44, u_83_45, u_83_48, u_83_50, u_83_51, u_83_54, u_83_57, u_83_58, uc_57_0_0, uc_57_0_1, uc_57_0_2, uc_57_0_3, uc_60_0_0, uc_60_0_1, uc_60_0_2, uc_60_0_3, c2, e, pe_10, not_true, not_false_eq_true, if_true, if_false, pm_go_n, pm_go_c, pm_go_r, pm_go_i, pm_oIL, pm_oLL, pm_oAL, pm_oIS, pm_oLS, pm_oAS, pm_oK, pm_oKL, pe_add, pe_sub, pe_mul, pe_div, pe_rem, pe_shr, pe_and, pm_or_ok, pm_oInc, pe_rgb, pe_if, pe_ic, pe_b1, pe_nn, pe_eq, pe_ne, pe_lt, pe_ge, pe_gt, pe_le, pe_go, pe_ri0, pe_ri1, pe_ri2, pe_i2c, pm_oRv, pm_oGf, pm_oLen, pm_oDup, pm_oDu2, pm_oPop, pm_oL2i, pm_oLand, pm_oLus, pm_oLsh, pm_oLcm, lk_0, lk_1, lk_2, lk_3, lk_4, lk_5, lk_6, lk_7, lk_8, lk_9, lk_10, lk_11, lk_12, lk_13, st_0, st_1n, st_1i, st_1r, st_2, st_3, st_4, st_5, st_6, st_7, st_8, st_9, st_10, st_11, st_12, st_13, Option.toList_some, Option.toList_none, List.cons_append, List.nil_append, shC_fd0_0, shC_fd0_1, shC_fd0_2, shC_fd0_3, shC_fd0_4, shC_fd0_5, shC_fd0_6, shC_fd0_7, shC_al1, shC_ld1, shC_st1, shC_al2, shC_ld2, shC_st2, shC_fd3_0, shC_fd3_1, shC_fd3_2, shC_fd3_3, shC_fd3_4, shC_fd3_5, shC_fd4_0, shC_pf4_0, shC_fd4_1, shC_pf4_1, shC_fd4_2, shC_pf4_2, shC_fd4_3, shC_pf4_3, shC_fd4_4, shC_pf4_4, shC_fd4_5, shC_fd4_6, shC_fd4_7, shC_fd4_8, shC_fd4_9, shC_fd4_10, shC_fd4_11, shC_fd4_12, shC_fd4_13, shC_al5, shC_ld5, shC_st5, shC_al6, shC_ld6, shC_st6, shC_al7, shC_ld7, shC_st7, shC_al8, shC_ld8, shC_st8, shC_al9, shC_ld9, shC_st9, shC_al10, shC_ld10, shC_st10, shC_al11, shC_ld11, shC_st11, shC_al12, shC_ld12, shC_st12, shC_al13, shC_ld13, shC_st13, shC_al14, shC_ld14, shC_st14, shC_al15, shC_ld15, shC_st15, shC_al16, shC_ld16, shC_st16, shC_al17, shC_ld17, shC_st17, shC_al18, shC_ld18, shC_st18, shC_fd19_0, shC_fd19_1, shC_fd19_2, shC_fd19_3, shC_fd19_4, shC_fd19_5, shC_fd20_0, shC_pf20_0, shC_fd20_1, shC_pf20_1, shC_fd20_2, shC_pf20_2, shC_fd20_3, shC_pf20_3, shC_fd20_4, shC_pf20_4, shC_fd20_5, shC_fd20_6, shC_fd20_7, shC_fd20_8, shC_fd20_9, shC_fd20_10, shC_fd20_11, shC_fd20_12, shC_fd20_13, shC_al21, shC_ld21, shC_st21, shC_al22, shC_ld22, shC_st22, shC_al23, shC_ld23, shC_st23, shC_al24, shC_ld24, shC_st24, shC_al25, shC_ld25, shC_st25, shC_al26, shC_ld26, shC_st26, shC_al27, shC_ld27, shC_st27, shC_al28, shC_ld28, shC_st28, shC_al29, shC_ld29, shC_st29, shC_al30, shC_ld30, shC_st30, shC_al31, shC_ld31, shC_st31, shC_al32, shC_ld32, shC_st32, shC_al33, shC_ld33, shC_st33, shC_al34, shC_ld34, shC_st34, shC_fd35_0, shC_fd35_1, shC_pf35_1, shC_al36, shC_ld36, shC_st36, shC_fd37_0, shC_fd37_1, shC_pf37_1, shC_fd37_2, shC_pf37_2, shC_fd37_3, shC_pf37_3, shC_al38, shC_ld38, shC_st38, shC_fd39_0, shC_pf39_0, shC_fd39_1, shC_pf39_1, shC_fd39_2, shC_pf39_2, shC_fd39_3, shC_fd39_4, shC_al40, shC_ld40, shC_st40, shC_fd41_0, shC_fd41_1, shC_pf41_1, shC_al42, shC_ld42, shC_st42, shC_fd43_0, shC_pf43_0, shC_fd43_1, shC_pf43_1, shC_fd43_2, shC_pf43_2, shC_fd43_3, shC_fd43_4, shC_al44, shC_ld44, shC_st44, shC_fd45_0, shC_fd45_1, shC_pf45_1, shC_al46, shC_ld46, shC_st46, ↓reduceIte, ite_self, Int.reduceLT, Int.reduceLE, Int.reduceEq, Int.reduceNeg]
      rfl
    | succ f ih =>
      intro m hm
      have hm2 : m < tF (tz n) := by omega
      have a := h.2.2.2.2.1.2.1 m hm2
      have e : ¬ (tF (tz n) : Int) ≤ (m : Int) := by omega
      have m5 : pm_ca pm_sC 57 [.inr (.inr 0), .inl (m : Int), .inl 5] G = some (some (.inl (tPT (tz n) m)), G) := by rw [CI_m h hm2, ← a.1]; rfl
      have m6 : pm_ca pm_sC 57 [.inr (.inr 0), .inl (m : Int), .inl 6] G = some (some (.inl (tr (tz_round (tz n)) m)), G) := by rw [CI_m h hm2, ← a.2.1]; rfl
      have m7 : pm_ca pm_sC 57 [.inr (.inr 0), .inl (m : Int), .inl 7] G = some (some (.inl (tr (tz_index (tz n)) m)), G) := by rw [CI_m h hm2, ← a.2.2.1]; rfl
      have ih := ih (m + 1) (by omega)
      rw [show ((m + 1 : Nat) : Int) = (m : Int) + 1 by omega] at ih
      rw [u_83_3]
      show _ = (some (some (.inl (if tPT (tz n) m = b ∧ tr (tz_round (tz n)) m = r ∧ tr (tz_index (tz n)) m = i then (m : Int) else nfr (tz n) b r i f (m + 1))), G) : Option PR)
      generalize tPT (tz n) m = v5 at m5 ⊢
      generalize tr (tz_round (tz n)) m = v6 at m6 ⊢
      generalize tr (tz_index (tz n)) m = v7 at m7 ⊢
      by_cases d5 : v5 = b
      · by_cases d6 : v6 = r
        · by_cases d7 : v7 = i
          · rw [if_pos ⟨d5, d6, d7⟩]
            simp (maxSteps := 4000000) (disch := first | assumption | omega | (simp (disch := omega) only [stv_ne, upd_ne])) only [ue_83, u_83_0, u_83_1, u_83_5, u_83_6, u_83_7, u_83_10, u_83_13, u_83_14, u_83_16, u_83_17, u_83_20, u_83_21, u_83_24, u_83_25, u_83_27, u_83_29, u_83_32, u_83_33, u_83_36, u_83_37, u_83_39, u_83_41, u_83_44, u_83_45, u_83_48, u_83_50, u_83_51, u_83_54, u_83_57, u_83_58, uc_57_0_0, uc_57_0_1, uc_57_0_2, uc_57_0_3, uc_60_0_0, uc_60_0_1, uc_60_0_2, uc_60_0_3, c2, e, m5, m6, m7, d5, d6, d7, pe_10, not_true, not_false_eq_true, if_true, if_false, pm_go_n, pm_go_c, pm_go_r, pm_go_i, pm_oIL, pm_oLL, pm_oAL, pm_oIS, pm_oLS, pm_oAS, pm_oK, pm_oKL, pe_add, pe_sub, pe_mul, pe_div, pe_rem, pe_shr, pe_and, pm_or_ok, pm_oInc, pe_rgb, pe_if, pe_ic, pe_b1, pe_nn, pe_eq, pe_ne, pe_lt, pe_ge, pe_gt, pe_le, pe_go, pe_ri0, pe_ri1, pe_ri2, pe_i2c, pm_oRv, pm_oGf, pm_oLen, pm_oDup, pm_oDu2, pm_oPop, pm_oL2i, pm_oLand, pm_oLus, pm_oLsh, pm_oLcm, lk_0, lk_1, lk_2, lk_3, lk_4, lk_5, lk_6, lk_7, lk_8, lk_9, lk_10, lk_11, lk_12, lk_13, st_0, st_1n, st_1i, st_1r, st_2, st_3, st_4, st_5, st_6, st_7, st_8, st_9, st_10, st_11, st_12, st_13, Option.toList_some, Option.toList_none, List.cons_append, List.nil_append, shC_fd0_0, shC_fd0_1, shC_fd0_2, shC_fd0_3, shC_fd0_4, shC_fd0_5, shC_fd0_6, shC_fd0_7, shC_al1, shC_ld1, shC_st1, shC_al2, shC_ld2, shC_st2, shC_fd3_0, shC_fd3_1, shC_fd3_2, shC_fd3_3, shC_fd3_4, shC_fd3_5, shC_fd4_0, shC_pf4_0, shC_fd4_1, shC_pf4_1, shC_fd4_2, shC_pf4_2, shC_fd4_3, shC_pf4_3, shC_fd4_4, shC_pf4_4, shC_fd4_5, shC_fd4_6, shC_fd4_7, shC_fd4_8, shC_fd4_9, shC_fd4_10, shC_fd4_11, shC_fd4_12, shC_fd4_13, shC_al5, shC_ld5, shC_st5, shC_al6, shC_ld6, shC_st6, shC_al7, shC_ld7, shC_st7, shC_al8, shC_ld8, shC_st8, shC_al9, shC_ld9, shC_st9, shC_al10, shC_ld10, shC_st10, shC_al11, shC_ld11, shC_st11, shC_al12, shC_ld12, shC_st12, shC_al13, shC_ld13, shC_st13, shC_al14, shC_ld14, shC_st14, shC_al15, shC_ld15, shC_st15, shC_al16, shC_ld16, shC_st16, shC_al17, shC_ld17, shC_st17, shC_al18, shC_ld18, shC_st18, shC_fd19_0, shC_fd19_1, shC_fd19_2, shC_fd19_3, shC_fd19_4, shC_fd19_5, shC_fd20_0, shC_pf20_0, shC_fd20_1, shC_pf20_1, shC_fd20_2, shC_pf20_2, shC_fd20_3, shC_pf20_3, shC_fd20_4, shC_pf20_4, shC_fd20_5, shC_fd20_6, shC_fd20_7, shC_fd20_8, shC_fd20_9, shC_fd20_10, shC_fd20_11, shC_fd20_12, shC_fd20_13, shC_al21, shC_ld21, shC_st21, shC_al22, shC_ld22, shC_st22, shC_al23, shC_ld23, shC_st23, shC_al24, shC_ld24, shC_st24, shC_al25, shC_ld25, shC_st25, shC_al26, shC_ld26, shC_st26, shC_al27, shC_ld27, shC_st27, shC_al28, shC_ld28, shC_st28, shC_al29, shC_ld29, shC_st29, shC_al30, shC_ld30, shC_st30, shC_al31, shC_ld31, shC_st31, shC_al32, shC_ld32, shC_st32, shC_al33, shC_ld33, shC_st33, shC_al34, shC_ld34, shC_st34, shC_fd35_0, shC_fd35_1, shC_pf35_1, shC_al36, shC_ld36, shC_st36, shC_fd37_0, shC_fd37_1, shC_pf37_1, shC_fd37_2, shC_pf37_2, shC_fd37_3, shC_pf37_3, shC_al38, shC_ld38, shC_st38, shC_fd39_0, shC_pf39_0, shC_fd39_1, shC_pf39_1, shC_fd39_2, shC_pf39_2, shC_fd39_3, shC_fd39_4, shC_al40, shC_ld40, shC_st40, shC_fd41_0, shC_fd41_1, shC_pf41_1, shC_al42, shC_ld42, shC_st42, shC_fd43_0, shC_pf43_0, shC_fd43_1, shC_pf43_1, shC_fd43_2, shC_pf43_2, shC_fd43_3, shC_fd43_4, shC_al44, shC_ld44, shC_st44, shC_fd45_0, shC_fd45_1, shC_pf45_1, shC_al46, shC_ld46, shC_st46, ↓reduceIte, ite_self, Int.reduceLT, Int.reduceLE, Int.reduceEq, Int.reduceNeg]
          · rw [if_neg (fun y => d7 y.2.2)]
            simp (maxSteps := 4000000) (disch := first | assumption | omega | (simp (disch := omega) only [stv_ne, upd_ne])) only [ue_83, u_83_0, u_83_1, u_83_5, u_83_6, u_83_7, u_83_10, u_83_13, u_83_14, u_83_16, u_83_17, u_83_20, u_83_21, u_83_24, u_83_25, u_83_27, u_83_29, u_83_32, u_83_33, u_83_36, u_83_37, u_83_39, u_83_41, u_83_44, u_83_45, u_83_48, u_83_50, u_83_51, u_83_54, u_83_57, u_83_58, uc_57_0_0, uc_57_0_1, uc_57_0_2, uc_57_0_3, uc_60_0_0, uc_60_0_1, uc_60_0_2, uc_60_0_3, c2, e, m5, m6, m7, d5, d6, d7, ih, pe_10, not_true, not_false_eq_true, if_true, if_false, pm_go_n, pm_go_c, pm_go_r, pm_go_i, pm_oIL, pm_oLL, pm_oAL, pm_oIS, pm_oLS, pm_oAS, pm_oK, pm_oKL, pe_add, pe_sub, pe_mul, pe_div, pe_rem, pe_shr, pe_and, pm_or_ok, pm_oInc, pe_rgb, pe_if, pe_ic, pe_b1, pe_nn, pe_eq, pe_ne, pe_lt, pe_ge, pe_gt, pe_le, pe_go, pe_ri0, pe_ri1, pe_ri2, pe_i2c, pm_oRv, pm_oGf, pm_oLen, pm_oDup, pm_oDu2, pm_oPop, pm_oL2i, pm_oLand, pm_oLus, pm_oLsh, pm_oLcm, lk_0, lk_1, lk_2, lk_3, lk_4, lk_5, lk_6, lk_7, lk_8, lk_9, lk_10, lk_11, lk_12, lk_13, st_0, st_1n, st_1i, st_1r, st_2, st_3, st_4, st_5, st_6, st_7, st_8, st_9, st_10, st_11, st_12, st_13, Option.toList_some, Option.toList_none, List.cons_append, List.nil_append, shC_fd0_0, shC_fd0_1, shC_fd0_2, shC_fd0_3, shC_fd0_4, shC_fd0_5, shC_fd0_6, shC_fd0_7, shC_al1, shC_ld1, shC_st1, shC_al2, shC_ld2, shC_st2, shC_fd3_0, shC_fd3_1, shC_fd3_2, shC_fd3_3, shC_fd3_4, shC_fd3_5, shC_fd4_0, shC_pf4_0, shC_fd4_1, shC_pf4_1, shC_fd4_2, shC_pf4_2, shC_fd4_3, shC_pf4_3, shC_fd4_4, shC_pf4_4, shC_fd4_5, shC_fd4_6, shC_fd4_7, shC_fd4_8, shC_fd4_9, shC_fd4_10, shC_fd4_11, shC_fd4_12, shC_fd4_13, shC_al5, shC_ld5, shC_st5, shC_al6, shC_ld6, shC_st6, shC_al7, shC_ld7, shC_st7, shC_al8, shC_ld8, shC_st8, shC_al9, shC_ld9, shC_st9, shC_al10, shC_ld10, shC_st10, shC_al11, shC_ld11, shC_st11, shC_al12, shC_ld12, shC_st12, shC_al13, shC_ld13, shC_st13, shC_al14, shC_ld14, shC_st14, shC_al15, shC_ld15, shC_st15, shC_al16, shC_ld16, shC_st16, shC_al17, shC_ld17, shC_st17, shC_al18, shC_ld18, shC_st18, shC_fd19_0, shC_fd19_1, shC_fd19_2, shC_fd19_3, shC_fd19_4, shC_fd19_5, shC_fd20_0, shC_pf20_0, shC_fd20_1, shC_pf20_1, shC_fd20_2, shC_pf20_2, shC_fd20_3, shC_pf20_3, shC_fd20_4, shC_pf20_4, shC_fd20_5, shC_fd20_6, shC_fd20_7, shC_fd20_8, shC_fd20_9, shC_fd20_10, shC_fd20_11, shC_fd20_12, shC_fd20_13, shC_al21, shC_ld21, shC_st21, shC_al22, shC_ld22, shC_st22, shC_al23, shC_ld23, shC_st23, shC_al24, shC_ld24, shC_st24, shC_al25, shC_ld25, shC_st25, shC_al26, shC_ld26, shC_st26, shC_al27, shC_ld27, shC_st27, shC_al28, shC_ld28, shC_st28, shC_al29, shC_ld29, shC_st29, shC_al30, shC_ld30, shC_st30, shC_al31, shC_ld31, shC_st31, shC_al32, shC_ld32, shC_st32, shC_al33, shC_ld33, shC_st33, shC_al34, shC_ld34, shC_st34, shC_fd35_0, shC_fd35_1, shC_pf35_1, shC_al36, shC_ld36, shC_st36, shC_fd37_0, shC_fd37_1, shC_pf37_1, shC_fd37_2, shC_pf37_2, shC_fd37_3, shC_pf37_3, shC_al38, shC_ld38, shC_st38, shC_fd39_0, shC_pf39_0, shC_fd39_1, shC_pf39_1, shC_fd39_2, shC_pf39_2, shC_fd39_3, shC_fd39_4, shC_al40, shC_ld40, shC_st40, shC_fd41_0, shC_fd41_1, shC_pf41_1, shC_al42, shC_ld42, shC_st42, shC_fd43_0, shC_pf43_0, shC_fd43_1, shC_pf43_1, shC_fd43_2, shC_pf43_2, shC_fd43_3, shC_fd43_4, shC_al44, shC_ld44, shC_st44, shC_fd45_0, shC_fd45_1, shC_pf45_1, shC_al46, shC_ld46, shC_st46, ↓reduceIte, ite_self, Int.reduceLT, Int.reduceLE, Int.reduceEq, Int.reduceNeg]
        · rw [if_neg (fun y => d6 y.2.1)]
          simp (maxSteps := 4000000) (disch := first | assumption | omega | (simp (disch := omega) only [stv_ne, upd_ne])) only [ue_83, u_83_0, u_83_1, u_83_5, u_83_6, u_83_7, u_83_10, u_83_13, u_83_14, u_83_16, u_83_17, u_83_20, u_83_21, u_83_24, u_83_25, u_83_27, u_83_29, u_83_32, u_83_33, u_83_36, u_83_37, u_83_39, u_83_41, u_83_44, u_83_45, u_83_48, u_83_50, u_83_51, u_83_54, u_83_57, u_83_58, uc_57_0_0, uc_57_0_1, uc_57_0_2, uc_57_0_3, uc_60_0_0, uc_60_0_1, uc_60_0_2, uc_60_0_3, c2, e, m5, m6, d5, d6, ih, pe_10, not_true, not_false_eq_true, if_true, if_false, pm_go_n, pm_go_c, pm_go_r, pm_go_i, pm_oIL, pm_oLL, pm_oAL, pm_oIS, pm_oLS, pm_oAS, pm_oK, pm_oKL, pe_add, pe_sub, pe_mul, pe_div, pe_rem, pe_shr, pe_and, pm_or_ok, pm_oInc, pe_rgb, pe_if, pe_ic, pe_b1, pe_nn, pe_eq, pe_ne, pe_lt, pe_ge, pe_gt, pe_le, pe_go, pe_ri0, pe_ri1, pe_ri2, pe_i2c, pm_oRv, pm_oGf, pm_oLen, pm_oDup, pm_oDu2, pm_oPop, pm_oL2i, pm_oLand, pm_oLus, pm_oLsh, pm_oLcm, lk_0, lk_1, lk_2, lk_3, lk_4, lk_5, lk_6, lk_7, lk_8, lk_9, lk_10, lk_11, lk_12, lk_13, st_0, st_1n, st_1i, st_1r, st_2, st_3, st_4, st_5, st_6, st_7, st_8, st_9, st_10, st_11, st_12, st_13, Option.toList_some, Option.toList_none, List.cons_append, List.nil_append, shC_fd0_0, shC_fd0_1, shC_fd0_2, shC_fd0_3, shC_fd0_4, shC_fd0_5, shC_fd0_6, shC_fd0_7, shC_al1, shC_ld1, shC_st1, shC_al2, shC_ld2, shC_st2, shC_fd3_0, shC_fd3_1, shC_fd3_2, shC_fd3_3, shC_fd3_4, shC_fd3_5, shC_fd4_0, shC_pf4_0, shC_fd4_1, shC_pf4_1, shC_fd4_2, shC_pf4_2, shC_fd4_3, shC_pf4_3, shC_fd4_4, shC_pf4_4, shC_fd4_5, shC_fd4_6, shC_fd4_7, shC_fd4_8, shC_fd4_9, shC_fd4_10, shC_fd4_11, shC_fd4_12, shC_fd4_13, shC_al5, shC_ld5, shC_st5, shC_al6, shC_ld6, shC_st6, shC_al7, shC_ld7, shC_st7, shC_al8, shC_ld8, shC_st8, shC_al9, shC_ld9, shC_st9, shC_al10, shC_ld10, shC_st10, shC_al11, shC_ld11, shC_st11, shC_al12, shC_ld12, shC_st12, shC_al13, shC_ld13, shC_st13, shC_al14, shC_ld14, shC_st14, shC_al15, shC_ld15, shC_st15, shC_al16, shC_ld16, shC_st16, shC_al17, shC_ld17, shC_st17, shC_al18, shC_ld18, shC_st18, shC_fd19_0, shC_fd19_1, shC_fd19_2, shC_fd19_3, shC_fd19_4, shC_fd19_5, shC_fd20_0, shC_pf20_0, shC_fd20_1, shC_pf20_1, shC_fd20_2, shC_pf20_2, shC_fd20_3, shC_pf20_3, shC_fd20_4, shC_pf20_4, shC_fd20_5, shC_fd20_6, shC_fd20_7, shC_fd20_8, shC_fd20_9, shC_fd20_10, shC_fd20_11, shC_fd20_12, shC_fd20_13, shC_al21, shC_ld21, shC_st21, shC_al22, shC_ld22, shC_st22, shC_al23, shC_ld23, shC_st23, shC_al24, shC_ld24, shC_st24, shC_al25, shC_ld25, shC_st25, shC_al26, shC_ld26, shC_st26, shC_al27, shC_ld27, shC_st27, shC_al28, shC_ld28, shC_st28, shC_al29, shC_ld29, shC_st29, shC_al30, shC_ld30, shC_st30, shC_al31, shC_ld31, shC_st31, shC_al32, shC_ld32, shC_st32, shC_al33, shC_ld33, shC_st33, shC_al34, shC_ld34, shC_st34, shC_fd35_0, shC_fd35_1, shC_pf35_1, shC_al36, shC_ld36, shC_st36, shC_fd37_0, shC_fd37_1, shC_pf37_1, shC_fd37_2, shC_pf37_2, shC_fd37_3, shC_pf37_3, shC_al38, shC_ld38, shC_st38, shC_fd39_0, shC_pf39_0, shC_fd39_1, shC_pf39_1, shC_fd39_2, shC_pf39_2, shC_fd39_3, shC_fd39_4, shC_al40, shC_ld40, shC_st40, shC_fd41_0, shC_fd41_1, shC_pf41_1, shC_al42, shC_ld42, shC_st42, shC_fd43_0, shC_pf43_0, shC_fd43_1, shC_pf43_1, shC_fd43_2, shC_pf43_2, shC_fd43_3, shC_fd43_4, shC_al44, shC_ld44, shC_st44, shC_fd45_0, shC_fd45_1, shC_pf45_1, shC_al46, shC_ld46, shC_st46, ↓reduceIte, ite_self, Int.reduceLT, Int.reduceLE, Int.reduceEq, Int.reduceNeg]
      · rw [if_neg (fun y => d5 y.1)]
        simp (maxSteps := 4000000) (disch := first | assumption | omega | (simp (disch := omega) only [stv_ne, upd_ne])) only [ue_83, u_83_0, u_83_1, u_83_5, u_83_6, u_83_7, u_83_10, u_83_13, u_83_14, u_83_16, u_83_17, u_83_20, u_83_21, u_83_24, u_83_25, u_83_27, u_83_29, u_83_32, u_83_33, u_83_36, u_83_37, u_83_39, u_83_41, u_83_44, u_83_45, u_83_48, u_83_50, u_83_51, u_83_54, u_83_57, u_83_58, uc_57_0_0, uc_57_0_1, uc_57_0_2, uc_57_0_3, uc_60_0_0, uc_60_0_1, uc_60_0_2, uc_60_0_3, c2, e, m5, d5, ih, pe_10, not_true, not_false_eq_true, if_true, if_false, pm_go_n, pm_go_c, pm_go_r, pm_go_i, pm_oIL, pm_oLL, pm_oAL, pm_oIS, pm_oLS, pm_oAS, pm_oK, pm_oKL, pe_add, pe_sub, pe_mul, pe_div, pe_rem, pe_shr, pe_and, pm_or_ok, pm_oInc, pe_rgb, pe_if, pe_ic, pe_b1, pe_nn, pe_eq, pe_ne, pe_lt, pe_ge, pe_gt, pe_le, pe_go, pe_ri0, pe_ri1, pe_ri2, pe_i2c, pm_oRv, pm_oGf, pm_oLen, pm_oDup, pm_oDu2, pm_oPop, pm_oL2i, pm_oLand, pm_oLus, pm_oLsh, pm_oLcm, lk_0, lk_1, lk_2, lk_3, lk_4, lk_5, lk_6, lk_7, lk_8, lk_9, lk_10, lk_11, lk_12, lk_13, st_0, st_1n, st_1i, st_1r, st_2, st_3, st_4, st_5, st_6, st_7, st_8, st_9, st_10, st_11, st_12, st_13, Option.toList_some, Option.toList_none, List.cons_append, List.nil_append, shC_fd0_0, shC_fd0_1, shC_fd0_2, shC_fd0_3, shC_fd0_4, shC_fd0_5, shC_fd0_6, shC_fd0_7, shC_al1, shC_ld1, shC_st1, shC_al2, shC_ld2, shC_st2, shC_fd3_0, shC_fd3_1, shC_fd3_2, shC_fd3_3, shC_fd3_4, shC_fd3_5, shC_fd4_0, shC_pf4_0, shC_fd4_1, shC_pf4_1, shC_fd4_2, shC_pf4_2, shC_fd4_3, shC_pf4_3, shC_fd4_4, shC_pf4_4, shC_fd4_5, shC_fd4_6, shC_fd4_7, shC_fd4_8, shC_fd4_9, shC_fd4_10, shC_fd4_11, shC_fd4_12, shC_fd4_13, shC_al5, shC_ld5, shC_st5, shC_al6, shC_ld6, shC_st6, shC_al7, shC_ld7, shC_st7, shC_al8, shC_ld8, shC_st8, shC_al9, shC_ld9, shC_st9, shC_al10, shC_ld10, shC_st10, shC_al11, shC_ld11, shC_st11, shC_al12, shC_ld12, shC_st12, shC_al13, shC_ld13, shC_st13, shC_al14, shC_ld14, shC_st14, shC_al15, shC_ld15, shC_st15, shC_al16, shC_ld16, shC_st16, shC_al17, shC_ld17, shC_st17, shC_al18, shC_ld18, shC_st18, shC_fd19_0, shC_fd19_1, shC_fd19_2, shC_fd19_3, shC_fd19_4, shC_fd19_5, shC_fd20_0, shC_pf20_0, shC_fd20_1, shC_pf20_1, shC_fd20_2, shC_pf20_2, shC_fd20_3, shC_pf20_3, shC_fd20_4, shC_pf20_4, shC_fd20_5, shC_fd20_6, shC_fd20_7, shC_fd20_8, shC_fd20_9, shC_fd20_10, shC_fd20_11, shC_fd20_12, shC_fd20_13, shC_al21, shC_ld21, shC_st21, shC_al22, shC_ld22, shC_st22, shC_al23, shC_ld23, shC_st23, shC_al24, shC_ld24, shC_st24, shC_al25, shC_ld25, shC_st25, shC_al26, shC_ld26, shC_st26, shC_al27, shC_ld27, shC_st27, shC_al28, shC_ld28, shC_st28, shC_al29, shC_ld29, shC_st29, shC_al30, shC_ld30, shC_st30, shC_al31, shC_ld31, shC_st31, shC_al32, shC_ld32, shC_st32, shC_al33, shC_ld33, shC_st33, shC_al34, shC_ld34, shC_st34, shC_fd35_0, shC_fd35_1, shC_pf35_1, shC_al36, shC_ld36, shC_st36, shC_fd37_0, shC_fd37_1, shC_pf37_1, shC_fd37_2, shC_pf37_2, shC_fd37_3, shC_pf37_3, shC_al38, shC_ld38, shC_st38, shC_fd39_0, shC_pf39_0, shC_fd39_1, shC_pf39_1, shC_fd39_2, shC_pf39_2, shC_fd39_3, shC_fd39_4, shC_al40, shC_ld40, shC_st40, shC_fd41_0, shC_fd41_1, shC_pf41_1, shC_al42, shC_ld42, shC_st42, shC_fd43_0, shC_pf43_0, shC_fd43_1, shC_pf43_1, shC_fd43_2, shC_pf43_2, shC_fd43_3, shC_fd43_4, shC_al44, shC_ld44, shC_st44, shC_fd45_0, shC_fd45_1, shC_pf45_1, shC_al46, shC_ld46, shC_st46, ↓reduceIte, ite_self, Int.reduceLT, Int.reduceLE, Int.reduceEq, Int.reduceNeg]
  have l0 := loop (tF (tz n)) 0 (Nat.zero_add _)
  have l0 : pm_dn pm_sC 83 3 [some (.inr (.inr 0)), some (.inl b), some (.inl r), some (.inl i), some (.inl 0)] [] G = _ := l0
  simp (maxSteps := 4000000) (disch := first | assumption | omega | (simp (disch := omega) only [stv_ne, upd_ne])) only [ue_83, u_83_0, u_83_1, u_83_5, u_83_6, u_83_7, u_83_10, u_83_13, u_83_14, u_83_16, u_83_17, u_83_20, u_83_21, u_83_24, u_83_25, u_83_27, u_83_29, u_83_32, u_83_33, u_83_36, u_83_37, u_83_39, u_83_41, u_83_44, u_83_45, u_83_48, u_83_50, u_83_51, u_83_54, u_83_57, u_83_58, uc_57_0_0, uc_57_0_1, uc_57_0_2, uc_57_0_3, uc_60_0_0, uc_60_0_1, uc_60_0_2, uc_60_0_3, l0, pe_10, not_true, not_false_eq_true, if_true, if_false, pm_go_n, pm_go_c, pm_go_r, pm_go_i, pm_oIL, pm_oLL, pm_oAL, pm_oIS, pm_oLS, pm_oAS, pm_oK, pm_oKL, pe_add, pe_sub, pe_mul, pe_div, pe_rem, pe_shr, pe_and, pm_or_ok, pm_oInc, pe_rgb, pe_if, pe_ic, pe_b1, pe_nn, pe_eq, pe_ne, pe_lt, pe_ge, pe_gt, pe_le, pe_go, pe_ri0, pe_ri1, pe_ri2, pe_i2c, pm_oRv, pm_oGf, pm_oLen, pm_oDup, pm_oDu2, pm_oPop, pm_oL2i, pm_oLand, pm_oLus, pm_oLsh, pm_oLcm, lk_0, lk_1, lk_2, lk_3, lk_4, lk_5, lk_6, lk_7, lk_8, lk_9, lk_10, lk_11, lk_12, lk_13, st_0, st_1n, st_1i, st_1r, st_2, st_3, st_4, st_5, st_6, st_7, st_8, st_9, st_10, st_11, st_12, st_13, Option.toList_some, Option.toList_none, List.cons_append, List.nil_append, shC_fd0_0, shC_fd0_1, shC_fd0_2, shC_fd0_3, shC_fd0_4, shC_fd0_5, shC_fd0_6, shC_fd0_7, shC_al1, shC_ld1, shC_st1, shC_al2, shC_ld2, shC_st2, shC_fd3_0, shC_fd3_1, shC_fd3_2, shC_fd3_3, shC_fd3_4, shC_fd3_5, shC_fd4_0, shC_pf4_0, shC_fd4_1, shC_pf4_1, shC_fd4_2, shC_pf4_2, shC_fd4_3, shC_pf4_3, shC_fd4_4, shC_pf4_4, shC_fd4_5, shC_fd4_6, shC_fd4_7, shC_fd4_8, shC_fd4_9, shC_fd4_10, shC_fd4_11, shC_fd4_12, shC_fd4_13, shC_al5, shC_ld5, shC_st5, shC_al6, shC_ld6, shC_st6, shC_al7, shC_ld7, shC_st7, shC_al8, shC_ld8, shC_st8, shC_al9, shC_ld9, shC_st9, shC_al10, shC_ld10, shC_st10, shC_al11, shC_ld11, shC_st11, shC_al12, shC_ld12, shC_st12, shC_al13, shC_ld13, shC_st13, shC_al14, shC_ld14, shC_st14, shC_al15, shC_ld15, shC_st15, shC_al16, shC_ld16, shC_st16, shC_al17, shC_ld17, shC_st17, shC_al18, shC_ld18, shC_st18, shC_fd19_0, shC_fd19_1, shC_fd19_2, shC_fd19_3, shC_fd19_4, shC_fd19_5, shC_fd20_0, shC_pf20_0, shC_fd20_1, shC_pf20_1, shC_fd20_2, shC_pf20_2, shC_fd20_3, shC_pf20_3, shC_fd20_4, shC_pf20_4, shC_fd20_5, shC_fd20_6, shC_fd20_7, shC_fd20_8, shC_fd20_9, shC_fd20_10, shC_fd20_11, shC_fd20_12, shC_fd20_13, shC_al21, shC_ld21, shC_st21, shC_al22, shC_ld22, shC_st22, shC_al23, shC_ld23, shC_st23, shC_al24, shC_ld24, shC_st24, shC_al25, shC_ld25, shC_st25, shC_al26, shC_ld26, shC_st26, shC_al27, shC_ld27, shC_st27, shC_al28, shC_ld28, shC_st28, shC_al29, shC_ld29, shC_st29, shC_al30, shC_ld30, shC_st30, shC_al31, shC_ld31, shC_st31, shC_al32, shC_ld32, shC_st32, shC_al33, shC_ld33, shC_st33, shC_al34, shC_ld34, shC_st34, shC_fd35_0, shC_fd35_1, shC_pf35_1, shC_al36, shC_ld36, shC_st36, shC_fd37_0, shC_fd37_1, shC_pf37_1, shC_fd37_2, shC_pf37_2, shC_fd37_3, shC_pf37_3, shC_al38, shC_ld38, shC_st38, shC_fd39_0, shC_pf39_0, shC_fd39_1, shC_pf39_1, shC_fd39_2, shC_pf39_2, shC_fd39_3, shC_fd39_4, shC_al40, shC_ld40, shC_st40, shC_fd41_0, shC_fd41_1, shC_pf41_1, shC_al42, shC_ld42, shC_st42, shC_fd43_0, shC_pf43_0, shC_fd43_1, shC_pf43_1, shC_fd43_2, shC_pf43_2, shC_fd43_3, shC_fd43_4, shC_al44, shC_ld44, shC_st44, shC_fd45_0, shC_fd45_1, shC_pf45_1, shC_al46, shC_ld46, shC_st46, ↓reduceIte, ite_self, Int.reduceLT, Int.reduceLE, Int.reduceEq, Int.reduceNeg]
end NUM
/-! the answers, by the tables -/
def ipm (z x m : Nat) (w : Int) : Option Int := if w = 5 then some (tPT z m) else if w = 6 then some (tr (tz_round z) m) else if w = 7 then some (tr (tz_index z) m) else if w = 8 then some (mseat (tWS z m)) else if w = 9 then some (mseat (tLS z x m)) else if w = 10 then some (sseat (tWS z m)) else if w = 11 then some (sseat (tLS z x m)) else none
def ipO (z x : Nat) (k : Nat) (as : List PV) : Option Int := match as with
  | [.inr (.inr 0), .inl w] => bif Nat.beq k 60 then (if w = 1 then some (z : Int) else if w = 2 then some (tF z : Int) else none) else none
  | [.inr (.inr 0), .inl m, .inl w] => bif Nat.beq k 57 then (if 0 ≤ m ∧ m < (tF z : Int) then ipm z x m.toNat w else none) else none
  | [.inr (.inr 0), .inl b, .inl r, .inl i] => bif Nat.beq k 83 then some (nfr z b r i (tF z) 0) else none
  | _ => none
def isO (n : Nat) (k : Nat) (as : List PV) : Option Int := match as with
  | [.inr (.inr 0), .inl w] => bif Nat.beq k 60 then (if w = 1 then some (tz n : Int) else none) else none
  | [.inr (.inr 0), .inl m, .inl w] => bif Nat.beq k 57 then (if 0 ≤ m ∧ 2 * m + 1 < (tz n : Int) then (if w = 0 then some (tini (tz n) n (2 * m.toNat)) else if w = 1 then some (tini (tz n) n (2 * m.toNat + 1)) else none) else none) else none
  | _ => none
def nm_is (o : Option (Option PV)) : Bool := match o with
  | some (some (.inl 1)) => true
  | _ => false
theorem nm_is_of {o : Option (Option PV)} (h : nm_is o = true) : o = some (some (.inl 1)) := by
  unfold nm_is at h
  split at h
  · rfl
  · cases h
abbrev ip_run (z x : Nat) : Bool := nm_is (nm_ex pm_sC (ipO z x) 84 20000 45 [some (.inr (.inr 0)), none, some (.inl (x : Int)), some (.inl (z : Int)), some (.inl (tR z : Int)), none, none, none, none, none, none] [])
theorem ip_4_0 : ip_run 4 0 = true := by decide +kernel
theorem ip_4_1 : ip_run 4 1 = true := by decide +kernel
theorem ip_8_0 : ip_run 8 0 = true := by decide +kernel
theorem ip_8_1 : ip_run 8 1 = true := by decide +kernel
theorem ip_16_0 : ip_run 16 0 = true := by decide +kernel
theorem ip_16_1 : ip_run 16 1 = true := by decide +kernel
theorem is_all : (List.range 15).all (fun i => nm_is (nm_ex pm_sC (isO (i + 2)) 85 5000 0 [some (.inr (.inr 0)), some (.inl ((i + 2 : Nat) : Int)), none, none, none, none] [])) = true := by decide +kernel
section PLN
variable {G : PW} {n x L : Nat}
theorem ipO_ok (h : CI G n x L) : ∀ k' as v, ipO (tz n) x k' as = some v → pm_ca pm_sC k' as G = some (some (.inl v), G) := by
  intro k' as v hv
  unfold ipO at hv
  split at hv
  · rename_i w
    obtain ⟨e, hw⟩ := pm_bif hv rfl
    clear hv
    have hv := hw
    clear hw
    have e := Nat.eq_of_beq_eq_true e
    subst e
    by_cases c1 : w = 1
    · rw [if_pos c1] at hv
      subst c1
      cases hv
      have := CI_cnt h 1
      rw [show ccount G (tF (tz n)) n 1 = G 4 2 from rfl, h.2.2.2.2.1.1.2.2.1] at this
      exact this
    · rw [if_neg c1] at hv
      by_cases c2 : w = 2
      · rw [if_pos c2] at hv
        subst c2
        cases hv
        have := CI_cnt h 2
        rw [show ccount G (tF (tz n)) n 2 = G 4 4 from rfl, (CI_ok h).2.2.1] at this
        exact this
      · rw [if_neg c2] at hv
        cases hv
  · rename_i m w
    obtain ⟨e, hw⟩ := pm_bif hv rfl
    clear hv
    have hv := hw
    clear hw
    have e := Nat.eq_of_beq_eq_true e
    subst e
    by_cases c : 0 ≤ m ∧ m < (tF (tz n) : Int)
    · rw [if_pos c] at hv
      obtain ⟨k, rfl⟩ : ∃ k : Nat, m = (k : Int) := ⟨m.toNat, by omega⟩
      have hk : k < tF (tz n) := by omega
      have a := h.2.2.2.2.1.2.1 k hk
      have M := CI_m h hk w
      rw [Int.toNat_natCast] at hv
      unfold ipm at hv
      have E : cmatch G k w = v := by
        by_cases d5 : w = 5
        · rw [if_pos d5] at hv; subst d5; cases hv; exact a.1
        · rw [if_neg d5] at hv
          by_cases d6 : w = 6
          · rw [if_pos d6] at hv; subst d6; cases hv; exact a.2.1
          · rw [if_neg d6] at hv
            by_cases d7 : w = 7
            · rw [if_pos d7] at hv; subst d7; cases hv; exact a.2.2.1
            · rw [if_neg d7] at hv
              by_cases d8 : w = 8
              · rw [if_pos d8] at hv; subst d8; cases hv; rw [← a.2.2.2.1]; rfl
              · rw [if_neg d8] at hv
                by_cases d9 : w = 9
                · rw [if_pos d9] at hv; subst d9; cases hv; rw [← a.2.2.2.2]; rfl
                · rw [if_neg d9] at hv
                  by_cases d10 : w = 10
                  · rw [if_pos d10] at hv; subst d10; cases hv; rw [← a.2.2.2.1]; rfl
                  · rw [if_neg d10] at hv
                    by_cases d11 : w = 11
                    · rw [if_pos d11] at hv; subst d11; cases hv; rw [← a.2.2.2.2]; rfl
                    · rw [if_neg d11] at hv
                      cases hv
      rw [E] at M
      exact M
    · rw [if_neg c] at hv
      cases hv
  · obtain ⟨e, hw⟩ := pm_bif hv rfl
    clear hv
    have hv := hw
    clear hw
    have e := Nat.eq_of_beq_eq_true e
    subst e
    cases hv
    exact c_numberOf h _ _ _
  · cases hv
theorem isO_ok (h : CI G n x L) : ∀ k' as v, isO n k' as = some v → pm_ca pm_sC k' as G = some (some (.inl v), G) := by
  obtain ⟨hc, g1, g2, g3, g4, g5⟩ := tz_facts h.1 h.2.1
  obtain ⟨ps, hf⟩ := CI_fin h
  have ini : ∀ s, s < tz n → G 16 s = tini (tz n) n s := hf.2.2.2.1.1
  intro k' as v hv
  unfold isO at hv
  split at hv
  · rename_i w
    obtain ⟨e, hw⟩ := pm_bif hv rfl
    clear hv
    have hv := hw
    clear hw
    have e := Nat.eq_of_beq_eq_true e
    subst e
    by_cases c1 : w = 1
    · rw [if_pos c1] at hv
      subst c1
      cases hv
      have := CI_cnt h 1
      rw [show ccount G (tF (tz n)) n 1 = G 4 2 from rfl, h.2.2.2.2.1.1.2.2.1] at this
      exact this
    · rw [if_neg c1] at hv
      cases hv
  · rename_i m w
    obtain ⟨e, hw⟩ := pm_bif hv rfl
    clear hv
    have hv := hw
    clear hw
    have e := Nat.eq_of_beq_eq_true e
    subst e
    by_cases c : 0 ≤ m ∧ 2 * m + 1 < (tz n : Int)
    · rw [if_pos c] at hv
      obtain ⟨k, rfl⟩ : ∃ k : Nat, m = (k : Int) := ⟨m.toNat, by omega⟩
      have M := CI_m h (show k < tF (tz n) by omega) w
      rw [Int.toNat_natCast] at hv
      have E : cmatch G k w = v := by
        by_cases d0 : w = 0
        · rw [if_pos d0] at hv; subst d0; cases hv; exact ini (2 * k) (by omega)
        · rw [if_neg d0] at hv
          by_cases d1 : w = 1
          · rw [if_pos d1] at hv; subst d1; cases hv; exact ini (2 * k + 1) (by omega)
          · rw [if_neg d1] at hv
            cases hv
      rw [E] at M
      exact M
    · rw [if_neg c] at hv
      cases hv
  · cases hv
set_option maxHeartbeats 4000000 in
theorem c_isPlanned (h : CI G n x L) : pm_ca pm_sC 84 [.inr (.inr 0), .inl (n : Int), .inl (x : Int)] G = some (some (.inl 1), G) := by
  obtain ⟨hc, g1, g2, g3, g4, g5⟩ := tz_facts h.1 h.2.1
  have k45 : pm_dn pm_sC 84 45 [some (.inr (.inr 0)), none, some (.inl (x : Int)), some (.inl (tz n : Int)), some (.inl (tR (tz n) : Int)), none, none, none, none, none, none] [] G = some (some (.inl 1), G) := by
    have r := cfg_ind (P := fun z x => ip_run z x = true) ⟨ip_4_0, ip_4_1, ip_8_0, ip_8_1, ip_16_0, ip_16_1⟩ hc
    exact nm_sound pm_sC _ _ G (ipO_ok h) _ _ _ _ _ (nm_is_of r)
  have k45 : pm_dn pm_sC 84 45 [some (.inr (.inr 0)), some (.inl (n : Int)), some (.inl (x : Int)), some (.inl (tz n : Int)), some (.inl (tR (tz n) : Int)), none, none, none, none, none, none] [] G = some (some (.inl 1), G) := pm_dn_mono (pl_s (pl_n (pl_s (pl_s (pl_s (pl_n (pl_n (pl_n (pl_n (pl_n (pl_n pl_nil))))))))))) k45
  have u45 := k45
  by_cases c8 : (n : Int) ≤ 8
  · by_cases c4 : (n : Int) ≤ 4
    · have e1 : tz n = 4 := by
        unfold tz
        rw [Nat.ble_eq_true_of_le (show n ≤ 4 by omega)]
        rfl
      rw [e1] at k45
      have k45 : pm_dn pm_sC 84 45 [some (.inr (.inr 0)), some (.inl (n : Int)), some (.inl (x : Int)), some (.inl 4), some (.inl 2), none, none, none, none, none, none] [] G = some (some (.inl 1), G) := k45
      simp (maxSteps := 4000000) (disch := first | assumption | omega | (simp (disch := omega) only [stv_ne, upd_ne])) only [ue_84, u_84_0, u_84_1, u_84_3, u_84_6, u_84_8, u_84_11, u_84_12, u_84_13, u_84_16, u_84_18, u_84_21, u_84_22, u_84_23, u_84_24, u_84_26, u_84_29, u_84_30, u_84_33, u_84_34, u_84_35, u_84_38, u_84_39, u_84_42, u_84_43, u_84_46, u_84_47, u_84_50, u_84_51, u_84_54, u_84_55, u_84_56, u_84_59, u_84_60, u_84_61, u_84_62, u_84_63, u_84_64, u_84_67, u_84_68, u_84_69, u_84_70, u_84_72, u_84_73, u_84_77, u_84_79, u_84_82, u_84_83, u_84_85, u_84_86, u_84_88, u_84_89, u_84_93, u_84_95, u_84_98, u_84_100, u_84_102, u_84_105, u_84_106, u_84_109, u_84_110, u_84_112, u_84_114, u_84_115, u_84_118, u_84_120, u_84_121, u_84_122, u_84_125, u_84_126, u_84_127, u_84_130, u_84_132, u_84_133, u_84_134, u_84_137, u_84_139, u_84_140, u_84_141, u_84_143, u_84_144, u_84_147, u_84_149, u_84_151, u_84_152, u_84_153, u_84_155, u_84_157, u_84_160, u_84_162, u_84_165, u_84_166, u_84_168, u_84_170, u_84_173, u_84_175, u_84_178, u_84_179, u_84_180, u_84_181, u_84_182, u_84_183, u_84_186, u_84_187, u_84_188, u_84_190, u_84_191, u_84_192, u_84_194, u_84_195, u_84_196, u_84_199, u_84_202, u_84_203, u_84_205, u_84_207, u_84_210, u_84_212, u_84_215, u_84_216, u_84_219, u_84_221, u_84_222, u_84_223, u_84_226, u_84_227, u_84_229, u_84_231, u_84_234, u_84_235, u_84_236, u_84_238, u_84_239, u_84_242, u_84_243, u_84_246, u_84_247, u_84_249, u_84_250, u_84_251, u_84_252, u_84_254, u_84_257, u_84_260, u_84_261, u_84_263, u_84_265, u_84_268, u_84_270, u_84_271, u_84_274, u_84_276, u_84_277, u_84_278, u_84_281, u_84_282, u_84_285, u_84_286, u_84_287, u_84_290, u_84_293, u_84_296, u_84_299, u_84_302, u_84_303, u_84_307, u_84_308, u_84_310, u_84_311, u_84_312, u_84_313, u_84_316, u_84_317, u_84_319, u_84_320, u_84_321, u_84_322, u_84_323, u_84_324, u_84_325, u_84_326, u_84_328, u_84_329, u_84_333, u_84_335, u_84_338, u_84_340, u_84_341, u_84_343, u_84_344, u_84_345, u_84_346, u_84_349, u_84_350, u_84_353, u_84_354, u_84_356, u_84_358, u_84_361, u_84_362, u_84_363, u_84_364, u_84_365, u_84_366, u_84_369, u_84_370, u_84_371, u_84_373, u_84_374, u_84_375, u_84_377, u_84_378, u_84_379, u_84_380, u_84_383, u_84_385, u_84_388, u_84_390, u_84_391, u_84_392, u_84_395, u_84_397, u_84_398, u_84_399, u_84_401, u_84_403, u_84_406, u_84_408, u_84_411, u_84_412, u_84_414, u_84_416, u_84_419, u_84_421, u_84_424, u_84_425, u_84_427, u_84_429, u_84_432, u_84_434, u_84_437, u_84_438, u_84_441, u_84_443, u_84_444, u_84_445, u_84_446, u_84_449, u_84_450, u_84_453, u_84_455, u_84_456, u_84_457, u_84_460, u_84_461, u_84_463, u_84_465, u_84_468, u_84_470, u_84_473, u_84_474, u_84_475, u_84_478, u_84_481, u_84_484, u_84_487, u_84_490, u_84_491, u_84_493, u_84_494, u_84_497, u_84_498, u_84_501, u_84_502, u_84_504, u_84_506, u_84_509, u_84_510, u_84_513, u_84_514, u_84_516, u_84_517, u_84_518, u_84_520, u_84_523, u_84_524, u_84_527, u_84_529, u_84_530, u_84_531, u_84_532, u_84_533, u_84_536, u_84_539, u_84_540, u_84_543, u_84_544, uc_57_0_0, uc_57_0_1, uc_57_0_2, uc_57_0_3, uc_60_0_0, uc_60_0_1, uc_60_0_2, uc_60_0_3, uc_83_s_0, uc_83_s_1, uc_83_s_2, uc_83_s_3, c8, c4, k45, pe_10, not_true, not_false_eq_true, if_true, if_false, pm_go_n, pm_go_c, pm_go_r, pm_go_i, pm_oIL, pm_oLL, pm_oAL, pm_oIS, pm_oLS, pm_oAS, pm_oK, pm_oKL, pe_add, pe_sub, pe_mul, pe_div, pe_rem, pe_shr, pe_and, pm_or_ok, pm_oInc, pe_rgb, pe_if, pe_ic, pe_b1, pe_nn, pe_eq, pe_ne, pe_lt, pe_ge, pe_gt, pe_le, pe_go, pe_ri0, pe_ri1, pe_ri2, pe_i2c, pm_oRv, pm_oGf, pm_oLen, pm_oDup, pm_oDu2, pm_oPop, pm_oL2i, pm_oLand, pm_oLus, pm_oLsh, pm_oLcm, lk_0, lk_1, lk_2, lk_3, lk_4, lk_5, lk_6, lk_7, lk_8, lk_9, lk_10, lk_11, lk_12, lk_13, st_0, st_1n, st_1i, st_1r, st_2, st_3, st_4, st_5, st_6, st_7, st_8, st_9, st_10, st_11, st_12, st_13, Option.toList_some, Option.toList_none, List.cons_append, List.nil_append, shC_fd0_0, shC_fd0_1, shC_fd0_2, shC_fd0_3, shC_fd0_4, shC_fd0_5, shC_fd0_6, shC_fd0_7, shC_al1, shC_ld1, shC_st1, shC_al2, shC_ld2, shC_st2, shC_fd3_0, shC_fd3_1, shC_fd3_2, shC_fd3_3, shC_fd3_4, shC_fd3_5, shC_fd4_0, shC_pf4_0, shC_fd4_1, shC_pf4_1, shC_fd4_2, shC_pf4_2, shC_fd4_3, shC_pf4_3, shC_fd4_4, shC_pf4_4, shC_fd4_5, shC_fd4_6, shC_fd4_7, shC_fd4_8, shC_fd4_9, shC_fd4_10, shC_fd4_11, shC_fd4_12, shC_fd4_13, shC_al5, shC_ld5, shC_st5, shC_al6, shC_ld6, shC_st6, shC_al7, shC_ld7, shC_st7, shC_al8, shC_ld8, shC_st8, shC_al9, shC_ld9, shC_st9, shC_al10, shC_ld10, shC_st10, shC_al11, shC_ld11, shC_st11, shC_al12, shC_ld12, shC_st12, shC_al13, shC_ld13, shC_st13, shC_al14, shC_ld14, shC_st14, shC_al15, shC_ld15, shC_st15, shC_al16, shC_ld16, shC_st16, shC_al17, shC_ld17, shC_st17, shC_al18, shC_ld18, shC_st18, shC_fd19_0, shC_fd19_1, shC_fd19_2, shC_fd19_3, shC_fd19_4, shC_fd19_5, shC_fd20_0, shC_pf20_0, shC_fd20_1, shC_pf20_1, shC_fd20_2, shC_pf20_2, shC_fd20_3, shC_pf20_3, shC_fd20_4, shC_pf20_4, shC_fd20_5, shC_fd20_6, shC_fd20_7, shC_fd20_8, shC_fd20_9, shC_fd20_10, shC_fd20_11, shC_fd20_12, shC_fd20_13, shC_al21, shC_ld21, shC_st21, shC_al22, shC_ld22, shC_st22, shC_al23, shC_ld23, shC_st23, shC_al24, shC_ld24, shC_st24, shC_al25, shC_ld25, shC_st25, shC_al26, shC_ld26, shC_st26, shC_al27, shC_ld27, shC_st27, shC_al28, shC_ld28, shC_st28, shC_al29, shC_ld29, shC_st29, shC_al30, shC_ld30, shC_st30, shC_al31, shC_ld31, shC_st31, shC_al32, shC_ld32, shC_st32, shC_al33, shC_ld33, shC_st33, shC_al34, shC_ld34, shC_st34, shC_fd35_0, shC_fd35_1, shC_pf35_1, shC_al36, shC_ld36, shC_st36, shC_fd37_0, shC_fd37_1, shC_pf37_1, shC_fd37_2, shC_pf37_2, shC_fd37_3, shC_pf37_3, shC_al38, shC_ld38, shC_st38, shC_fd39_0, shC_pf39_0, shC_fd39_1, shC_pf39_1, shC_fd39_2, shC_pf39_2, shC_fd39_3, shC_fd39_4, shC_al40, shC_ld40, shC_st40, shC_fd41_0, shC_fd41_1, shC_pf41_1, shC_al42, shC_ld42, shC_st42, shC_fd43_0, shC_pf43_0, shC_fd43_1, shC_pf43_1, shC_fd43_2, shC_pf43_2, shC_fd43_3, shC_fd43_4, shC_al44, shC_ld44, shC_st44, shC_fd45_0, shC_fd45_1, shC_pf45_1, shC_al46, shC_ld46, shC_st46, ↓reduceIte, ite_self, Int.reduceLT, Int.reduceLE, Int.reduceEq, Int.reduceNeg]
    · have e1 : tz n = 8 := by
        unfold tz
        have : Nat.ble n 4 = false := by
          cases hb : Nat.ble n 4 with
          | false => rfl
          | true => have := Nat.le_of_ble_eq_true hb; omega
        rw [this, Nat.ble_eq_true_of_le (show n ≤ 8 by omega)]
        rfl
      rw [e1] at k45
      have k45 : pm_dn pm_sC 84 45 [some (.inr (.inr 0)), some (.inl (n : Int)), some (.inl (x : Int)), some (.inl 8), some (.inl 3), none, none, none, none, none, none] [] G = some (some (.inl 1), G) := k45
      simp (maxSteps := 4000000) (disch := first | assumption | omega | (simp (disch := omega) only [stv_ne, upd_ne])) only [ue_84, u_84_0, u_84_1, u_84_3, u_84_6, u_84_8, u_84_11, u_84_12, u_84_13, u_84_16, u_84_18, u_84_21, u_84_22, u_84_23, u_84_24, u_84_26, u_84_29, u_84_30, u_84_33, u_84_34, u_84_35, u_84_38, u_84_39, u_84_42, u_84_43, u_84_46, u_84_47, u_84_50, u_84_51, u_84_54, u_84_55, u_84_56, u_84_59, u_84_60, u_84_61, u_84_62, u_84_63, u_84_64, u_84_67, u_84_68, u_84_69, u_84_70, u_84_72, u_84_73, u_84_77, u_84_79, u_84_82, u_84_83, u_84_85, u_84_86, u_84_88, u_84_89, u_84_93, u_84_95, u_84_98, u_84_100, u_84_102, u_84_105, u_84_106, u_84_109, u_84_110, u_84_112, u_84_114, u_84_115, u_84_118, u_84_120, u_84_121, u_84_122, u_84_125, u_84_126, u_84_127, u_84_130, u_84_132, u_84_133, u_84_134, u_84_137, u_84_139, u_84_140, u_84_141, u_84_143, u_84_144, u_84_147, u_84_149, u_84_151, u_84_152, u_84_153, u_84_155, u_84_157, u_84_160, u_84_162, u_84_165, u_84_166, u_84_168, u_84_170, u_84_173, u_84_175, u_84_178, u_84_179, u_84_180, u_84_181, u_84_182, u_84_183, u_84_186, u_84_187, u_84_188, u_84_190, u_84_191, u_84_192, u_84_194, u_84_195, u_84_196, u_84_199, u_84_202, u_84_203, u_84_205, u_84_207, u_84_210, u_84_212, u_84_215, u_84_216, u_84_219, u_84_221, u_84_222, u_84_223, u_84_226, u_84_227, u_84_229, u_84_231, u_84_234, u_84_235, u_84_236, u_84_238, u_84_239, u_84_242, u_84_243, u_84_246, u_84_247, u_84_249, u_84_250, u_84_251, u_84_252, u_84_254, u_84_257, u_84_260, u_84_261, u_84_263, u_84_265, u_84_268, u_84_270, u_84_271, u_84_274, u_84_276, u_84_277, u_84_278, u_84_281, u_84_282, u_84_285, u_84_286, u_84_287, u_84_290, u_84_293, u_84_296, u_84_299, u_84_302, u_84_303, u_84_307, u_84_308, u_84_310, u_84_311, u_84_312, u_84_313, u_84_316, u_84_317, u_84_319, u_84_320, u_84_321, u_84_322, u_84_323, u_84_324, u_84_325, u_84_326, u_84_328, u_84_329, u_84_333, u_84_335, u_84_338, u_84_340, u_84_341, u_84_343, u_84_344, u_84_345, u_84_346, u_84_349, u_84_350, u_84_353, u_84_354, u_84_356, u_84_358, u_84_361, u_84_362, u_84_363, u_84_364, u_84_365, u_84_366, u_84_369, u_84_370, u_84_371, u_84_373, u_84_374, u_84_375, u_84_377, u_84_378, u_84_379, u_84_380, u_84_383, u_84_385, u_84_388, u_84_390, u_84_391, u_84_392, u_84_395, u_84_397, u_84_398, u_84_399, u_84_401, u_84_403, u_84_406, u_84_408, u_84_411, u_84_412, u_84_414, u_84_416, u_84_419, u_84_421, u_84_424, u_84_425, u_84_427, u_84_429, u_84_432, u_84_434, u_84_437, u_84_438, u_84_441, u_84_443, u_84_444, u_84_445, u_84_446, u_84_449, u_84_450, u_84_453, u_84_455, u_84_456, u_84_457, u_84_460, u_84_461, u_84_463, u_84_465, u_84_468, u_84_470, u_84_473, u_84_474, u_84_475, u_84_478, u_84_481, u_84_484, u_84_487, u_84_490, u_84_491, u_84_493, u_84_494, u_84_497, u_84_498, u_84_501, u_84_502, u_84_504, u_84_506, u_84_509, u_84_510, u_84_513, u_84_514, u_84_516, u_84_517, u_84_518, u_84_520, u_84_523, u_84_524, u_84_527, u_84_529, u_84_530, u_84_531, u_84_532, u_84_533, u_84_536, u_84_539, u_84_540, u_84_543, u_84_544, uc_57_0_0, uc_57_0_1, uc_57_0_2, uc_57_0_3, uc_60_0_0, uc_60_0_1, uc_60_0_2, uc_60_0_3, uc_83_s_0, uc_83_s_1, uc_83_s_2, uc_83_s_3, c8, c4, k45, pe_10, not_true, not_false_eq_true, if_true, if_false, pm_go_n, pm_go_c, pm_go_r, pm_go_i, pm_oIL, pm_oLL, pm_oAL, pm_oIS, pm_oLS, pm_oAS, pm_oK, pm_oKL, pe_add, pe_sub, pe_mul, pe_div, pe_rem, pe_shr, pe_and, pm_or_ok, pm_oInc, pe_rgb, pe_if, pe_ic, pe_b1, pe_nn, pe_eq, pe_ne, pe_lt, pe_ge, pe_gt, pe_le, pe_go, pe_ri0, pe_ri1, pe_ri2, pe_i2c, pm_oRv, pm_oGf, pm_oLen, pm_oDup, pm_oDu2, pm_oPop, pm_oL2i, pm_oLand, pm_oLus, pm_oLsh, pm_oLcm, lk_0, lk_1, lk_2, lk_3, lk_4, lk_5, lk_6, lk_7, lk_8, lk_9, lk_10, lk_11, lk_12, lk_13, st_0, st_1n, st_1i, st_1r, st_2, st_3, st_4, st_5, st_6, st_7, st_8, st_9, st_10, st_11, st_12, st_13, Option.toList_some, Option.toList_none, List.cons_append, List.nil_append, shC_fd0_0, shC_fd0_1, shC_fd0_2, shC_fd0_3, shC_fd0_4, shC_fd0_5, shC_fd0_6, shC_fd0_7, shC_al1, shC_ld1, shC_st1, shC_al2, shC_ld2, shC_st2, shC_fd3_0, shC_fd3_1, shC_fd3_2, shC_fd3_3, shC_fd3_4, shC_fd3_5, shC_fd4_0, shC_pf4_0, shC_fd4_1, shC_pf4_1, shC_fd4_2, shC_pf4_2, shC_fd4_3, shC_pf4_3, shC_fd4_4, shC_pf4_4, shC_fd4_5, shC_fd4_6, shC_fd4_7, shC_fd4_8, shC_fd4_9, shC_fd4_10, shC_fd4_11, shC_fd4_12, shC_fd4_13, shC_al5, shC_ld5, shC_st5, shC_al6, shC_ld6, shC_st6, shC_al7, shC_ld7, shC_st7, shC_al8, shC_ld8, shC_st8, shC_al9, shC_ld9, shC_st9, shC_al10, shC_ld10, shC_st10, shC_al11, shC_ld11, shC_st11, shC_al12, shC_ld12, shC_st12, shC_al13, shC_ld13, shC_st13, shC_al14, shC_ld14, shC_st14, shC_al15, shC_ld15, shC_st15, shC_al16, shC_ld16, shC_st16, shC_al17, shC_ld17, shC_st17, shC_al18, shC_ld18, shC_st18, shC_fd19_0, shC_fd19_1, shC_fd19_2, shC_fd19_3, shC_fd19_4, shC_fd19_5, shC_fd20_0, shC_pf20_0, shC_fd20_1, shC_pf20_1, shC_fd20_2, shC_pf20_2, shC_fd20_3, shC_pf20_3, shC_fd20_4, shC_pf20_4, shC_fd20_5, shC_fd20_6, shC_fd20_7, shC_fd20_8, shC_fd20_9, shC_fd20_10, shC_fd20_11, shC_fd20_12, shC_fd20_13, shC_al21, shC_ld21, shC_st21, shC_al22, shC_ld22, shC_st22, shC_al23, shC_ld23, shC_st23, shC_al24, shC_ld24, shC_st24, shC_al25, shC_ld25, shC_st25, shC_al26, shC_ld26, shC_st26, shC_al27, shC_ld27, shC_st27, shC_al28, shC_ld28, shC_st28, shC_al29, shC_ld29, shC_st29, shC_al30, shC_ld30, shC_st30, shC_al31, shC_ld31, shC_st31, shC_al32, shC_ld32, shC_st32, shC_al33, shC_ld33, shC_st33, shC_al34, shC_ld34, shC_st34, shC_fd35_0, shC_fd35_1, shC_pf35_1, shC_al36, shC_ld36, shC_st36, shC_fd37_0, shC_fd37_1, shC_pf37_1, shC_fd37_2, shC_pf37_2, shC_fd37_3, shC_pf37_3, shC_al38, shC_ld38, shC_st38, shC_fd39_0, shC_pf39_0, shC_fd39_1, shC_pf39_1, shC_fd39_2, shC_pf39_2, shC_fd39_3, shC_fd39_4, shC_al40, shC_ld40, shC_st40, shC_fd41_0, shC_fd41_1, shC_pf41_1, shC_al42, shC_ld42, shC_st42, shC_fd43_0, shC_pf43_0, shC_fd43_1, shC_pf43_1, shC_fd43_2, shC_pf43_2, shC_fd43_3, shC_fd43_4, shC_al44, shC_ld44, shC_st44, shC_fd45_0, shC_fd45_1, shC_pf45_1, shC_al46, shC_ld46, shC_st46, ↓reduceIte, ite_self, Int.reduceLT, Int.reduceLE, Int.reduceEq, Int.reduceNeg]
  · have e1 : tz n = 16 := by
      unfold tz
      have h4 : Nat.ble n 4 = false := by
        cases hb : Nat.ble n 4 with
        | false => rfl
        | true => have := Nat.le_of_ble_eq_true hb; omega
      have h8 : Nat.ble n 8 = false := by
        cases hb : Nat.ble n 8 with
        | false => rfl
        | true => have := Nat.le_of_ble_eq_true hb; omega
      rw [h4, h8]
      rfl
    rw [e1] at k45
    have k45 : pm_dn pm_sC 84 45 [some (.inr (.inr 0)), some (.inl (n : Int)), some (.inl (x : Int)), some (.inl 16), some (.inl 4), none, none, none, none, none, none] [] G = some (some (.inl 1), G) := k45
    simp (maxSteps := 4000000) (disch := first | assumption | omega | (simp (disch := omega) only [stv_ne, upd_ne])) only [ue_84, u_84_0, u_84_1, u_84_3, u_84_6, u_84_8, u_84_11, u_84_12, u_84_13, u_84_16, u_84_18, u_84_21, u_84_22, u_84_23, u_84_24, u_84_26, u_84_29, u_84_30, u_84_33, u_84_34, u_84_35, u_84_38, u_84_39, u_84_42, u_84_43, u_84_46, u_84_47, u_84_50, u_84_51, u_84_54, u_84_55, u_84_56, u_84_59, u_84_60, u_84_61, u_84_62, u_84_63, u_84_64, u_84_67, u_84_68, u_84_69, u_84_70, u_84_72, u_84_73, u_84_77, u_84_79, u_84_82, u_84_83, u_84_85, u_84_86, u_84_88, u_84_89, u_84_93, u_84_95, u_84_98, u_84_100, u_84_102, u_84_105, u_84_106, u_84_109, u_84_110, u_84_112, u_84_114, u_84_115, u_84_118, u_84_120, u_84_121, u_84_122, u_84_125, u_84_126, u_84_127, u_84_130, u_84_132, u_84_133, u_84_134, u_84_137, u_84_139, u_84_140, u_84_141, u_84_143, u_84_144, u_84_147, u_84_149, u_84_151, u_84_152, u_84_153, u_84_155, u_84_157, u_84_160, u_84_162, u_84_165, u_84_166, u_84_168, u_84_170, u_84_173, u_84_175, u_84_178, u_84_179, u_84_180, u_84_181, u_84_182, u_84_183, u_84_186, u_84_187, u_84_188, u_84_190, u_84_191, u_84_192, u_84_194, u_84_195, u_84_196, u_84_199, u_84_202, u_84_203, u_84_205, u_84_207, u_84_210, u_84_212, u_84_215, u_84_216, u_84_219, u_84_221, u_84_222, u_84_223, u_84_226, u_84_227, u_84_229, u_84_231, u_84_234, u_84_235, u_84_236, u_84_238, u_84_239, u_84_242, u_84_243, u_84_246, u_84_247, u_84_249, u_84_250, u_84_251, u_84_252, u_84_254, u_84_257, u_84_260, u_84_261, u_84_263, u_84_265, u_84_268, u_84_270, u_84_271, u_84_274, u_84_276, u_84_277, u_84_278, u_84_281, u_84_282, u_84_285, u_84_286, u_84_287, u_84_290, u_84_293, u_84_296, u_84_299, u_84_302, u_84_303, u_84_307, u_84_308, u_84_310, u_84_311, u_84_312, u_84_313, u_84_316, u_84_317, u_84_319, u_84_320, u_84_321, u_84_322, u_84_323, u_84_324, u_84_325, u_84_326, u_84_328, u_84_329, u_84_333, u_84_335, u_84_338, u_84_340, u_84_341, u_84_343, u_84_344, u_84_345, u_84_346, u_84_349, u_84_350, u_84_353, u_84_354, u_84_356, u_84_358, u_84_361, u_84_362, u_84_363, u_84_364, u_84_365, u_84_366, u_84_369, u_84_370, u_84_371, u_84_373, u_84_374, u_84_375, u_84_377, u_84_378, u_84_379, u_84_380, u_84_383, u_84_385, u_84_388, u_84_390, u_84_391, u_84_392, u_84_395, u_84_397, u_84_398, u_84_399, u_84_401, u_84_403, u_84_406, u_84_408, u_84_411, u_84_412, u_84_414, u_84_416, u_84_419, u_84_421, u_84_424, u_84_425, u_84_427, u_84_429, u_84_432, u_84_434, u_84_437, u_84_438, u_84_441, u_84_443, u_84_444, u_84_445, u_84_446, u_84_449, u_84_450, u_84_453, u_84_455, u_84_456, u_84_457, u_84_460, u_84_461, u_84_463, u_84_465, u_84_468, u_84_470, u_84_473, u_84_474, u_84_475, u_84_478, u_84_481, u_84_484, u_84_487, u_84_490, u_84_491, u_84_493, u_84_494, u_84_497, u_84_498, u_84_501, u_84_502, u_84_504, u_84_506, u_84_509, u_84_510, u_84_513, u_84_514, u_84_516, u_84_517, u_84_518, u_84_520, u_84_523, u_84_524, u_84_527, u_84_529, u_84_530, u_84_531, u_84_532, u_84_533, u_84_536, u_84_539, u_84_540, u_84_543, u_84_544, uc_57_0_0, uc_57_0_1, uc_57_0_2, uc_57_0_3, uc_60_0_0, uc_60_0_1, uc_60_0_2, uc_60_0_3, uc_83_s_0, uc_83_s_1, uc_83_s_2, uc_83_s_3, c8, k45, pe_10, not_true, not_false_eq_true, if_true, if_false, pm_go_n, pm_go_c, pm_go_r, pm_go_i, pm_oIL, pm_oLL, pm_oAL, pm_oIS, pm_oLS, pm_oAS, pm_oK, pm_oKL, pe_add, pe_sub, pe_mul, pe_div, pe_rem, pe_shr, pe_and, pm_or_ok, pm_oInc, pe_rgb, pe_if, pe_ic, pe_b1, pe_nn, pe_eq, pe_ne, pe_lt, pe_ge, pe_gt, pe_le, pe_go, pe_ri0, pe_ri1, pe_ri2, pe_i2c, pm_oRv, pm_oGf, pm_oLen, pm_oDup, pm_oDu2, pm_oPop, pm_oL2i, pm_oLand, pm_oLus, pm_oLsh, pm_oLcm, lk_0, lk_1, lk_2, lk_3, lk_4, lk_5, lk_6, lk_7, lk_8, lk_9, lk_10, lk_11, lk_12, lk_13, st_0, st_1n, st_1i, st_1r, st_2, st_3, st_4, st_5, st_6, st_7, st_8, st_9, st_10, st_11, st_12, st_13, Option.toList_some, Option.toList_none, List.cons_append, List.nil_append, shC_fd0_0, shC_fd0_1, shC_fd0_2, shC_fd0_3, shC_fd0_4, shC_fd0_5, shC_fd0_6, shC_fd0_7, shC_al1, shC_ld1, shC_st1, shC_al2, shC_ld2, shC_st2, shC_fd3_0, shC_fd3_1, shC_fd3_2, shC_fd3_3, shC_fd3_4, shC_fd3_5, shC_fd4_0, shC_pf4_0, shC_fd4_1, shC_pf4_1, shC_fd4_2, shC_pf4_2, shC_fd4_3, shC_pf4_3, shC_fd4_4, shC_pf4_4, shC_fd4_5, shC_fd4_6, shC_fd4_7, shC_fd4_8, shC_fd4_9, shC_fd4_10, shC_fd4_11, shC_fd4_12, shC_fd4_13, shC_al5, shC_ld5, shC_st5, shC_al6, shC_ld6, shC_st6, shC_al7, shC_ld7, shC_st7, shC_al8, shC_ld8, shC_st8, shC_al9, shC_ld9, shC_st9, shC_al10, shC_ld10, shC_st10, shC_al11, shC_ld11, shC_st11, shC_al12, shC_ld12, shC_st12, shC_al13, shC_ld13, shC_st13, shC_al14, shC_ld14, shC_st14, shC_al15, shC_ld15, shC_st15, shC_al16, shC_ld16, shC_st16, shC_al17, shC_ld17, shC_st17, shC_al18, shC_ld18, shC_st18, shC_fd19_0, shC_fd19_1, shC_fd19_2, shC_fd19_3, shC_fd19_4, shC_fd19_5, shC_fd20_0, shC_pf20_0, shC_fd20_1, shC_pf20_1, shC_fd20_2, shC_pf20_2, shC_fd20_3, shC_pf20_3, shC_fd20_4, shC_pf20_4, shC_fd20_5, shC_fd20_6, shC_fd20_7, shC_fd20_8, shC_fd20_9, shC_fd20_10, shC_fd20_11, shC_fd20_12, shC_fd20_13, shC_al21, shC_ld21, shC_st21, shC_al22, shC_ld22, shC_st22, shC_al23, shC_ld23, shC_st23, shC_al24, shC_ld24, shC_st24, shC_al25, shC_ld25, shC_st25, shC_al26, shC_ld26, shC_st26, shC_al27, shC_ld27, shC_st27, shC_al28, shC_ld28, shC_st28, shC_al29, shC_ld29, shC_st29, shC_al30, shC_ld30, shC_st30, shC_al31, shC_ld31, shC_st31, shC_al32, shC_ld32, shC_st32, shC_al33, shC_ld33, shC_st33, shC_al34, shC_ld34, shC_st34, shC_fd35_0, shC_fd35_1, shC_pf35_1, shC_al36, shC_ld36, shC_st36, shC_fd37_0, shC_fd37_1, shC_pf37_1, shC_fd37_2, shC_pf37_2, shC_fd37_3, shC_pf37_3, shC_al38, shC_ld38, shC_st38, shC_fd39_0, shC_pf39_0, shC_fd39_1, shC_pf39_1, shC_fd39_2, shC_pf39_2, shC_fd39_3, shC_fd39_4, shC_al40, shC_ld40, shC_st40, shC_fd41_0, shC_fd41_1, shC_pf41_1, shC_al42, shC_ld42, shC_st42, shC_fd43_0, shC_pf43_0, shC_fd43_1, shC_pf43_1, shC_fd43_2, shC_pf43_2, shC_fd43_3, shC_fd43_4, shC_al44, shC_ld44, shC_st44, shC_fd45_0, shC_fd45_1, shC_pf45_1, shC_al46, shC_ld46, shC_st46, ↓reduceIte, ite_self, Int.reduceLT, Int.reduceLE, Int.reduceEq, Int.reduceNeg]
theorem c_isSeeded (h : CI G n x L) : pm_ca pm_sC 85 [.inr (.inr 0), .inl (n : Int)] G = some (some (.inl 1), G) := by
  have r := all_lt is_all (n - 2) (by have := h.1; omega)
  rw [show n - 2 + 2 = n by have := h.1; omega] at r
  exact nm_sound pm_sC _ _ G (isO_ok h) _ _ _ _ _ (nm_is_of r)
end PLN
