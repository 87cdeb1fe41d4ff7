/-! the reference's ways: closed runs over what is known of the memory -/
def ov (M : PM) (G : PW) : PW := fun r j => (pw_get M r j).getD (G r j)
theorem pw_at {S : PS} {n k pc : Nat} {P : PL} {st : List PV} {M M' : PM} {r : Option PV} {G : PW} (h : pw_ex S n k pc P st M = some (r, M')) (hG : pw_hs M G) : pm_dn S k pc P st G = some (r, ov M' G) := by
  obtain ⟨G', h1, h2, h3, -⟩ := pw_sound S _ _ _ _ _ _ _ _ _ h hG
  have e : G' = ov M' G := by
    funext a b
    unfold ov
    cases q : pw_get M' a b with
    | none => exact h3 a b q
    | some y => exact h2 a b y q
  rw [← e]
  exact pm_dn_of h1
theorem ov_no {M : PM} {G : PW} {r j : Nat} (h : pw_get M r j = none) : ov M G r j = G r j := by
  unfold ov
  rw [h]
  rfl
theorem ov_at {M : PM} {G : PW} {r j : Nat} {v : Int} (h : pw_get M r j = some v) : ov M G r j = v := by
  unfold ov
  rw [h]
  rfl
theorem nth_some {l : List Int} : ∀ j : Nat, j < l.length → pw_nth none (l.map some) j = some (pw_nth (-6) l j) := by
  induction l with
  | nil => intro j h; exact absurd h (Nat.not_lt_zero j)
  | cons a t ih =>
    intro j h
    cases j with
    | zero => rfl
    | succ j => exact ih j (by simpa using h)
def lr_up (z : Nat) : List (Option Int) := bif Nat.beq z 4 then [none, some 0, some 2] else bif Nat.beq z 8 then [none, some 0, some 4, some 6] else [none, some 0, some 8, some 12, some 14]
def lr_lo (z : Nat) : List (Option Int) := bif Nat.beq z 4 then [none, some 3, some 4] else bif Nat.beq z 8 then [none, some 7, some 9, some 11, some 12] else [none, some 15, some 19, some 23, some 25, some 27, some 28]
def lr_mn (z : Nat) : List (Option Int) := bif Nat.beq z 4 then [none, some 1, some 1] else bif Nat.beq z 8 then [none, some 2, some 2, some 1, some 1] else [none, some 4, some 4, some 2, some 2, some 1, some 1]
def tz (n : Nat) : Nat := bif Nat.ble n 4 then 4 else bif Nat.ble n 8 then 8 else 16
def lr_0 (z : Nat) : List (Option Int) := [none, none, none, none, none, some (z : Int), some (tR z : Int), some (tF z : Int)]
def lr_M (n z : Nat) : PM := [lr_0 z, [some (n : Int)], [], [], [], [], [], [], [], [], [], [], lr_up z, lr_lo z, lr_mn z]
theorem lr_all : (List.range 15).all (fun i => decide (pw_ex pm_sM 3000 111 0 (pm_en (pm_nl 111) [.inr (.inr 0)]) [] [[], [some ((i + 2 : Nat) : Int)]] = some (none, lr_M (i + 2) (tz (i + 2))))) = true := by decide +kernel
theorem lr_run {n : Nat} (h : 2 ≤ n ∧ n ≤ 16) : pw_ex pm_sM 3000 111 0 (pm_en (pm_nl 111) [.inr (.inr 0)]) [] [[], [some (n : Int)]] = some (none, lr_M n (tz n)) := by
  have q := of_decide_eq_true (all_lt lr_all (n - 2) (by omega))
  rw [show n - 2 + 2 = n by omega] at q
  exact q
def lw_0 (z x : Nat) : PM := [lr_0 z, [none, some (x : Int)], [], [], [], [], [], [], [], [], [], [], lr_up z, lr_lo z, lr_mn z]
def lw_M (z x : Nat) : PM := [lr_0 z, [none, some (x : Int)], [], [], [], (tz_part z).map some, (tz_round z).map some, (tz_index z).map some, (tz_wt z).map some, (tz_wd z).map some, (tz_lt z x).map some, (tz_ld z x).map some, lr_up z, lr_lo z, lr_mn z, (tz_seed z).map some, (tz_seed z).map some]
theorem lw_run {z x : Nat} (h : cfg z x) : pw_ex pm_sM 20000 116 4 [some (.inr (.inr 0)), none, none] [] (lw_0 z x) = some (none, lw_M z x) := by
  refine cfg_ind (P := fun z x => pw_ex pm_sM 20000 116 4 [some (.inr (.inr 0)), none, none] [] (lw_0 z x) = some (none, lw_M z x)) ⟨?_, ?_, ?_, ?_, ?_, ?_⟩ h
  · decide +kernel
  · decide +kernel
  · decide +kernel
  · decide +kernel
  · decide +kernel
  · decide +kernel
/-- the memory behind the laying of the ways -/
def wayed (G : PW) (n x : Nat) : PW := ov (lw_M (tz n) x) (ov (lr_M n (tz n)) G)
theorem tz_cfg {n x : Nat} (h : 2 ≤ n ∧ n ≤ 16) (hx : x = 0 ∨ x = 1) : cfg (tz n) x ∧ n ≤ tz n := by
  have e : tz n = if n ≤ 4 then 4 else if n ≤ 8 then 8 else 16 := by
    unfold tz
    by_cases c1 : n ≤ 4
    · rw [Nat.ble_eq_true_of_le c1, if_pos c1]
      rfl
    · have b1 : Nat.ble n 4 = false := by
        cases q : Nat.ble n 4 with
        | false => rfl
        | true => exact absurd (Nat.le_of_ble_eq_true q) c1
      rw [b1, if_neg c1]
      by_cases c2 : n ≤ 8
      · rw [Nat.ble_eq_true_of_le c2, if_pos c2]
        rfl
      · have b2 : Nat.ble n 8 = false := by
          cases q : Nat.ble n 8 with
          | false => rfl
          | true => exact absurd (Nat.le_of_ble_eq_true q) c2
        rw [b2, if_neg c2]
        rfl
  rw [e]
  by_cases c1 : n ≤ 4
  · rw [if_pos c1]
    exact ⟨⟨Or.inl rfl, hx⟩, c1⟩
  · rw [if_neg c1]
    by_cases c2 : n ≤ 8
    · rw [if_pos c2]
      exact ⟨⟨Or.inr (Or.inl rfl), hx⟩, c2⟩
    · rw [if_neg c2]
      exact ⟨⟨Or.inr (Or.inr rfl), hx⟩, h.2⟩
theorem lw_row {z x r : Nat} (n : Nat) (h : r ≠ 1) (j : Nat) : pw_get (lw_0 z x) r j = pw_get (lr_M n z) r j := by
  match r with
  | 0 => rfl
  | 1 => exact absurd rfl h
  | r + 2 => rfl
theorem wayed_1 {G : PW} {n x : Nat} (hn : G 1 0 = (n : Int)) (hx : G 1 1 = (x : Int)) : wayed G n x 1 = G 1 := by
  funext j
  unfold wayed
  match j with
  | 0 => rw [ov_no rfl, ov_at (show pw_get (lr_M n (tz n)) 1 0 = some (n : Int) from rfl), hn]
  | 1 => rw [ov_at (show pw_get (lw_M (tz n) x) 1 1 = some (x : Int) from rfl), hx]
  | j + 2 => rw [ov_no rfl, ov_no rfl]
theorem wayed_r {G : PW} {n x r : Nat} (h : r = 2 ∨ r = 3 ∨ r = 4 ∨ 17 ≤ r) : wayed G n x r = G r := by
  funext j
  unfold wayed
  match r with
  | 0 => omega
  | 1 => omega
  | 2 => rw [ov_no rfl, ov_no rfl]
  | 3 => rw [ov_no rfl, ov_no rfl]
  | 4 => rw [ov_no rfl, ov_no rfl]
  | 5 => omega
  | 6 => omega
  | 7 => omega
  | 8 => omega
  | 9 => omega
  | 10 => omega
  | 11 => omega
  | 12 => omega
  | 13 => omega
  | 14 => omega
  | 15 => omega
  | 16 => omega
  | r + 17 => rw [ov_no rfl, ov_no rfl]
theorem wayed_0 {G : PW} {n x j : Nat} (h : j < 5 ∨ 8 ≤ j) : wayed G n x 0 j = G 0 j := by
  unfold wayed
  match j with
  | 0 => rw [ov_no rfl, ov_no rfl]
  | 1 => rw [ov_no rfl, ov_no rfl]
  | 2 => rw [ov_no rfl, ov_no rfl]
  | 3 => rw [ov_no rfl, ov_no rfl]
  | 4 => rw [ov_no rfl, ov_no rfl]
  | 5 => omega
  | 6 => omega
  | 7 => omega
  | j + 8 => rw [ov_no rfl, ov_no rfl]
theorem tz_len {z x : Nat} (h : cfg z x) : ((tz_part z).length = tF z ∧ (tz_round z).length = tF z ∧ (tz_index z).length = tF z) ∧ ((tz_wt z).length = tF z ∧ (tz_wd z).length = tF z ∧ (tz_ws z).length = tF z) ∧ ((tz_lt z x).length = tF z ∧ (tz_ld z x).length = tF z ∧ (tz_ls z x).length = tF z) ∧ (tz_seed z).length = z := by
  refine cfg_ind (P := fun z x => ((tz_part z).length = tF z ∧ (tz_round z).length = tF z ∧ (tz_index z).length = tF z) ∧ ((tz_wt z).length = tF z ∧ (tz_wd z).length = tF z ∧ (tz_ws z).length = tF z) ∧ ((tz_lt z x).length = tF z ∧ (tz_ld z x).length = tF z ∧ (tz_ls z x).length = tF z) ∧ (tz_seed z).length = z) ?_ h
  decide +kernel
theorem wayed_plan {G : PW} {n x : Nat} (h : 2 ≤ n ∧ n ≤ 16) (hx : x = 0 ∨ x = 1) : planM (wayed G n x) (tz n) x := by
  obtain ⟨hc, -⟩ := tz_cfg h hx
  obtain ⟨⟨l1, l2, l3⟩, ⟨l4, l5, -⟩, ⟨l6, l7, -⟩, l8⟩ := tz_len hc
  refine ⟨⟨ov_at rfl, ov_at rfl, ov_at rfl⟩, fun m hm => ⟨⟨ov_at (nth_some m (by omega)), ov_at (nth_some m (by omega)), ov_at (nth_some m (by omega))⟩, ⟨ov_at (nth_some m (by omega)), ov_at (nth_some m (by omega))⟩, ov_at (nth_some m (by omega)), ov_at (nth_some m (by omega))⟩, fun s hs => ov_at (nth_some s (by omega))⟩
theorem m_layWays {G : PW} {n x : Nat} (h : 2 ≤ n ∧ n ≤ 16) (hx : x = 0 ∨ x = 1) (hG : G 1 0 = (n : Int)) (hG2 : G 1 1 = (x : Int)) : pm_ca pm_sM 116 [.inr (.inr 0)] G = some (none, wayed G n x) := by
  have h1 : pm_ca pm_sM 111 [.inr (.inr 0)] G = some (none, ov (lr_M n (tz n)) G) := pw_at (lr_run h) (fun r j v hv => by
    match r with
    | 0 => cases hv
    | 1 =>
      match j with
      | 0 =>
        rw [hG]
        exact Option.some.inj hv
      | j + 1 => cases hv
    | r + 2 => cases hv)
  have h2 : pm_dn pm_sM 116 4 [some (.inr (.inr 0)), none, none] [] (ov (lr_M n (tz n)) G) = some (none, wayed G n x) := pw_at (lw_run (tz_cfg h hx).1) (fun r j v hv => by
    by_cases c : r = 1
    · subst c
      match j with
      | 0 => cases hv
      | 1 =>
        rw [ov_no rfl, hG2]
        exact Option.some.inj hv
      | j + 2 => cases hv
    · rw [lw_row n c] at hv
      exact ov_at hv)
  simp (disch := first | assumption | omega | (simp (disch := omega) only [stv_ne, upd_ne])) only [ue_116, u_116_0, u_116_1, u_116_5, u_116_8, u_116_9, u_116_11, u_116_12, u_116_15, u_116_18, u_116_19, u_116_21, u_116_22, u_116_25, u_116_26, u_116_27, u_116_30, u_116_31, u_116_32, u_116_33, u_116_36, u_116_39, u_116_42, u_116_45, u_116_48, u_116_49, u_116_51, u_116_52, u_116_53, u_116_56, u_116_57, u_116_58, u_116_59, u_116_62, u_116_63, u_116_65, u_116_66, u_116_69, u_116_70, u_116_71, u_116_74, u_116_75, u_116_76, u_116_77, u_116_80, u_116_83, u_116_86, u_116_89, u_116_92, u_116_93, u_116_94, u_116_97, u_116_98, u_116_99, u_116_100, u_116_101, u_116_102, u_116_105, u_116_106, u_116_107, u_116_110, u_116_111, u_116_112, u_116_113, u_116_114, u_116_115, u_116_118, uc_111_0_0, uc_111_0_1, uc_111_0_2, uc_111_0_3, uc_112_0_0, uc_112_0_1, uc_112_0_2, uc_112_0_3, uc_113_0_0, uc_113_0_1, uc_113_0_2, uc_113_0_3, uc_114_0_0, uc_114_0_1, uc_114_0_2, uc_114_0_3, uc_115_0_0, uc_115_0_1, uc_115_0_2, uc_115_0_3, h1, if_true, if_false, pm_go_n, pm_go_c, pm_go_r, pm_go_i, pm_oIL, pm_oLL, pm_oAL, pm_oIS, pm_oLS, pm_oAS, pm_oK, pm_oKL, pe_add, pe_sub, pe_mul, pe_div, pe_rem, pe_shr, pe_and, pm_oInc, pe_rgb, pe_if, pe_ic, pe_b1, pe_nn, pe_eq, pe_ne, pe_lt, pe_ge, pe_gt, pe_le, pe_go, pe_ri0, pe_ri1, pe_ri2, pe_i2c, pm_oRv, pm_oGf, pm_oLen, pm_oDup, pm_oDu2, pm_oPop, pm_oL2i, pm_oLand, pm_oLus, pm_oLsh, pm_oLcm, lk_0, lk_1, lk_2, lk_3, lk_4, lk_5, lk_6, lk_7, lk_8, st_0, st_1n, st_1i, st_1r, st_2, st_3, st_4, st_5, st_6, st_7, st_8, Option.toList_some, Option.toList_none, List.cons_append, List.nil_append, shM_fd0_0, shM_fd0_1, shM_fd0_2, shM_fd0_3, shM_fd0_4, shM_pf0_4, shM_fd0_5, shM_pf0_5, shM_fd0_6, shM_pf0_6, shM_fd0_7, shM_pf0_7, shM_fd0_8, shM_fd0_9, shM_fd0_10, shM_fd0_11, shM_fd0_12, shM_fd0_13, shM_fd0_14, shM_fd0_15, shM_fd0_16, shM_fd0_17, shM_fd0_18, shM_fd0_19, shM_fd0_20, shM_fd0_21, shM_fd0_22, shM_fd0_23, shM_fd0_24, shM_fd0_25, shM_pf0_25, shM_fd0_26, shM_pf0_26, shM_fd0_27, shM_fd0_28, shM_fd0_29, shM_pf0_29, shM_fd0_30, shM_pf0_30, shM_fd0_31, shM_fd0_32, shM_fd0_33, shM_pf0_33, shM_al1, shM_ld1, shM_st1, shM_al2, shM_ld2, shM_st2, shM_al3, shM_ld3, shM_st3, shM_al4, shM_ld4, shM_st4, shM_al5, shM_ld5, shM_st5, shM_al6, shM_ld6, shM_st6, shM_al7, shM_ld7, shM_st7, shM_al8, shM_ld8, shM_st8, shM_al9, shM_ld9, shM_st9, shM_al10, shM_ld10, shM_st10, shM_al11, shM_ld11, shM_st11, shM_al12, shM_ld12, shM_st12, shM_al13, shM_ld13, shM_st13, shM_al14, shM_ld14, shM_st14, shM_al15, shM_ld15, shM_st15, shM_al16, shM_ld16, shM_st16, shM_al17, shM_ld17, shM_st17, shM_al18, shM_ld18, shM_st18, shM_al19, shM_ld19, shM_st19, shM_al20, shM_ld20, shM_st20, shM_al21, shM_ld21, shM_st21, shM_al22, shM_ld22, shM_st22, shM_al23, shM_ld23, shM_st23, shM_al24, shM_ld24, shM_st24, shM_al25, shM_ld25, shM_st25]
  exact h2
