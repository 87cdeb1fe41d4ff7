/-! what is known of the locals may be more -/
def pl_LE (P P' : PL) : Prop := P.length = P'.length ∧ ∀ j v, pm_lk P j = some v → pm_lk P' j = some v
theorem pl_len_st : ∀ (P : PL) (i : Nat) (o : Option PV), (pm_st P i o).length = P.length := by
  intro P
  induction P with
  | nil => intro i o; rfl
  | cons a t ih =>
    intro i o
    cases i with
    | zero => rfl
    | succ i => show (pm_st t i o).length + 1 = t.length + 1; rw [ih]
theorem pl_len_c1 (P : PL) (i : Nat) : (pm_c1 P i).length = P.length := by
  unfold pm_c1
  cases i with
  | zero => rfl
  | succ i =>
    dsimp only
    split
    · exact pl_len_st _ _ _
    · rfl
theorem pl_c1 {P : PL} {i j : Nat} {w : PV} (h : pm_lk P j = some w) (hn : j + 1 = i → ∀ x, w ≠ .inr (.inl x)) : pm_lk (pm_c1 P i) j = some w := by
  unfold pm_c1
  cases i with
  | zero => exact h
  | succ i =>
    dsimp only
    split
    · rename_i x hx
      rw [pm_lk_st]
      by_cases hj : j = i
      · subst hj
        rw [h] at hx
        cases hx
        exact absurd rfl (hn rfl x)
      · rw [if_neg (fun q => hj q.1)]
        exact h
    · exact h
theorem pl_sto {P P' : PL} {i : Nat} {v : PV} (h : pl_LE P P') : pl_LE (pm_sto P i v) (pm_sto P' i v) := by
  refine ⟨?_, fun j w hw => ?_⟩
  · unfold pm_sto
    rw [pl_len_st, pl_len_st, pl_len_c1, pl_len_c1]
    exact h.1
  · have hl := pm_lk_len _ _ _ hw
    rcases pm_lk_sto hw with ⟨rfl, rfl⟩ | ⟨hj, h2, h3⟩
    · unfold pm_sto at hl ⊢
      rw [pl_len_st, pl_len_c1, h.1] at hl
      rw [pm_lk_st, if_pos ⟨rfl, by rw [pl_len_c1]; exact hl⟩]
    · unfold pm_sto
      rw [pm_lk_st, if_neg (fun q => hj q.1)]
      exact pl_c1 (h.2 j w h2) h3
theorem pl_stl {P P' : PL} {i : Nat} {x : Int64} (h : pl_LE P P') : pl_LE (pm_stl P i x) (pm_stl P' i x) := by
  refine ⟨?_, fun j w hw => ?_⟩
  · unfold pm_stl
    rw [pl_len_st, pl_len_st, pl_len_st, pl_len_st, pl_len_c1, pl_len_c1]
    exact h.1
  · have hl := pm_lk_len _ _ _ hw
    rcases pm_lk_stl hw with ⟨rfl, rfl⟩ | ⟨hj, hj2, h2, h3⟩
    · unfold pm_stl at hl ⊢
      rw [pl_len_st, pl_len_st, pl_len_c1, h.1] at hl
      rw [pm_lk_st, if_pos ⟨rfl, by rw [pl_len_st, pl_len_c1]; exact hl⟩]
    · unfold pm_stl
      rw [pm_lk_st, if_neg (fun q => hj q.1), pm_lk_st, if_neg (fun q => hj2 q.1)]
      exact pl_c1 (h.2 j w h2) h3
def pl_sim (S : PS) (k pc : Nat) (i : Instr) (len : Nat) (P' : PL) (st : List PV) (G : PW) (a : PA) : Prop := match a with
  | .inl (pc', P1, st', G') => ∃ P2, pm_stp S k pc i len P' st G = some (.inl (pc', P2, st', G')) ∧ pl_LE P1 P2
  | .inr (.inl (k', as, pc', P1, st')) => ∃ P2, pm_stp S k pc i len P' st G = some (.inr (.inl (k', as, pc', P2, st'))) ∧ pl_LE P1 P2
  | .inr (.inr v) => pm_stp S k pc i len P' st G = some (.inr (.inr v))
theorem pl_sim0 {S : PS} {k pc len : Nat} {i : Instr} {P P' : PL} {st st' : List PV} {G G' : PW} {pc' : Nat} (hle : pl_LE P P') (h : pm_stp S k pc i len P' st G = some (.inl (pc', P', st', G'))) : pl_sim S k pc i len P' st G (.inl (pc', P, st', G')) := ⟨P', h, hle⟩
set_option maxHeartbeats 4000000 in
theorem pl_step {S : PS} {k pc len : Nat} {i : Instr} {P P' : PL} {st : List PV} {G : PW} {a : PA} (hle : pl_LE P P') (ha : pm_stp S k pc i len P st G = some a) : pl_sim S k pc i len P' st G a := by
  unfold pm_stp at ha
  split at ha
  · rename_i j
    obtain ⟨x, hx', rfl⟩ := pm_a_il ha
    have hx' := hle.2 _ _ hx'
    exact pl_sim0 hle (by simp only [pm_stp, pm_oIL, hx'])
  · rename_i j
    obtain ⟨x, hx', rfl⟩ := pm_a_il ha
    have hx' := hle.2 _ _ hx'
    exact pl_sim0 hle (by simp only [pm_stp, pm_oIL, hx'])
  · rename_i j
    obtain ⟨x, hx', rfl⟩ := pm_a_ll ha
    have hx' := hle.2 _ _ hx'
    exact pl_sim0 hle (by simp only [pm_stp, pm_oLL, hx'])
  · rename_i j
    obtain ⟨x, hx', rfl⟩ := pm_a_ll ha
    have hx' := hle.2 _ _ hx'
    exact pl_sim0 hle (by simp only [pm_stp, pm_oLL, hx'])
  · rename_i j
    obtain ⟨x, hx', rfl⟩ := pm_a_al ha
    have hx' := hle.2 _ _ hx'
    exact pl_sim0 hle (by simp only [pm_stp, pm_oAL, hx'])
  · rename_i j
    obtain ⟨x, hx', rfl⟩ := pm_a_al ha
    have hx' := hle.2 _ _ hx'
    exact pl_sim0 hle (by simp only [pm_stp, pm_oAL, hx'])
  · rename_i j
    obtain ⟨x, t, rfl, rfl⟩ := pm_a_is ha
    exact ⟨_, rfl, pl_sto hle⟩
  · rename_i j
    obtain ⟨x, t, rfl, rfl⟩ := pm_a_is ha
    exact ⟨_, rfl, pl_sto hle⟩
  · rename_i j
    obtain ⟨x, t, rfl, rfl⟩ := pm_a_ls ha
    exact ⟨_, rfl, pl_stl hle⟩
  · rename_i j
    obtain ⟨x, t, rfl, rfl⟩ := pm_a_ls ha
    exact ⟨_, rfl, pl_stl hle⟩
  · rename_i j
    obtain ⟨x, t, rfl, rfl⟩ := pm_a_as ha
    exact ⟨_, rfl, pl_sto hle⟩
  · rename_i j
    obtain ⟨x, t, rfl, rfl⟩ := pm_a_as ha
    exact ⟨_, rfl, pl_sto hle⟩
  · rename_i x
    obtain ⟨q, hq⟩ := pm_bif ha rfl
    cases hq
    exact pl_sim0 hle (by simp only [pm_stp, q, cond_true, pm_oK])
  · rename_i x
    obtain ⟨q, hq⟩ := pm_bif ha rfl
    cases hq
    exact pl_sim0 hle (by simp only [pm_stp, q, cond_true, pm_oK])
  · rename_i x
    obtain ⟨q, hq⟩ := pm_bif ha rfl
    cases hq
    exact pl_sim0 hle (by simp only [pm_stp, q, cond_true, pm_oK])
  · cases ha
    exact pl_sim0 hle rfl
  · rename_i ix
    split at ha
    · rename_i x pl hc
      cases ha
      exact pl_sim0 hle (by simp only [pm_stp, hc]; rfl)
    · cases ha
  · obtain ⟨x, y, t, rfl, q, rfl⟩ := pm_a_add ha
    exact pl_sim0 hle (by unfold pm_stp; exact pe_add (pm_rg_iff.mp q).1 (pm_rg_iff.mp q).2)
  · obtain ⟨x, y, t, rfl, q, rfl⟩ := pm_a_sub ha
    exact pl_sim0 hle (by unfold pm_stp; exact pe_sub (pm_rg_iff.mp q).1 (pm_rg_iff.mp q).2)
  · obtain ⟨x, y, t, rfl, q, rfl⟩ := pm_a_mul ha
    exact pl_sim0 hle (by unfold pm_stp; exact pe_mul (pm_rg_iff.mp q).1 (pm_rg_iff.mp q).2)
  · obtain ⟨x, y, t, rfl, q1, q2, rfl⟩ := pm_a_div ha
    exact pl_sim0 hle (by unfold pm_stp; exact pe_div q1 q2)
  · obtain ⟨x, y, t, rfl, q1, q2, rfl⟩ := pm_a_rem ha
    exact pl_sim0 hle (by unfold pm_stp; exact pe_rem q1 q2)
  · obtain ⟨x, y, t, rfl, q1, q2, q3, rfl⟩ := pm_a_shr ha
    exact pl_sim0 hle (by unfold pm_stp; exact pe_shr q1 q2 q3)
  · obtain ⟨x, y, t, rfl, q1, q2, rfl⟩ := pm_a_and ha
    subst q2
    exact pl_sim0 hle (by unfold pm_stp; exact pe_and q1)
  · obtain ⟨x, t, rfl, rfl⟩ := pm_a_l2i ha
    exact pl_sim0 hle rfl
  · obtain ⟨x, t, rfl, q, rfl⟩ := pm_a_i2c ha
    exact pl_sim0 hle (by simp only [pm_stp, pm_oI2c, q, cond_true])
  · obtain ⟨x, y, t, rfl, rfl⟩ := pm_a_land ha
    exact pl_sim0 hle rfl
  · obtain ⟨x, y, t, rfl, rfl⟩ := pm_a_lus ha
    exact pl_sim0 hle rfl
  · obtain ⟨x, y, t, rfl, rfl⟩ := pm_a_lsh ha
    exact pl_sim0 hle rfl
  · obtain ⟨x, y, t, rfl, rfl⟩ := pm_a_lcm ha
    exact pl_sim0 hle rfl
  · rename_i cc off
    obtain ⟨g, x, t, hg, rfl, hbr⟩ := pm_a_if ha
    rcases pm_a_br hbr with ⟨hc, rfl⟩ | ⟨hc, rfl⟩
    · exact pl_sim0 hle (by simp only [pm_stp, hg]; rw [pe_if, if_pos hc])
    · exact pl_sim0 hle (by simp only [pm_stp, hg]; rw [pe_if, if_neg (by rw [hc]; decide)])
  · rename_i cc off
    obtain ⟨g, x, y, t, hg, rfl, hbr⟩ := pm_a_icm ha
    rcases pm_a_br hbr with ⟨hc, rfl⟩ | ⟨hc, rfl⟩
    · exact pl_sim0 hle (by simp only [pm_stp, hg]; rw [pe_ic, if_pos hc])
    · exact pl_sim0 hle (by simp only [pm_stp, hg]; rw [pe_ic, if_neg (by rw [hc]; decide)])
  · rename_i off
    obtain ⟨g, hg, rfl⟩ := pm_a_go ha
    exact pl_sim0 hle (by simp only [pm_stp, hg, pm_oGo])
  · obtain ⟨d, gs, x, t, g, q1, q2, rfl, q3, rfl⟩ := pm_a_sw ha
    exact pl_sim0 hle (by simp only [pm_stp, q1, q2]; exact pe_sw q3)
  · rename_i ix
    split at ha
    · rename_i ci j pl hf
      obtain ⟨r, t, o, rfl, q, rfl⟩ := pm_a_gf ha
      cases o with
      | some q2 => exact pl_sim0 hle (by simp only [pm_stp, hf, pm_oGf, q])
      | none => exact pl_sim0 hle (by simp only [pm_stp, hf, pm_oGf, q])
    · cases ha
  · rename_i ix
    split at ha
    · rename_i ci j pl hf
      obtain ⟨q, hq⟩ := pm_bif0 ha
      split at hq
      · rename_i hty
        obtain ⟨x, r, t, rfl, q1, q2, rfl⟩ := pm_a_pf hq
        exact pl_sim0 hle (by simp only [pm_stp, hf, q, hty, cond_false, pm_oPf, q1, q2, cond_true])
      · rename_i hty
        obtain ⟨x, r, t, rfl, q1, q2, rfl⟩ := pm_a_pf hq
        exact pl_sim0 hle (by simp only [pm_stp, hf, q, hty, cond_false, pm_oPf, q1, q2, cond_true])
      · cases hq
    · cases ha
  · obtain ⟨i, r, t, n, rfl, q1, q2, q3, rfl⟩ := pm_a_ald ha
    exact pl_sim0 hle (by unfold pm_stp; exact pm_ald_ok q1 q2 q3)
  · obtain ⟨i, r, t, n, rfl, q1, q2, q3, rfl⟩ := pm_a_ald ha
    exact pl_sim0 hle (by unfold pm_stp; exact pm_ald_ok q1 q2 q3)
  · obtain ⟨x, y, t, rfl, q1, q2, rfl⟩ := pm_a_or ha
    exact pl_sim0 hle (by unfold pm_stp; exact pm_or_ok q1 q2)
  · obtain ⟨x, i, r, t, n, rfl, q1, q2, q3, q4, rfl⟩ := pm_a_ast ha
    exact pl_sim0 hle (by unfold pm_stp; exact pm_ast_ok q1 q2 q3 q4)
  · obtain ⟨x, i, r, t, n, rfl, q1, q2, q3, q4, rfl⟩ := pm_a_ast ha
    exact pl_sim0 hle (by unfold pm_stp; exact pm_ast_ok q1 q2 q3 q4)
  · obtain ⟨r, t, n, rfl, q, rfl⟩ := pm_a_len ha
    exact pl_sim0 hle (by simp only [pm_stp, pm_oLen, q])
  · have e : ∀ P2 : PL, pm_oDup (pc + 1) P st G = some a → ∃ b, a = .inl b ∧ b.2.1 = P ∧ pm_oDup (pc + 1) P2 st G = some (.inl (b.1, P2, b.2.2.1, b.2.2.2)) := by
      intro P2 h
      unfold pm_oDup at h ⊢
      split at h
      · exact ⟨_, (Option.some.inj h).symm, rfl, rfl⟩
      · exact ⟨_, (Option.some.inj h).symm, rfl, rfl⟩
      · cases h
    obtain ⟨⟨b1, b2, b3, b4⟩, rfl, rfl, hb⟩ := e P' ha
    exact pl_sim0 hle hb
  · have e : ∀ P2 : PL, pm_oDu2 (pc + 1) P st G = some a → ∃ b, a = .inl b ∧ b.2.1 = P ∧ pm_oDu2 (pc + 1) P2 st G = some (.inl (b.1, P2, b.2.2.1, b.2.2.2)) := by
      intro P2 h
      unfold pm_oDu2 at h ⊢
      split at h
      · exact ⟨_, (Option.some.inj h).symm, rfl, rfl⟩
      · cases h
    obtain ⟨⟨b1, b2, b3, b4⟩, rfl, rfl, hb⟩ := e P' ha
    exact pl_sim0 hle hb
  · have e : ∀ P2 : PL, pm_oPop (pc + 1) P st G = some a → ∃ b, a = .inl b ∧ b.2.1 = P ∧ pm_oPop (pc + 1) P2 st G = some (.inl (b.1, P2, b.2.2.1, b.2.2.2)) := by
      intro P2 h
      unfold pm_oPop at h ⊢
      split at h
      · exact ⟨_, (Option.some.inj h).symm, rfl, rfl⟩
      · cases h
    obtain ⟨⟨b1, b2, b3, b4⟩, rfl, rfl, hb⟩ := e P' ha
    exact pl_sim0 hle hb
  · rename_i j b
    obtain ⟨x, hx', q, rfl⟩ := pm_a_inc ha
    have hx' := hle.2 _ _ hx'
    exact ⟨_, (by unfold pm_stp; exact pe_inc hx' (pm_rg_iff.mp q).1 (pm_rg_iff.mp q).2), pl_sto hle⟩
  · rename_i ix
    split at ha
    · rename_i k' q hf
      obtain ⟨hr, hq⟩ := pm_bif ha rfl
      obtain ⟨r, as, t, q1, q2, q3, q4, rfl⟩ := pm_a_cv hq
      refine ⟨P', ?_, hle⟩
      simp only [pm_stp, hf, hr, cond_true]
      exact pe_cv q1 q2 (Nat.beq_refl _) (Nat.ble_eq_true_of_le q3) (Nat.ble_eq_true_of_le q4)
    · cases ha
  · rename_i ix
    split at ha
    · rename_i k' q hf
      obtain ⟨hr, hq⟩ := pm_bif ha rfl
      obtain ⟨as, t, q1, q2, q3, rfl⟩ := pm_a_cs hq
      refine ⟨P', ?_, hle⟩
      simp only [pm_stp, hf, hr, cond_true]
      exact pe_cs q1 (Nat.ble_eq_true_of_le q2) (Nat.ble_eq_true_of_le q3)
    · rename_i k' q hf
      obtain ⟨hr, hq⟩ := pm_bif ha rfl
      obtain ⟨as, t, q1, q2, q3, rfl⟩ := pm_a_cs hq
      refine ⟨P', ?_, hle⟩
      simp only [pm_stp, hf, hr, cond_true]
      exact pe_cs q1 (Nat.ble_eq_true_of_le q2) (Nat.ble_eq_true_of_le q3)
    · cases ha
  · obtain ⟨h0, hq⟩ := pm_bif ha rfl
    obtain ⟨rfl, rfl⟩ := pm_a_rv hq
    show pm_stp S k pc .return_ 1 P' [] G = _
    simp only [pm_stp, h0, cond_true]
    rfl
  · split at ha
    · rename_i hq
      obtain ⟨x, rfl, q, rfl⟩ := pm_a_ri ha
      show pm_stp S k pc .ireturn 1 P' [.inl x] G = _
      simp only [pm_stp, hq]
      exact ha
    · rename_i hq
      obtain ⟨x, rfl, q, rfl⟩ := pm_a_ri ha
      show pm_stp S k pc .ireturn 1 P' [.inl x] G = _
      simp only [pm_stp, hq]
      exact ha
    · rename_i hq
      obtain ⟨x, rfl, q, rfl⟩ := pm_a_ri ha
      show pm_stp S k pc .ireturn 1 P' [.inl x] G = _
      simp only [pm_stp, hq]
      exact ha
    · cases ha
  · cases ha
theorem pl_mono (S : PS) : ∀ (n k pc : Nat) (P P' : PL) (st : List PV) (G : PW) (r : PR), pl_LE P P' → pm_ex S n k pc P st G = some r → pm_ex S n k pc P' st G = some r := by
  intro n
  induction n with
  | zero => intro k pc P P' st G r _ h; cases h
  | succ n ih =>
    intro k pc P P' st G r hle h
    simp only [pm_ex] at h ⊢
    cases hi : pm_ins k pc with
    | none => rw [hi] at h; cases h
    | some q =>
      obtain ⟨i, len⟩ := q
      rw [hi] at h
      dsimp only at h ⊢
      cases ha : pm_stp S k pc i len P st G with
      | none => rw [ha] at h; cases h
      | some a =>
        have hs := pl_step hle ha
        rw [ha] at h
        rcases a with ⟨pc', P1, st', G0⟩ | ⟨k', as, pc', P1, st'⟩ | v
        · obtain ⟨P2, h1, h2⟩ := hs
          rw [h1]
          exact ih _ _ _ _ _ _ _ h2 h
        · obtain ⟨P2, h1, h2⟩ := hs
          rw [h1]
          dsimp only at h ⊢
          cases hc : pm_ex S n k' 0 (pm_en (pm_nl k') as) [] G with
          | none => rw [hc] at h; cases h
          | some rw' =>
            obtain ⟨r1, G1⟩ := rw'
            rw [hc] at h
            exact ih _ _ _ _ _ _ _ h2 h
        · have hs : pm_stp S k pc i len P' st G = some (.inr (.inr v)) := hs
          rw [hs]
          exact h
theorem pm_dn_mono {S : PS} {k pc : Nat} {P P' : PL} {st : List PV} {G : PW} {r : PR} (hle : pl_LE P P') (h : pm_dn S k pc P st G = some r) : pm_dn S k pc P' st G = some r := by
  obtain ⟨n, hn⟩ := pm_dn_ex h
  exact pm_dn_of (pl_mono S n k pc P P' st G r hle hn)
theorem pl_nil : pl_LE [] [] := ⟨rfl, fun _ _ h => by cases h⟩
theorem pl_n {a : Option PV} {P P' : PL} (h : pl_LE P P') : pl_LE (none :: P) (a :: P') := ⟨by rw [List.length_cons, List.length_cons, h.1], fun j v hv => by
  cases j with
  | zero => cases hv
  | succ j => exact h.2 j v hv⟩
theorem pl_s {a : Option PV} {P P' : PL} (h : pl_LE P P') : pl_LE (a :: P) (a :: P') := ⟨by rw [List.length_cons, List.length_cons, h.1], fun j v hv => by
  cases j with
  | zero => exact hv
  | succ j => exact h.2 j v hv⟩
