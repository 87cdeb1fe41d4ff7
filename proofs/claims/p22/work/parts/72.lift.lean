/-! a run in a shape is a run in any that has more -/
def sh_le (S S' : PS) : Prop := ∀ r v, S r = some v → S' r = some v
section SHL
variable {S S' : PS}
theorem sh_fd (h : sh_le S S') {ci j r : Nat} {o : Option Nat} (q : pm_fd S ci j r = some o) : pm_fd S' ci j r = some o := by
  obtain ⟨fs, hs, hj⟩ := pm_fd_some q
  have e := h r _ hs
  unfold pm_fd at q ⊢
  rw [hs] at q
  rw [e]
  exact q
theorem sh_ar (h : sh_le S S') {t r n : Nat} (q : pm_ar S t r = some n) : pm_ar S' t r = some n := by
  have hs := pm_ar_some q
  have e := h r _ hs
  unfold pm_ar at q ⊢
  rw [hs] at q
  rw [e]
  exact q
theorem sh_al (h : sh_le S S') {r n : Nat} (q : pm_al S r = some n) : pm_al S' r = some n := by
  obtain ⟨ty, hs, hn⟩ := pm_al_some q
  have e := h r _ hs
  unfold pm_al at q ⊢
  rw [hs] at q
  rw [e]
  exact q
theorem sh_cl (h : sh_le S S') {r c : Nat} (q : pm_cls S r = some c) : pm_cls S' r = some c := by
  obtain ⟨fs, hs⟩ := pm_cls_some q
  have e := h r _ hs
  unfold pm_cls at q ⊢
  rw [hs] at q
  rw [e]
  try exact q
set_option maxHeartbeats 4000000 in
theorem sh_stp (hle : sh_le S S') {k pc len : Nat} {i : Instr} {P : PL} {st : List PV} {G : PW} {a : PA} (ha : pm_stp S k pc i len P st G = some a) : pm_stp S' k pc i len P st G = some a := by
  have hb := ha
  unfold pm_stp at ha
  split at ha
  all_goals first
    | exact hb
    | (exact absurd ha (by simp))
    | (rename_i ix
       split at ha
       · rename_i ci j pl hf
         obtain ⟨r, t, o, rfl, q, rfl⟩ := pm_a_gf ha
         have q := sh_fd hle q
         cases o with
         | some q2 => simp only [pm_stp, hf, pm_oGf, q]
         | none => simp only [pm_stp, hf, pm_oGf, q]
       · cases ha)
    | (rename_i ix
       split at ha
       · rename_i ci j pl hf
         obtain ⟨q, hq⟩ := pm_bif0 ha
         split at hq
         · rename_i hty
           obtain ⟨x, r, t, rfl, q1, q2, rfl⟩ := pm_a_pf hq
           have q1 := sh_fd hle q1
           simp only [pm_stp, hf, q, hty, cond_false, pm_oPf, q1, q2, cond_true]
         · rename_i hty
           obtain ⟨x, r, t, rfl, q1, q2, rfl⟩ := pm_a_pf hq
           have q1 := sh_fd hle q1
           simp only [pm_stp, hf, q, hty, cond_false, pm_oPf, q1, q2, cond_true]
         · cases hq
       · cases ha)
    | (obtain ⟨i, r, t, n, rfl, q1, q2, q3, rfl⟩ := pm_a_ald ha
       unfold pm_stp
       exact pm_ald_ok (sh_ar hle q1) q2 q3)
    | (obtain ⟨x, i, r, t, n, rfl, q1, q2, q3, q4, rfl⟩ := pm_a_ast ha
       unfold pm_stp
       exact pm_ast_ok (sh_ar hle q1) q2 q3 q4)
    | (obtain ⟨r, t, n, rfl, q, rfl⟩ := pm_a_len ha
       have q := sh_al hle q
       simp only [pm_stp, pm_oLen, q])
    | (rename_i ix
       split at ha
       · rename_i k' q hf
         obtain ⟨hr, hq⟩ := pm_bif ha rfl
         obtain ⟨r, as, t, q1, q2, q3, q4, rfl⟩ := pm_a_cv hq
         simp only [pm_stp, hf, hr, cond_true]
         exact pe_cv q1 (sh_cl hle q2) (Nat.beq_refl _) (Nat.ble_eq_true_of_le q3) (Nat.ble_eq_true_of_le q4)
       · cases ha)
theorem sh_ex (hle : sh_le S S') : ∀ (n k pc : Nat) (P : PL) (st : List PV) (G : PW) (r : PR), pm_ex S n k pc P st G = some r → pm_ex S' n k pc P st G = some r := by
  intro n
  induction n with
  | zero => intro k pc P st G r h; cases h
  | succ n ih =>
    intro k pc P st G r h
    simp only [pm_ex] at h ⊢
    cases hi : pm_ins k pc with
    | none => rw [hi] at h; cases h
    | some q =>
      obtain ⟨i, len⟩ := q
      rw [hi] at h
      dsimp only at h ⊢
      cases ha : pm_stp S k pc i len P st G with
      | none => rw [ha] at h; cases h
      | some a =>
        have hs := sh_stp hle ha
        rw [ha] at h
        rw [hs]
        rcases a with ⟨pc', P1, st', G0⟩ | ⟨k', as, pc', P1, st'⟩ | v
        · exact ih _ _ _ _ _ _ h
        · dsimp only at h ⊢
          cases hc : pm_ex S n k' 0 (pm_en (pm_nl k') as) [] G with
          | none => rw [hc] at h; cases h
          | some rw' =>
            obtain ⟨r1, G1⟩ := rw'
            rw [hc] at h
            rw [ih _ _ _ _ _ _ hc]
            exact ih _ _ _ _ _ _ h
        · exact h
theorem sh_ca (hle : sh_le S S') {k : Nat} {as : List PV} {G : PW} {r : PR} (h : pm_ca S k as G = some r) : pm_ca S' k as G = some r := by
  obtain ⟨n, hn⟩ := pm_dn_ex (show pm_dn S k 0 (pm_en (pm_nl k) as) [] G = some r from h)
  exact pm_dn_of (sh_ex hle n _ _ _ _ _ _ hn)
end SHL
theorem sh_F : sh_le pm_sC pm_sF := by
  have q : ∀ r, r < 47 → pm_sF r = pm_sC r := by
    intro r hr
    match r, hr with
    | 0, _ => rfl
    | 1, _ => rfl
    | 2, _ => rfl
    | 3, _ => rfl
    | 4, _ => rfl
    | 5, _ => rfl
    | 6, _ => rfl
    | 7, _ => rfl
    | 8, _ => rfl
    | 9, _ => rfl
    | 10, _ => rfl
    | 11, _ => rfl
    | 12, _ => rfl
    | 13, _ => rfl
    | 14, _ => rfl
    | 15, _ => rfl
    | 16, _ => rfl
    | 17, _ => rfl
    | 18, _ => rfl
    | 19, _ => rfl
    | 20, _ => rfl
    | 21, _ => rfl
    | 22, _ => rfl
    | 23, _ => rfl
    | 24, _ => rfl
    | 25, _ => rfl
    | 26, _ => rfl
    | 27, _ => rfl
    | 28, _ => rfl
    | 29, _ => rfl
    | 30, _ => rfl
    | 31, _ => rfl
    | 32, _ => rfl
    | 33, _ => rfl
    | 34, _ => rfl
    | 35, _ => rfl
    | 36, _ => rfl
    | 37, _ => rfl
    | 38, _ => rfl
    | 39, _ => rfl
    | 40, _ => rfl
    | 41, _ => rfl
    | 42, _ => rfl
    | 43, _ => rfl
    | 44, _ => rfl
    | 45, _ => rfl
    | 46, _ => rfl
    | r + 47, h => exact absurd h (by omega)
  intro r v h
  have hr : r < 47 := by
    rcases Nat.lt_or_ge r 47 with c | c
    · exact c
    · unfold pm_sC at h
      rw [Nat.ble_eq_true_of_le c] at h
      cases h
  rw [q r hr]
  exact h
theorem sh_P : sh_le pm_sC pm_sP := by
  have q : ∀ r, r < 47 → pm_sP r = pm_sC r := by
    intro r hr
    match r, hr with
    | 0, _ => rfl
    | 1, _ => rfl
    | 2, _ => rfl
    | 3, _ => rfl
    | 4, _ => rfl
    | 5, _ => rfl
    | 6, _ => rfl
    | 7, _ => rfl
    | 8, _ => rfl
    | 9, _ => rfl
    | 10, _ => rfl
    | 11, _ => rfl
    | 12, _ => rfl
    | 13, _ => rfl
    | 14, _ => rfl
    | 15, _ => rfl
    | 16, _ => rfl
    | 17, _ => rfl
    | 18, _ => rfl
    | 19, _ => rfl
    | 20, _ => rfl
    | 21, _ => rfl
    | 22, _ => rfl
    | 23, _ => rfl
    | 24, _ => rfl
    | 25, _ => rfl
    | 26, _ => rfl
    | 27, _ => rfl
    | 28, _ => rfl
    | 29, _ => rfl
    | 30, _ => rfl
    | 31, _ => rfl
    | 32, _ => rfl
    | 33, _ => rfl
    | 34, _ => rfl
    | 35, _ => rfl
    | 36, _ => rfl
    | 37, _ => rfl
    | 38, _ => rfl
    | 39, _ => rfl
    | 40, _ => rfl
    | 41, _ => rfl
    | 42, _ => rfl
    | 43, _ => rfl
    | 44, _ => rfl
    | 45, _ => rfl
    | 46, _ => rfl
    | r + 47, h => exact absurd h (by omega)
  intro r v h
  have hr : r < 47 := by
    rcases Nat.lt_or_ge r 47 with c | c
    · exact c
    · unfold pm_sC at h
      rw [Nat.ble_eq_true_of_le c] at h
      cases h
  rw [q r hr]
  exact h
