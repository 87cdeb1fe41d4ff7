/-! runs over a memory of which only some cells are known -/
abbrev PM : Type := List (List (Option Int))
def pw_nth {α : Type} (d : α) : List α → Nat → α
  | [], _ => d
  | a :: _, 0 => a
  | _ :: t, n + 1 => pw_nth d t n
def pw_setl {α : Type} (d : α) : List α → Nat → α → List α
  | [], 0, x => [x]
  | [], n + 1, x => d :: pw_setl d [] n x
  | _ :: t, 0, x => x :: t
  | a :: t, n + 1, x => a :: pw_setl d t n x
def pw_get (M : PM) (r j : Nat) : Option Int := pw_nth none (pw_nth [] M r) j
def pw_set (M : PM) (r j : Nat) (x : Int) : PM := pw_setl [] M r (pw_setl none (pw_nth [] M r) j (some x))
def pw_W (M : PM) : PW := fun r j => (pw_get M r j).getD 0
theorem pw_nth_set {α : Type} {d : α} : ∀ (l : List α) (n : Nat) (x : α) (m : Nat), pw_nth d (pw_setl d l n x) m = if m = n then x else pw_nth d l m := by
  intro l
  induction l with
  | nil =>
    intro n
    induction n with
    | zero => intro x m; cases m <;> simp [pw_setl, pw_nth]
    | succ n ih =>
      intro x m
      cases m with
      | zero => simp [pw_setl, pw_nth]
      | succ m =>
        show pw_nth d (pw_setl d [] n x) m = _
        rw [ih x m]
        simp [pw_nth]
  | cons a t ih =>
    intro n x m
    cases n with
    | zero => cases m <;> simp [pw_setl, pw_nth]
    | succ n =>
      cases m with
      | zero => simp [pw_setl, pw_nth]
      | succ m =>
        show pw_nth d (pw_setl d t n x) m = _
        rw [ih n x m]
        simp [pw_nth]
theorem pw_get_set (M : PM) (r j : Nat) (x : Int) (a b : Nat) : pw_get (pw_set M r j x) a b = if a = r ∧ b = j then some x else pw_get M a b := by
  unfold pw_get pw_set
  rw [pw_nth_set]
  by_cases h : a = r
  · subst h
    rw [if_pos rfl, pw_nth_set]
    by_cases h2 : b = j
    · rw [if_pos h2, if_pos ⟨rfl, h2⟩]
    · rw [if_neg h2, if_neg (fun q => h2 q.2)]
  · rw [if_neg h, if_neg (fun q => h q.1)]
/-- which cell an instruction reads -/
def pw_rd (S : PS) (k : Nat) (i : Instr) (st : List PV) : Option (Nat × Nat) := match i, st with
  | .getfield ix, .inr (.inr r) :: _ => (match pm_fl (pm_ow k) ix with
    | some (ci, j, _) => (match pm_fd S ci j r with
      | some none => some (r, j)
      | _ => none)
    | none => none)
  | .iaload, .inl x :: .inr (.inr r) :: _ => some (r, x.toNat)
  | .caload, .inl x :: .inr (.inr r) :: _ => some (r, x.toNat)
  | _, _ => none
/-- which cell it writes, and what -/
def pw_wr (k : Nat) (i : Instr) (st : List PV) : Option (Nat × Nat × Int) := match i, st with
  | .putfield ix, .inl x :: .inr (.inr r) :: _ => (match pm_fl (pm_ow k) ix with
    | some (_, j, _) => some (r, j, x)
    | none => none)
  | .iastore, .inl x :: .inl i :: .inr (.inr r) :: _ => some (r, i.toNat, x)
  | .castore, .inl x :: .inl i :: .inr (.inr r) :: _ => some (r, i.toNat, x)
  | _, _ => none
def pw_ok (S : PS) (k : Nat) (i : Instr) (st : List PV) (M : PM) : Bool := match pw_rd S k i st with
  | some (r, j) => (pw_get M r j).isSome
  | none => true
def pw_nx (k : Nat) (i : Instr) (st : List PV) (M : PM) : PM := match pw_wr k i st with
  | some (r, j, x) => pw_set M r j x
  | none => M
def pw_ex (S : PS) : Nat → Nat → Nat → PL → List PV → PM → Option (Option PV × PM)
  | 0, _, _, _, _, _ => none
  | n + 1, k, pc, P, st, M => match pm_ins k pc with
    | none => none
    | some (i, len) => bif pw_ok S k i st M then (match pm_stp S k pc i len P st (pw_W M) with
      | none => none
      | some (.inl (pc', P', st', _)) => pw_ex S n k pc' P' st' (pw_nx k i st M)
      | some (.inr (.inl (k', as, pc', P', st'))) => (match pw_ex S n k' 0 (pm_en (pm_nl k') as) [] M with
        | none => none
        | some (r, M') => pw_ex S n k pc' P' (r.toList ++ st') M')
      | some (.inr (.inr v)) => some (v, M)) else none
/-- a memory that has what is known -/
def pw_hs (M : PM) (G : PW) : Prop := ∀ r j x, pw_get M r j = some x → G r j = x
/-- and otherwise is as another one -/
def pw_as (M : PM) (G G' : PW) : Prop := ∀ r j, pw_get M r j = none → G' r j = G r j
theorem pw_hs_upd {M : PM} {G : PW} {r j : Nat} {x : Int} (h : pw_hs M G) : pw_hs (pw_set M r j x) (pm_upd G r j x) := fun a b y hy => by
  rw [pw_get_set] at hy
  rw [pm_upd_eq]
  by_cases q : a = r ∧ b = j
  · rw [if_pos q] at hy ⊢
    exact Option.some.inj hy
  · rw [if_neg q] at hy ⊢
    exact h a b y hy
theorem pw_W_hs {M : PM} {G : PW} {r j : Nat} (h : pw_hs M G) (hs : (pw_get M r j).isSome = true) : pw_W M r j = G r j := by
  unfold pw_W
  cases hg : pw_get M r j with
  | none => rw [hg] at hs; cases hs
  | some x => exact (h r j x hg).symm
/-- the same step, over the whole memory -/
def pw_sim (S : PS) (k pc : Nat) (i : Instr) (len : Nat) (P : PL) (st : List PV) (M : PM) (G : PW) (a : PA) : Prop := match a with
  | .inl (pc', P', st', _) => ∃ G', pm_stp S k pc i len P st G = some (.inl (pc', P', st', G')) ∧ pw_hs (pw_nx k i st M) G' ∧ pw_as (pw_nx k i st M) G G' ∧ (∀ r j, (pw_get M r j).isSome = true → (pw_get (pw_nx k i st M) r j).isSome = true)
  | .inr q => pm_stp S k pc i len P st G = some (.inr q)
theorem pw_sim0 {S : PS} {k pc len : Nat} {i : Instr} {P P' : PL} {st st' : List PV} {M : PM} {G G0 : PW} {pc' : Nat} (hG : pw_hs M G) (hw : pw_wr k i st = none) (h : pm_stp S k pc i len P st G = some (.inl (pc', P', st', G))) : pw_sim S k pc i len P st M G (.inl (pc', P', st', G0)) := by
  have e : pw_nx k i st M = M := by unfold pw_nx; rw [hw]
  refine ⟨G, h, ?_, ?_, ?_⟩
  · rw [e]; exact hG
  · exact fun _ _ _ => rfl
  · rw [e]; exact fun _ _ h => h
theorem pw_sim1 {S : PS} {k pc len r j : Nat} {x : Int} {i : Instr} {P P' : PL} {st st' : List PV} {M : PM} {G G0 : PW} {pc' : Nat} (hG : pw_hs M G) (hw : pw_wr k i st = some (r, j, x)) (h : pm_stp S k pc i len P st G = some (.inl (pc', P', st', pm_upd G r j x))) : pw_sim S k pc i len P st M G (.inl (pc', P', st', G0)) := by
  have e : pw_nx k i st M = pw_set M r j x := by unfold pw_nx; rw [hw]
  refine ⟨_, h, ?_, ?_, ?_⟩
  · rw [e]; exact pw_hs_upd hG
  · rw [e]
    intro a b hab
    rw [pw_get_set] at hab
    rw [pm_upd_eq]
    by_cases q : a = r ∧ b = j
    · rw [if_pos q] at hab; cases hab
    · rw [if_neg q]
  · rw [e]
    intro a b hab
    rw [pw_get_set]
    by_cases q : a = r ∧ b = j
    · rw [if_pos q]; rfl
    · rw [if_neg q]; exact hab
theorem pe_sw {lo hi x : Int} {d g : Nat} {gs : List Nat} {P : PL} {t : List PV} {G : PW} (h : (lo ≤ x ∧ x ≤ hi ∧ gs[(x - lo).toNat]? = some g) ∨ ((x < lo ∨ hi < x) ∧ g = d)) : pm_oSw lo hi (some d) (some gs) P (.inl x :: t) G = some (.inl (g, P, t, G)) := by
  unfold pm_oSw
  rcases h with ⟨b1, b2, b3⟩ | ⟨b1, rfl⟩
  · simp only [decide_eq_true b1, decide_eq_true b2, Bool.and_self, cond_true, b3]
  · have e : (decide (lo ≤ x) && decide (x ≤ hi)) = false := by
      rw [Bool.and_eq_false_iff, decide_eq_false_iff_not, decide_eq_false_iff_not]
      omega
    simp only [e, cond_false]
set_option maxHeartbeats 4000000 in
theorem pw_step {S : PS} {k pc len : Nat} {i : Instr} {P : PL} {st : List PV} {M : PM} {G : PW} {a : PA} (hG : pw_hs M G) (hok : pw_ok S k i st M = true) (ha : pm_stp S k pc i len P st (pw_W M) = some a) : pw_sim S k pc i len P st M G a := by
  unfold pm_stp at ha
  split at ha
  · rename_i j
    obtain ⟨x, hx', rfl⟩ := pm_a_il ha
    exact pw_sim0 hG rfl (by simp only [pm_stp, pm_oIL, hx'])
  · rename_i j
    obtain ⟨x, hx', rfl⟩ := pm_a_il ha
    exact pw_sim0 hG rfl (by simp only [pm_stp, pm_oIL, hx'])
  · rename_i j
    obtain ⟨x, hx', rfl⟩ := pm_a_ll ha
    exact pw_sim0 hG rfl (by simp only [pm_stp, pm_oLL, hx'])
  · rename_i j
    obtain ⟨x, hx', rfl⟩ := pm_a_ll ha
    exact pw_sim0 hG rfl (by simp only [pm_stp, pm_oLL, hx'])
  · rename_i j
    obtain ⟨x, hx', rfl⟩ := pm_a_al ha
    exact pw_sim0 hG rfl (by simp only [pm_stp, pm_oAL, hx'])
  · rename_i j
    obtain ⟨x, hx', rfl⟩ := pm_a_al ha
    exact pw_sim0 hG rfl (by simp only [pm_stp, pm_oAL, hx'])
  · rename_i j
    obtain ⟨x, t, rfl, rfl⟩ := pm_a_is ha
    exact pw_sim0 hG rfl rfl
  · rename_i j
    obtain ⟨x, t, rfl, rfl⟩ := pm_a_is ha
    exact pw_sim0 hG rfl rfl
  · rename_i j
    obtain ⟨x, t, rfl, rfl⟩ := pm_a_ls ha
    exact pw_sim0 hG rfl rfl
  · rename_i j
    obtain ⟨x, t, rfl, rfl⟩ := pm_a_ls ha
    exact pw_sim0 hG rfl rfl
  · rename_i j
    obtain ⟨x, t, rfl, rfl⟩ := pm_a_as ha
    exact pw_sim0 hG rfl rfl
  · rename_i j
    obtain ⟨x, t, rfl, rfl⟩ := pm_a_as ha
    exact pw_sim0 hG rfl rfl
  · rename_i x
    obtain ⟨q, hq⟩ := pm_bif ha rfl
    cases hq
    exact pw_sim0 hG rfl (by simp only [pm_stp, q, cond_true, pm_oK])
  · rename_i x
    obtain ⟨q, hq⟩ := pm_bif ha rfl
    cases hq
    exact pw_sim0 hG rfl (by simp only [pm_stp, q, cond_true, pm_oK])
  · rename_i x
    obtain ⟨q, hq⟩ := pm_bif ha rfl
    cases hq
    exact pw_sim0 hG rfl (by simp only [pm_stp, q, cond_true, pm_oK])
  · cases ha
    exact pw_sim0 hG rfl rfl
  · rename_i ix
    split at ha
    · rename_i x pl hc
      cases ha
      exact pw_sim0 hG rfl (by simp only [pm_stp, hc]; rfl)
    · cases ha
  · obtain ⟨x, y, t, rfl, q, rfl⟩ := pm_a_add ha
    exact pw_sim0 hG rfl (by unfold pm_stp; exact pe_add (pm_rg_iff.mp q).1 (pm_rg_iff.mp q).2)
  · obtain ⟨x, y, t, rfl, q, rfl⟩ := pm_a_sub ha
    exact pw_sim0 hG rfl (by unfold pm_stp; exact pe_sub (pm_rg_iff.mp q).1 (pm_rg_iff.mp q).2)
  · obtain ⟨x, y, t, rfl, q, rfl⟩ := pm_a_mul ha
    exact pw_sim0 hG rfl (by unfold pm_stp; exact pe_mul (pm_rg_iff.mp q).1 (pm_rg_iff.mp q).2)
  · obtain ⟨x, y, t, rfl, q1, q2, rfl⟩ := pm_a_div ha
    exact pw_sim0 hG rfl (by unfold pm_stp; exact pe_div q1 q2)
  · obtain ⟨x, y, t, rfl, q1, q2, rfl⟩ := pm_a_rem ha
    exact pw_sim0 hG rfl (by unfold pm_stp; exact pe_rem q1 q2)
  · obtain ⟨x, y, t, rfl, q1, q2, q3, rfl⟩ := pm_a_shr ha
    exact pw_sim0 hG rfl (by unfold pm_stp; exact pe_shr q1 q2 q3)
  · obtain ⟨x, y, t, rfl, q1, q2, rfl⟩ := pm_a_and ha
    subst q2
    exact pw_sim0 hG rfl (by unfold pm_stp; exact pe_and q1)
  · obtain ⟨x, t, rfl, rfl⟩ := pm_a_l2i ha
    exact pw_sim0 hG rfl rfl
  · obtain ⟨x, t, rfl, q, rfl⟩ := pm_a_i2c ha
    exact pw_sim0 hG rfl (by simp only [pm_stp, pm_oI2c, q, cond_true])
  · obtain ⟨x, y, t, rfl, rfl⟩ := pm_a_land ha
    exact pw_sim0 hG rfl rfl
  · obtain ⟨x, y, t, rfl, rfl⟩ := pm_a_lus ha
    exact pw_sim0 hG rfl rfl
  · obtain ⟨x, y, t, rfl, rfl⟩ := pm_a_lsh ha
    exact pw_sim0 hG rfl rfl
  · obtain ⟨x, y, t, rfl, rfl⟩ := pm_a_lcm ha
    exact pw_sim0 hG rfl rfl
  · rename_i cc off
    obtain ⟨g, x, t, hg, rfl, hbr⟩ := pm_a_if ha
    rcases pm_a_br hbr with ⟨hc, rfl⟩ | ⟨hc, rfl⟩
    · exact pw_sim0 hG rfl (by simp only [pm_stp, hg]; rw [pe_if, if_pos hc])
    · exact pw_sim0 hG rfl (by simp only [pm_stp, hg]; rw [pe_if, if_neg (by rw [hc]; decide)])
  · rename_i cc off
    obtain ⟨g, x, y, t, hg, rfl, hbr⟩ := pm_a_icm ha
    rcases pm_a_br hbr with ⟨hc, rfl⟩ | ⟨hc, rfl⟩
    · exact pw_sim0 hG rfl (by simp only [pm_stp, hg]; rw [pe_ic, if_pos hc])
    · exact pw_sim0 hG rfl (by simp only [pm_stp, hg]; rw [pe_ic, if_neg (by rw [hc]; decide)])
  · rename_i off
    obtain ⟨g, hg, rfl⟩ := pm_a_go ha
    exact pw_sim0 hG rfl (by simp only [pm_stp, hg, pm_oGo])
  · obtain ⟨d, gs, x, t, g, q1, q2, rfl, q3, rfl⟩ := pm_a_sw ha
    exact pw_sim0 hG rfl (by simp only [pm_stp, q1, q2]; exact pe_sw q3)
  · rename_i ix
    split at ha
    · rename_i ci j pl hf
      obtain ⟨r, t, o, rfl, q, rfl⟩ := pm_a_gf ha
      cases o with
      | some q2 => exact pw_sim0 hG rfl (by simp only [pm_stp, hf, pm_oGf, q])
      | none =>
        have hr : pw_rd S k (.getfield ix) (.inr (.inr r) :: t) = some (r, j) := by simp only [pw_rd, hf, q]
        unfold pw_ok at hok
        rw [hr] at hok
        dsimp only
        rw [pw_W_hs hG hok]
        exact pw_sim0 hG rfl (by simp only [pm_stp, hf, pm_oGf, q])
    · cases ha
  · rename_i ix
    split at ha
    · rename_i ci j pl hf
      obtain ⟨q, hq⟩ := pm_bif0 ha
      split at hq
      · rename_i hty
        obtain ⟨x, r, t, rfl, q1, q2, rfl⟩ := pm_a_pf hq
        exact pw_sim1 (r := r) (j := j) (x := x) hG (by simp only [pw_wr, hf]) (by simp only [pm_stp, hf, q, hty, cond_false, pm_oPf, q1, q2, cond_true])
      · rename_i hty
        obtain ⟨x, r, t, rfl, q1, q2, rfl⟩ := pm_a_pf hq
        exact pw_sim1 (r := r) (j := j) (x := x) hG (by simp only [pw_wr, hf]) (by simp only [pm_stp, hf, q, hty, cond_false, pm_oPf, q1, q2, cond_true])
      · cases hq
    · cases ha
  · obtain ⟨i, r, t, n, rfl, q1, q2, q3, rfl⟩ := pm_a_ald ha
    have hok : (pw_get M r i.toNat).isSome = true := hok
    rw [pw_W_hs hG hok]
    exact pw_sim0 hG rfl (by unfold pm_stp; exact pm_ald_ok q1 q2 q3)
  · obtain ⟨i, r, t, n, rfl, q1, q2, q3, rfl⟩ := pm_a_ald ha
    have hok : (pw_get M r i.toNat).isSome = true := hok
    rw [pw_W_hs hG hok]
    exact pw_sim0 hG rfl (by unfold pm_stp; exact pm_ald_ok q1 q2 q3)
  · obtain ⟨x, y, t, rfl, q1, q2, rfl⟩ := pm_a_or ha
    exact pw_sim0 hG rfl (by unfold pm_stp; exact pm_or_ok q1 q2)
  · obtain ⟨x, i, r, t, n, rfl, q1, q2, q3, q4, rfl⟩ := pm_a_ast ha
    exact pw_sim1 (r := r) (j := i.toNat) (x := x) hG rfl (by unfold pm_stp; exact pm_ast_ok q1 q2 q3 q4)
  · obtain ⟨x, i, r, t, n, rfl, q1, q2, q3, q4, rfl⟩ := pm_a_ast ha
    exact pw_sim1 (r := r) (j := i.toNat) (x := x) hG rfl (by unfold pm_stp; exact pm_ast_ok q1 q2 q3 q4)
  · obtain ⟨r, t, n, rfl, q, rfl⟩ := pm_a_len ha
    exact pw_sim0 hG rfl (by simp only [pm_stp, pm_oLen, q])
  · have e : ∀ G1 G2 : PW, pm_oDup (pc + 1) P st G1 = some a → ∃ b, a = .inl b ∧ pm_oDup (pc + 1) P st G2 = some (.inl (b.1, b.2.1, b.2.2.1, G2)) := by
      intro G1 G2 h
      unfold pm_oDup at h ⊢
      split at h
      · exact ⟨_, (Option.some.inj h).symm, rfl⟩
      · exact ⟨_, (Option.some.inj h).symm, rfl⟩
      · cases h
    obtain ⟨⟨b1, b2, b3, b4⟩, rfl, hb⟩ := e _ G ha
    exact pw_sim0 hG rfl hb
  · have e : ∀ G1 G2 : PW, pm_oDu2 (pc + 1) P st G1 = some a → ∃ b, a = .inl b ∧ pm_oDu2 (pc + 1) P st G2 = some (.inl (b.1, b.2.1, b.2.2.1, G2)) := by
      intro G1 G2 h
      unfold pm_oDu2 at h ⊢
      split at h
      · exact ⟨_, (Option.some.inj h).symm, rfl⟩
      · cases h
    obtain ⟨⟨b1, b2, b3, b4⟩, rfl, hb⟩ := e _ G ha
    exact pw_sim0 hG rfl hb
  · have e : ∀ G1 G2 : PW, pm_oPop (pc + 1) P st G1 = some a → ∃ b, a = .inl b ∧ pm_oPop (pc + 1) P st G2 = some (.inl (b.1, b.2.1, b.2.2.1, G2)) := by
      intro G1 G2 h
      unfold pm_oPop at h ⊢
      split at h
      · exact ⟨_, (Option.some.inj h).symm, rfl⟩
      · cases h
    obtain ⟨⟨b1, b2, b3, b4⟩, rfl, hb⟩ := e _ G ha
    exact pw_sim0 hG rfl hb
  · rename_i j b
    obtain ⟨x, hx', q, rfl⟩ := pm_a_inc ha
    exact pw_sim0 hG rfl (by unfold pm_stp; exact pe_inc hx' (pm_rg_iff.mp q).1 (pm_rg_iff.mp q).2)
  · rename_i ix
    split at ha
    · rename_i k' q hf
      obtain ⟨hr, hq⟩ := pm_bif ha rfl
      have hq' := hq
      obtain ⟨r, as, t, q1, q2, q3, q4, rfl⟩ := pm_a_cv hq
      show pm_stp S k pc (.invokevirtual ix) 3 P st G = _
      simp only [pm_stp, hf, hr, cond_true]
      exact hq'
    · cases ha
  · rename_i ix
    split at ha
    · rename_i k' q hf
      obtain ⟨hr, hq⟩ := pm_bif ha rfl
      have hq' := hq
      obtain ⟨as, t, q1, q2, q3, rfl⟩ := pm_a_cs hq
      show pm_stp S k pc (.invokestatic ix) 3 P st G = _
      simp only [pm_stp, hf, hr, cond_true]
      exact hq'
    · rename_i k' q hf
      obtain ⟨hr, hq⟩ := pm_bif ha rfl
      have hq' := hq
      obtain ⟨as, t, q1, q2, q3, rfl⟩ := pm_a_cs hq
      show pm_stp S k pc (.invokestatic ix) 3 P st G = _
      simp only [pm_stp, hf, hr, cond_true]
      exact hq'
    · cases ha
  · obtain ⟨h0, hq⟩ := pm_bif ha rfl
    obtain ⟨rfl, rfl⟩ := pm_a_rv hq
    show pm_stp S k pc .return_ 1 P [] G = _
    simp only [pm_stp, h0, cond_true]
    rfl
  · split at ha
    · rename_i hq
      have ha' := ha
      obtain ⟨x, rfl, q, rfl⟩ := pm_a_ri ha
      show pm_stp S k pc .ireturn 1 P [.inl x] G = _
      simp only [pm_stp, hq]
      exact ha'
    · rename_i hq
      have ha' := ha
      obtain ⟨x, rfl, q, rfl⟩ := pm_a_ri ha
      show pm_stp S k pc .ireturn 1 P [.inl x] G = _
      simp only [pm_stp, hq]
      exact ha'
    · rename_i hq
      have ha' := ha
      obtain ⟨x, rfl, q, rfl⟩ := pm_a_ri ha
      show pm_stp S k pc .ireturn 1 P [.inl x] G = _
      simp only [pm_stp, hq]
      exact ha'
    · cases ha
  · cases ha
theorem pw_sound (S : PS) : ∀ (n k pc : Nat) (P : PL) (st : List PV) (M : PM) (G : PW) (r : Option PV) (M' : PM), pw_ex S n k pc P st M = some (r, M') → pw_hs M G → ∃ G', pm_ex S n k pc P st G = some (r, G') ∧ pw_hs M' G' ∧ pw_as M' G G' ∧ (∀ a b, (pw_get M a b).isSome = true → (pw_get M' a b).isSome = true) := by
  intro n
  induction n with
  | zero => intro k pc P st M G r M' h; cases h
  | succ n ih =>
    intro k pc P st M G r M' h hG
    simp only [pw_ex] at h
    simp only [pm_ex]
    cases hi : pm_ins k pc with
    | none => rw [hi] at h; cases h
    | some q =>
      obtain ⟨i, len⟩ := q
      rw [hi] at h
      dsimp only at h ⊢
      cases hok : pw_ok S k i st M with
      | false => rw [hok] at h; cases h
      | true =>
        rw [hok] at h
        dsimp only [cond_true] at h
        cases ha : pm_stp S k pc i len P st (pw_W M) with
        | none => rw [ha] at h; cases h
        | some a =>
          have hs := pw_step hG hok ha
          rw [ha] at h
          rcases a with ⟨pc', P', st', G0⟩ | ⟨k', as, pc', P', st'⟩ | v
          · obtain ⟨G1, h1, h2, h3, h4⟩ := hs
            obtain ⟨G', q1, q2, q3, q4⟩ := ih _ _ _ _ _ _ _ _ h h2
            refine ⟨G', ?_, q2, fun a b hab => ?_, fun a b hab => q4 a b (h4 a b hab)⟩
            · rw [h1]; exact q1
            · rw [q3 a b hab]
              refine h3 a b ?_
              cases hq : pw_get (pw_nx k i st M) a b with
              | none => rfl
              | some y =>
                have := q4 a b (by rw [hq]; rfl)
                rw [hab] at this
                cases this
          · have hs : pm_stp S k pc i len P st G = some (.inr (.inl (k', as, pc', P', st'))) := hs
            rw [hs]
            dsimp only at h ⊢
            cases hc : pw_ex S n k' 0 (pm_en (pm_nl k') as) [] M with
            | none => rw [hc] at h; cases h
            | some rw' =>
              obtain ⟨r1, M1⟩ := rw'
              rw [hc] at h
              obtain ⟨G1, h1, h2, h3, h4⟩ := ih _ _ _ _ _ _ _ _ hc hG
              obtain ⟨G', q1, q2, q3, q4⟩ := ih _ _ _ _ _ _ _ _ h h2
              refine ⟨G', ?_, q2, fun a b hab => ?_, fun a b hab => q4 a b (h4 a b hab)⟩
              · rw [h1]; exact q1
              · rw [q3 a b hab]
                refine h3 a b ?_
                cases hq : pw_get M1 a b with
                | none => rfl
                | some y =>
                  have := q4 a b (by rw [hq]; rfl)
                  rw [hab] at this
                  cases this
          · have hs : pm_stp S k pc i len P st G = some (.inr (.inr v)) := hs
            rw [hs]
            cases h
            exact ⟨G, rfl, hG, fun _ _ _ => rfl, fun _ _ h => h⟩
/-- a method's run over a memory of which it needs to know only M -/
theorem pw_call {S : PS} {n k : Nat} {as : List PV} {M M' : PM} {r : Option PV} {G : PW} (h : pw_ex S n k 0 (pm_en (pm_nl k) as) [] M = some (r, M')) (hG : pw_hs M G) : ∃ G', pm_ca S k as G = some (r, G') ∧ pw_hs M' G' ∧ pw_as M' G G' := by
  obtain ⟨G', h1, h2, h3, -⟩ := pw_sound S _ _ _ _ _ _ _ _ _ h hG
  exact ⟨G', pm_dn_of h1, h2, h3⟩
