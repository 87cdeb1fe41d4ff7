/-! closed runs to a place of a method -/
def pw_to (S : PS) (tg : Nat) : Nat → Nat → Nat → PL → List PV → PM → Option (PL × List PV × PM)
  | 0, _, _, _, _, _ => none
  | n + 1, k, pc, P, st, M => bif Nat.beq pc tg then some (P, st, M) else match pm_ins k pc with
    | none => none
    | some (i, len) => bif pw_ok S k i st M then (match pm_stp S k pc i len P st (pw_W M) with
      | none => none
      | some (.inl (pc', P', st', _)) => pw_to S tg n k pc' P' st' (pw_nx k i st M)
      | some (.inr (.inl (k', as, pc', P', st'))) => (match pw_ex S n k' 0 (pm_en (pm_nl k') as) [] M with
        | none => none
        | some (r, M') => pw_to S tg n k pc' P' (r.toList ++ st') M')
      | some (.inr (.inr _)) => none) else none
theorem pw_to_sound (S : PS) (tg : Nat) : ∀ (n k pc : Nat) (P : PL) (st : List PV) (M : PM) (G : PW) (P' : PL) (st' : List PV) (M' : PM), pw_to S tg n k pc P st M = some (P', st', M') → pw_hs M G → ∃ G', pm_dn S k pc P st G = pm_dn S k tg P' st' G' ∧ pw_hs M' G' ∧ pw_as M' G G' ∧ (∀ a b, (pw_get M a b).isSome = true → (pw_get M' a b).isSome = true) := by
  intro n
  induction n with
  | zero => intro k pc P st M G P' st' M' h; cases h
  | succ n ih =>
    intro k pc P st M G P1 st1 M1 h hG
    simp only [pw_to] at h
    cases hb : Nat.beq pc tg with
    | true =>
      rw [hb] at h
      cases h
      rw [Nat.eq_of_beq_eq_true hb]
      exact ⟨G, rfl, hG, fun _ _ _ => rfl, fun _ _ h => h⟩
    | false =>
      rw [hb] at h
      dsimp only [cond_false] at h
      cases hi : pm_ins k pc with
      | none => rw [hi] at h; cases h
      | some q =>
        obtain ⟨i, len⟩ := q
        rw [hi] at h
        dsimp only at h
        rw [pm_dn_eq hi]
        cases hok : pw_ok S k i st M with
        | false => rw [hok] at h; cases h
        | true =>
          rw [hok] at h
          dsimp only [cond_true] at h
          cases ha : pm_stp S k pc i len P st (pw_W M) with
          | none => rw [ha] at h; cases h
          | some a =>
            have hs := pw_step hG hok ha
            rw [ha] at h
            rcases a with ⟨pc', P', st', G0⟩ | ⟨k', as, pc', P', st'⟩ | v
            · obtain ⟨G1, h1, h2, h3, h4⟩ := hs
              obtain ⟨G', q1, q2, q3, q4⟩ := ih _ _ _ _ _ _ _ _ _ h h2
              refine ⟨G', ?_, q2, fun a b hab => ?_, fun a b hab => q4 a b (h4 a b hab)⟩
              · rw [h1]; exact q1
              · rw [q3 a b hab]
                refine h3 a b ?_
                cases hq : pw_get (pw_nx k i st M) a b with
                | none => rfl
                | some y =>
                  have := q4 a b (by rw [hq]; rfl)
                  rw [hab] at this
                  cases this
            · have hs : pm_stp S k pc i len P st G = some (.inr (.inl (k', as, pc', P', st'))) := hs
              rw [hs]
              dsimp only at h
              cases hc : pw_ex S n k' 0 (pm_en (pm_nl k') as) [] M with
              | none => rw [hc] at h; cases h
              | some rw' =>
                obtain ⟨r1, M2⟩ := rw'
                rw [hc] at h
                obtain ⟨G1, h1, h2, h3, h4⟩ := pw_sound S _ _ _ _ _ _ _ _ _ hc hG
                obtain ⟨G', q1, q2, q3, q4⟩ := ih _ _ _ _ _ _ _ _ _ h h2
                refine ⟨G', ?_, q2, fun a b hab => ?_, fun a b hab => q4 a b (h4 a b hab)⟩
                · have d : pm_ca S k' as G = some (r1, G1) := pm_dn_of h1
                  rw [pm_go_c, d]
                  exact q1
                · rw [q3 a b hab]
                  refine h3 a b ?_
                  cases hq : pw_get M2 a b with
                  | none => rfl
                  | some y =>
                    have := q4 a b (by rw [hq]; rfl)
                    rw [hab] at this
                    cases this
            · cases h
theorem pw_go {S : PS} {tg n k pc : Nat} {P P' : PL} {st st' : List PV} {M M' : PM} {G : PW} (h : pw_to S tg n k pc P st M = some (P', st', M')) (hG : pw_hs M G) : pm_dn S k pc P st G = pm_dn S k tg P' st' (ov M' G) := by
  obtain ⟨G', h1, h2, h3, -⟩ := pw_to_sound S _ _ _ _ _ _ _ _ _ _ _ h hG
  have e : G' = ov M' G := by
    funext a b
    unfold ov
    cases q : pw_get M' a b with
    | none => exact h3 a b q
    | some y => exact h2 a b y q
  rw [h1, e]
/-- a plan's head: players, CROSS, size, rounds, matches -/
def cp_h (p n x z : Nat) : PM := List.replicate p [] ++ [[some (n : Int), some (x : Int), some (z : Int), some (tR z : Int), some (tF z : Int)]]
def cp_0 (p x z : Nat) : PM := List.replicate p [] ++ [[none, some (x : Int), some (z : Int), some (tR z : Int), some (tF z : Int)]]
def neg6 (z : Nat) : List (Option Int) := List.replicate (tF z) (some (-6))
def cp_M (p x z : Nat) : PM := List.replicate p [] ++ [[none, some (x : Int), some (z : Int), some (tR z : Int), some (tF z : Int)], (tz_part z).map some, (tz_round z).map some, (tz_index z).map some, (tz_ws z).map some, (tz_ls z x).map some, neg6 z, neg6 z, (tz_seed z).map some]
/-- a run's end, told -/
def pw_is (o : Option (PL × List PV × PM)) (P : PL) (M : PM) : Bool := match o with
  | some (P', [], M') => decide (P' = P) && decide (M' = M)
  | _ => false
theorem pw_is_of {o : Option (PL × List PV × PM)} {P : PL} {M : PM} (h : pw_is o P M = true) : o = some (P, [], M) := by
  unfold pw_is at h
  split at h
  · rw [Bool.and_eq_true, decide_eq_true_eq, decide_eq_true_eq] at h
    rw [h.1, h.2]
  · cases h
theorem lh_all_L : (List.range 15).all (fun i => (List.range 2).all (fun x => pw_is (pw_to pm_sC 75 3000 33 0 (pm_en (pm_nl 33) [.inr (.inr 4), .inl ((i + 2 : Nat) : Int), .inl (x : Int)]) [] []) [some (.inr (.inr 4)), some (.inl ((i + 2 : Nat) : Int)), some (.inl (x : Int))] (cp_h 4 (i + 2) x (tz (i + 2))))) = true := by decide +kernel
theorem lh_run_L {n x : Nat} (h : 2 ≤ n ∧ n ≤ 16) (hx : x = 0 ∨ x = 1) : pw_to pm_sC 75 3000 33 0 (pm_en (pm_nl 33) [.inr (.inr 4), .inl (n : Int), .inl (x : Int)]) [] [] = some ([some (.inr (.inr 4)), some (.inl (n : Int)), some (.inl (x : Int))], [], cp_h 4 n x (tz n)) := by
  have q := pw_is_of (all_lt (all_lt lh_all_L (n - 2) (by omega)) x (by omega))
  rw [show n - 2 + 2 = n by omega] at q
  exact q
theorem lm_run_L {z x : Nat} (h : cfg z x) : pw_to pm_sC 109 60000 33 75 [some (.inr (.inr 4)), none, none] [] (cp_0 4 x z) = some ([some (.inr (.inr 4)), none, none], [], cp_M 4 x z) := by
  refine cfg_ind (P := fun z x => pw_to pm_sC 109 60000 33 75 [some (.inr (.inr 4)), none, none] [] (cp_0 4 x z) = some ([some (.inr (.inr 4)), none, none], [], cp_M 4 x z)) ⟨pw_is_of ?_, pw_is_of ?_, pw_is_of ?_, pw_is_of ?_, pw_is_of ?_, pw_is_of ?_⟩ h
  · decide +kernel
  · decide +kernel
  · decide +kernel
  · decide +kernel
  · decide +kernel
  · decide +kernel
theorem lh_all_T : (List.range 15).all (fun i => (List.range 2).all (fun x => pw_is (pw_to pm_sC 75 3000 33 0 (pm_en (pm_nl 33) [.inr (.inr 20), .inl ((i + 2 : Nat) : Int), .inl (x : Int)]) [] []) [some (.inr (.inr 20)), some (.inl ((i + 2 : Nat) : Int)), some (.inl (x : Int))] (cp_h 20 (i + 2) x (tz (i + 2))))) = true := by decide +kernel
theorem lh_run_T {n x : Nat} (h : 2 ≤ n ∧ n ≤ 16) (hx : x = 0 ∨ x = 1) : pw_to pm_sC 75 3000 33 0 (pm_en (pm_nl 33) [.inr (.inr 20), .inl (n : Int), .inl (x : Int)]) [] [] = some ([some (.inr (.inr 20)), some (.inl (n : Int)), some (.inl (x : Int))], [], cp_h 20 n x (tz n)) := by
  have q := pw_is_of (all_lt (all_lt lh_all_T (n - 2) (by omega)) x (by omega))
  rw [show n - 2 + 2 = n by omega] at q
  exact q
theorem lm_run_T {z x : Nat} (h : cfg z x) : pw_to pm_sC 109 60000 33 75 [some (.inr (.inr 20)), none, none] [] (cp_0 20 x z) = some ([some (.inr (.inr 20)), none, none], [], cp_M 20 x z) := by
  refine cfg_ind (P := fun z x => pw_to pm_sC 109 60000 33 75 [some (.inr (.inr 20)), none, none] [] (cp_0 20 x z) = some ([some (.inr (.inr 20)), none, none], [], cp_M 20 x z)) ⟨pw_is_of ?_, pw_is_of ?_, pw_is_of ?_, pw_is_of ?_, pw_is_of ?_, pw_is_of ?_⟩ h
  · decide +kernel
  · decide +kernel
  · decide +kernel
  · decide +kernel
  · decide +kernel
  · decide +kernel
