/-! both sides: turns at several tables -/
theorem rsel_at {rat : Nat → Int} {B : BB} {m : Nat} : ∀ (l : List Nat) (R : Nat → Int), (m ∈ l → rsel rat B R l m = favs rat (B.1 (2 * m)) (B.1 (2 * m + 1))) ∧ (¬ m ∈ l → rsel rat B R l m = R m) := by
  intro l
  induction l with
  | nil => intro R; exact ⟨fun h => (by cases h), fun _ => rfl⟩
  | cons a t ih =>
    intro R
    have e : rsel rat B R (a :: t) = rsel rat B (fup R a (favs rat (B.1 (2 * a)) (B.1 (2 * a + 1)))) t := rfl
    rw [e]
    obtain ⟨i1, i2⟩ := ih (fup R a (favs rat (B.1 (2 * a)) (B.1 (2 * a + 1))))
    by_cases c : m ∈ t
    · exact ⟨fun _ => i1 c, fun h => absurd (List.mem_cons_of_mem _ c) h⟩
    · refine ⟨fun h => ?_, fun h => ?_⟩
      · rcases List.mem_cons.mp h with q | q
        · rw [i2 c, q, fup_eq]
        · exact absurd q c
      · rw [i2 c, fup_ne (fun q => h (by rw [q]; exact List.mem_cons_self))]
theorem fav_bet {rat : Nat → Int} {a b : Int} : favs rat a b = if mbet rat a b = 1 then 0 else 1 := by
  unfold favs mbet
  (repeat' split) <;> omega
theorem cnt_more {p q : Nat → Bool} {k : Nat} : ∀ N : Nat, k < N → (∀ m, m < N → p m = true → q m = true) → p k = false → q k = true → cnt p N + 1 ≤ cnt q N := by
  have le : ∀ N : Nat, (∀ m, m < N → p m = true → q m = true) → cnt p N ≤ cnt q N := by
    intro N
    induction N with
    | zero => intro _; exact Int.le_refl _
    | succ N ih =>
      intro h
      have i := ih (fun m hm => h m (by omega))
      have hN := h N (by omega)
      show cnt p N + _ ≤ cnt q N + _
      cases c : p N with
      | false =>
        cases q N
        · exact Int.add_le_add i (Int.le_refl _)
        · exact Int.add_le_add i (by decide)
      | true =>
        rw [hN c]
        exact Int.add_le_add i (Int.le_refl _)
  intro N
  induction N with
  | zero => intro h; omega
  | succ N ih =>
    intro h h1 h2 h3
    show cnt p N + _ + 1 ≤ cnt q N + _
    by_cases e : k = N
    · subst e
      have i := le k (fun m hm => h1 m (by omega))
      rw [h2, h3]
      show cnt p k + 0 + 1 ≤ cnt q k + 1
      omega
    · have i := ih (by omega) (fun m hm => h1 m (by omega)) h2 h3
      have hN := h1 N (by omega)
      cases c : p N with
      | false =>
        cases q N
        · show cnt p N + 0 + 1 ≤ cnt q N + 0
          omega
        · show cnt p N + 0 + 1 ≤ cnt q N + 1
          omega
      | true =>
        rw [hN c]
        show cnt p N + 1 + 1 ≤ cnt q N + 1
        omega
theorem bsel_none {n : Int} {B : BB} {tb : Nat} (ht : 1 ≤ tb) {F : Nat} (h : (bsel n B tb F).length = 0) : ∀ m, m < F → ¬ bplay n B m = true := by
  induction F with
  | zero => intro m hm; omega
  | succ F ih =>
    have e : bsel n B tb (F + 1) = if bplay n B F = true ∧ (bsel n B tb F).length < tb then bsel n B tb F ++ [F] else bsel n B tb F := rfl
    rw [e] at h
    by_cases c : bplay n B F = true ∧ (bsel n B tb F).length < tb
    · rw [if_pos c, List.length_append] at h
      exact absurd h (by show ¬ _ + 1 = 0; omega)
    · rw [if_neg c] at h
      intro m hm
      by_cases e2 : m = F
      · subst e2
        exact fun y => c ⟨y, by omega⟩
      · exact ih h m (by omega)
theorem msx_s {F sz : Nat} {tb : Int} {K : PW} : ∀ i : Nat, msx F sz tb K (i + 1) = msx F sz tb (mstp F sz tb K) i := by
  intro i
  induction i with
  | zero => rfl
  | succ i ih =>
    show mstp F sz tb (msx F sz tb K (i + 1)) = mstp F sz tb (msx F sz tb (mstp F sz tb K) i)
    rw [ih]
/-- a trial bracket of the class, and what the reference has laid -/
def trs (M K : PW) (z x n : Nat) : Prop := planC M 20 z x n ∧ turn_ok M (tF z) n ∧ planM K z x ∧ knows K n (fun m => K 1 (19 + m)) (M 31) ∧ (∀ p, p < 16 → K 1 (3 + p) = M 1 p) ∧ (∀ m, m < tF z → K 21 m = M 30 m) ∧ (∃ B0, gbeg z n B0 ∧ pm_rows M 19 = grun z x (rlive (M 30) (M 31)) B0 (tF z)) ∧ ∃ ps, vw K z x n (rlive (M 30) (M 31)) (pm_rows M 19) ps
section SES
variable {z x n : Nat}
/-- the same matches are chosen -/
theorem mturn_sel {M K : PW} {tb : Nat} (hn : n ≤ 16) (h : trs M K z x n) : ∀ i, i ≤ tF z → (∀ m, m < tF z → (mturn (K 17) (K 20) (fun p => K 1 (3 + p)) (K 21, (tb : Int)) i).1 m = rsel (M 1) (pm_rows M 19) (M 30) (bsel n (pm_rows M 19) tb i) m) ∧ (mturn (K 17) (K 20) (fun p => K 1 (3 + p)) (K 21, (tb : Int)) i).2 = (tb : Int) - ((bsel n (pm_rows M 19) tb i).length : Int) := by
  obtain ⟨p20, tok, plm, kn, kr, k21, -, ps, v⟩ := h
  intro i
  induction i with
  | zero =>
    intro _
    refine ⟨fun m hm => k21 m hm, ?_⟩
    show (tb : Int) = (tb : Int) - 0
    omega
  | succ i ih =>
    intro hi
    obtain ⟨i1, i2⟩ := ih (by omega)
    have hi' : i < tF z := by omega
    have vo := v_open v hi'
    obtain ⟨a1, a2, a3, a4, a5⟩ := v_how v hi'
    have es : bsel n (pm_rows M 19) tb (i + 1) = if bplay n (pm_rows M 19) i = true ∧ (bsel n (pm_rows M 19) tb i).length < tb then bsel n (pm_rows M 19) tb i ++ [i] else bsel n (pm_rows M 19) tb i := rfl
    have em : mturn (K 17) (K 20) (fun p => K 1 (3 + p)) (K 21, (tb : Int)) (i + 1) = mtp (K 17) (K 20) (fun p => K 1 (3 + p)) i (mturn (K 17) (K 20) (fun p => K 1 (3 + p)) (K 21, (tb : Int)) i) := rfl
    rw [es, em]
    unfold mtp
    rw [vo, i2, a4, a5]
    by_cases c : bplay n (pm_rows M 19) i = true ∧ (bsel n (pm_rows M 19) tb i).length < tb
    · obtain ⟨b0, b1, b2⟩ := bplay_iff.mp c.1
      rw [if_pos c, if_pos ⟨c.1, by omega⟩]
      refine ⟨fun m hm => ?_, ?_⟩
      · rw [rsel_snoc]
        dsimp only
        unfold fup
        by_cases e : m = i
        · rw [if_pos e, if_pos e, fav_bet, mbet_same (rat := M 1) kr (by omega) (by omega)]
        · rw [if_neg e, if_neg e]
          exact i1 m hm
      · rw [List.length_append]
        show (tb : Int) - _ - 1 = (tb : Int) - ((_ + 1 : Nat) : Int)
        omega
    · rw [if_neg c, if_neg (fun y => c ⟨y.1, by omega⟩)]
      exact ⟨i1, i2⟩
/-- after a turn -/
theorem trs_turn {M K : PW} {tb : Nat} {T : Nat → Int} (h2 : 2 ≤ n ∧ n ≤ 16) (hx : x = 0 ∨ x = 1) (hz : z = tz n) (ht : 1 ≤ tb) (h : trs M K z x n) : trs (turned M (tF z) n tb T) (mstp (tF z) z (tb : Int) K) z x n ∧ turn_in K (tF z) z n (tb : Int) ∧ (∀ m, m < 31 → M 30 m ≠ -6 → turned M (tF z) n tb T 30 m ≠ -6) ∧ (∀ m, m ∈ bsel n (pm_rows M 19) tb (tF z) → M 30 m = -6 ∧ turned M (tF z) n tb T 30 m ≠ -6) := by
  subst hz
  obtain ⟨hc, h1, g2, g3, g4, g5⟩ := tz_facts h2 hx
  have ms := mturn_sel (tb := tb) h2.2 h (tF (tz n)) (Nat.le_refl _)
  obtain ⟨p20, tok, plm, kn, kr, k21, ⟨B0, b1, b2⟩, ps, v⟩ := h
  have tok' := turned_ok (tb := tb) (T := T) tok
  have ne : ∀ r, r ≠ 2 → (r < 30 ∨ 34 < r ∨ r = 31) → turned M (tF (tz n)) n tb T r = M r := fun r q1 q2 => turned_ne q1 (by omega) (by omega) (by omega) (by omega)
  have e30 : turned M (tF (tz n)) n tb T 30 = rsel (M 1) (pm_rows M 19) (M 30) (bsel n (pm_rows M 19) tb (tF (tz n))) := by
    unfold turned
    rw [setl_ne_T (by decide) (by decide) (by decide), row_eq]
  -- the class' memory before it is settled
  have w : ∀ r, r ≠ 2 → r ≠ 30 → pm_row (pm_row M 2 T) 30 (rsel (M 1) (pm_rows M 19) (M 30) (bsel n (pm_rows M 19) tb (tF (tz n)))) r = M r := fun r q1 q2 => by rw [row_ne q2, row_ne q1]
  have p20' : planC (pm_row (pm_row M 2 T) 30 (rsel (M 1) (pm_rows M 19) (M 30) (bsel n (pm_rows M 19) tb (tF (tz n))))) 20 (tz n) x n := planC_same p20 (fun r a b => w r (by omega) (by omega))
  obtain ⟨s1, s2⟩ := setl_runT h2 hx p20'
  have rT : pm_rows (turned M (tF (tz n)) n tb T) 19 = grun (tz n) x (rlive (turned M (tF (tz n)) n tb T 30) (turned M (tF (tz n)) n tb T 31)) (bbeg_T (pm_row (pm_row M 2 T) 30 (rsel (M 1) (pm_rows M 19) (M 30) (bsel n (pm_rows M 19) tb (tF (tz n)))))) (tF (tz n)) := by
    rw [e30, ne 31 (by decide) (by decide)]
    rw [row_eq, w 31 (by decide) (by decide)] at s2
    exact s2
  have hR' : res3 (turned M (tF (tz n)) n tb T 30) := tok'.1.1
  -- the reference's
  have tm : ∀ r, r ≠ 21 → mturned K (tF (tz n)) (tb : Int) r = K r := fun r q => row_ne q
  have t21 : ∀ m, m < tF (tz n) → mturned K (tF (tz n)) (tb : Int) 21 m = turned M (tF (tz n)) n tb T 30 m := fun m hm => by
    have q := ms.1 m hm
    rw [e30, ← q]
    unfold mturned
    rw [row_eq]
  have plt : planM (mturned K (tF (tz n)) (tb : Int)) (tz n) x := plan_same plm (fun j hj => by rw [tm 0 (by decide)]) (fun r hr => tm r (by omega))
  have ok : all_ok (mturned K (tF (tz n)) (tb : Int)) (tF (tz n)) (tz n) := ok_plan hc plt (fun m hm => by rw [t21 m hm]; exact hR' m (by omega))
  have rl := rel_look (R := turned M (tF (tz n)) n tb T 30) (g := turned M (tF (tz n)) n tb T 31) (fav := -6) hc plt ⟨by omega, h1⟩ (by rw [tm 1 (by decide)]; exact kn.1) (fun p hp => by rw [tm 1 (by decide), ne 31 (by decide) (by decide)]; exact kn.2.2 p hp) hR' t21 s1
  obtain ⟨ps', hf⟩ := fin_run hc (rl_ok (R := turned M (tF (tz n)) n tb T 30) (g := turned M (tF (tz n)) n tb T 31) hR') ⟨h2.1, h1⟩ s1
  rw [← rT] at rl hf
  have mn : ∀ r, r ≠ 0 → (r < 17 ∨ 21 < r) → mstp (tF (tz n)) (tz n) (tb : Int) K r = K r := fun r q1 q2 => by
    unfold mstp
    rw [r4_ne (by omega) (by omega) (by omega) (by omega)]
    unfold moded
    rw [upd_ne q1, upd_ne q1, tm r (by omega)]
  have m0 : ∀ j, j ≠ 25 → j ≠ 26 → mstp (tF (tz n)) (tz n) (tb : Int) K 0 j = K 0 j := fun j q1 q2 => by
    show pm_upd (pm_upd (mturned K (tF (tz n)) (tb : Int)) 0 25 0) 0 26 (-6) 0 j = _
    rw [pm_upd_eq, if_neg (fun y => q2 y.2), pm_upd_eq, if_neg (fun y => q1 y.2), tm 0 (by decide)]
  have plm' : planM (mstp (tF (tz n)) (tz n) (tb : Int) K) (tz n) x := plan_same plm (fun j hj => m0 j (by omega) (by omega)) (fun r hr => mn r (by omega) (by omega))
  have m21 : mstp (tF (tz n)) (tz n) (tb : Int) K 21 = mturned K (tF (tz n)) (tb : Int) 21 := by
    unfold mstp
    rw [r4_ne (by decide) (by decide) (by decide) (by decide)]
    rfl
  refine ⟨⟨planC_same p20 (fun r a b => ne r (by omega) (by omega)), tok', plm', ⟨?_, fun _ _ => rfl, fun p hp => ?_⟩, fun p hp => ?_, fun m hm => ?_, ⟨_, s1, rT⟩, ps', hf, rl, mcF_plan hc plm', fun m hm => ⟨(plm'.2.1 m hm).1.1, (plm'.2.1 m hm).1.2.1⟩⟩, ⟨⟨v.2.2.1, g4, kn.1, h2.2⟩, ok, fun m hm q => ?_⟩, fun m hm q => ?_, fun m hm => ?_⟩
  · rw [mn 1 (by decide) (by decide)]; exact kn.1
  · rw [mn 1 (by decide) (by decide), ne 31 (by decide) (by decide)]; exact kn.2.2 p hp
  · rw [mn 1 (by decide) (by decide), ne 1 (by decide) (by decide)]; exact kr p hp
  · rw [m21]; exact t21 m hm
  · rw [v_open v hm] at q
    obtain ⟨a1, a2, a3, a4, a5⟩ := v_how v hm
    obtain ⟨c0, c1, c2⟩ := bplay_iff.mp q
    rw [a4, a5]
    omega
  · rw [e30]
    obtain ⟨i1, i2⟩ := rsel_at (rat := M 1) (B := pm_rows M 19) (m := m) (bsel n (pm_rows M 19) tb (tF (tz n))) (M 30)
    by_cases c : m ∈ bsel n (pm_rows M 19) tb (tF (tz n))
    · rw [i1 c]
      have := favs_01 (rat := M 1) (a := (pm_rows M 19).1 (2 * m)) (b := (pm_rows M 19).1 (2 * m + 1))
      omega
    · rw [i2 c]
      exact q
  · obtain ⟨q1, q2⟩ := bsel_mem _ _ hm
    refine ⟨(rl0 (f_rule v.1 q1 q2)).1, ?_⟩
    rw [e30, (rsel_at (rat := M 1) (B := pm_rows M 19) (m := m) (bsel n (pm_rows M 19) tb (tF (tz n))) (M 30)).1 hm]
    have := favs_01 (rat := M 1) (a := (pm_rows M 19).1 (2 * m)) (b := (pm_rows M 19).1 (2 * m + 1))
    omega
/-- all turns, on both sides -/
theorem trs_all {tb : Nat} (h2 : 2 ≤ n ∧ n ≤ 16) (hx : x = 0 ∨ x = 1) (ht : 1 ≤ tb) : ∀ (f : Nat) (M K : PW) (t : Nat) (G' : PW), trs M K (tz n) x n → tch (tF (tz n)) n tb f M t G' → 31 ≤ (f : Int) + cnt (fun m => decide (M 30 m ≠ -6)) 31 → (∀ i, i < t → turn_in (msx (tF (tz n)) (tz n) (tb : Int) K i) (tF (tz n)) (tz n) n (tb : Int) ∧ mchamp (msx (tF (tz n)) (tz n) (tb : Int) K i) (tF (tz n)) = -6) ∧ (seen (msx (tF (tz n)) (tz n) (tb : Int) K t) (tF (tz n)) n ∧ ¬ mchamp (msx (tF (tz n)) (tz n) (tb : Int) K t) (tF (tz n)) = -6) ∧ (∀ r, r ≠ 2 → (r < 30 ∨ 34 < r) → G' r = M r) ∧ ∀ r, (1 ≤ r ∧ r ≤ 4 → msx (tF (tz n)) (tz n) (tb : Int) K t r = K r) ∧ msx (tF (tz n)) (tz n) (tb : Int) K t 0 4 = K 0 4 := by
  obtain ⟨hc, h1, g2, g3, g4, g5⟩ := tz_facts h2 hx
  intro f
  induction f with
  | zero =>
    intro M K t G' h hch hcn
    obtain ⟨rfl, rfl⟩ := hch
    obtain ⟨p20, tok, plm, kn, kr, k21, -, ps, v⟩ := h
    refine ⟨fun i hi => absurd hi (Nat.not_lt_zero i), ⟨⟨v.2.2.1, g4, kn.1, h2.2⟩, fun q => ?_⟩, fun _ _ _ => rfl, fun _ => ⟨fun _ => rfl, rfl⟩⟩
    have q : mchamp K (tF (tz n)) = -6 := q
    rw [(v_champ v).1] at q
    obtain ⟨m, hm, hp⟩ := f_open v.1 q
    have r6 := (rl0 (f_rule v.1 hm hp)).1
    have := cnt_le (p := fun m => decide (G' 30 m ≠ -6)) (k := m) 31 (by omega) (decide_eq_false (fun y => y r6))
    omega
  | succ f ih =>
    intro M K t G' h hch hcn
    obtain ⟨T, hch⟩ := hch
    obtain ⟨s1, s2, s3, s4⟩ := trs_turn (T := T) h2 hx rfl ht h
    have tne : ∀ r, r ≠ 2 → (r < 30 ∨ 34 < r) → turned M (tF (tz n)) n tb T r = M r := fun r q1 q2 => turned_ne q1 (by omega) (by omega) (by omega) (by omega)
    obtain ⟨p20, tok, plm, kn, kr, k21, -, ps, v⟩ := h
    by_cases c : (bsel n (pm_rows M 19) tb (tF (tz n))).length = 0
    · rw [if_pos c] at hch
      obtain ⟨rfl, rfl⟩ := hch
      refine ⟨fun i hi => absurd hi (Nat.not_lt_zero i), ⟨s2.1, fun q => ?_⟩, tne, fun _ => ⟨fun _ => rfl, rfl⟩⟩
      have q : mchamp K (tF (tz n)) = -6 := q
      rw [(v_champ v).1] at q
      obtain ⟨m, hm, hp⟩ := f_open v.1 q
      exact bsel_none ht c m hm hp
    · rw [if_neg c] at hch
      obtain ⟨t', rfl, hch⟩ := hch
      -- a match that is chosen
      obtain ⟨m0, hm0⟩ : ∃ m, m ∈ bsel n (pm_rows M 19) tb (tF (tz n)) := by
        cases e : bsel n (pm_rows M 19) tb (tF (tz n)) with
        | nil => rw [e] at c; exact absurd rfl c
        | cons a l => exact ⟨a, List.mem_cons_self⟩
      obtain ⟨q1, q2⟩ := bsel_mem _ _ hm0
      obtain ⟨q3, q4⟩ := s4 m0 hm0
      have more := cnt_more (p := fun m => decide (M 30 m ≠ -6)) (q := fun m => decide (turned M (tF (tz n)) n tb T 30 m ≠ -6)) (k := m0) 31 (by omega) (fun m hm y => decide_eq_true (s3 m hm (of_decide_eq_true y))) (decide_eq_false (fun y => y q3)) (decide_eq_true q4)
      have ch6 : mchamp K (tF (tz n)) = -6 := by
        rw [(v_champ v).1]
        exact f_nopen v.1 q1 q2
      obtain ⟨r1, r2, r3, r4⟩ := ih _ _ _ _ s1 hch (by omega)
      refine ⟨fun i hi => ?_, ?_, fun r a b => by rw [r3 r a b]; exact tne r a b, fun r => ?_⟩
      · cases i with
        | zero => exact ⟨s2, ch6⟩
        | succ i =>
          rw [msx_s]
          exact r1 i (by omega)
      · rw [msx_s]
        exact r2
      · rw [msx_s]
        refine ⟨fun q => ?_, ?_⟩
        · rw [(r4 r).1 q]
          unfold mstp
          rw [r4_ne (by omega) (by omega) (by omega) (by omega)]
          unfold moded mturned
          rw [upd_ne (by omega), upd_ne (by omega), row_ne (by omega)]
        · rw [(r4 r).2]
          show pm_upd (pm_upd (mturned K (tF (tz n)) (tb : Int)) 0 25 0) 0 26 (-6) 0 4 = _
          rw [pm_upd_eq, if_neg (fun y => absurd y.2 (by decide)), pm_upd_eq, if_neg (fun y => absurd y.2 (by decide))]
          rfl
end SES
section SE2
variable {G K : PW} {n x L : Nat}
theorem c_sessionsNo {tb : Int} (h : ¬ (1 ≤ tb ∧ tb ≤ 8)) : pm_ca pm_sC 80 [.inr (.inr 0), .inl tb] G = some (some (.inl (-2)), G) := by
  by_cases c : tb < 1
  · simp (disch := first | assumption | omega | (simp (disch := omega) only [stv_ne, upd_ne])) only [ue_80, u_80_0, u_80_1, u_80_2, u_80_5, u_80_6, u_80_8, u_80_11, u_80_13, u_80_14, u_80_15, u_80_18, u_80_19, u_80_22, u_80_25, u_80_26, u_80_28, u_80_30, u_80_33, u_80_34, u_80_35, u_80_38, u_80_41, u_80_44, u_80_47, u_80_48, uc_1_3_0, uc_1_3_1, uc_1_3_2, uc_1_3_3, uc_1_19_0, uc_1_19_1, uc_1_19_2, uc_1_19_3, uc_98_0_0, uc_98_0_1, uc_98_0_2, uc_98_0_3, c, if_true, if_false, pm_go_n, pm_go_c, pm_go_r, pm_go_i, pm_oIL, pm_oLL, pm_oAL, pm_oIS, pm_oLS, pm_oAS, pm_oK, pm_oKL, pe_add, pe_sub, pe_mul, pe_div, pe_rem, pe_shr, pe_and, pm_oInc, pe_rgb, pe_if, pe_ic, pe_b1, pe_nn, pe_eq, pe_ne, pe_lt, pe_ge, pe_gt, pe_le, pe_go, pe_ri0, pe_ri1, pe_ri2, pe_i2c, pm_oRv, pm_oGf, pm_oLen, pm_oDup, pm_oDu2, pm_oPop, pm_oL2i, pm_oLand, pm_oLus, pm_oLsh, pm_oLcm, lk_0, lk_1, lk_2, lk_3, lk_4, lk_5, lk_6, lk_7, lk_8, st_0, st_1n, st_1i, st_1r, st_2, st_3, st_4, st_5, st_6, st_7, st_8, Option.toList_some, Option.toList_none, List.cons_append, List.nil_append, shC_fd0_0, shC_fd0_1, shC_fd0_2, shC_fd0_3, shC_fd0_4, shC_fd0_5, shC_fd0_6, shC_fd0_7, shC_al1, shC_ld1, shC_st1, shC_al2, shC_ld2, shC_st2, shC_fd3_0, shC_fd3_1, shC_fd3_2, shC_fd3_3, shC_fd3_4, shC_fd3_5, shC_fd4_0, shC_pf4_0, shC_fd4_1, shC_pf4_1, shC_fd4_2, shC_pf4_2, shC_fd4_3, shC_pf4_3, shC_fd4_4, shC_pf4_4, shC_fd4_5, shC_fd4_6, shC_fd4_7, shC_fd4_8, shC_fd4_9, shC_fd4_10, shC_fd4_11, shC_fd4_12, shC_fd4_13, shC_al5, shC_ld5, shC_st5, shC_al6, shC_ld6, shC_st6, shC_al7, shC_ld7, shC_st7, shC_al8, shC_ld8, shC_st8, shC_al9, shC_ld9, shC_st9, shC_al10, shC_ld10, shC_st10, shC_al11, shC_ld11, shC_st11, shC_al12, shC_ld12, shC_st12, shC_al13, shC_ld13, shC_st13, shC_al14, shC_ld14, shC_st14, shC_al15, shC_ld15, shC_st15, shC_al16, shC_ld16, shC_st16, shC_al17, shC_ld17, shC_st17, shC_al18, shC_ld18, shC_st18, shC_fd19_0, shC_fd19_1, shC_fd19_2, shC_fd19_3, shC_fd19_4, shC_fd19_5, shC_fd20_0, shC_pf20_0, shC_fd20_1, shC_pf20_1, shC_fd20_2, shC_pf20_2, shC_fd20_3, shC_pf20_3, shC_fd20_4, shC_pf20_4, shC_fd20_5, shC_fd20_6, shC_fd20_7, shC_fd20_8, shC_fd20_9, shC_fd20_10, shC_fd20_11, shC_fd20_12, shC_fd20_13, shC_al21, shC_ld21, shC_st21, shC_al22, shC_ld22, shC_st22, shC_al23, shC_ld23, shC_st23, shC_al24, shC_ld24, shC_st24, shC_al25, shC_ld25, shC_st25, shC_al26, shC_ld26, shC_st26, shC_al27, shC_ld27, shC_st27, shC_al28, shC_ld28, shC_st28, shC_al29, shC_ld29, shC_st29, shC_al30, shC_ld30, shC_st30, shC_al31, shC_ld31, shC_st31, shC_al32, shC_ld32, shC_st32, shC_al33, shC_ld33, shC_st33, shC_al34, shC_ld34, shC_st34, shC_fd35_0, shC_fd35_1, shC_pf35_1, shC_al36, shC_ld36, shC_st36, shC_fd37_0, shC_fd37_1, shC_pf37_1, shC_fd37_2, shC_pf37_2, shC_fd37_3, shC_pf37_3, shC_al38, shC_ld38, shC_st38, shC_fd39_0, shC_pf39_0, shC_fd39_1, shC_pf39_1, shC_fd39_2, shC_pf39_2, shC_fd39_3, shC_fd39_4, shC_al40, shC_ld40, shC_st40, shC_fd41_0, shC_fd41_1, shC_pf41_1, shC_al42, shC_ld42, shC_st42, shC_fd43_0, shC_pf43_0, shC_fd43_1, shC_pf43_1, shC_fd43_2, shC_pf43_2, shC_fd43_3, shC_fd43_4, shC_al44, shC_ld44, shC_st44, shC_fd45_0, shC_fd45_1, shC_pf45_1, shC_al46, shC_ld46, shC_st46]
  · have c2 : ¬ tb ≤ 8 := by omega
    simp (disch := first | assumption | omega | (simp (disch := omega) only [stv_ne, upd_ne])) only [ue_80, u_80_0, u_80_1, u_80_2, u_80_5, u_80_6, u_80_8, u_80_11, u_80_13, u_80_14, u_80_15, u_80_18, u_80_19, u_80_22, u_80_25, u_80_26, u_80_28, u_80_30, u_80_33, u_80_34, u_80_35, u_80_38, u_80_41, u_80_44, u_80_47, u_80_48, uc_1_3_0, uc_1_3_1, uc_1_3_2, uc_1_3_3, uc_1_19_0, uc_1_19_1, uc_1_19_2, uc_1_19_3, uc_98_0_0, uc_98_0_1, uc_98_0_2, uc_98_0_3, c, c2, if_true, if_false, pm_go_n, pm_go_c, pm_go_r, pm_go_i, pm_oIL, pm_oLL, pm_oAL, pm_oIS, pm_oLS, pm_oAS, pm_oK, pm_oKL, pe_add, pe_sub, pe_mul, pe_div, pe_rem, pe_shr, pe_and, pm_oInc, pe_rgb, pe_if, pe_ic, pe_b1, pe_nn, pe_eq, pe_ne, pe_lt, pe_ge, pe_gt, pe_le, pe_go, pe_ri0, pe_ri1, pe_ri2, pe_i2c, pm_oRv, pm_oGf, pm_oLen, pm_oDup, pm_oDu2, pm_oPop, pm_oL2i, pm_oLand, pm_oLus, pm_oLsh, pm_oLcm, lk_0, lk_1, lk_2, lk_3, lk_4, lk_5, lk_6, lk_7, lk_8, st_0, st_1n, st_1i, st_1r, st_2, st_3, st_4, st_5, st_6, st_7, st_8, Option.toList_some, Option.toList_none, List.cons_append, List.nil_append, shC_fd0_0, shC_fd0_1, shC_fd0_2, shC_fd0_3, shC_fd0_4, shC_fd0_5, shC_fd0_6, shC_fd0_7, shC_al1, shC_ld1, shC_st1, shC_al2, shC_ld2, shC_st2, shC_fd3_0, shC_fd3_1, shC_fd3_2, shC_fd3_3, shC_fd3_4, shC_fd3_5, shC_fd4_0, shC_pf4_0, shC_fd4_1, shC_pf4_1, shC_fd4_2, shC_pf4_2, shC_fd4_3, shC_pf4_3, shC_fd4_4, shC_pf4_4, shC_fd4_5, shC_fd4_6, shC_fd4_7, shC_fd4_8, shC_fd4_9, shC_fd4_10, shC_fd4_11, shC_fd4_12, shC_fd4_13, shC_al5, shC_ld5, shC_st5, shC_al6, shC_ld6, shC_st6, shC_al7, shC_ld7, shC_st7, shC_al8, shC_ld8, shC_st8, shC_al9, shC_ld9, shC_st9, shC_al10, shC_ld10, shC_st10, shC_al11, shC_ld11, shC_st11, shC_al12, shC_ld12, shC_st12, shC_al13, shC_ld13, shC_st13, shC_al14, shC_ld14, shC_st14, shC_al15, shC_ld15, shC_st15, shC_al16, shC_ld16, shC_st16, shC_al17, shC_ld17, shC_st17, shC_al18, shC_ld18, shC_st18, shC_fd19_0, shC_fd19_1, shC_fd19_2, shC_fd19_3, shC_fd19_4, shC_fd19_5, shC_fd20_0, shC_pf20_0, shC_fd20_1, shC_pf20_1, shC_fd20_2, shC_pf20_2, shC_fd20_3, shC_pf20_3, shC_fd20_4, shC_pf20_4, shC_fd20_5, shC_fd20_6, shC_fd20_7, shC_fd20_8, shC_fd20_9, shC_fd20_10, shC_fd20_11, shC_fd20_12, shC_fd20_13, shC_al21, shC_ld21, shC_st21, shC_al22, shC_ld22, shC_st22, shC_al23, shC_ld23, shC_st23, shC_al24, shC_ld24, shC_st24, shC_al25, shC_ld25, shC_st25, shC_al26, shC_ld26, shC_st26, shC_al27, shC_ld27, shC_st27, shC_al28, shC_ld28, shC_st28, shC_al29, shC_ld29, shC_st29, shC_al30, shC_ld30, shC_st30, shC_al31, shC_ld31, shC_st31, shC_al32, shC_ld32, shC_st32, shC_al33, shC_ld33, shC_st33, shC_al34, shC_ld34, shC_st34, shC_fd35_0, shC_fd35_1, shC_pf35_1, shC_al36, shC_ld36, shC_st36, shC_fd37_0, shC_fd37_1, shC_pf37_1, shC_fd37_2, shC_pf37_2, shC_fd37_3, shC_pf37_3, shC_al38, shC_ld38, shC_st38, shC_fd39_0, shC_pf39_0, shC_fd39_1, shC_pf39_1, shC_fd39_2, shC_pf39_2, shC_fd39_3, shC_fd39_4, shC_al40, shC_ld40, shC_st40, shC_fd41_0, shC_fd41_1, shC_pf41_1, shC_al42, shC_ld42, shC_st42, shC_fd43_0, shC_pf43_0, shC_fd43_1, shC_pf43_1, shC_fd43_2, shC_pf43_2, shC_fd43_3, shC_fd43_4, shC_al44, shC_ld44, shC_st44, shC_fd45_0, shC_fd45_1, shC_pf45_1, shC_al46, shC_ld46, shC_st46]
theorem b_sessions (h : REL G K) {a : Int} : both 80 153 [.inl a] G K := by
  by_cases q : 1 ≤ a ∧ a ≤ 8
  · obtain ⟨tb, rfl⟩ : ∃ tb : Nat, a = (tb : Int) := ⟨a.toNat, by omega⟩
    obtain ⟨n, x, L, t, l⟩ := h.1
    obtain ⟨lk, se, pl, ps0, v0⟩ := REL_look t l
    obtain ⟨hc, h1, h2, h3, h4, h5⟩ := tz_facts t.1 t.2.1
    have k0 := t.2.2.2.2.1.1
    have k1 := t.2.2.2.2.1.2.1
    obtain ⟨r1, r2, r3, r4, r5⟩ := lkd_r (K := K) (n := n) (x := x) (a := 0) (b := -6) k0 k1
    have r1 : lkd K n x 1 = K 1 := r1
    obtain ⟨to, hR, p20, kn, B0, b1, b2⟩ := tri_of t l
    have w := wayed_plan (G := K) t.1 t.2.1
    have w1 := wayed_1 k0 k1
    have e30 : trial0 G 30 = taken G 30 := trial0_30
    have e31 : trial0 G 31 = taken G 31 := by
      unfold trial0
      exact setl_ne_T (by decide) (by decide) (by decide)
    have e20 : trial0 G 20 = G 20 := trial0_20
    have e1 : trial0 G 1 = G 1 := trial0_ne (by decide)
    have tok : turn_ok (trial0 G) (tF (tz n)) n := by
      refine ⟨⟨by rw [e30]; exact hR, by rw [e20]; exact to.1.2.1, by rw [e20]; exact to.1.2.2⟩, by rw [e20]; exact to.2.1, by rw [e20]; exact to.2.2.2.1, t.1.2, fun p hp => by rw [e1]; exact to.2.2.2.2.2 p hp⟩
    obtain ⟨ps, v⟩ := look_vw (W := wayed K n x) (R := taken G 30) (g := taken G 31) hc w ⟨t.1.1, h1⟩ ⟨by rw [w1]; exact kn.1, fun m hm => by rw [w1]; exact kn.2.1 m hm, fun p hp => by rw [w1]; exact kn.2.2 p hp⟩ hR b1
    rw [← b2] at v
    have tr : trs (trial0 G) (lkd K n x) (tz n) x n := by
      refine ⟨p20, tok, pl, ⟨by rw [r1]; exact k0, fun _ _ => rfl, fun p hp => by rw [r1, e31]; exact kn.2.2 p hp⟩, fun p hp => by rw [r1, e1]; exact t.2.2.2.2.2.1 p hp, fun m hm => ?_, ⟨B0, b1, by rw [e30, e31]; exact b2⟩, ps, by rw [e30, e31]; exact v⟩
      rw [e30]
      unfold lkd
      rw [laid_21 (by omega), w1]
      exact kn.2.1 m (by omega)
    obtain ⟨tt, G', c1, c2, c3⟩ := c_sessions (F := tF (tz n)) (n := n) (tb := tb) (G := G) to.1 tok (by omega) (by omega)
    obtain ⟨a1, a2, a3, a4⟩ := trs_all t.1 t.2.1 (by omega) 31 _ _ _ _ tr c2 (by have := (cnt_rg (fun m => decide (trial0 G 30 m ≠ -6)) 31).1; omega)
    have mr := m_sessions (F := tF (tz n)) (sz := tz n) (n := n) (t := tt) q lk a1 a2 (by omega)
    refine ⟨_, _, _, c3, mr, ?_⟩
    have eG : ∀ r, r ≠ 2 → (r < 30 ∨ 34 < r) → G' r = G r := fun r u w => by rw [a3 r u w, trial0_ne w]
    have rG : REL G' K := REL_C h (fun r u w _ => eG r u w) (by rw [eG 37 (by decide) (by decide)]) (by
      rw [eG 37 (by decide) (by decide)]
      obtain ⟨N, -, -, -, -, -, q⟩ := h.2.2.2.2
      exact q)
    refine REL_M rG ?_ ?_ ?_ ?_ ?_
    · rw [(a4 1).1 (by decide)]; exact r1
    · rw [(a4 2).1 (by decide)]; exact r2
    · rw [(a4 3).1 (by decide)]; exact r3
    · rw [(a4 4).1 (by decide)]; exact r4
    · rw [(a4 0).2]; exact r5
  · exact ⟨_, _, _, c_sessionsNo q, m_sessionsNo q, h⟩
end SE2
