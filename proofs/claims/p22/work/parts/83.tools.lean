/-! what constructors and the law's body stand on -/
theorem cs_shC : pm_SH pm_sC 47 := by
  have q : ∀ r, r < 47 → ∀ ty n, pm_sC r = some (.inl (ty, n)) → ty < 2 := by
    have h : ∀ r, r < 47 → (match pm_sC r with | some (.inl (ty, _)) => Nat.ble (ty + 1) 2 | _ => true) = true := by decide +kernel
    intro r hr ty n e
    have := h r hr
    rw [e] at this
    exact Nat.le_of_ble_eq_true this
  have g : ∀ r, (pm_sC r).isSome = true → r < 47 := fun r h => by
    rcases Nat.lt_or_ge r 47 with c | c
    · exact c
    · unfold pm_sC at h
      rw [Nat.ble_eq_true_of_le c] at h
      cases h
  exact ⟨g, fun r ty n e => q r (g r (by rw [e]; rfl)) ty n e⟩
theorem cs_arr {ty : FieldType} {args : Array Value} {s : State} (h : (Cond.arrayClass ty).before args s = true) : ∃ cA : ClassId, ArrOfT s cA ty ∧ s.vm.findClass ("[" ++ ty.toString) = some cA := by
  obtain ⟨cA, kA, comp, h1, h2, h3⟩ := Cond.arrayClass_spec h
  exact ⟨cA, fun n z => ⟨fun k h => (by cases h), kA, h2, comp, h3⟩, h1⟩
/-- the three classes of arrays -/
theorem cs_tys {args : Array Value} {s : State} (hts : ∀ w ∈ pm_gw, w.before args s = true) : ∃ cA : Nat → ClassId, ∀ (k : Nat) (q : ClassId × FieldType), (pm_tys cA)[k]? = some q → ArrOfT s q.1 q.2 ∧ va_RA s q.1 q.2 := by
  obtain ⟨c0, a0, b0⟩ := cs_arr (ty := .int) (hts (.arrayClass .int) (pm_has_mem (p := 116) (by decide +kernel)))
  obtain ⟨c1, a1, b1⟩ := cs_arr (ty := .char) (hts (.arrayClass .char) (pm_has_mem (p := 168) (by decide +kernel)))
  refine ⟨fun t => if t = 0 then c0 else c1, fun k q h => ?_⟩
  match k, h with
  | 0, h => cases h; exact ⟨a0, b0⟩
  | 1, h => cases h; exact ⟨a1, b1⟩
  | k + 2, h => cases h
section CSW
variable {D : va_G} {cl : List vw_C} {A0 : Nat → Prop} {w1 w2 w3 : va_W} {H H1 : Heap}
theorem cs_at_l {k : Nat} {q : Nat × va_E} (h : w1[k]? = some q) : (w1 ++ w2)[k]? = some q := by
  rw [List.getElem?_append_left (List.getElem?_eq_some_iff.mp h).1]
  exact h
theorem cs_at_r {k : Nat} {q : Nat × va_E} (h : w2[k]? = some q) : (w1 ++ w2)[w1.length + k]? = some q := by
  rw [List.getElem?_append_right (Nat.le_add_right _ _), Nat.add_sub_cancel_left]
  exact h
theorem cs_P_l (h : va_P D cl (w1 ++ w2) H) : va_P D cl w1 H := fun k q hq => h k q (cs_at_l hq)
theorem cs_P_r (h : va_P D cl (w1 ++ w2) H) : va_P D cl w2 H := fun k q hq => h _ q (cs_at_r hq)
theorem cs_D_l (h : va_D A0 (w1 ++ w2)) : va_D A0 w1 := ⟨fun i j p q hi hj e => h.1 i j p q (cs_at_l hi) (cs_at_l hj) e, fun k q hq => h.2 k q (cs_at_l hq)⟩
theorem cs_D_r (h : va_D A0 (w1 ++ w2)) : va_D A0 w2 := ⟨fun i j p q hi hj e => by
  have := h.1 _ _ p q (cs_at_r hi) (cs_at_r hj) e
  omega, fun k q hq => h.2 _ q (cs_at_r hq)⟩
theorem cs_apart (h : va_D A0 (w1 ++ w2)) {i j : Nat} {p q : Nat × va_E} (hi : w1[i]? = some p) (hj : w2[j]? = some q) : p.1 ≠ q.1 := fun e => by
  have := h.1 _ _ p q (cs_at_l hi) (cs_at_r hj) e
  have := (List.getElem?_eq_some_iff.mp hi).1
  omega
/-- what one part of the world may touch is free for the whole -/
theorem cs_free {locs : List Loc} {H0 : Heap} (hS : va_S A0 H0 H locs) (hA : ∀ q : Nat, H0.size ≤ q → A0 q) (hD : va_D A0 w1) : ∀ q, va_A w1 H.size q → A0 q := fun q h => by
  rcases h with ⟨k, e, h⟩ | h
  · exact hD.2 k _ h
  · exact hA q (Nat.le_trans hS.1 h)
/-- behind a call that had the world's right part -/
theorem cs_join_r (hP : va_P D cl (w1 ++ w2) H) (hD : va_D A0 (w1 ++ w2)) (hk : ∀ q : Nat, q < H.size → ¬ va_A w2 H.size q → H1[q]? = H[q]?) (hF : ∀ q, va_A w2 H.size q → A0 q) (hP1 : va_P D cl w3 H1) (hD1 : va_D (va_A w2 H.size) w3) : va_P D cl (w1 ++ w3) H1 ∧ va_D A0 (w1 ++ w3) := by
  have apart : ∀ (k : Nat) (q : Nat × va_E), w1[k]? = some q → q.1 < H.size ∧ ¬ va_A w2 H.size q.1 := fun k q hq => by
    have hl := (hP k q (cs_at_l hq)).lt
    refine ⟨hl, fun h => ?_⟩
    rcases h with ⟨j, e, h⟩ | h
    · exact cs_apart hD hq h rfl
    · omega
  refine ⟨va_P.app (fun k q hq => ?_) hP1, va_D.app (cs_D_l hD) (hD1.weaken (fun k q _ h => hF q.1 h)) (fun i j x y hx hy hxy => ?_)⟩
  · obtain ⟨g1, g2⟩ := apart k q hq
    exact (hP k q (cs_at_l hq)).kept (hk q.1 g1 g2)
  · exact (apart i x hx).2 (by rw [hxy]; exact hD1.2 j y hy)
/-- behind a call that had the world's left part -/
theorem cs_join_l (hP : va_P D cl (w1 ++ w2) H) (hD : va_D A0 (w1 ++ w2)) (hk : ∀ q : Nat, q < H.size → ¬ va_A w1 H.size q → H1[q]? = H[q]?) (hF : ∀ q, va_A w1 H.size q → A0 q) (hP1 : va_P D cl w3 H1) (hD1 : va_D (va_A w1 H.size) w3) : va_P D cl (w3 ++ w2) H1 ∧ va_D A0 (w3 ++ w2) := by
  have apart : ∀ (k : Nat) (q : Nat × va_E), w2[k]? = some q → q.1 < H.size ∧ ¬ va_A w1 H.size q.1 := fun k q hq => by
    have hl := (hP _ q (cs_at_r hq)).lt
    refine ⟨hl, fun h => ?_⟩
    rcases h with ⟨j, e, h⟩ | h
    · exact cs_apart hD h hq rfl
    · omega
  refine ⟨va_P.app hP1 (fun k q hq => ?_), va_D.app (hD1.weaken (fun k q _ h => hF q.1 h)) (cs_D_r hD) (fun i j x y hx hy hxy => ?_)⟩
  · obtain ⟨g1, g2⟩ := apart k q hq
    exact (hP _ q (cs_at_r hq)).kept (hk q.1 g1 g2)
  · exact (apart j y hy).2 (by rw [← hxy]; exact hD1.2 i x hx)
end CSW
