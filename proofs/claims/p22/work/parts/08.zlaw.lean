/-! the law's own body: a pure machine whose calls are told from outside (X), which counts the calls that make cells -/
abbrev LX : Type := Nat → List PV → PW → Option (PR × Nat)
def pl_ex (X : LX) (k : Nat) : Nat → Nat → PL → List PV → PW → Nat → Option (PR × Nat)
  | 0, _, _, _, _, _ => none
  | n + 1, pc, P, st, W, f => match pm_ins k pc with
    | none => none
    | some (i, len) => match pm_stp pm_sC k pc i len P st W with
      | none => none
      | some (.inl (pc', P', st', W')) => pl_ex X k n pc' P' st' W' f
      | some (.inr (.inl (k', as, pc', P', st'))) => (match X k' as W with
        | none => none
        | some ((r, W'), d) => pl_ex X k n pc' P' (r.toList ++ st') W' (f + d))
      | some (.inr (.inr v)) => some ((v, W), f)
theorem pl_ex_mono (X : LX) (k : Nat) : ∀ (n pc : Nat) (P : PL) (st : List PV) (W : PW) (f : Nat) (r : PR × Nat), pl_ex X k n pc P st W f = some r → ∀ m, n ≤ m → pl_ex X k m pc P st W f = some r := by
  intro n
  induction n with
  | zero => intro pc P st W f r h; simp [pl_ex] at h
  | succ n ih =>
    intro pc P st W f r h m hm
    obtain ⟨m, rfl⟩ : ∃ m', m = m' + 1 := ⟨m - 1, by omega⟩
    simp only [pl_ex] at h ⊢
    cases hi : pm_ins k pc with
    | none => rw [hi] at h; cases h
    | some q =>
      obtain ⟨i, len⟩ := q
      rw [hi] at h
      dsimp only at h ⊢
      cases ha : pm_stp pm_sC k pc i len P st W with
      | none => rw [ha] at h; cases h
      | some a =>
        rw [ha] at h
        rcases a with ⟨pc', P', st', W'⟩ | ⟨k', as, pc', P', st'⟩ | v
        · exact ih _ _ _ _ _ _ h _ (by omega)
        · dsimp only at h ⊢
          cases hc : X k' as W with
          | none => rw [hc] at h; cases h
          | some rw' =>
            obtain ⟨⟨r1, W1⟩, d⟩ := rw'
            rw [hc] at h
            exact ih _ _ _ _ _ _ h _ (by omega)
        · exact h
noncomputable section
def pl_dn (X : LX) (k pc : Nat) (P : PL) (st : List PV) (W : PW) (f : Nat) : Option (PR × Nat) :=
  (Classical.propDecidable (∃ n r, pl_ex X k n pc P st W f = some r)).casesOn (fun _ => none) (fun h => some h.choose_spec.choose)
end
theorem pl_dn_of {X : LX} {n k pc : Nat} {P : PL} {st : List PV} {W : PW} {f : Nat} {r : PR × Nat} (h : pl_ex X k n pc P st W f = some r) : pl_dn X k pc P st W f = some r := by
  unfold pl_dn
  cases hd : Classical.propDecidable (∃ n r, pl_ex X k n pc P st W f = some r) with
  | isFalse hn => exact absurd ⟨n, r, h⟩ hn
  | isTrue hp =>
    have h1 := hp.choose_spec.choose_spec
    have h2 := pl_ex_mono X _ _ _ _ _ _ _ _ h1 (hp.choose + n) (by omega)
    have h3 := pl_ex_mono X _ _ _ _ _ _ _ _ h (hp.choose + n) (by omega)
    show some hp.choose_spec.choose = some r
    exact h2.symm.trans h3
theorem pl_dn_ex {X : LX} {k pc : Nat} {P : PL} {st : List PV} {W : PW} {f : Nat} {r : PR × Nat} (h : pl_dn X k pc P st W f = some r) : ∃ n, pl_ex X k n pc P st W f = some r := by
  unfold pl_dn at h
  cases hd : Classical.propDecidable (∃ n r, pl_ex X k n pc P st W f = some r) with
  | isFalse hn => rw [hd] at h; cases h
  | isTrue hp =>
    rw [hd] at h
    have h1 := hp.choose_spec.choose_spec
    have h2 : hp.choose_spec.choose = r := Option.some.inj h
    rw [h2] at h1
    exact ⟨_, h1⟩
/-- what follows a step -/
noncomputable def pl_go (X : LX) (k : Nat) (W : PW) (f : Nat) (a : Option PA) : Option (PR × Nat) := match a with
  | none => none
  | some (.inl (pc', P', st', W')) => pl_dn X k pc' P' st' W' f
  | some (.inr (.inl (k', as, pc', P', st'))) => (match X k' as W with
    | none => none
    | some ((r, W'), d) => pl_dn X k pc' P' (r.toList ++ st') W' (f + d))
  | some (.inr (.inr v)) => some ((v, W), f)
theorem pl_ext {a b : Option (PR × Nat)} (h1 : ∀ r, a = some r → b = some r) (h2 : ∀ r, b = some r → a = some r) : a = b := by
  cases a with
  | none => cases b with
    | none => rfl
    | some r => exact absurd (h2 r rfl) (by simp)
  | some r => exact (h1 r rfl).symm
theorem pl_dn_eq {X : LX} {k pc : Nat} {P : PL} {st : List PV} {W : PW} {f : Nat} {i : Instr} {len : Nat} (hi : pm_ins k pc = some (i, len)) : pl_dn X k pc P st W f = pl_go X k W f (pm_stp pm_sC k pc i len P st W) := by
  refine pl_ext (fun r h => ?_) (fun r h => ?_)
  · obtain ⟨n, hn⟩ := pl_dn_ex h
    cases n with
    | zero => simp [pl_ex] at hn
    | succ n =>
      simp only [pl_ex, hi] at hn
      unfold pl_go
      cases ha : pm_stp pm_sC k pc i len P st W with
      | none => rw [ha] at hn; cases hn
      | some a =>
        rw [ha] at hn
        rcases a with ⟨pc', P', st', W'⟩ | ⟨k', as, pc', P', st'⟩ | v
        · exact pl_dn_of hn
        · dsimp only at hn ⊢
          cases hc : X k' as W with
          | none => rw [hc] at hn; cases hn
          | some rw' =>
            obtain ⟨⟨r1, W1⟩, d⟩ := rw'
            rw [hc] at hn
            exact pl_dn_of hn
        · exact hn
  · unfold pl_go at h
    cases ha : pm_stp pm_sC k pc i len P st W with
    | none => rw [ha] at h; cases h
    | some a =>
      rw [ha] at h
      rcases a with ⟨pc', P', st', W'⟩ | ⟨k', as, pc', P', st'⟩ | v
      · obtain ⟨n, hn⟩ := pl_dn_ex h
        exact pl_dn_of (n := n + 1) (by simp only [pl_ex, hi, ha]; exact hn)
      · dsimp only at h
        cases hc : X k' as W with
        | none => rw [hc] at h; cases h
        | some rw' =>
          obtain ⟨⟨r1, W1⟩, d⟩ := rw'
          rw [hc] at h
          obtain ⟨n2, hn2⟩ := pl_dn_ex h
          exact pl_dn_of (n := n2 + 1) (by simp only [pl_ex, hi, ha, hc]; exact hn2)
      · exact pl_dn_of (n := 1) (by simp only [pl_ex, hi, ha]; exact h)
/-- a method's contract, beside something (Y) that holds of the state, with d times 4 new cells -/
def pl_room (k d : Nat) : Room := ({ frames := pm_fr k, cells := 4 * d, slots := 55 * d, locals := pm_lo k })
def pl_Met (Y : State → Prop) (l : Launch) (A : Nat → Nat) (cA : Nat → ClassId) (D : va_G) (S : PS) (N k : Nat) (as : List PV) (G : PW) (r : Option PV) (G' : PW) (d : Nat) : Prop :=
  ∀ sz : Nat, Met l (pm_yy k) (pm_wk k) (pl_room k d) (va_Pc (as.map (pm_tr A)) (fun U => pm_Pre A cA D S N G sz U ∧ Y U)) (pm_Q A cA D S N G' (va_A (pm_ws A cA S N G) sz) r) (4 * d) (55 * d) (va_A (pm_ws A cA S N G) sz)
/-- what a state may be moved along and keep -/
def pl_bl (Y : State → Prop) : Prop := ∀ (a : Array Value) (U : State) (g : JFrame) (mk : MethodId), Y U → Y (U.calling g mk a)
section PLM
variable {p : Program} {l : Launch} {e : Env} {R : Room} {ce sl : Nat} {s : State} {m : MethodId} {args : Array Value} {below : List Frame} {meth : Method} {c : Code} {A0 : Nat → Prop} {A : Nat → Nat} {cA : Nat → ClassId} {D : va_G} {S : PS} {N k : Nat}
theorem pl_blind {Y : State → Prop} (hY : pl_bl Y) {G : PW} {sz : Nat} {av : List Value} : FrameBlind (va_Pc av (fun U => pm_Pre A cA D S N G sz U ∧ Y U)) := by
  intro a U g mk ⟨h0, h1, h2⟩
  have := pm_blind (A := A) (cA := cA) (D := D) (S := S) (N := N) (G := G) (sz := sz) (av := av) a U g mk ⟨h0, h1⟩
  exact ⟨this.1, this.2, hY a U g mk h2⟩
/-- a static call of a method that makes cells -/
theorem pl_callS {Y : State → Prop} (hY : pl_bl Y) {k' d pc ix p1 p2 p3 : Nat} {P : PL} {as t st : List PV} {G G' : PW} {r : Option PV} {Q : State → Prop} (hR : pm_RM R k ce sl) (hR2 : ce + 4 * d ≤ R.cells ∧ sl + 55 * d ≤ R.slots) (X : pm_CX p s m args meth c A0 A cA D S N k)
    (hYs : ∀ (U : State) (H : Heap) (locs : List Loc), va_S A0 s.heap H locs → U.heap = H → s.WarmedH U.vm → Y U)
    (hM : pl_Met Y l A cA D S N k' as G r G' d) (hf : pm_ml (pm_ow k) ix = some (k', 1, p1, p2, p3)) (hrm : pm_rm k k' = true) (hpop : pm_pop (pm_na k') st [] = some (as, t)) (ht : t.length ≤ 4) (hd : decode (pm_cc k) pc = .ok (.invokestatic ix, 3))
    (nx : pm_At p l e R s m args below meth c (ce + 4 * d) (sl + 55 * d) Q A0 s.heap A cA D S N k (pc + 3) P (r.toList ++ t) G') : pm_At p l e R s m args below meth c ce sl Q A0 s.heap A cA D S N k pc P st G := by
  intro H locs ls h1 h2 h3
  obtain ⟨g1, g2⟩ := pm_ml_lt hf
  have hok := pm_mOK_all (pm_ow k) ix g1 g2
  unfold pm_mOK at hok
  have hts := X.2.2.2.2.2.1
  have hnw := X.2.2.2.2.2.2.1
  have hD := X.2.2.2.2.2.2.2.2.2.1
  have hA := X.2.2.2.2.2.2.2.2.2.2
  obtain ⟨e1, e2⟩ := pm_pop_eq _ _ _ _ _ hpop
  have hlen : (as.map (pm_tr A)).length = pm_na k' := by
    rw [List.length_map, e2]
    exact Nat.zero_add _
  have hst : st.map (pm_tr A) = (as.map (pm_tr A)).reverse ++ t.map (pm_tr A) := by
    have e3 : st = as.reverse ++ t := e1.symm
    rw [e3, List.map_append, List.map_reverse]
  have hroom : ((t.map (pm_tr A)).map fun v => v.category).sum ≤ 8 := by
    have := pm_sw t A
    omega
  rw [hf] at hok
  simp only [Bool.and_eq_true] at hok
  obtain ⟨w1, w2, w4⟩ := hok
  have hk' : k' < 88 := Nat.le_of_ble_eq_true w4
  obtain ⟨a1, a2, a3, a4, a5, a6⟩ := pm_k_ok hk'
  have hp := pm_pre X h2 (av := as.map (pm_tr A))
  have hr : va_Run p l e R s m args below meth c H locs ce sl (4 * d) (55 * d) (F0 m pc ls (st.map (pm_tr A))) (t.map (pm_tr A)) (pm_Q A cA D S N G' (va_A (pm_ws A cA S N G) H.size) r (as.map (pm_tr A)).toArray) (va_A (pm_ws A cA S N G) H.size) :=
    va_runS (As := as.map (pm_tr A)) (rest := t.map (pm_tr A)) (n := pm_na k') (pm_S X) (hM H.size) ⟨callB_of (pm_na k') hts (pm_wk_good hk') rfl rfl rfl (by rw [a3]; exact hts _ a2) (hts _ (pm_has_mem w1)) a5 (pm_rm_le hrm hR), hts _ (pm_has_mem w2)⟩ ⟨pl_blind hY, fun U hU hW => ⟨(hp U hU hW).1, (hp U hU hW).2, hYs U H locs h3 hU hW⟩⟩ rfl hlen h1.1 hst (lv_room hroom) hd hR2
  have hfree : ∀ q, va_A (pm_ws A cA S N G) H.size q → A0 q := fun q h => by
    rcases pm_ws_va h with ⟨r, hr, rfl⟩ | h
    · exact pm_ws_A (hD G) r hr
    · exact hA q (Nat.le_trans h3.1 h)
  rcases r with _ | x | x
  · exact va_callv (a := (as.map (pm_tr A)).toArray) hr h3 (fun q _ h => hfree q h) hfree (fun u t0 H1 locs1 ht hvm hw hB hz1 hk1 hS => nx H1 locs1 ls h1 (by have hB : va_P D vwCl (pm_ws A cA S N G') t0.heap := hB; rw [ht] at hB; exact hB) hS)
  · exact va_calli (a := (as.map (pm_tr A)).toArray) hr h3 (fun q _ h => hfree q h) hfree (fun v u t0 H1 locs1 ht hvm hw hB hz1 hk1 hS => by
      have hB : va_P D vwCl (pm_ws A cA S N G') t0.heap := hB
      rw [ht] at hB
      have hw : v = Int32.ofInt x := hw
      subst hw
      exact nx H1 locs1 ls h1 hB hS)
  · intro T hT XX
    obtain ⟨v, st0, t0, T', L, -, -, -, -, -, hq, -⟩ := hr T hT XX
    exact absurd hq (by intro h; exact h)
end PLM
/-- the law's class calls no nest mates -/
def pl_c2 (ix : Nat) : Bool := match pm_ml 6 ix with
  | some (_, 2, _, _, _) => false
  | _ => true
theorem pl_c2_all : ∀ ix, ix < 400 → pl_c2 ix = true := by decide +kernel
theorem pl_no2 (ix a b c d : Nat) (h : ix < 400) (hf : pm_ml 6 ix = some (a, 2, b, c, d)) : False := by
  have := pl_c2_all ix h
  unfold pl_c2 at this
  rw [hf] at this
  cases this
/-- a call as it is told, and its contract -/
def pl_ok (Y : State → Prop) (l : Launch) (A : Nat → Nat) (cA : Nat → ClassId) (D : va_G) (S : PS) (N : Nat) (X : LX) : Prop :=
  ∀ (k : Nat) (as : List PV) (G : PW) (r : Option PV) (G' : PW) (d : Nat), X k as G = some ((r, G'), d) → pm_sok as → pm_wok G → (pm_ent as).length ≤ pm_nl k → (pm_wok G' ∧ ∀ w, r = some w → pm_vok w) ∧ ((d = 0 ∧ (k < 88 → pm_Met l A cA D S N k as G r G')) ∨ (pm_ow k = 6 ∧ pl_Met Y l A cA D S N k as G r G' d))
/-- the walk of the law's body -/
theorem pl_walk (hSH : pm_SH pm_sC 47) (l : Launch) (A : Nat → Nat) (cA : Nat → ClassId) (D : va_G) (Y : State → Prop) (hY : pl_bl Y) (X : LX) (hX : pl_ok Y l A cA D pm_sC 47 X) {p : Program} {e : Env} {R : Room} {s : State} {m : MethodId} {args : Array Value} {below : List Frame} {meth : Method} {c : Code} {Q : State → Prop} {A0 : Nat → Prop} {k c0 s0 fm : Nat} (hk6 : pm_ow k = 6) {r : Option PV} {G' : PW}
    (hYs : ∀ (U : State) (H : Heap) (locs : List Loc), va_S A0 s.heap H locs → U.heap = H → s.WarmedH U.vm → Y U)
    (hR : pm_fr k ≤ R.frames ∧ pm_lo k ≤ R.locals) (hC : c0 + 4 * fm ≤ R.cells ∧ s0 + 55 * fm ≤ R.slots) (CX : pm_CX p s m args meth c A0 A cA D pm_sC 47 k)
    (hend : ∀ (pc len : Nat) (i : Instr) (P : PL) (st : List PV), decode (pm_cc k) pc = .ok (i, len) → pm_stp pm_sC k pc i len P st G' = some (.inr (.inr r)) → pm_At p l e R s m args below meth c (c0 + 4 * fm) (s0 + 55 * fm) Q A0 s.heap A cA D pm_sC 47 k pc P st G') :
    ∀ (n pc : Nat) (P : PL) (st : List PV) (G : PW) (f f' : Nat), pl_ex X k n pc P st G f = some ((r, G'), f') → pm_sok st → pm_pok P → pm_wok G → f ≤ f' ∧ (f' ≤ fm →
    pm_At p l e R s m args below meth c (c0 + 4 * f) (s0 + 55 * f) Q A0 s.heap A cA D pm_sC 47 k pc P st G) := by
  intro n
  induction n with
  | zero => intro pc P st G f f' h; cases h
  | succ n ih =>
    intro pc P st G f f' h h1 h2 h3
    simp only [pl_ex] at h
    cases hi : pm_ins k pc with
    | none => rw [hi] at h; cases h
    | some q =>
      obtain ⟨i, len⟩ := q
      obtain ⟨hd, hs⟩ := pm_ins_ok hi
      rw [hi] at h
      dsimp only at h
      cases ha : pm_stp pm_sC k pc i len P st G with
      | none => rw [ha] at h; cases h
      | some a =>
        have hok := pm_pres ha h1 h2 h3
        rw [ha] at h
        rcases a with ⟨pc', P', st', G1⟩ | ⟨k', as, pc', P', st'⟩ | v
        · obtain ⟨q1, nx⟩ := ih _ _ _ _ _ _ h hok.1 hok.2.1 hok.2.2
          exact ⟨q1, fun q2 => pm_stepW (a := .inl (pc', P', st', G1)) CX.1 CX.2.1 CX.2.2.2.2.2.1 CX.2.2.2.2.2.2.2.1 CX.2.2.2.2.2.2.2.2.1 CX.2.2.2.2.2.2.2.2.2.1 hSH.1 hSH.2 hs hd ha h1 h2 h3 (nx q2)⟩
        · dsimp only at h
          cases hc : X k' as G with
          | none => rw [hc] at h; cases h
          | some rw' =>
            obtain ⟨⟨r1, G1⟩, d⟩ := rw'
            rw [hc] at h
            dsimp only at h
            have hl : (pm_ent as).length ≤ pm_nl k' := by
              rcases pm_ends ha (fun q h => by cases h) with ⟨ix, k2, p1, p2, p3, r, as2, t, rfl, rfl, hf, hrm, hpop, hc, ht, hl, q⟩ | ⟨ix, k2, kd, p1, p2, p3, as2, t, rfl, rfl, hkd, hf, hrm, hpop, ht, hl, q⟩ | ⟨-, -, -, -, q⟩ | ⟨x, ty, -, -, -, -, -, q⟩
              · cases q; exact hl
              · cases q; exact hl
              · cases q
              · cases q
            obtain ⟨⟨w1, w2⟩, hm⟩ := hX k' as G r1 G1 d hc hok.1 h3 hl
            have hst : pm_sok (r1.toList ++ st') := by
              intro v hv
              rcases List.mem_append.mp hv with hv | hv
              · cases r1 with
                | none => cases hv
                | some r1 =>
                  rcases List.mem_singleton.mp hv with rfl
                  exact w2 _ rfl
              · exact hok.2.1 v hv
            obtain ⟨q1, nx⟩ := ih _ _ _ _ _ _ h hst hok.2.2 w1
            refine ⟨by omega, fun q2 => ?_⟩
            have nx := nx q2
            have hRM : pm_RM R k (c0 + 4 * f) (s0 + 55 * f) := ⟨hR, by omega, by omega⟩
            rcases hm with ⟨rfl, hm⟩ | ⟨ho, hm⟩
            · rw [Nat.add_zero] at nx
              exact pm_callW hSH hRM CX hd ha (fun hk' _ => hm hk') nx
            · rcases pm_ends ha (fun q h => by cases h) with ⟨ix, k2, p1, p2, p3, r, as2, t, rfl, rfl, hf, hrm, hpop, hc, ht, hl, q⟩ | ⟨ix, k2, kd, p1, p2, p3, as2, t, rfl, rfl, hkd, hf, hrm, hpop, ht, hl, q⟩ | ⟨-, -, -, -, q⟩ | ⟨x, ty, -, -, -, -, -, q⟩
              · exfalso
                cases q
                obtain ⟨g1, g2⟩ := pm_ml_lt hf
                have hok := pm_mOK_all (pm_ow k) ix g1 g2
                unfold pm_mOK at hok
                rw [hf] at hok
                simp only [Bool.and_eq_true] at hok
                have := Nat.le_of_ble_eq_true hok.2.2.2.2
                omega
              · cases q
                rcases hkd with rfl | rfl
                · refine pl_callS hY hRM (by omega) CX hYs hm hf hrm hpop ht hd ?_
                  rw [show c0 + 4 * f + 4 * d = c0 + 4 * (f + d) by omega, show s0 + 55 * f + 55 * d = s0 + 55 * (f + d) by omega]
                  exact nx
                · exfalso
                  obtain ⟨g1, g2⟩ := pm_ml_lt hf
                  rw [hk6] at hf
                  exact pl_no2 ix _ _ _ _ g2 hf
              · cases q
              · cases q
        · cases h
          refine ⟨Nat.le_refl _, fun q2 => ?_⟩
          have := hend pc len i P st hd ha
          intro H locs ls g1 g2 g3
          exact W.widen (by omega) (by omega) (this H locs ls g1 g2 g3)
