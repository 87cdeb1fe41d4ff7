/-! cell(): what it answers out of the script -/
def rm32 (x y : Int32) : Int32 := x - x / y * y
def cell32 (xs : Nat → Int32) (L : Nat) (a b : Int32) : Int32 := rm32 (if Int32.ofNat L = 0 then a * 37 + 5 else (xs (rm32 a (Int32.ofNat L)).toNatClampNeg >>> (rm32 a 7 &&& 31)) &&& 4194303) b
/-- the answer of cell(s, a, b) -/
def cev (xs : Nat → Int32) (L : Nat) (a b : Int) : Int := (cell32 xs L (Int32.ofInt a) (Int32.ofInt b)).toInt
theorem and_low (w : Int32) : 0 ≤ (w &&& 4194303).toInt := by
  have h : (w &&& 4194303).toBitVec.toNat < 2 ^ 31 := by
    rw [Int32.toBitVec_and, BitVec.toNat_and]
    have e : (4194303 : Int32).toBitVec.toNat = 4194303 := by decide
    rw [e]
    exact Nat.lt_of_le_of_lt Nat.and_le_right (by decide)
  have e2 : (w &&& 4194303).toInt = (w &&& 4194303).toBitVec.toInt := rfl
  rw [e2, BitVec.toInt_eq_toNat_cond, if_pos (by omega)]
  omega
theorem rm_rg {x y : Int32} (hx : 0 ≤ x.toInt) (hy : 0 < y.toInt) : 0 ≤ (rm32 x y).toInt ∧ (rm32 x y).toInt < y.toInt := by
  unfold rm32
  rw [rem_toInt, Int.tmod_eq_emod_of_nonneg hx]
  exact ⟨Int.emod_nonneg _ (by omega), Int.emod_lt_of_pos _ hy⟩
theorem cell_low {xs : Nat → Int32} {L : Nat} {a : Int} (ha : 0 ≤ a ∧ a ≤ 1000) : 0 ≤ (if Int32.ofNat L = 0 then Int32.ofInt a * 37 + 5 else (xs (rm32 (Int32.ofInt a) (Int32.ofNat L)).toNatClampNeg >>> (rm32 (Int32.ofInt a) 7 &&& 31)) &&& 4194303).toInt := by
  by_cases c : Int32.ofNat L = 0
  · rw [if_pos c]
    have e : Int32.ofInt a * 37 + 5 = Int32.ofInt (a * 37 + 5) := by
      rw [Int32.ofInt_add, Int32.ofInt_mul]
      rfl
    rw [e, pm_toI (pm_rg_iff.mpr (by omega))]
    omega
  · rw [if_neg c]
    exact and_low _
theorem cev_rg {xs : Nat → Int32} {L : Nat} {a b : Int} (ha : 0 ≤ a ∧ a ≤ 1000) (hb : 0 < b ∧ b ≤ 1000) : 0 ≤ cev xs L a b ∧ cev xs L a b < b := by
  have r := rm_rg (x := if Int32.ofNat L = 0 then Int32.ofInt a * 37 + 5 else (xs (rm32 (Int32.ofInt a) (Int32.ofNat L)).toNatClampNeg >>> (rm32 (Int32.ofInt a) 7 &&& 31)) &&& 4194303) (y := Int32.ofInt b) (cell_low ha) (by rw [pm_toI (pm_rg_iff.mpr (by omega))]; omega)
  rw [pm_toI (pm_rg_iff.mpr (by omega))] at r
  exact r
/-- the script, as it lies in a state -/
def scrY (bb L : Nat) (xs : Nat → Int32) (U : State) : Prop := va_X bb L xs U U.heap ∧ bb < U.heap.size
theorem scr_bl {bb L : Nat} {xs : Nat → Int32} : pl_bl (scrY bb L xs) := fun a U g mk h => ⟨va_X.moved (u := U) (U := U.calling g mk a) (Vm.Alike.refl U.vm) h.1, h.2⟩
set_option maxHeartbeats 4000000 in
set_option maxRecDepth 100000 in
theorem cell_Met {bb L : Nat} {xs : Nat → Int32} (l : Launch) (A : Nat → Nat) (cA : Nat → ClassId) (D : va_G) {G : PW} {a b : Int} (hbb : A 60 = bb) (hL : L ≤ 260) (ha : 0 ≤ a ∧ a ≤ 1000) (hb0 : 0 < b ∧ b ≤ 1000) : pl_Met (scrY bb L xs) l A cA D pm_sC 47 82 [.inr (.inr 60), .inl a, .inl b] G (some (.inl (cev xs L a b))) G 0 := by
  intro sz
  have a4 := (pm_k_ok (k := 82) (by decide)).2.2.2.1
  refine Met.ofW (cc := cL_cell) (maxL := 3) (ret := some .int) a4 rfl ?_
  intro p e s m args below meth c s₁ B hml hv
  obtain ⟨rfl, ⟨hsz, hP, hK, hD0, hnw⟩, hX, hbl⟩ := hv
  have hts0 := atoms_spec (ws := pm_wk 82) B.pre
  have hown : s.vm.findClass "TwoLivesLaw" = some m.cls := findClass_of_methodNamed B.named
  have hcst : Cond.constant "TwoLivesLaw" 7 4194303 ∈ pm_gw := pm_has_mem (p := 558) (by decide +kernel)
  have hcst := hts0 _ (List.mem_cons_of_mem _ hcst)
  subst hsz
  have hx := B.exec
  have hb : c.code = cL_cell := B.bytes
  have hbA : ¬ (fun q : Nat => s.heap.size ≤ q) bb := Nat.not_le.mpr hbl
  have hS : va_S (fun q : Nat => s.heap.size ≤ q) s.heap s.heap [] := va_S.rf
  have eb : (pm_tr A (.inr (.inr 60)) : Value) = .ref bb := by rw [← hbb]; rfl
  have hl := lv_entry ([.ref (A 60), .int (Int32.ofInt a), .int (Int32.ofInt b)]) (n := 3) (Nat.le_of_ble_eq_true rfl)
  rw [lg_entry_eq]
  show W _ _ _ _ _ _ _ _ _ _ _ _ _ _ _ (F0 m 0 (lg_sl ([.ref (A 60), .int (Int32.ofInt a), .int (Int32.ofInt b)]) ++ List.replicate (3 - (lg_sl ([.ref (A 60), .int (Int32.ofInt a), .int (Int32.ofInt b)])).length) Slot.unset).toArray [])
  generalize (lg_sl ([.ref (A 60), .int (Int32.ofInt a), .int (Int32.ofInt b)]) ++ List.replicate (3 - (lg_sl ([.ref (A 60), .int (Int32.ofInt a), .int (Int32.ofInt b)])).length) Slot.unset).toArray = ls at hl ⊢
  have hl : lv_has ls 3 [(0, .ref (A 60)), (1, .int (Int32.ofInt a)), (2, .int (Int32.ofInt b))] := hl
  rw [hbb] at hl
  have nb : ¬ Int32.ofInt b = 0 := pm_ne0 hb0.1 (pm_rg_iff.mpr (by omega))
  have n7 : ¬ (7 : Int32) = 0 := by decide
  -- the end
  have tail : ∀ v : Int32, rm32 v (Int32.ofInt b) = cell32 xs L (Int32.ofInt a) (Int32.ofInt b) → W p l e (pl_room 82 0) s m (List.map (pm_tr A) [.inr (.inr 60), .inl a, .inl b]).toArray below meth c s.heap [] 0 0 (MQ below (pm_Q A cA D pm_sC 47 G (va_A (pm_ws A cA pm_sC 47 G) s.heap.size) (some (.inl (cev xs L a b)))) (List.map (pm_tr A) [.inr (.inr 60), .inl a, .inl b]).toArray s 0 0 (va_A (pm_ws A cA pm_sC 47 G) s.heap.size)) (F0 m 28 ls [.int v]) := fun v ev => by
    refine lv_iload_n hx hb dL_cell_28 rfl (lv_at hl 2 rfl) ?_
    refine lv_irem hx hb dL_cell_29 nb ?_
    refine W.iret hx hb (by rw [B.returns]) (fun t ht hW => ⟨⟨_, (), rfl, ?_, ?_⟩, ?_⟩) (fun q hq => by cases hq) dL_cell_30
    · show v - v / Int32.ofInt b * Int32.ofInt b = Int32.ofInt (cev xs L a b)
      unfold cev
      rw [Int32.ofInt_toInt, ← ev]
      rfl
    · show va_P D vwCl (pm_ws A cA pm_sC 47 G) t.heap
      rw [ht]
      exact hP
    · exact ⟨by rw [ht]; exact Nat.le_refl _, fun q _ _ => by rw [ht]⟩
  refine lv_aload_n hx hb dL_cell_0 rfl (lv_at hl 0 rfl) ?_
  refine va_slen hx hb hX hbl hbA hS dL_cell_1 ?_
  refine lv_if_ne (tgt := 14) hx hb dL_cell_2 (by decide) (fun h0 => ?_) (fun h0 => ?_)
  · have Lp : 0 < L := by
      rcases Nat.eq_zero_or_pos L with q | q
      · subst q; exact absurd rfl h0
      · exact q
    have eL : (Int32.ofNat L).toInt = (L : Int) := by
      rw [← Int32.ofInt_eq_ofNat]
      exact pm_toI (pm_rg_iff.mpr (by omega))
    have ea : (Int32.ofInt a).toInt = a := pm_toI (pm_rg_iff.mpr (by omega))
    have r := rm_rg (x := Int32.ofInt a) (y := Int32.ofNat L) (by rw [ea]; omega) (by rw [eL]; omega)
    rw [eL] at r
    have hin : vp_in (rm32 (Int32.ofInt a) (Int32.ofNat L)) L := by
      unfold vp_in
      intro q
      rcases q with q | q
      · rw [Int32.lt_iff_toInt_lt] at q
        have : (0 : Int32).toInt = 0 := by decide
        omega
      · have e3 : (rm32 (Int32.ofInt a) (Int32.ofNat L)).toNatClampNeg = (rm32 (Int32.ofInt a) (Int32.ofNat L)).toInt.toNat := rfl
        omega
    refine lv_aload_n hx hb dL_cell_14 rfl (lv_at hl 0 rfl) ?_
    refine lv_iload_n hx hb dL_cell_15 rfl (lv_at hl 1 rfl) ?_
    refine lv_aload_n hx hb dL_cell_16 rfl (lv_at hl 0 rfl) ?_
    refine va_slen hx hb hX hbl hbA hS dL_cell_17 ?_
    refine lv_irem hx hb dL_cell_18 h0 ?_
    refine va_sld hx hb hX hbl hbA hS hin dL_cell_19 ?_
    refine lv_iload_n hx hb dL_cell_20 rfl (lv_at hl 1 rfl) ?_
    refine lv_bipush (v := 7) hx hb dL_cell_21 (by decide) ?_
    refine lv_irem hx hb dL_cell_23 n7 ?_
    refine lv_ishr hx hb dL_cell_24 ?_
    refine lv_ldc hx hb hown hcst dL_cell_25 ?_
    refine lv_iand hx hb dL_cell_27 ?_
    refine tail _ ?_
    unfold cell32
    rw [if_neg h0]
    rfl
  · refine lv_iload_n hx hb dL_cell_5 rfl (lv_at hl 1 rfl) ?_
    refine lv_bipush (v := 37) hx hb dL_cell_6 (by decide) ?_
    refine lv_imul hx hb dL_cell_8 ?_
    refine lv_iconst (v := 5) hx hb dL_cell_9 (by decide) ?_
    refine lv_iadd hx hb dL_cell_10 ?_
    refine lv_goto (tgt := 28) hx hb dL_cell_11 (by decide) ?_
    refine tail _ ?_
    unfold cell32
    rw [if_pos h0]
