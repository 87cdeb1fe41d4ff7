/-! each table agrees with the code and with the words of the tables -/
def pm_isNest : Cond → Bool
  | .methodLinkNest _ _ _ _ => true
  | _ => false
def pm_gw : List Cond := lw_tbl.filter goodWord
def pm_nw : List Cond := lw_tbl.filter pm_isNest
def pm_has (p : Nat) (w : Cond) : Bool := decide (lw_tbl[p]? = some w) && goodWord w
def pm_hasN (p : Nat) (w : Cond) : Bool := decide (lw_tbl[p]? = some w)
theorem pm_has_mem {p : Nat} {w : Cond} (h : pm_has p w = true) : w ∈ pm_gw := by
  unfold pm_has at h
  rw [Bool.and_eq_true, decide_eq_true_eq] at h
  exact List.mem_filter.mpr ⟨List.mem_of_getElem? h.1, h.2⟩
theorem pm_hasN_mem {p : Nat} {w : Cond} (h : pm_hasN p w = true) (hn : pm_isNest w = true) : w ∈ pm_nw := by
  unfold pm_hasN at h
  rw [decide_eq_true_eq] at h
  exact List.mem_filter.mpr ⟨List.mem_of_getElem? h, hn⟩
theorem pm_gw_good : GoodIn pm_gw pm_gw := fun w hw => ⟨hw, good_of_word (List.mem_filter.mp hw).2⟩
def pm_sOK (n : Nat) : Instr → Bool
  | .istore j => Nat.ble (j + 1) n
  | .istore_n j => Nat.ble (j.val + 1) n
  | .astore j => Nat.ble (j + 1) n
  | .astore_n j => Nat.ble (j.val + 1) n
  | .lstore j => Nat.ble (j + 2) n
  | .lstore_n j => Nat.ble (j.val + 2) n
  | .iinc j _ => Nat.ble (j + 1) n
  | _ => true
def pm_iOK (k : Nat) : Bool := (List.range 1200).all fun pc => match pm_ins k pc with
  | some q => decide (decode (pm_cc k) pc = .ok q) && pm_sOK (pm_nl k) q.1
  | none => true
def pm_ip (c : Nat) : Nat := (bif Nat.ble 3 c then (bif Nat.ble 5 c then (bif Nat.ble 6 c then (bif Nat.beq c 6 then 30 else 0) else (bif Nat.beq c 5 then 31 else 0)) else (bif Nat.ble 4 c then (bif Nat.beq c 4 then 36 else 0) else (bif Nat.beq c 3 then 33 else 0))) else (bif Nat.ble 1 c then (bif Nat.ble 2 c then (bif Nat.beq c 2 then 35 else 0) else (bif Nat.beq c 1 then 34 else 0)) else (bif Nat.beq c 0 then 32 else 0)))
def pm_kOK (k : Nat) : Bool := pm_has (pm_cp k) (.code (pm_yy k) (pm_cc k) (pm_nl k) (pm_rr k)) && (pm_has (pm_ip (pm_ow k)) (.initialized (pm_rc (pm_ow k))) && (decide ((pm_yy k).cls = pm_rc (pm_ow k)) && (Jvm.plainName (pm_yy k).cls && (decide ((pm_yy k).cls ≠ "java/lang/invoke/MethodHandle") && (decide ((pm_yy k).cls ≠ "java/lang/invoke/VarHandle") && (decide ((parseMethodDescriptor (pm_yy k).desc).map (fun d => d.parameters.length) = some (pm_na k)) && Nat.ble (pm_ow k + 1) 7))))))
def pm_fOK (c ix : Nat) : Bool := match pm_fl c ix with
  | some (ci, j, p) => pm_has p (.fieldLink (pm_rc c) ix (pm_tx ci j).1 (pm_tx ci j).2.1 (pm_tx ci j).2.2.1) && (Nat.ble (j + 1) (pm_nf ci) && Nat.ble (ci + 1) 6)
  | none => true
def pm_mOK (c ix : Nat) : Bool := match pm_ml c ix with
  | some (k, 0, p1, p2, p3) => pm_has p1 (.methodLink (pm_rc c) ix (pm_yy k)) && (pm_has p2 (.instanceMethod (pm_yy k)) && (pm_has p3 (.selects (pm_rc (pm_ow k)) (pm_yy k) (pm_yy k)) && (Nat.ble (k + 1) 88 && Nat.ble (pm_ow k + 1) 6)))
  | some (k, 1, p1, p2, _) => pm_has p1 (.methodLink (pm_rc c) ix (pm_yy k)) && (pm_has p2 (.static (pm_yy k)) && Nat.ble (k + 1) 88)
  | some (k, 2, p1, p2, _) => pm_hasN p1 (.methodLinkNest (pm_rc c) ix (pm_yy k) "TwoLives") && (pm_has p2 (.static (pm_yy k)) && Nat.ble (k + 1) 88)
  | _ => true
def pm_cOK (c ix : Nat) : Bool := match pm_cl c ix with
  | some (x, p) => pm_has p (.constantLong (pm_rc c) ix x)
  | none => true
theorem pm_has_of {p : Nat} {w : Cond} (h : lw_tbl[p]? = some w) (g : goodWord w = true) : pm_has p w = true := by
  unfold pm_has
  rw [decide_eq_true h, g]
  rfl
theorem pm_iOK_c0 : ∀ r, r < 10 → pm_iOK (10 * 0 + r) = true := by decide +kernel
theorem pm_iOK_c1 : ∀ r, r < 10 → pm_iOK (10 * 1 + r) = true := by decide +kernel
theorem pm_iOK_c2 : ∀ r, r < 10 → pm_iOK (10 * 2 + r) = true := by decide +kernel
theorem pm_iOK_c3 : ∀ r, r < 10 → pm_iOK (10 * 3 + r) = true := by decide +kernel
theorem pm_iOK_c4 : ∀ r, r < 10 → pm_iOK (10 * 4 + r) = true := by decide +kernel
theorem pm_iOK_c5 : ∀ r, r < 10 → pm_iOK (10 * 5 + r) = true := by decide +kernel
theorem pm_iOK_c6 : ∀ r, r < 10 → pm_iOK (10 * 6 + r) = true := by decide +kernel
theorem pm_iOK_c7 : ∀ r, r < 10 → pm_iOK (10 * 7 + r) = true := by decide +kernel
theorem pm_iOK_a80 (k : Nat) (h : k < 80) : pm_iOK k = true := by
  have h2 : k % 10 < 10 := by omega
  have h1 : k / 10 < 8 := by omega
  have e : k = 10 * (k / 10) + k % 10 := by omega
  rw [e]
  generalize k / 10 = q at h1 ⊢
  generalize k % 10 = r at h2 ⊢
  match q, h1 with
  | 0, _ => exact pm_iOK_c0 r h2
  | 1, _ => exact pm_iOK_c1 r h2
  | 2, _ => exact pm_iOK_c2 r h2
  | 3, _ => exact pm_iOK_c3 r h2
  | 4, _ => exact pm_iOK_c4 r h2
  | 5, _ => exact pm_iOK_c5 r h2
  | 6, _ => exact pm_iOK_c6 r h2
  | 7, _ => exact pm_iOK_c7 r h2
  | q + 8, h => exact absurd h (by omega)
theorem pm_kOK_c0 : ∀ r, r < 10 → pm_kOK (10 * 0 + r) = true := by decide +kernel
theorem pm_kOK_c1 : ∀ r, r < 10 → pm_kOK (10 * 1 + r) = true := by decide +kernel
theorem pm_kOK_c2 : ∀ r, r < 10 → pm_kOK (10 * 2 + r) = true := by decide +kernel
theorem pm_kOK_c3 : ∀ r, r < 10 → pm_kOK (10 * 3 + r) = true := by decide +kernel
theorem pm_kOK_c4 : ∀ r, r < 10 → pm_kOK (10 * 4 + r) = true := by decide +kernel
theorem pm_kOK_c5 : ∀ r, r < 10 → pm_kOK (10 * 5 + r) = true := by decide +kernel
theorem pm_kOK_c6 : ∀ r, r < 10 → pm_kOK (10 * 6 + r) = true := by decide +kernel
theorem pm_kOK_c7 : ∀ r, r < 10 → pm_kOK (10 * 7 + r) = true := by decide +kernel
theorem pm_kOK_a80 (k : Nat) (h : k < 80) : pm_kOK k = true := by
  have h2 : k % 10 < 10 := by omega
  have h1 : k / 10 < 8 := by omega
  have e : k = 10 * (k / 10) + k % 10 := by omega
  rw [e]
  generalize k / 10 = q at h1 ⊢
  generalize k % 10 = r at h2 ⊢
  match q, h1 with
  | 0, _ => exact pm_kOK_c0 r h2
  | 1, _ => exact pm_kOK_c1 r h2
  | 2, _ => exact pm_kOK_c2 r h2
  | 3, _ => exact pm_kOK_c3 r h2
  | 4, _ => exact pm_kOK_c4 r h2
  | 5, _ => exact pm_kOK_c5 r h2
  | 6, _ => exact pm_kOK_c6 r h2
  | 7, _ => exact pm_kOK_c7 r h2
  | q + 8, h => exact absurd h (by omega)
def pm_iC (k pc : Nat) : Bool := match pm_ins k pc with
  | some q => decide (decode (pm_cc k) pc = .ok q) && pm_sOK (pm_nl k) q.1
  | none => true
theorem pm_iOK_of {k : Nat} (h : ∀ b, b < 30 → ∀ r, r < 40 → pm_iC k (40 * b + r) = true) : pm_iOK k = true := by
  refine List.all_eq_true.mpr (fun pc hpc => ?_)
  have hl := List.mem_range.mp hpc
  have e : pc = 40 * (pc / 40) + pc % 40 := by omega
  have := h (pc / 40) (by omega) (pc % 40) (by omega)
  rw [← e] at this
  exact this
theorem pm_fOK_0 : ∀ ix, ix < 400 → pm_fOK 0 ix = true := by decide +kernel
theorem pm_mOK_0 : ∀ ix, ix < 400 → pm_mOK 0 ix = true := by decide +kernel
theorem pm_cOK_0 : ∀ ix, ix < 400 → pm_cOK 0 ix = true := by decide +kernel
theorem pm_fOK_1 : ∀ ix, ix < 400 → pm_fOK 1 ix = true := by decide +kernel
theorem pm_mOK_1 : ∀ ix, ix < 400 → pm_mOK 1 ix = true := by decide +kernel
theorem pm_cOK_1 : ∀ ix, ix < 400 → pm_cOK 1 ix = true := by decide +kernel
theorem pm_fOK_2 : ∀ ix, ix < 400 → pm_fOK 2 ix = true := by decide +kernel
theorem pm_mOK_2 : ∀ ix, ix < 400 → pm_mOK 2 ix = true := by decide +kernel
theorem pm_cOK_2 : ∀ ix, ix < 400 → pm_cOK 2 ix = true := by decide +kernel
theorem pm_fOK_3 : ∀ ix, ix < 400 → pm_fOK 3 ix = true := by decide +kernel
theorem pm_mOK_3 : ∀ ix, ix < 400 → pm_mOK 3 ix = true := by decide +kernel
theorem pm_cOK_3 : ∀ ix, ix < 400 → pm_cOK 3 ix = true := by decide +kernel
theorem pm_fOK_4 : ∀ ix, ix < 400 → pm_fOK 4 ix = true := by decide +kernel
theorem pm_mOK_4 : ∀ ix, ix < 400 → pm_mOK 4 ix = true := by decide +kernel
theorem pm_cOK_4 : ∀ ix, ix < 400 → pm_cOK 4 ix = true := by decide +kernel
theorem pm_fOK_5 : ∀ ix, ix < 400 → pm_fOK 5 ix = true := by decide +kernel
theorem pm_mOK_5 : ∀ ix, ix < 400 → pm_mOK 5 ix = true := by decide +kernel
theorem pm_cOK_5 : ∀ ix, ix < 400 → pm_cOK 5 ix = true := by decide +kernel
theorem pm_fOK_6 : ∀ ix, ix < 400 → pm_fOK 6 ix = true := by decide +kernel
theorem pm_mOK_6 : ∀ ix, ix < 400 → pm_mOK 6 ix = true := by decide +kernel
theorem pm_cOK_6 : ∀ ix, ix < 400 → pm_cOK 6 ix = true := by decide +kernel
theorem pm_fOK_all (c ix : Nat) (hc : c < 7) (hi : ix < 400) : pm_fOK c ix = true := by
  match c, hc with
  | 0, _ => exact pm_fOK_0 ix hi
  | 1, _ => exact pm_fOK_1 ix hi
  | 2, _ => exact pm_fOK_2 ix hi
  | 3, _ => exact pm_fOK_3 ix hi
  | 4, _ => exact pm_fOK_4 ix hi
  | 5, _ => exact pm_fOK_5 ix hi
  | 6, _ => exact pm_fOK_6 ix hi
  | c + 7, h => exact absurd h (by omega)
theorem pm_mOK_all (c ix : Nat) (hc : c < 7) (hi : ix < 400) : pm_mOK c ix = true := by
  match c, hc with
  | 0, _ => exact pm_mOK_0 ix hi
  | 1, _ => exact pm_mOK_1 ix hi
  | 2, _ => exact pm_mOK_2 ix hi
  | 3, _ => exact pm_mOK_3 ix hi
  | 4, _ => exact pm_mOK_4 ix hi
  | 5, _ => exact pm_mOK_5 ix hi
  | 6, _ => exact pm_mOK_6 ix hi
  | c + 7, h => exact absurd h (by omega)
theorem pm_cOK_all (c ix : Nat) (hc : c < 7) (hi : ix < 400) : pm_cOK c ix = true := by
  match c, hc with
  | 0, _ => exact pm_cOK_0 ix hi
  | 1, _ => exact pm_cOK_1 ix hi
  | 2, _ => exact pm_cOK_2 ix hi
  | 3, _ => exact pm_cOK_3 ix hi
  | 4, _ => exact pm_cOK_4 ix hi
  | 5, _ => exact pm_cOK_5 ix hi
  | 6, _ => exact pm_cOK_6 ix hi
  | c + 7, h => exact absurd h (by omega)
set_option maxRecDepth 20000 in
theorem pm_in0 : ∀ w ∈ u_ws RX0 TX0 6, w ∈ pm_gw := fun w h => (fun q : w ∈ lw_tbl ∧ _ => List.mem_filter.mpr ⟨q.1, List.all_eq_true.mp (show (u_ws RX0 TX0 6).all goodWord = true by decide +kernel) w h⟩) (goodIn_r (u_ws RX0 TX0 6) [124, 126, 128, 130, 132, 134] (by decide +kernel) (by decide +kernel) w h)
set_option maxRecDepth 20000 in
theorem pm_in1 : ∀ w ∈ u_ws RX1 TX1 2, w ∈ pm_gw := fun w h => (fun q : w ∈ lw_tbl ∧ _ => List.mem_filter.mpr ⟨q.1, List.all_eq_true.mp (show (u_ws RX1 TX1 2).all goodWord = true by decide +kernel) w h⟩) (goodIn_r (u_ws RX1 TX1 2) [146, 148] (by decide +kernel) (by decide +kernel) w h)
set_option maxRecDepth 20000 in
theorem pm_in2 : ∀ w ∈ u_ws RX2 TX2 4, w ∈ pm_gw := fun w h => (fun q : w ∈ lw_tbl ∧ _ => List.mem_filter.mpr ⟨q.1, List.all_eq_true.mp (show (u_ws RX2 TX2 4).all goodWord = true by decide +kernel) w h⟩) (goodIn_r (u_ws RX2 TX2 4) [159, 161, 163, 165] (by decide +kernel) (by decide +kernel) w h)
set_option maxRecDepth 20000 in
theorem pm_in3 : ∀ w ∈ u_ws RX3 TX3 14, w ∈ pm_gw := fun w h => (fun q : w ∈ lw_tbl ∧ _ => List.mem_filter.mpr ⟨q.1, List.all_eq_true.mp (show (u_ws RX3 TX3 14).all goodWord = true by decide +kernel) w h⟩) (goodIn_r (u_ws RX3 TX3 14) [87, 89, 91, 93, 95, 97, 99, 101, 103, 105, 107, 109, 111, 113] (by decide +kernel) (by decide +kernel) w h)
set_option maxRecDepth 20000 in
theorem pm_in4 : ∀ w ∈ u_ws RX4 TX4 5, w ∈ pm_gw := fun w h => (fun q : w ∈ lw_tbl ∧ _ => List.mem_filter.mpr ⟨q.1, List.all_eq_true.mp (show (u_ws RX4 TX4 5).all goodWord = true by decide +kernel) w h⟩) (goodIn_r (u_ws RX4 TX4 5) [179, 181, 183, 185, 187] (by decide +kernel) (by decide +kernel) w h)
set_option maxRecDepth 20000 in
theorem pm_in5 : ∀ w ∈ u_ws RX5 TX5 8, w ∈ pm_gw := fun w h => (fun q : w ∈ lw_tbl ∧ _ => List.mem_filter.mpr ⟨q.1, List.all_eq_true.mp (show (u_ws RX5 TX5 8).all goodWord = true by decide +kernel) w h⟩) (goodIn_r (u_ws RX5 TX5 8) [330, 332, 334, 336, 338, 340, 342, 344] (by decide +kernel) (by decide +kernel) w h)
theorem pm_cl_at (c : Nat) (h : c < 6) : vwCl[c]? = some (pm_rc c, pm_tx c, pm_nf c) := by
  match c, h with
  | 0, _ => rfl
  | 1, _ => rfl
  | 2, _ => rfl
  | 3, _ => rfl
  | 4, _ => rfl
  | 5, _ => rfl
  | c + 6, h => exact absurd h (by omega)
theorem pm_inW (c : Nat) (h : c < 6) : ∀ w ∈ u_ws (pm_rc c) (pm_tx c) (pm_nf c), w ∈ pm_gw := by
  match c, h with
  | 0, _ => exact pm_in0
  | 1, _ => exact pm_in1
  | 2, _ => exact pm_in2
  | 3, _ => exact pm_in3
  | 4, _ => exact pm_in4
  | 5, _ => exact pm_in5
  | c + 6, h => exact absurd h (by omega)
theorem pm_tyW (c : Nat) (h : c < 6) : ∀ k, k < pm_nf c → parseFieldDescriptor (pm_tx c k).2.2.1 = some (pm_ty c k) := by
  match c, h with
  | 0, _ => exact tyX0_ok
  | 1, _ => exact tyX1_ok
  | 2, _ => exact tyX2_ok
  | 3, _ => exact tyX3_ok
  | 4, _ => exact tyX4_ok
  | 5, _ => exact tyX5_ok
  | c + 6, h => exact absurd h (by omega)
theorem pm_nmW (c : Nat) (h : c < 6) : ∀ a, a < pm_nf c → ∀ b, b < pm_nf c → a ≠ b → (pm_tx c a).2.1 ≠ (pm_tx c b).2.1 := by
  match c, h with
  | 0, _ => exact nmX0
  | 1, _ => exact nmX1
  | 2, _ => exact nmX2
  | 3, _ => exact nmX3
  | 4, _ => exact nmX4
  | 5, _ => exact nmX5
  | c + 6, h => exact absurd h (by omega)
