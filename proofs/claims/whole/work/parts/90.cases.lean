/-! the nineteen calls of the law, printed by gen89.py -/
set_option maxHeartbeats 4000000 in
theorem lw_c_setUp {p : Program} {l : Launch} {e : Env} {s : State} {m : MethodId} {below : List Frame} {meth : Method} {c : Code} {b L : Nat} {xs : Nat → Int32} {Ax Am : Nat → Nat} {cA : Nat → ClassId} {D : va_G} {x3 : Int32} {G K : PW} (X : lw_CX p s m meth c b L xs cA D) (h1 : vp_in (x3 + 1) L) (h2 : vp_in (x3 + 2) L) (h : REL G K) (gG : pm_wok G) (gK : pm_wok K) (nx : ∀ G' K', REL G' K' → pm_wok G' → pm_wok K' → lw_In p l e s m below meth c b Ax Am cA D x3 G' K' 601) : lw_In p l e s m below meth c b Ax Am cA D x3 G K 124 := by
  obtain ⟨⟨hx, hb, hr, hml, hown, -, hX, hbl, hlocks, -⟩, hK, hts, hnw⟩ := X
  have hA : ∀ q : Nat, s.heap.size ≤ q → (fun q : Nat => s.heap.size ≤ q) q := fun _ h => h
  have hbA : ¬ (fun q : Nat => s.heap.size ≤ q) b := Nat.not_le.mpr hbl
  obtain ⟨v, G', K', r1, r2, h'⟩ := b_setUp h (a := (xs (x3 + 1).toNatClampNeg).toInt) (c := (xs (x3 + 2).toNatClampNeg).toInt)
  obtain ⟨M1, g1, -⟩ := pm_sound cs_shC l Ax cA D (by decide) (Nat.le_of_ble_eq_true rfl) r1 (cs_sok2 (pm_rgI _) (pm_rgI _)) gG
  obtain ⟨M2, g2, -⟩ := pm_sound cs_shM l Am cA D (by decide) (Nat.le_of_ble_eq_true rfl) r2 (cs_sok2 (pm_rgI _) (pm_rgI _)) gK
  intro H locs ls hP hD hS hl
  refine lv_aload_n hx hb dL_law_124 rfl (lv_at hl 2 rfl) ?_
  refine lv_aload_n hx hb dL_law_125 rfl (lv_at hl 3 rfl) ?_
  refine lv_iload_n hx hb dL_law_126 rfl (lv_at hl 0 rfl) ?_
  refine lv_iconst (v := 1) hx hb dL_law_127 (by decide) ?_
  refine lv_iadd hx hb dL_law_128 ?_
  refine va_sld hx hb hX hbl hbA hS h1 dL_law_129 ?_
  refine lv_aload_n hx hb dL_law_130 rfl (lv_at hl 3 rfl) ?_
  refine lv_iload_n hx hb dL_law_131 rfl (lv_at hl 0 rfl) ?_
  refine lv_iconst (v := 2) hx hb dL_law_132 (by decide) ?_
  refine lv_iadd hx hb dL_law_133 ?_
  refine va_sld hx hb hX hbl hbA hS h2 dL_law_134 ?_
  refine cs_calli_l (own := R_law) (k := 70) (ix := 13) (p1 := 398) (p2 := 399) (p3 := 400) (rest := []) hx hb hml hown hts hnw hK cs_shC rfl M1 (by decide) (by decide +kernel) (by decide +kernel) (by decide +kernel) hP hD hS hA rfl cs_st2 hl.1 (Nat.le_of_ble_eq_true rfl) ⟨Nat.le_of_ble_eq_true rfl, Nat.le_of_ble_eq_true rfl⟩ ⟨Nat.le_refl _, Nat.le_refl _⟩ dL_law_135 (fun H locs hP hD hS => ?_)
  refine lv_aload_n hx hb dL_law_138 rfl (lv_at hl 1 rfl) ?_
  refine lv_aload_n hx hb dL_law_139 rfl (lv_at hl 3 rfl) ?_
  refine lv_iload_n hx hb dL_law_140 rfl (lv_at hl 0 rfl) ?_
  refine lv_iconst (v := 1) hx hb dL_law_141 (by decide) ?_
  refine lv_iadd hx hb dL_law_142 ?_
  refine va_sld hx hb hX hbl hbA hS h1 dL_law_143 ?_
  refine lv_aload_n hx hb dL_law_144 rfl (lv_at hl 3 rfl) ?_
  refine lv_iload_n hx hb dL_law_145 rfl (lv_at hl 0 rfl) ?_
  refine lv_iconst (v := 2) hx hb dL_law_146 (by decide) ?_
  refine lv_iadd hx hb dL_law_147 ?_
  refine va_sld hx hb hX hbl hbA hS h2 dL_law_148 ?_
  refine cs_calli_r (own := R_law) (k := 133) (ix := 17) (p1 := 835) (p2 := 836) (p3 := 837) (rest := [.int (Int32.ofInt v)]) hx hb hml hown hts hnw hK cs_shM rfl M2 (by decide) (by decide +kernel) (by decide +kernel) (by decide +kernel) hP hD hS hA rfl cs_st2 hl.1 (Nat.le_of_ble_eq_true rfl) ⟨Nat.le_of_ble_eq_true rfl, Nat.le_of_ble_eq_true rfl⟩ ⟨Nat.le_refl _, Nat.le_refl _⟩ dL_law_149 (fun H locs hP hD hS => ?_)
  exact lv_icmp_eq (tgt := 601) hx hb dL_law_152 (by decide) (fun _ => nx G' K' h' g1 g2 H locs ls hP hD hS hl) (fun cc => absurd rfl cc)
set_option maxHeartbeats 4000000 in
theorem lw_c_rate {p : Program} {l : Launch} {e : Env} {s : State} {m : MethodId} {below : List Frame} {meth : Method} {c : Code} {b L : Nat} {xs : Nat → Int32} {Ax Am : Nat → Nat} {cA : Nat → ClassId} {D : va_G} {x3 : Int32} {G K : PW} (X : lw_CX p s m meth c b L xs cA D) (h1 : vp_in (x3 + 1) L) (h2 : vp_in (x3 + 2) L) (h : REL G K) (gG : pm_wok G) (gK : pm_wok K) (nx : ∀ G' K', REL G' K' → pm_wok G' → pm_wok K' → lw_In p l e s m below meth c b Ax Am cA D x3 G' K' 601) : lw_In p l e s m below meth c b Ax Am cA D x3 G K 157 := by
  obtain ⟨⟨hx, hb, hr, hml, hown, -, hX, hbl, hlocks, -⟩, hK, hts, hnw⟩ := X
  have hA : ∀ q : Nat, s.heap.size ≤ q → (fun q : Nat => s.heap.size ≤ q) q := fun _ h => h
  have hbA : ¬ (fun q : Nat => s.heap.size ≤ q) b := Nat.not_le.mpr hbl
  obtain ⟨v, G', K', r1, r2, h'⟩ := b_rate h (a := (xs (x3 + 1).toNatClampNeg).toInt) (r := (xs (x3 + 2).toNatClampNeg).toInt)
  obtain ⟨M1, g1, -⟩ := pm_sound cs_shC l Ax cA D (by decide) (Nat.le_of_ble_eq_true rfl) r1 (cs_sok2 (pm_rgI _) (pm_rgI _)) gG
  obtain ⟨M2, g2, -⟩ := pm_sound cs_shM l Am cA D (by decide) (Nat.le_of_ble_eq_true rfl) r2 (cs_sok2 (pm_rgI _) (pm_rgI _)) gK
  intro H locs ls hP hD hS hl
  refine lv_aload_n hx hb dL_law_157 rfl (lv_at hl 2 rfl) ?_
  refine lv_aload_n hx hb dL_law_158 rfl (lv_at hl 3 rfl) ?_
  refine lv_iload_n hx hb dL_law_159 rfl (lv_at hl 0 rfl) ?_
  refine lv_iconst (v := 1) hx hb dL_law_160 (by decide) ?_
  refine lv_iadd hx hb dL_law_161 ?_
  refine va_sld hx hb hX hbl hbA hS h1 dL_law_162 ?_
  refine lv_aload_n hx hb dL_law_163 rfl (lv_at hl 3 rfl) ?_
  refine lv_iload_n hx hb dL_law_164 rfl (lv_at hl 0 rfl) ?_
  refine lv_iconst (v := 2) hx hb dL_law_165 (by decide) ?_
  refine lv_iadd hx hb dL_law_166 ?_
  refine va_sld hx hb hX hbl hbA hS h2 dL_law_167 ?_
  refine cs_calli_l (own := R_law) (k := 71) (ix := 18) (p1 := 406) (p2 := 407) (p3 := 408) (rest := []) hx hb hml hown hts hnw hK cs_shC rfl M1 (by decide) (by decide +kernel) (by decide +kernel) (by decide +kernel) hP hD hS hA rfl cs_st2 hl.1 (Nat.le_of_ble_eq_true rfl) ⟨Nat.le_of_ble_eq_true rfl, Nat.le_of_ble_eq_true rfl⟩ ⟨Nat.le_refl _, Nat.le_refl _⟩ dL_law_168 (fun H locs hP hD hS => ?_)
  refine lv_aload_n hx hb dL_law_171 rfl (lv_at hl 1 rfl) ?_
  refine lv_aload_n hx hb dL_law_172 rfl (lv_at hl 3 rfl) ?_
  refine lv_iload_n hx hb dL_law_173 rfl (lv_at hl 0 rfl) ?_
  refine lv_iconst (v := 1) hx hb dL_law_174 (by decide) ?_
  refine lv_iadd hx hb dL_law_175 ?_
  refine va_sld hx hb hX hbl hbA hS h1 dL_law_176 ?_
  refine lv_aload_n hx hb dL_law_177 rfl (lv_at hl 3 rfl) ?_
  refine lv_iload_n hx hb dL_law_178 rfl (lv_at hl 0 rfl) ?_
  refine lv_iconst (v := 2) hx hb dL_law_179 (by decide) ?_
  refine lv_iadd hx hb dL_law_180 ?_
  refine va_sld hx hb hX hbl hbA hS h2 dL_law_181 ?_
  refine cs_calli_r (own := R_law) (k := 135) (ix := 21) (p1 := 866) (p2 := 867) (p3 := 868) (rest := [.int (Int32.ofInt v)]) hx hb hml hown hts hnw hK cs_shM rfl M2 (by decide) (by decide +kernel) (by decide +kernel) (by decide +kernel) hP hD hS hA rfl cs_st2 hl.1 (Nat.le_of_ble_eq_true rfl) ⟨Nat.le_of_ble_eq_true rfl, Nat.le_of_ble_eq_true rfl⟩ ⟨Nat.le_refl _, Nat.le_refl _⟩ dL_law_182 (fun H locs hP hD hS => ?_)
  exact lv_icmp_eq (tgt := 601) hx hb dL_law_185 (by decide) (fun _ => nx G' K' h' g1 g2 H locs ls hP hD hS hl) (fun cc => absurd rfl cc)
set_option maxHeartbeats 4000000 in
theorem lw_c_result {p : Program} {l : Launch} {e : Env} {s : State} {m : MethodId} {below : List Frame} {meth : Method} {c : Code} {b L : Nat} {xs : Nat → Int32} {Ax Am : Nat → Nat} {cA : Nat → ClassId} {D : va_G} {x3 : Int32} {G K : PW} (X : lw_CX p s m meth c b L xs cA D) (h1 : vp_in (x3 + 1) L) (h2 : vp_in (x3 + 2) L) (h : REL G K) (gG : pm_wok G) (gK : pm_wok K) (nx : ∀ G' K', REL G' K' → pm_wok G' → pm_wok K' → lw_In p l e s m below meth c b Ax Am cA D x3 G' K' 601) : lw_In p l e s m below meth c b Ax Am cA D x3 G K 190 := by
  obtain ⟨⟨hx, hb, hr, hml, hown, -, hX, hbl, hlocks, -⟩, hK, hts, hnw⟩ := X
  have hA : ∀ q : Nat, s.heap.size ≤ q → (fun q : Nat => s.heap.size ≤ q) q := fun _ h => h
  have hbA : ¬ (fun q : Nat => s.heap.size ≤ q) b := Nat.not_le.mpr hbl
  obtain ⟨v, G', K', r1, r2, h'⟩ := b_result h (m := (xs (x3 + 1).toNatClampNeg).toInt) (s := (xs (x3 + 2).toNatClampNeg).toInt)
  obtain ⟨M1, g1, -⟩ := pm_sound cs_shC l Ax cA D (by decide) (Nat.le_of_ble_eq_true rfl) r1 (cs_sok2 (pm_rgI _) (pm_rgI _)) gG
  obtain ⟨M2, g2, -⟩ := pm_sound cs_shM l Am cA D (by decide) (Nat.le_of_ble_eq_true rfl) r2 (cs_sok2 (pm_rgI _) (pm_rgI _)) gK
  intro H locs ls hP hD hS hl
  refine lv_aload_n hx hb dL_law_190 rfl (lv_at hl 2 rfl) ?_
  refine lv_aload_n hx hb dL_law_191 rfl (lv_at hl 3 rfl) ?_
  refine lv_iload_n hx hb dL_law_192 rfl (lv_at hl 0 rfl) ?_
  refine lv_iconst (v := 1) hx hb dL_law_193 (by decide) ?_
  refine lv_iadd hx hb dL_law_194 ?_
  refine va_sld hx hb hX hbl hbA hS h1 dL_law_195 ?_
  refine lv_aload_n hx hb dL_law_196 rfl (lv_at hl 3 rfl) ?_
  refine lv_iload_n hx hb dL_law_197 rfl (lv_at hl 0 rfl) ?_
  refine lv_iconst (v := 2) hx hb dL_law_198 (by decide) ?_
  refine lv_iadd hx hb dL_law_199 ?_
  refine va_sld hx hb hX hbl hbA hS h2 dL_law_200 ?_
  refine cs_calli_l (own := R_law) (k := 72) (ix := 22) (p1 := 419) (p2 := 420) (p3 := 421) (rest := []) hx hb hml hown hts hnw hK cs_shC rfl M1 (by decide) (by decide +kernel) (by decide +kernel) (by decide +kernel) hP hD hS hA rfl cs_st2 hl.1 (Nat.le_of_ble_eq_true rfl) ⟨Nat.le_of_ble_eq_true rfl, Nat.le_of_ble_eq_true rfl⟩ ⟨Nat.le_refl _, Nat.le_refl _⟩ dL_law_201 (fun H locs hP hD hS => ?_)
  refine lv_aload_n hx hb dL_law_204 rfl (lv_at hl 1 rfl) ?_
  refine lv_aload_n hx hb dL_law_205 rfl (lv_at hl 3 rfl) ?_
  refine lv_iload_n hx hb dL_law_206 rfl (lv_at hl 0 rfl) ?_
  refine lv_iconst (v := 1) hx hb dL_law_207 (by decide) ?_
  refine lv_iadd hx hb dL_law_208 ?_
  refine va_sld hx hb hX hbl hbA hS h1 dL_law_209 ?_
  refine lv_aload_n hx hb dL_law_210 rfl (lv_at hl 3 rfl) ?_
  refine lv_iload_n hx hb dL_law_211 rfl (lv_at hl 0 rfl) ?_
  refine lv_iconst (v := 2) hx hb dL_law_212 (by decide) ?_
  refine lv_iadd hx hb dL_law_213 ?_
  refine va_sld hx hb hX hbl hbA hS h2 dL_law_214 ?_
  refine cs_calli_r (own := R_law) (k := 137) (ix := 25) (p1 := 874) (p2 := 875) (p3 := 876) (rest := [.int (Int32.ofInt v)]) hx hb hml hown hts hnw hK cs_shM rfl M2 (by decide) (by decide +kernel) (by decide +kernel) (by decide +kernel) hP hD hS hA rfl cs_st2 hl.1 (Nat.le_of_ble_eq_true rfl) ⟨Nat.le_of_ble_eq_true rfl, Nat.le_of_ble_eq_true rfl⟩ ⟨Nat.le_refl _, Nat.le_refl _⟩ dL_law_215 (fun H locs hP hD hS => ?_)
  exact lv_icmp_eq (tgt := 601) hx hb dL_law_218 (by decide) (fun _ => nx G' K' h' g1 g2 H locs ls hP hD hS hl) (fun cc => absurd rfl cc)
set_option maxHeartbeats 4000000 in
theorem lw_c_withdraw {p : Program} {l : Launch} {e : Env} {s : State} {m : MethodId} {below : List Frame} {meth : Method} {c : Code} {b L : Nat} {xs : Nat → Int32} {Ax Am : Nat → Nat} {cA : Nat → ClassId} {D : va_G} {x3 : Int32} {G K : PW} (X : lw_CX p s m meth c b L xs cA D) (h1 : vp_in (x3 + 1) L) (h2 : vp_in (x3 + 2) L) (h : REL G K) (gG : pm_wok G) (gK : pm_wok K) (nx : ∀ G' K', REL G' K' → pm_wok G' → pm_wok K' → lw_In p l e s m below meth c b Ax Am cA D x3 G' K' 601) : lw_In p l e s m below meth c b Ax Am cA D x3 G K 223 := by
  obtain ⟨⟨hx, hb, hr, hml, hown, -, hX, hbl, hlocks, -⟩, hK, hts, hnw⟩ := X
  have hA : ∀ q : Nat, s.heap.size ≤ q → (fun q : Nat => s.heap.size ≤ q) q := fun _ h => h
  have hbA : ¬ (fun q : Nat => s.heap.size ≤ q) b := Nat.not_le.mpr hbl
  obtain ⟨v, G', K', r1, r2, h'⟩ := b_withdraw h (a := (xs (x3 + 1).toNatClampNeg).toInt)
  obtain ⟨M1, g1, -⟩ := pm_sound cs_shC l Ax cA D (by decide) (Nat.le_of_ble_eq_true rfl) r1 (cs_sok1 (pm_rgI _)) gG
  obtain ⟨M2, g2, -⟩ := pm_sound cs_shM l Am cA D (by decide) (Nat.le_of_ble_eq_true rfl) r2 (cs_sok1 (pm_rgI _)) gK
  intro H locs ls hP hD hS hl
  refine lv_aload_n hx hb dL_law_223 rfl (lv_at hl 2 rfl) ?_
  refine lv_aload_n hx hb dL_law_224 rfl (lv_at hl 3 rfl) ?_
  refine lv_iload_n hx hb dL_law_225 rfl (lv_at hl 0 rfl) ?_
  refine lv_iconst (v := 1) hx hb dL_law_226 (by decide) ?_
  refine lv_iadd hx hb dL_law_227 ?_
  refine va_sld hx hb hX hbl hbA hS h1 dL_law_228 ?_
  refine cs_calli_l (own := R_law) (k := 73) (ix := 26) (p1 := 482) (p2 := 483) (p3 := 484) (rest := []) hx hb hml hown hts hnw hK cs_shC rfl M1 (by decide) (by decide +kernel) (by decide +kernel) (by decide +kernel) hP hD hS hA rfl cs_st1 hl.1 (Nat.le_of_ble_eq_true rfl) ⟨Nat.le_of_ble_eq_true rfl, Nat.le_of_ble_eq_true rfl⟩ ⟨Nat.le_refl _, Nat.le_refl _⟩ dL_law_229 (fun H locs hP hD hS => ?_)
  refine lv_aload_n hx hb dL_law_232 rfl (lv_at hl 1 rfl) ?_
  refine lv_aload_n hx hb dL_law_233 rfl (lv_at hl 3 rfl) ?_
  refine lv_iload_n hx hb dL_law_234 rfl (lv_at hl 0 rfl) ?_
  refine lv_iconst (v := 1) hx hb dL_law_235 (by decide) ?_
  refine lv_iadd hx hb dL_law_236 ?_
  refine va_sld hx hb hX hbl hbA hS h1 dL_law_237 ?_
  refine cs_calli_r (own := R_law) (k := 138) (ix := 30) (p1 := 918) (p2 := 919) (p3 := 920) (rest := [.int (Int32.ofInt v)]) hx hb hml hown hts hnw hK cs_shM rfl M2 (by decide) (by decide +kernel) (by decide +kernel) (by decide +kernel) hP hD hS hA rfl cs_st1 hl.1 (Nat.le_of_ble_eq_true rfl) ⟨Nat.le_of_ble_eq_true rfl, Nat.le_of_ble_eq_true rfl⟩ ⟨Nat.le_refl _, Nat.le_refl _⟩ dL_law_238 (fun H locs hP hD hS => ?_)
  exact lv_icmp_eq (tgt := 601) hx hb dL_law_241 (by decide) (fun _ => nx G' K' h' g1 g2 H locs ls hP hD hS hl) (fun cc => absurd rfl cc)
set_option maxHeartbeats 4000000 in
theorem lw_c_match {p : Program} {l : Launch} {e : Env} {s : State} {m : MethodId} {below : List Frame} {meth : Method} {c : Code} {b L : Nat} {xs : Nat → Int32} {Ax Am : Nat → Nat} {cA : Nat → ClassId} {D : va_G} {x3 : Int32} {G K : PW} (X : lw_CX p s m meth c b L xs cA D) (h1 : vp_in (x3 + 1) L) (h2 : vp_in (x3 + 2) L) (h : REL G K) (gG : pm_wok G) (gK : pm_wok K) (nx : ∀ G' K', REL G' K' → pm_wok G' → pm_wok K' → lw_In p l e s m below meth c b Ax Am cA D x3 G' K' 601) : lw_In p l e s m below meth c b Ax Am cA D x3 G K 246 := by
  obtain ⟨⟨hx, hb, hr, hml, hown, -, hX, hbl, hlocks, -⟩, hK, hts, hnw⟩ := X
  have hA : ∀ q : Nat, s.heap.size ≤ q → (fun q : Nat => s.heap.size ≤ q) q := fun _ h => h
  have hbA : ¬ (fun q : Nat => s.heap.size ≤ q) b := Nat.not_le.mpr hbl
  obtain ⟨v, G', K', r1, r2, h'⟩ := b_match h (m := (xs (x3 + 1).toNatClampNeg).toInt) (w := (xs (x3 + 2).toNatClampNeg).toInt)
  obtain ⟨M1, g1, -⟩ := pm_sound cs_shC l Ax cA D (by decide) (Nat.le_of_ble_eq_true rfl) r1 (cs_sok2 (pm_rgI _) (pm_rgI _)) gG
  obtain ⟨M2, g2, -⟩ := pm_sound cs_shM l Am cA D (by decide) (Nat.le_of_ble_eq_true rfl) r2 (cs_sok2 (pm_rgI _) (pm_rgI _)) gK
  intro H locs ls hP hD hS hl
  refine lv_aload_n hx hb dL_law_246 rfl (lv_at hl 2 rfl) ?_
  refine lv_aload_n hx hb dL_law_247 rfl (lv_at hl 3 rfl) ?_
  refine lv_iload_n hx hb dL_law_248 rfl (lv_at hl 0 rfl) ?_
  refine lv_iconst (v := 1) hx hb dL_law_249 (by decide) ?_
  refine lv_iadd hx hb dL_law_250 ?_
  refine va_sld hx hb hX hbl hbA hS h1 dL_law_251 ?_
  refine lv_aload_n hx hb dL_law_252 rfl (lv_at hl 3 rfl) ?_
  refine lv_iload_n hx hb dL_law_253 rfl (lv_at hl 0 rfl) ?_
  refine lv_iconst (v := 2) hx hb dL_law_254 (by decide) ?_
  refine lv_iadd hx hb dL_law_255 ?_
  refine va_sld hx hb hX hbl hbA hS h2 dL_law_256 ?_
  refine cs_calli_l (own := R_law) (k := 74) (ix := 31) (p1 := 498) (p2 := 499) (p3 := 500) (rest := []) hx hb hml hown hts hnw hK cs_shC rfl M1 (by decide) (by decide +kernel) (by decide +kernel) (by decide +kernel) hP hD hS hA rfl cs_st2 hl.1 (Nat.le_of_ble_eq_true rfl) ⟨Nat.le_of_ble_eq_true rfl, Nat.le_of_ble_eq_true rfl⟩ ⟨Nat.le_refl _, Nat.le_refl _⟩ dL_law_257 (fun H locs hP hD hS => ?_)
  refine lv_aload_n hx hb dL_law_260 rfl (lv_at hl 1 rfl) ?_
  refine lv_aload_n hx hb dL_law_261 rfl (lv_at hl 3 rfl) ?_
  refine lv_iload_n hx hb dL_law_262 rfl (lv_at hl 0 rfl) ?_
  refine lv_iconst (v := 1) hx hb dL_law_263 (by decide) ?_
  refine lv_iadd hx hb dL_law_264 ?_
  refine va_sld hx hb hX hbl hbA hS h1 dL_law_265 ?_
  refine lv_aload_n hx hb dL_law_266 rfl (lv_at hl 3 rfl) ?_
  refine lv_iload_n hx hb dL_law_267 rfl (lv_at hl 0 rfl) ?_
  refine lv_iconst (v := 2) hx hb dL_law_268 (by decide) ?_
  refine lv_iadd hx hb dL_law_269 ?_
  refine va_sld hx hb hX hbl hbA hS h2 dL_law_270 ?_
  refine cs_calli_r (own := R_law) (k := 139) (ix := 34) (p1 := 942) (p2 := 943) (p3 := 944) (rest := [.int (Int32.ofInt v)]) hx hb hml hown hts hnw hK cs_shM rfl M2 (by decide) (by decide +kernel) (by decide +kernel) (by decide +kernel) hP hD hS hA rfl cs_st2 hl.1 (Nat.le_of_ble_eq_true rfl) ⟨Nat.le_of_ble_eq_true rfl, Nat.le_of_ble_eq_true rfl⟩ ⟨Nat.le_refl _, Nat.le_refl _⟩ dL_law_271 (fun H locs hP hD hS => ?_)
  exact lv_icmp_eq (tgt := 601) hx hb dL_law_274 (by decide) (fun _ => nx G' K' h' g1 g2 H locs ls hP hD hS hl) (fun cc => absurd rfl cc)
set_option maxHeartbeats 4000000 in
theorem lw_c_player {p : Program} {l : Launch} {e : Env} {s : State} {m : MethodId} {below : List Frame} {meth : Method} {c : Code} {b L : Nat} {xs : Nat → Int32} {Ax Am : Nat → Nat} {cA : Nat → ClassId} {D : va_G} {x3 : Int32} {G K : PW} (X : lw_CX p s m meth c b L xs cA D) (h1 : vp_in (x3 + 1) L) (h2 : vp_in (x3 + 2) L) (h : REL G K) (gG : pm_wok G) (gK : pm_wok K) (nx : ∀ G' K', REL G' K' → pm_wok G' → pm_wok K' → lw_In p l e s m below meth c b Ax Am cA D x3 G' K' 601) : lw_In p l e s m below meth c b Ax Am cA D x3 G K 279 := by
  obtain ⟨⟨hx, hb, hr, hml, hown, -, hX, hbl, hlocks, -⟩, hK, hts, hnw⟩ := X
  have hA : ∀ q : Nat, s.heap.size ≤ q → (fun q : Nat => s.heap.size ≤ q) q := fun _ h => h
  have hbA : ¬ (fun q : Nat => s.heap.size ≤ q) b := Nat.not_le.mpr hbl
  obtain ⟨v, G', K', r1, r2, h'⟩ := b_player h (a := (xs (x3 + 1).toNatClampNeg).toInt) (w := (xs (x3 + 2).toNatClampNeg).toInt)
  obtain ⟨M1, g1, -⟩ := pm_sound cs_shC l Ax cA D (by decide) (Nat.le_of_ble_eq_true rfl) r1 (cs_sok2 (pm_rgI _) (pm_rgI _)) gG
  obtain ⟨M2, g2, -⟩ := pm_sound cs_shM l Am cA D (by decide) (Nat.le_of_ble_eq_true rfl) r2 (cs_sok2 (pm_rgI _) (pm_rgI _)) gK
  intro H locs ls hP hD hS hl
  refine lv_aload_n hx hb dL_law_279 rfl (lv_at hl 2 rfl) ?_
  refine lv_aload_n hx hb dL_law_280 rfl (lv_at hl 3 rfl) ?_
  refine lv_iload_n hx hb dL_law_281 rfl (lv_at hl 0 rfl) ?_
  refine lv_iconst (v := 1) hx hb dL_law_282 (by decide) ?_
  refine lv_iadd hx hb dL_law_283 ?_
  refine va_sld hx hb hX hbl hbA hS h1 dL_law_284 ?_
  refine lv_aload_n hx hb dL_law_285 rfl (lv_at hl 3 rfl) ?_
  refine lv_iload_n hx hb dL_law_286 rfl (lv_at hl 0 rfl) ?_
  refine lv_iconst (v := 2) hx hb dL_law_287 (by decide) ?_
  refine lv_iadd hx hb dL_law_288 ?_
  refine va_sld hx hb hX hbl hbA hS h2 dL_law_289 ?_
  refine cs_calli_l (own := R_law) (k := 75) (ix := 35) (p1 := 511) (p2 := 512) (p3 := 513) (rest := []) hx hb hml hown hts hnw hK cs_shC rfl M1 (by decide) (by decide +kernel) (by decide +kernel) (by decide +kernel) hP hD hS hA rfl cs_st2 hl.1 (Nat.le_of_ble_eq_true rfl) ⟨Nat.le_of_ble_eq_true rfl, Nat.le_of_ble_eq_true rfl⟩ ⟨Nat.le_refl _, Nat.le_refl _⟩ dL_law_290 (fun H locs hP hD hS => ?_)
  refine lv_aload_n hx hb dL_law_293 rfl (lv_at hl 1 rfl) ?_
  refine lv_aload_n hx hb dL_law_294 rfl (lv_at hl 3 rfl) ?_
  refine lv_iload_n hx hb dL_law_295 rfl (lv_at hl 0 rfl) ?_
  refine lv_iconst (v := 1) hx hb dL_law_296 (by decide) ?_
  refine lv_iadd hx hb dL_law_297 ?_
  refine va_sld hx hb hX hbl hbA hS h1 dL_law_298 ?_
  refine lv_aload_n hx hb dL_law_299 rfl (lv_at hl 3 rfl) ?_
  refine lv_iload_n hx hb dL_law_300 rfl (lv_at hl 0 rfl) ?_
  refine lv_iconst (v := 2) hx hb dL_law_301 (by decide) ?_
  refine lv_iadd hx hb dL_law_302 ?_
  refine va_sld hx hb hX hbl hbA hS h2 dL_law_303 ?_
  refine cs_calli_r (own := R_law) (k := 142) (ix := 38) (p1 := 946) (p2 := 947) (p3 := 948) (rest := [.int (Int32.ofInt v)]) hx hb hml hown hts hnw hK cs_shM rfl M2 (by decide) (by decide +kernel) (by decide +kernel) (by decide +kernel) hP hD hS hA rfl cs_st2 hl.1 (Nat.le_of_ble_eq_true rfl) ⟨Nat.le_of_ble_eq_true rfl, Nat.le_of_ble_eq_true rfl⟩ ⟨Nat.le_refl _, Nat.le_refl _⟩ dL_law_304 (fun H locs hP hD hS => ?_)
  exact lv_icmp_eq (tgt := 601) hx hb dL_law_307 (by decide) (fun _ => nx G' K' h' g1 g2 H locs ls hP hD hS hl) (fun cc => absurd rfl cc)
set_option maxHeartbeats 4000000 in
theorem lw_c_open {p : Program} {l : Launch} {e : Env} {s : State} {m : MethodId} {below : List Frame} {meth : Method} {c : Code} {b L : Nat} {xs : Nat → Int32} {Ax Am : Nat → Nat} {cA : Nat → ClassId} {D : va_G} {x3 : Int32} {G K : PW} (X : lw_CX p s m meth c b L xs cA D) (h1 : vp_in (x3 + 1) L) (h2 : vp_in (x3 + 2) L) (h : REL G K) (gG : pm_wok G) (gK : pm_wok K) (nx : ∀ G' K', REL G' K' → pm_wok G' → pm_wok K' → lw_In p l e s m below meth c b Ax Am cA D x3 G' K' 601) : lw_In p l e s m below meth c b Ax Am cA D x3 G K 312 := by
  obtain ⟨⟨hx, hb, hr, hml, hown, -, hX, hbl, hlocks, -⟩, hK, hts, hnw⟩ := X
  have hA : ∀ q : Nat, s.heap.size ≤ q → (fun q : Nat => s.heap.size ≤ q) q := fun _ h => h
  have hbA : ¬ (fun q : Nat => s.heap.size ≤ q) b := Nat.not_le.mpr hbl
  obtain ⟨v, G', K', r1, r2, h'⟩ := b_open h (i := (xs (x3 + 1).toNatClampNeg).toInt) (cs_up _)
  obtain ⟨M1, g1, -⟩ := pm_sound cs_shC l Ax cA D (by decide) (Nat.le_of_ble_eq_true rfl) r1 (cs_sok1 (pm_rgI _)) gG
  obtain ⟨M2, g2, -⟩ := pm_sound cs_shM l Am cA D (by decide) (Nat.le_of_ble_eq_true rfl) r2 (cs_sok1 (pm_rgI _)) gK
  intro H locs ls hP hD hS hl
  refine lv_aload_n hx hb dL_law_312 rfl (lv_at hl 2 rfl) ?_
  refine lv_aload_n hx hb dL_law_313 rfl (lv_at hl 3 rfl) ?_
  refine lv_iload_n hx hb dL_law_314 rfl (lv_at hl 0 rfl) ?_
  refine lv_iconst (v := 1) hx hb dL_law_315 (by decide) ?_
  refine lv_iadd hx hb dL_law_316 ?_
  refine va_sld hx hb hX hbl hbA hS h1 dL_law_317 ?_
  refine cs_calli_l (own := R_law) (k := 76) (ix := 39) (p1 := 551) (p2 := 552) (p3 := 553) (rest := []) hx hb hml hown hts hnw hK cs_shC rfl M1 (by decide) (by decide +kernel) (by decide +kernel) (by decide +kernel) hP hD hS hA rfl cs_st1 hl.1 (Nat.le_of_ble_eq_true rfl) ⟨Nat.le_of_ble_eq_true rfl, Nat.le_of_ble_eq_true rfl⟩ ⟨Nat.le_refl _, Nat.le_refl _⟩ dL_law_318 (fun H locs hP hD hS => ?_)
  refine lv_aload_n hx hb dL_law_321 rfl (lv_at hl 1 rfl) ?_
  refine lv_aload_n hx hb dL_law_322 rfl (lv_at hl 3 rfl) ?_
  refine lv_iload_n hx hb dL_law_323 rfl (lv_at hl 0 rfl) ?_
  refine lv_iconst (v := 1) hx hb dL_law_324 (by decide) ?_
  refine lv_iadd hx hb dL_law_325 ?_
  refine va_sld hx hb hX hbl hbA hS h1 dL_law_326 ?_
  refine cs_calli_r (own := R_law) (k := 144) (ix := 42) (p1 := 966) (p2 := 967) (p3 := 968) (rest := [.int (Int32.ofInt v)]) hx hb hml hown hts hnw hK cs_shM rfl M2 (by decide) (by decide +kernel) (by decide +kernel) (by decide +kernel) hP hD hS hA rfl cs_st1 hl.1 (Nat.le_of_ble_eq_true rfl) ⟨Nat.le_of_ble_eq_true rfl, Nat.le_of_ble_eq_true rfl⟩ ⟨Nat.le_refl _, Nat.le_refl _⟩ dL_law_327 (fun H locs hP hD hS => ?_)
  exact lv_icmp_eq (tgt := 601) hx hb dL_law_330 (by decide) (fun _ => nx G' K' h' g1 g2 H locs ls hP hD hS hl) (fun cc => absurd rfl cc)
set_option maxHeartbeats 4000000 in
theorem lw_c_count {p : Program} {l : Launch} {e : Env} {s : State} {m : MethodId} {below : List Frame} {meth : Method} {c : Code} {b L : Nat} {xs : Nat → Int32} {Ax Am : Nat → Nat} {cA : Nat → ClassId} {D : va_G} {x3 : Int32} {G K : PW} (X : lw_CX p s m meth c b L xs cA D) (h1 : vp_in (x3 + 1) L) (h2 : vp_in (x3 + 2) L) (h : REL G K) (gG : pm_wok G) (gK : pm_wok K) (nx : ∀ G' K', REL G' K' → pm_wok G' → pm_wok K' → lw_In p l e s m below meth c b Ax Am cA D x3 G' K' 601) : lw_In p l e s m below meth c b Ax Am cA D x3 G K 335 := by
  obtain ⟨⟨hx, hb, hr, hml, hown, -, hX, hbl, hlocks, -⟩, hK, hts, hnw⟩ := X
  have hA : ∀ q : Nat, s.heap.size ≤ q → (fun q : Nat => s.heap.size ≤ q) q := fun _ h => h
  have hbA : ¬ (fun q : Nat => s.heap.size ≤ q) b := Nat.not_le.mpr hbl
  obtain ⟨v, G', K', r1, r2, h'⟩ := b_count h (w := (xs (x3 + 1).toNatClampNeg).toInt)
  obtain ⟨M1, g1, -⟩ := pm_sound cs_shC l Ax cA D (by decide) (Nat.le_of_ble_eq_true rfl) r1 (cs_sok1 (pm_rgI _)) gG
  obtain ⟨M2, g2, -⟩ := pm_sound cs_shM l Am cA D (by decide) (Nat.le_of_ble_eq_true rfl) r2 (cs_sok1 (pm_rgI _)) gK
  intro H locs ls hP hD hS hl
  refine lv_aload_n hx hb dL_law_335 rfl (lv_at hl 2 rfl) ?_
  refine lv_aload_n hx hb dL_law_336 rfl (lv_at hl 3 rfl) ?_
  refine lv_iload_n hx hb dL_law_337 rfl (lv_at hl 0 rfl) ?_
  refine lv_iconst (v := 1) hx hb dL_law_338 (by decide) ?_
  refine lv_iadd hx hb dL_law_339 ?_
  refine va_sld hx hb hX hbl hbA hS h1 dL_law_340 ?_
  refine cs_calli_l (own := R_law) (k := 77) (ix := 43) (p1 := 555) (p2 := 556) (p3 := 557) (rest := []) hx hb hml hown hts hnw hK cs_shC rfl M1 (by decide) (by decide +kernel) (by decide +kernel) (by decide +kernel) hP hD hS hA rfl cs_st1 hl.1 (Nat.le_of_ble_eq_true rfl) ⟨Nat.le_of_ble_eq_true rfl, Nat.le_of_ble_eq_true rfl⟩ ⟨Nat.le_refl _, Nat.le_refl _⟩ dL_law_341 (fun H locs hP hD hS => ?_)
  refine lv_aload_n hx hb dL_law_344 rfl (lv_at hl 1 rfl) ?_
  refine lv_aload_n hx hb dL_law_345 rfl (lv_at hl 3 rfl) ?_
  refine lv_iload_n hx hb dL_law_346 rfl (lv_at hl 0 rfl) ?_
  refine lv_iconst (v := 1) hx hb dL_law_347 (by decide) ?_
  refine lv_iadd hx hb dL_law_348 ?_
  refine va_sld hx hb hX hbl hbA hS h1 dL_law_349 ?_
  refine cs_calli_r (own := R_law) (k := 149) (ix := 46) (p1 := 974) (p2 := 975) (p3 := 976) (rest := [.int (Int32.ofInt v)]) hx hb hml hown hts hnw hK cs_shM rfl M2 (by decide) (by decide +kernel) (by decide +kernel) (by decide +kernel) hP hD hS hA rfl cs_st1 hl.1 (Nat.le_of_ble_eq_true rfl) ⟨Nat.le_of_ble_eq_true rfl, Nat.le_of_ble_eq_true rfl⟩ ⟨Nat.le_refl _, Nat.le_refl _⟩ dL_law_350 (fun H locs hP hD hS => ?_)
  exact lv_icmp_eq (tgt := 601) hx hb dL_law_353 (by decide) (fun _ => nx G' K' h' g1 g2 H locs ls hP hD hS hl) (fun cc => absurd rfl cc)
set_option maxHeartbeats 4000000 in
theorem lw_c_forecast {p : Program} {l : Launch} {e : Env} {s : State} {m : MethodId} {below : List Frame} {meth : Method} {c : Code} {b L : Nat} {xs : Nat → Int32} {Ax Am : Nat → Nat} {cA : Nat → ClassId} {D : va_G} {x3 : Int32} {G K : PW} (X : lw_CX p s m meth c b L xs cA D) (h1 : vp_in (x3 + 1) L) (h2 : vp_in (x3 + 2) L) (h : REL G K) (gG : pm_wok G) (gK : pm_wok K) (nx : ∀ G' K', REL G' K' → pm_wok G' → pm_wok K' → lw_In p l e s m below meth c b Ax Am cA D x3 G' K' 601) : lw_In p l e s m below meth c b Ax Am cA D x3 G K 358 := by
  obtain ⟨⟨hx, hb, hr, hml, hown, -, hX, hbl, hlocks, -⟩, hK, hts, hnw⟩ := X
  have hA : ∀ q : Nat, s.heap.size ≤ q → (fun q : Nat => s.heap.size ≤ q) q := fun _ h => h
  have hbA : ¬ (fun q : Nat => s.heap.size ≤ q) b := Nat.not_le.mpr hbl
  obtain ⟨v, G', K', r1, r2, h'⟩ := b_forecast h 
  obtain ⟨M1, g1, -⟩ := pm_sound cs_shC l Ax cA D (by decide) (Nat.le_of_ble_eq_true rfl) r1 cs_sok0 gG
  obtain ⟨M2, g2, -⟩ := pm_sound cs_shM l Am cA D (by decide) (Nat.le_of_ble_eq_true rfl) r2 cs_sok0 gK
  intro H locs ls hP hD hS hl
  refine lv_aload_n hx hb dL_law_358 rfl (lv_at hl 2 rfl) ?_
  refine cs_calli_l (own := R_law) (k := 78) (ix := 47) (p1 := 573) (p2 := 574) (p3 := 575) (rest := []) hx hb hml hown hts hnw hK cs_shC rfl M1 (by decide) (by decide +kernel) (by decide +kernel) (by decide +kernel) hP hD hS hA rfl cs_st0 hl.1 (Nat.le_of_ble_eq_true rfl) ⟨Nat.le_of_ble_eq_true rfl, Nat.le_of_ble_eq_true rfl⟩ ⟨Nat.le_refl _, Nat.le_refl _⟩ dL_law_359 (fun H locs hP hD hS => ?_)
  refine lv_aload_n hx hb dL_law_362 rfl (lv_at hl 1 rfl) ?_
  refine cs_calli_r (own := R_law) (k := 150) (ix := 51) (p1 := 994) (p2 := 995) (p3 := 996) (rest := [.int (Int32.ofInt v)]) hx hb hml hown hts hnw hK cs_shM rfl M2 (by decide) (by decide +kernel) (by decide +kernel) (by decide +kernel) hP hD hS hA rfl cs_st0 hl.1 (Nat.le_of_ble_eq_true rfl) ⟨Nat.le_of_ble_eq_true rfl, Nat.le_of_ble_eq_true rfl⟩ ⟨Nat.le_refl _, Nat.le_refl _⟩ dL_law_363 (fun H locs hP hD hS => ?_)
  exact lv_icmp_eq (tgt := 601) hx hb dL_law_366 (by decide) (fun _ => nx G' K' h' g1 g2 H locs ls hP hD hS hl) (fun cc => absurd rfl cc)
set_option maxHeartbeats 4000000 in
theorem lw_c_upsets {p : Program} {l : Launch} {e : Env} {s : State} {m : MethodId} {below : List Frame} {meth : Method} {c : Code} {b L : Nat} {xs : Nat → Int32} {Ax Am : Nat → Nat} {cA : Nat → ClassId} {D : va_G} {x3 : Int32} {G K : PW} (X : lw_CX p s m meth c b L xs cA D) (h1 : vp_in (x3 + 1) L) (h2 : vp_in (x3 + 2) L) (h : REL G K) (gG : pm_wok G) (gK : pm_wok K) (nx : ∀ G' K', REL G' K' → pm_wok G' → pm_wok K' → lw_In p l e s m below meth c b Ax Am cA D x3 G' K' 601) : lw_In p l e s m below meth c b Ax Am cA D x3 G K 371 := by
  obtain ⟨⟨hx, hb, hr, hml, hown, -, hX, hbl, hlocks, -⟩, hK, hts, hnw⟩ := X
  have hA : ∀ q : Nat, s.heap.size ≤ q → (fun q : Nat => s.heap.size ≤ q) q := fun _ h => h
  have hbA : ¬ (fun q : Nat => s.heap.size ≤ q) b := Nat.not_le.mpr hbl
  obtain ⟨v, G', K', r1, r2, h'⟩ := b_upsets h (a := (xs (x3 + 1).toNatClampNeg).toInt)
  obtain ⟨M1, g1, -⟩ := pm_sound cs_shC l Ax cA D (by decide) (Nat.le_of_ble_eq_true rfl) r1 (cs_sok1 (pm_rgI _)) gG
  obtain ⟨M2, g2, -⟩ := pm_sound cs_shM l Am cA D (by decide) (Nat.le_of_ble_eq_true rfl) r2 (cs_sok1 (pm_rgI _)) gK
  intro H locs ls hP hD hS hl
  refine lv_aload_n hx hb dL_law_371 rfl (lv_at hl 2 rfl) ?_
  refine lv_aload_n hx hb dL_law_372 rfl (lv_at hl 3 rfl) ?_
  refine lv_iload_n hx hb dL_law_373 rfl (lv_at hl 0 rfl) ?_
  refine lv_iconst (v := 1) hx hb dL_law_374 (by decide) ?_
  refine lv_iadd hx hb dL_law_375 ?_
  refine va_sld hx hb hX hbl hbA hS h1 dL_law_376 ?_
  refine cs_calli_l (own := R_law) (k := 79) (ix := 52) (p1 := 593) (p2 := 594) (p3 := 595) (rest := []) hx hb hml hown hts hnw hK cs_shC rfl M1 (by decide) (by decide +kernel) (by decide +kernel) (by decide +kernel) hP hD hS hA rfl cs_st1 hl.1 (Nat.le_of_ble_eq_true rfl) ⟨Nat.le_of_ble_eq_true rfl, Nat.le_of_ble_eq_true rfl⟩ ⟨Nat.le_refl _, Nat.le_refl _⟩ dL_law_377 (fun H locs hP hD hS => ?_)
  refine lv_aload_n hx hb dL_law_380 rfl (lv_at hl 1 rfl) ?_
  refine lv_aload_n hx hb dL_law_381 rfl (lv_at hl 3 rfl) ?_
  refine lv_iload_n hx hb dL_law_382 rfl (lv_at hl 0 rfl) ?_
  refine lv_iconst (v := 1) hx hb dL_law_383 (by decide) ?_
  refine lv_iadd hx hb dL_law_384 ?_
  refine va_sld hx hb hX hbl hbA hS h1 dL_law_385 ?_
  refine cs_calli_r (own := R_law) (k := 151) (ix := 55) (p1 := 998) (p2 := 999) (p3 := 1000) (rest := [.int (Int32.ofInt v)]) hx hb hml hown hts hnw hK cs_shM rfl M2 (by decide) (by decide +kernel) (by decide +kernel) (by decide +kernel) hP hD hS hA rfl cs_st1 hl.1 (Nat.le_of_ble_eq_true rfl) ⟨Nat.le_of_ble_eq_true rfl, Nat.le_of_ble_eq_true rfl⟩ ⟨Nat.le_refl _, Nat.le_refl _⟩ dL_law_386 (fun H locs hP hD hS => ?_)
  exact lv_icmp_eq (tgt := 601) hx hb dL_law_389 (by decide) (fun _ => nx G' K' h' g1 g2 H locs ls hP hD hS hl) (fun cc => absurd rfl cc)
set_option maxHeartbeats 4000000 in
theorem lw_c_sessions {p : Program} {l : Launch} {e : Env} {s : State} {m : MethodId} {below : List Frame} {meth : Method} {c : Code} {b L : Nat} {xs : Nat → Int32} {Ax Am : Nat → Nat} {cA : Nat → ClassId} {D : va_G} {x3 : Int32} {G K : PW} (X : lw_CX p s m meth c b L xs cA D) (h1 : vp_in (x3 + 1) L) (h2 : vp_in (x3 + 2) L) (h : REL G K) (gG : pm_wok G) (gK : pm_wok K) (nx : ∀ G' K', REL G' K' → pm_wok G' → pm_wok K' → lw_In p l e s m below meth c b Ax Am cA D x3 G' K' 601) : lw_In p l e s m below meth c b Ax Am cA D x3 G K 394 := by
  obtain ⟨⟨hx, hb, hr, hml, hown, -, hX, hbl, hlocks, -⟩, hK, hts, hnw⟩ := X
  have hA : ∀ q : Nat, s.heap.size ≤ q → (fun q : Nat => s.heap.size ≤ q) q := fun _ h => h
  have hbA : ¬ (fun q : Nat => s.heap.size ≤ q) b := Nat.not_le.mpr hbl
  obtain ⟨v, G', K', r1, r2, h'⟩ := b_sessions h (a := (xs (x3 + 1).toNatClampNeg).toInt)
  obtain ⟨M1, g1, -⟩ := pm_sound cs_shC l Ax cA D (by decide) (Nat.le_of_ble_eq_true rfl) r1 (cs_sok1 (pm_rgI _)) gG
  obtain ⟨M2, g2, -⟩ := pm_sound cs_shM l Am cA D (by decide) (Nat.le_of_ble_eq_true rfl) r2 (cs_sok1 (pm_rgI _)) gK
  intro H locs ls hP hD hS hl
  refine lv_aload_n hx hb dL_law_394 rfl (lv_at hl 2 rfl) ?_
  refine lv_aload_n hx hb dL_law_395 rfl (lv_at hl 3 rfl) ?_
  refine lv_iload_n hx hb dL_law_396 rfl (lv_at hl 0 rfl) ?_
  refine lv_iconst (v := 1) hx hb dL_law_397 (by decide) ?_
  refine lv_iadd hx hb dL_law_398 ?_
  refine va_sld hx hb hX hbl hbA hS h1 dL_law_399 ?_
  refine cs_calli_l (own := R_law) (k := 80) (ix := 56) (p1 := 597) (p2 := 598) (p3 := 599) (rest := []) hx hb hml hown hts hnw hK cs_shC rfl M1 (by decide) (by decide +kernel) (by decide +kernel) (by decide +kernel) hP hD hS hA rfl cs_st1 hl.1 (Nat.le_of_ble_eq_true rfl) ⟨Nat.le_of_ble_eq_true rfl, Nat.le_of_ble_eq_true rfl⟩ ⟨Nat.le_refl _, Nat.le_refl _⟩ dL_law_400 (fun H locs hP hD hS => ?_)
  refine lv_aload_n hx hb dL_law_403 rfl (lv_at hl 1 rfl) ?_
  refine lv_aload_n hx hb dL_law_404 rfl (lv_at hl 3 rfl) ?_
  refine lv_iload_n hx hb dL_law_405 rfl (lv_at hl 0 rfl) ?_
  refine lv_iconst (v := 1) hx hb dL_law_406 (by decide) ?_
  refine lv_iadd hx hb dL_law_407 ?_
  refine va_sld hx hb hX hbl hbA hS h1 dL_law_408 ?_
  refine cs_calli_r (own := R_law) (k := 153) (ix := 59) (p1 := 1002) (p2 := 1003) (p3 := 1004) (rest := [.int (Int32.ofInt v)]) hx hb hml hown hts hnw hK cs_shM rfl M2 (by decide) (by decide +kernel) (by decide +kernel) (by decide +kernel) hP hD hS hA rfl cs_st1 hl.1 (Nat.le_of_ble_eq_true rfl) ⟨Nat.le_of_ble_eq_true rfl, Nat.le_of_ble_eq_true rfl⟩ ⟨Nat.le_refl _, Nat.le_refl _⟩ dL_law_409 (fun H locs hP hD hS => ?_)
  exact lv_icmp_eq (tgt := 601) hx hb dL_law_412 (by decide) (fun _ => nx G' K' h' g1 g2 H locs ls hP hD hS hl) (fun cc => absurd rfl cc)
set_option maxHeartbeats 4000000 in
theorem lw_c_meet {p : Program} {l : Launch} {e : Env} {s : State} {m : MethodId} {below : List Frame} {meth : Method} {c : Code} {b L : Nat} {xs : Nat → Int32} {Ax Am : Nat → Nat} {cA : Nat → ClassId} {D : va_G} {x3 : Int32} {G K : PW} (X : lw_CX p s m meth c b L xs cA D) (h1 : vp_in (x3 + 1) L) (h2 : vp_in (x3 + 2) L) (h : REL G K) (gG : pm_wok G) (gK : pm_wok K) (nx : ∀ G' K', REL G' K' → pm_wok G' → pm_wok K' → lw_In p l e s m below meth c b Ax Am cA D x3 G' K' 601) : lw_In p l e s m below meth c b Ax Am cA D x3 G K 417 := by
  obtain ⟨⟨hx, hb, hr, hml, hown, -, hX, hbl, hlocks, -⟩, hK, hts, hnw⟩ := X
  have hA : ∀ q : Nat, s.heap.size ≤ q → (fun q : Nat => s.heap.size ≤ q) q := fun _ h => h
  have hbA : ¬ (fun q : Nat => s.heap.size ≤ q) b := Nat.not_le.mpr hbl
  obtain ⟨v, G', K', r1, r2, h'⟩ := b_meet h (a := (xs (x3 + 1).toNatClampNeg).toInt) (b := (xs (x3 + 2).toNatClampNeg).toInt)
  obtain ⟨M1, g1, -⟩ := pm_sound cs_shC l Ax cA D (by decide) (Nat.le_of_ble_eq_true rfl) r1 (cs_sok2 (pm_rgI _) (pm_rgI _)) gG
  obtain ⟨M2, g2, -⟩ := pm_sound cs_shM l Am cA D (by decide) (Nat.le_of_ble_eq_true rfl) r2 (cs_sok2 (pm_rgI _) (pm_rgI _)) gK
  intro H locs ls hP hD hS hl
  refine lv_aload_n hx hb dL_law_417 rfl (lv_at hl 2 rfl) ?_
  refine lv_aload_n hx hb dL_law_418 rfl (lv_at hl 3 rfl) ?_
  refine lv_iload_n hx hb dL_law_419 rfl (lv_at hl 0 rfl) ?_
  refine lv_iconst (v := 1) hx hb dL_law_420 (by decide) ?_
  refine lv_iadd hx hb dL_law_421 ?_
  refine va_sld hx hb hX hbl hbA hS h1 dL_law_422 ?_
  refine lv_aload_n hx hb dL_law_423 rfl (lv_at hl 3 rfl) ?_
  refine lv_iload_n hx hb dL_law_424 rfl (lv_at hl 0 rfl) ?_
  refine lv_iconst (v := 2) hx hb dL_law_425 (by decide) ?_
  refine lv_iadd hx hb dL_law_426 ?_
  refine va_sld hx hb hX hbl hbA hS h2 dL_law_427 ?_
  refine cs_calli_l (own := R_law) (k := 81) (ix := 60) (p1 := 605) (p2 := 606) (p3 := 607) (rest := []) hx hb hml hown hts hnw hK cs_shC rfl M1 (by decide) (by decide +kernel) (by decide +kernel) (by decide +kernel) hP hD hS hA rfl cs_st2 hl.1 (Nat.le_of_ble_eq_true rfl) ⟨Nat.le_of_ble_eq_true rfl, Nat.le_of_ble_eq_true rfl⟩ ⟨Nat.le_refl _, Nat.le_refl _⟩ dL_law_428 (fun H locs hP hD hS => ?_)
  refine lv_aload_n hx hb dL_law_431 rfl (lv_at hl 1 rfl) ?_
  refine lv_aload_n hx hb dL_law_432 rfl (lv_at hl 3 rfl) ?_
  refine lv_iload_n hx hb dL_law_433 rfl (lv_at hl 0 rfl) ?_
  refine lv_iconst (v := 1) hx hb dL_law_434 (by decide) ?_
  refine lv_iadd hx hb dL_law_435 ?_
  refine va_sld hx hb hX hbl hbA hS h1 dL_law_436 ?_
  refine lv_aload_n hx hb dL_law_437 rfl (lv_at hl 3 rfl) ?_
  refine lv_iload_n hx hb dL_law_438 rfl (lv_at hl 0 rfl) ?_
  refine lv_iconst (v := 2) hx hb dL_law_439 (by decide) ?_
  refine lv_iadd hx hb dL_law_440 ?_
  refine va_sld hx hb hX hbl hbA hS h2 dL_law_441 ?_
  refine cs_calli_r (own := R_law) (k := 154) (ix := 63) (p1 := 1010) (p2 := 1011) (p3 := 1012) (rest := [.int (Int32.ofInt v)]) hx hb hml hown hts hnw hK cs_shM rfl M2 (by decide) (by decide +kernel) (by decide +kernel) (by decide +kernel) hP hD hS hA rfl cs_st2 hl.1 (Nat.le_of_ble_eq_true rfl) ⟨Nat.le_of_ble_eq_true rfl, Nat.le_of_ble_eq_true rfl⟩ ⟨Nat.le_refl _, Nat.le_refl _⟩ dL_law_442 (fun H locs hP hD hS => ?_)
  exact lv_icmp_eq (tgt := 601) hx hb dL_law_445 (by decide) (fun _ => nx G' K' h' g1 g2 H locs ls hP hD hS hl) (fun cc => absurd rfl cc)
set_option maxHeartbeats 4000000 in
theorem lw_c_put {p : Program} {l : Launch} {e : Env} {s : State} {m : MethodId} {below : List Frame} {meth : Method} {c : Code} {b L : Nat} {xs : Nat → Int32} {Ax Am : Nat → Nat} {cA : Nat → ClassId} {D : va_G} {x3 : Int32} {G K : PW} (X : lw_CX p s m meth c b L xs cA D) (h1 : vp_in (x3 + 1) L) (h2 : vp_in (x3 + 2) L) (h : REL G K) (gG : pm_wok G) (gK : pm_wok K) (nx : ∀ G' K', REL G' K' → pm_wok G' → pm_wok K' → lw_In p l e s m below meth c b Ax Am cA D x3 G' K' 601) : lw_In p l e s m below meth c b Ax Am cA D x3 G K 450 := by
  obtain ⟨⟨hx, hb, hr, hml, hown, -, hX, hbl, hlocks, -⟩, hK, hts, hnw⟩ := X
  have hA : ∀ q : Nat, s.heap.size ≤ q → (fun q : Nat => s.heap.size ≤ q) q := fun _ h => h
  have hbA : ¬ (fun q : Nat => s.heap.size ≤ q) b := Nat.not_le.mpr hbl
  obtain ⟨v, G', K', r1, r2, h'⟩ := b_put h (x := (((xs (x3 + 1).toNatClampNeg).toInt64 <<< ((32 : Int32).toInt64 &&& 63)) ||| ((xs (x3 + 2).toNatClampNeg).toInt64 &&& 4294967295)))
  obtain ⟨M1, g1, -⟩ := pm_sound cs_shC l Ax cA D (by decide) (Nat.le_of_ble_eq_true rfl) r1 cs_sokl gG
  obtain ⟨M2, g2, -⟩ := pm_sound cs_shM l Am cA D (by decide) (Nat.le_of_ble_eq_true rfl) r2 cs_sokl gK
  intro H locs ls hP hD hS hl
  refine lv_aload_n hx hb dL_law_450 rfl (lv_at hl 2 rfl) ?_
  refine lv_aload_n hx hb dL_law_451 rfl (lv_at hl 3 rfl) ?_
  refine lv_iload_n hx hb dL_law_452 rfl (lv_at hl 0 rfl) ?_
  refine lv_iconst (v := 1) hx hb dL_law_453 (by decide) ?_
  refine lv_iadd hx hb dL_law_454 ?_
  refine va_sld hx hb hX hbl hbA hS h1 dL_law_455 ?_
  refine lv_i2l hx hb dL_law_456 rfl ?_
  refine lv_bipush (v := 32) hx hb dL_law_457 (by decide) ?_
  refine lv_lshl hx hb dL_law_459 rfl ?_
  refine lv_aload_n hx hb dL_law_460 rfl (lv_at hl 3 rfl) ?_
  refine lv_iload_n hx hb dL_law_461 rfl (lv_at hl 0 rfl) ?_
  refine lv_iconst (v := 2) hx hb dL_law_462 (by decide) ?_
  refine lv_iadd hx hb dL_law_463 ?_
  refine va_sld hx hb hX hbl hbA hS h2 dL_law_464 ?_
  refine lv_i2l hx hb dL_law_465 rfl ?_
  refine lv_ldc2 hx hb hown (hts _ (pm_has_mem (p := 1062) (by decide +kernel) : Cond.constantLong R_law 64 4294967295 ∈ pm_gw)) dL_law_466 ?_
  refine lv_land hx hb dL_law_469 ?_
  refine lv_lor hx hb dL_law_470 ?_
  refine cs_calli_l (own := R_law) (k := 82) (ix := 66) (p1 := 614) (p2 := 615) (p3 := 616) (rest := []) hx hb hml hown hts hnw hK cs_shC rfl M1 (by decide) (by decide +kernel) (by decide +kernel) (by decide +kernel) hP hD hS hA rfl cs_stl hl.1 (Nat.le_of_ble_eq_true rfl) ⟨Nat.le_of_ble_eq_true rfl, Nat.le_of_ble_eq_true rfl⟩ ⟨Nat.le_refl _, Nat.le_refl _⟩ dL_law_471 (fun H locs hP hD hS => ?_)
  refine lv_aload_n hx hb dL_law_474 rfl (lv_at hl 1 rfl) ?_
  refine lv_aload_n hx hb dL_law_475 rfl (lv_at hl 3 rfl) ?_
  refine lv_iload_n hx hb dL_law_476 rfl (lv_at hl 0 rfl) ?_
  refine lv_iconst (v := 1) hx hb dL_law_477 (by decide) ?_
  refine lv_iadd hx hb dL_law_478 ?_
  refine va_sld hx hb hX hbl hbA hS h1 dL_law_479 ?_
  refine lv_i2l hx hb dL_law_480 rfl ?_
  refine lv_bipush (v := 32) hx hb dL_law_481 (by decide) ?_
  refine lv_lshl hx hb dL_law_483 rfl ?_
  refine lv_aload_n hx hb dL_law_484 rfl (lv_at hl 3 rfl) ?_
  refine lv_iload_n hx hb dL_law_485 rfl (lv_at hl 0 rfl) ?_
  refine lv_iconst (v := 2) hx hb dL_law_486 (by decide) ?_
  refine lv_iadd hx hb dL_law_487 ?_
  refine va_sld hx hb hX hbl hbA hS h2 dL_law_488 ?_
  refine lv_i2l hx hb dL_law_489 rfl ?_
  refine lv_ldc2 hx hb hown (hts _ (pm_has_mem (p := 1062) (by decide +kernel) : Cond.constantLong R_law 64 4294967295 ∈ pm_gw)) dL_law_490 ?_
  refine lv_land hx hb dL_law_493 ?_
  refine lv_lor hx hb dL_law_494 ?_
  refine cs_calli_r (own := R_law) (k := 155) (ix := 70) (p1 := 1014) (p2 := 1015) (p3 := 1016) (rest := [.int (Int32.ofInt v)]) hx hb hml hown hts hnw hK cs_shM rfl M2 (by decide) (by decide +kernel) (by decide +kernel) (by decide +kernel) hP hD hS hA rfl cs_stl hl.1 (Nat.le_of_ble_eq_true rfl) ⟨Nat.le_of_ble_eq_true rfl, Nat.le_of_ble_eq_true rfl⟩ ⟨Nat.le_refl _, Nat.le_refl _⟩ dL_law_495 (fun H locs hP hD hS => ?_)
  exact lv_icmp_eq (tgt := 601) hx hb dL_law_498 (by decide) (fun _ => nx G' K' h' g1 g2 H locs ls hP hD hS hl) (fun cc => absurd rfl cc)
set_option maxHeartbeats 4000000 in
theorem lw_c_wipe {p : Program} {l : Launch} {e : Env} {s : State} {m : MethodId} {below : List Frame} {meth : Method} {c : Code} {b L : Nat} {xs : Nat → Int32} {Ax Am : Nat → Nat} {cA : Nat → ClassId} {D : va_G} {x3 : Int32} {G K : PW} (X : lw_CX p s m meth c b L xs cA D) (h1 : vp_in (x3 + 1) L) (h2 : vp_in (x3 + 2) L) (h : REL G K) (gG : pm_wok G) (gK : pm_wok K) (nx : ∀ G' K', REL G' K' → pm_wok G' → pm_wok K' → lw_In p l e s m below meth c b Ax Am cA D x3 G' K' 601) : lw_In p l e s m below meth c b Ax Am cA D x3 G K 503 := by
  obtain ⟨⟨hx, hb, hr, hml, hown, -, hX, hbl, hlocks, -⟩, hK, hts, hnw⟩ := X
  have hA : ∀ q : Nat, s.heap.size ≤ q → (fun q : Nat => s.heap.size ≤ q) q := fun _ h => h
  have hbA : ¬ (fun q : Nat => s.heap.size ≤ q) b := Nat.not_le.mpr hbl
  obtain ⟨v, G', K', r1, r2, h'⟩ := b_wipe h 
  obtain ⟨M1, g1, -⟩ := pm_sound cs_shC l Ax cA D (by decide) (Nat.le_of_ble_eq_true rfl) r1 cs_sok0 gG
  obtain ⟨M2, g2, -⟩ := pm_sound cs_shM l Am cA D (by decide) (Nat.le_of_ble_eq_true rfl) r2 cs_sok0 gK
  intro H locs ls hP hD hS hl
  refine lv_aload_n hx hb dL_law_503 rfl (lv_at hl 2 rfl) ?_
  refine cs_calli_l (own := R_law) (k := 83) (ix := 71) (p1 := 628) (p2 := 629) (p3 := 630) (rest := []) hx hb hml hown hts hnw hK cs_shC rfl M1 (by decide) (by decide +kernel) (by decide +kernel) (by decide +kernel) hP hD hS hA rfl cs_st0 hl.1 (Nat.le_of_ble_eq_true rfl) ⟨Nat.le_of_ble_eq_true rfl, Nat.le_of_ble_eq_true rfl⟩ ⟨Nat.le_refl _, Nat.le_refl _⟩ dL_law_504 (fun H locs hP hD hS => ?_)
  refine lv_aload_n hx hb dL_law_507 rfl (lv_at hl 1 rfl) ?_
  refine cs_calli_r (own := R_law) (k := 156) (ix := 74) (p1 := 1019) (p2 := 1020) (p3 := 1021) (rest := [.int (Int32.ofInt v)]) hx hb hml hown hts hnw hK cs_shM rfl M2 (by decide) (by decide +kernel) (by decide +kernel) (by decide +kernel) hP hD hS hA rfl cs_st0 hl.1 (Nat.le_of_ble_eq_true rfl) ⟨Nat.le_of_ble_eq_true rfl, Nat.le_of_ble_eq_true rfl⟩ ⟨Nat.le_refl _, Nat.le_refl _⟩ dL_law_508 (fun H locs hP hD hS => ?_)
  exact lv_icmp_eq (tgt := 601) hx hb dL_law_511 (by decide) (fun _ => nx G' K' h' g1 g2 H locs ls hP hD hS hl) (fun cc => absurd rfl cc)
set_option maxHeartbeats 4000000 in
theorem lw_c_fault {p : Program} {l : Launch} {e : Env} {s : State} {m : MethodId} {below : List Frame} {meth : Method} {c : Code} {b L : Nat} {xs : Nat → Int32} {Ax Am : Nat → Nat} {cA : Nat → ClassId} {D : va_G} {x3 : Int32} {G K : PW} (X : lw_CX p s m meth c b L xs cA D) (h1 : vp_in (x3 + 1) L) (h2 : vp_in (x3 + 2) L) (h : REL G K) (gG : pm_wok G) (gK : pm_wok K) (nx : ∀ G' K', REL G' K' → pm_wok G' → pm_wok K' → lw_In p l e s m below meth c b Ax Am cA D x3 G' K' 601) : lw_In p l e s m below meth c b Ax Am cA D x3 G K 516 := by
  obtain ⟨⟨hx, hb, hr, hml, hown, -, hX, hbl, hlocks, -⟩, hK, hts, hnw⟩ := X
  have hA : ∀ q : Nat, s.heap.size ≤ q → (fun q : Nat => s.heap.size ≤ q) q := fun _ h => h
  have hbA : ¬ (fun q : Nat => s.heap.size ≤ q) b := Nat.not_le.mpr hbl
  obtain ⟨v, G', K', r1, r2, h'⟩ := b_fault h 
  obtain ⟨M1, g1, -⟩ := pm_sound cs_shC l Ax cA D (by decide) (Nat.le_of_ble_eq_true rfl) r1 cs_sok0 gG
  obtain ⟨M2, g2, -⟩ := pm_sound cs_shM l Am cA D (by decide) (Nat.le_of_ble_eq_true rfl) r2 cs_sok0 gK
  intro H locs ls hP hD hS hl
  refine lv_aload_n hx hb dL_law_516 rfl (lv_at hl 2 rfl) ?_
  refine cs_calli_l (own := R_law) (k := 84) (ix := 75) (p1 := 636) (p2 := 637) (p3 := 638) (rest := []) hx hb hml hown hts hnw hK cs_shC rfl M1 (by decide) (by decide +kernel) (by decide +kernel) (by decide +kernel) hP hD hS hA rfl cs_st0 hl.1 (Nat.le_of_ble_eq_true rfl) ⟨Nat.le_of_ble_eq_true rfl, Nat.le_of_ble_eq_true rfl⟩ ⟨Nat.le_refl _, Nat.le_refl _⟩ dL_law_517 (fun H locs hP hD hS => ?_)
  refine lv_aload_n hx hb dL_law_520 rfl (lv_at hl 1 rfl) ?_
  refine cs_calli_r (own := R_law) (k := 160) (ix := 78) (p1 := 1023) (p2 := 1024) (p3 := 1025) (rest := [.int (Int32.ofInt v)]) hx hb hml hown hts hnw hK cs_shM rfl M2 (by decide) (by decide +kernel) (by decide +kernel) (by decide +kernel) hP hD hS hA rfl cs_st0 hl.1 (Nat.le_of_ble_eq_true rfl) ⟨Nat.le_of_ble_eq_true rfl, Nat.le_of_ble_eq_true rfl⟩ ⟨Nat.le_refl _, Nat.le_refl _⟩ dL_law_521 (fun H locs hP hD hS => ?_)
  exact lv_icmp_eq (tgt := 601) hx hb dL_law_524 (by decide) (fun _ => nx G' K' h' g1 g2 H locs ls hP hD hS hl) (fun cc => absurd rfl cc)
set_option maxHeartbeats 4000000 in
theorem lw_c_carryOut {p : Program} {l : Launch} {e : Env} {s : State} {m : MethodId} {below : List Frame} {meth : Method} {c : Code} {b L : Nat} {xs : Nat → Int32} {Ax Am : Nat → Nat} {cA : Nat → ClassId} {D : va_G} {x3 : Int32} {G K : PW} (X : lw_CX p s m meth c b L xs cA D) (h1 : vp_in (x3 + 1) L) (h2 : vp_in (x3 + 2) L) (h : REL G K) (gG : pm_wok G) (gK : pm_wok K) (nx : ∀ G' K', REL G' K' → pm_wok G' → pm_wok K' → lw_In p l e s m below meth c b Ax Am cA D x3 G' K' 601) : lw_In p l e s m below meth c b Ax Am cA D x3 G K 529 := by
  obtain ⟨⟨hx, hb, hr, hml, hown, -, hX, hbl, hlocks, -⟩, hK, hts, hnw⟩ := X
  have hA : ∀ q : Nat, s.heap.size ≤ q → (fun q : Nat => s.heap.size ≤ q) q := fun _ h => h
  have hbA : ¬ (fun q : Nat => s.heap.size ≤ q) b := Nat.not_le.mpr hbl
  obtain ⟨v, G', K', r1, r2, h'⟩ := b_carryOut h 
  obtain ⟨M1, g1, -⟩ := pm_sound cs_shC l Ax cA D (by decide) (Nat.le_of_ble_eq_true rfl) r1 cs_sok0 gG
  obtain ⟨M2, g2, -⟩ := pm_sound cs_shM l Am cA D (by decide) (Nat.le_of_ble_eq_true rfl) r2 cs_sok0 gK
  intro H locs ls hP hD hS hl
  refine lv_aload_n hx hb dL_law_529 rfl (lv_at hl 2 rfl) ?_
  refine cs_calli_l (own := R_law) (k := 85) (ix := 79) (p1 := 667) (p2 := 668) (p3 := 669) (rest := []) hx hb hml hown hts hnw hK cs_shC rfl M1 (by decide) (by decide +kernel) (by decide +kernel) (by decide +kernel) hP hD hS hA rfl cs_st0 hl.1 (Nat.le_of_ble_eq_true rfl) ⟨Nat.le_of_ble_eq_true rfl, Nat.le_of_ble_eq_true rfl⟩ ⟨Nat.le_refl _, Nat.le_refl _⟩ dL_law_530 (fun H locs hP hD hS => ?_)
  refine lv_aload_n hx hb dL_law_533 rfl (lv_at hl 1 rfl) ?_
  refine cs_calli_r (own := R_law) (k := 161) (ix := 82) (p1 := 1039) (p2 := 1040) (p3 := 1041) (rest := [.int (Int32.ofInt v)]) hx hb hml hown hts hnw hK cs_shM rfl M2 (by decide) (by decide +kernel) (by decide +kernel) (by decide +kernel) hP hD hS hA rfl cs_st0 hl.1 (Nat.le_of_ble_eq_true rfl) ⟨Nat.le_of_ble_eq_true rfl, Nat.le_of_ble_eq_true rfl⟩ ⟨Nat.le_refl _, Nat.le_refl _⟩ dL_law_534 (fun H locs hP hD hS => ?_)
  exact lv_icmp_eq (tgt := 601) hx hb dL_law_537 (by decide) (fun _ => nx G' K' h' g1 g2 H locs ls hP hD hS hl) (fun cc => absurd rfl cc)
set_option maxHeartbeats 4000000 in
theorem lw_c_undo {p : Program} {l : Launch} {e : Env} {s : State} {m : MethodId} {below : List Frame} {meth : Method} {c : Code} {b L : Nat} {xs : Nat → Int32} {Ax Am : Nat → Nat} {cA : Nat → ClassId} {D : va_G} {x3 : Int32} {G K : PW} (X : lw_CX p s m meth c b L xs cA D) (h1 : vp_in (x3 + 1) L) (h2 : vp_in (x3 + 2) L) (h : REL G K) (gG : pm_wok G) (gK : pm_wok K) (nx : ∀ G' K', REL G' K' → pm_wok G' → pm_wok K' → lw_In p l e s m below meth c b Ax Am cA D x3 G' K' 601) : lw_In p l e s m below meth c b Ax Am cA D x3 G K 542 := by
  obtain ⟨⟨hx, hb, hr, hml, hown, -, hX, hbl, hlocks, -⟩, hK, hts, hnw⟩ := X
  have hA : ∀ q : Nat, s.heap.size ≤ q → (fun q : Nat => s.heap.size ≤ q) q := fun _ h => h
  have hbA : ¬ (fun q : Nat => s.heap.size ≤ q) b := Nat.not_le.mpr hbl
  obtain ⟨v, G', K', r1, r2, h'⟩ := b_undo h 
  obtain ⟨M1, g1, -⟩ := pm_sound cs_shC l Ax cA D (by decide) (Nat.le_of_ble_eq_true rfl) r1 cs_sok0 gG
  obtain ⟨M2, g2, -⟩ := pm_sound cs_shM l Am cA D (by decide) (Nat.le_of_ble_eq_true rfl) r2 cs_sok0 gK
  intro H locs ls hP hD hS hl
  refine lv_aload_n hx hb dL_law_542 rfl (lv_at hl 2 rfl) ?_
  refine cs_calli_l (own := R_law) (k := 86) (ix := 83) (p1 := 690) (p2 := 691) (p3 := 692) (rest := []) hx hb hml hown hts hnw hK cs_shC rfl M1 (by decide) (by decide +kernel) (by decide +kernel) (by decide +kernel) hP hD hS hA rfl cs_st0 hl.1 (Nat.le_of_ble_eq_true rfl) ⟨Nat.le_of_ble_eq_true rfl, Nat.le_of_ble_eq_true rfl⟩ ⟨Nat.le_refl _, Nat.le_refl _⟩ dL_law_543 (fun H locs hP hD hS => ?_)
  refine lv_aload_n hx hb dL_law_546 rfl (lv_at hl 1 rfl) ?_
  refine cs_calli_r (own := R_law) (k := 162) (ix := 86) (p1 := 1046) (p2 := 1047) (p3 := 1048) (rest := [.int (Int32.ofInt v)]) hx hb hml hown hts hnw hK cs_shM rfl M2 (by decide) (by decide +kernel) (by decide +kernel) (by decide +kernel) hP hD hS hA rfl cs_st0 hl.1 (Nat.le_of_ble_eq_true rfl) ⟨Nat.le_of_ble_eq_true rfl, Nat.le_of_ble_eq_true rfl⟩ ⟨Nat.le_refl _, Nat.le_refl _⟩ dL_law_547 (fun H locs hP hD hS => ?_)
  exact lv_icmp_eq (tgt := 601) hx hb dL_law_550 (by decide) (fun _ => nx G' K' h' g1 g2 H locs ls hP hD hS hl) (fun cc => absurd rfl cc)
set_option maxHeartbeats 4000000 in
theorem lw_c_save {p : Program} {l : Launch} {e : Env} {s : State} {m : MethodId} {below : List Frame} {meth : Method} {c : Code} {b L : Nat} {xs : Nat → Int32} {Ax Am : Nat → Nat} {cA : Nat → ClassId} {D : va_G} {x3 : Int32} {G K : PW} (X : lw_CX p s m meth c b L xs cA D) (h1 : vp_in (x3 + 1) L) (h2 : vp_in (x3 + 2) L) (h : REL G K) (gG : pm_wok G) (gK : pm_wok K) (nx : ∀ G' K', REL G' K' → pm_wok G' → pm_wok K' → lw_In p l e s m below meth c b Ax Am cA D x3 G' K' 601) : lw_In p l e s m below meth c b Ax Am cA D x3 G K 555 := by
  obtain ⟨⟨hx, hb, hr, hml, hown, -, hX, hbl, hlocks, -⟩, hK, hts, hnw⟩ := X
  have hA : ∀ q : Nat, s.heap.size ≤ q → (fun q : Nat => s.heap.size ≤ q) q := fun _ h => h
  have hbA : ¬ (fun q : Nat => s.heap.size ≤ q) b := Nat.not_le.mpr hbl
  obtain ⟨v, G', K', r1, r2, h'⟩ := b_save h (s := (xs (x3 + 1).toNatClampNeg).toInt)
  obtain ⟨M1, g1, -⟩ := pm_sound cs_shC l Ax cA D (by decide) (Nat.le_of_ble_eq_true rfl) r1 (cs_sok1 (pm_rgI _)) gG
  obtain ⟨M2, g2, -⟩ := pm_sound cs_shM l Am cA D (by decide) (Nat.le_of_ble_eq_true rfl) r2 (cs_sok1 (pm_rgI _)) gK
  intro H locs ls hP hD hS hl
  refine lv_aload_n hx hb dL_law_555 rfl (lv_at hl 2 rfl) ?_
  refine lv_aload_n hx hb dL_law_556 rfl (lv_at hl 3 rfl) ?_
  refine lv_iload_n hx hb dL_law_557 rfl (lv_at hl 0 rfl) ?_
  refine lv_iconst (v := 1) hx hb dL_law_558 (by decide) ?_
  refine lv_iadd hx hb dL_law_559 ?_
  refine va_sld hx hb hX hbl hbA hS h1 dL_law_560 ?_
  refine cs_calli_l (own := R_law) (k := 87) (ix := 87) (p1 := 707) (p2 := 708) (p3 := 709) (rest := []) hx hb hml hown hts hnw hK cs_shC rfl M1 (by decide) (by decide +kernel) (by decide +kernel) (by decide +kernel) hP hD hS hA rfl cs_st1 hl.1 (Nat.le_of_ble_eq_true rfl) ⟨Nat.le_of_ble_eq_true rfl, Nat.le_of_ble_eq_true rfl⟩ ⟨Nat.le_refl _, Nat.le_refl _⟩ dL_law_561 (fun H locs hP hD hS => ?_)
  refine lv_aload_n hx hb dL_law_564 rfl (lv_at hl 1 rfl) ?_
  refine lv_aload_n hx hb dL_law_565 rfl (lv_at hl 3 rfl) ?_
  refine lv_iload_n hx hb dL_law_566 rfl (lv_at hl 0 rfl) ?_
  refine lv_iconst (v := 1) hx hb dL_law_567 (by decide) ?_
  refine lv_iadd hx hb dL_law_568 ?_
  refine va_sld hx hb hX hbl hbA hS h1 dL_law_569 ?_
  refine cs_calli_r (own := R_law) (k := 164) (ix := 90) (p1 := 1050) (p2 := 1051) (p3 := 1052) (rest := [.int (Int32.ofInt v)]) hx hb hml hown hts hnw hK cs_shM rfl M2 (by decide) (by decide +kernel) (by decide +kernel) (by decide +kernel) hP hD hS hA rfl cs_st1 hl.1 (Nat.le_of_ble_eq_true rfl) ⟨Nat.le_of_ble_eq_true rfl, Nat.le_of_ble_eq_true rfl⟩ ⟨Nat.le_refl _, Nat.le_refl _⟩ dL_law_570 (fun H locs hP hD hS => ?_)
  exact lv_icmp_eq (tgt := 601) hx hb dL_law_573 (by decide) (fun _ => nx G' K' h' g1 g2 H locs ls hP hD hS hl) (fun cc => absurd rfl cc)
set_option maxHeartbeats 4000000 in
theorem lw_c_restore {p : Program} {l : Launch} {e : Env} {s : State} {m : MethodId} {below : List Frame} {meth : Method} {c : Code} {b L : Nat} {xs : Nat → Int32} {Ax Am : Nat → Nat} {cA : Nat → ClassId} {D : va_G} {x3 : Int32} {G K : PW} (X : lw_CX p s m meth c b L xs cA D) (h1 : vp_in (x3 + 1) L) (h2 : vp_in (x3 + 2) L) (h : REL G K) (gG : pm_wok G) (gK : pm_wok K) (nx : ∀ G' K', REL G' K' → pm_wok G' → pm_wok K' → lw_In p l e s m below meth c b Ax Am cA D x3 G' K' 601) : lw_In p l e s m below meth c b Ax Am cA D x3 G K 578 := by
  obtain ⟨⟨hx, hb, hr, hml, hown, -, hX, hbl, hlocks, -⟩, hK, hts, hnw⟩ := X
  have hA : ∀ q : Nat, s.heap.size ≤ q → (fun q : Nat => s.heap.size ≤ q) q := fun _ h => h
  have hbA : ¬ (fun q : Nat => s.heap.size ≤ q) b := Nat.not_le.mpr hbl
  obtain ⟨v, G', K', r1, r2, h'⟩ := b_restore h (s := (xs (x3 + 1).toNatClampNeg).toInt)
  obtain ⟨M1, g1, -⟩ := pm_sound cs_shC l Ax cA D (by decide) (Nat.le_of_ble_eq_true rfl) r1 (cs_sok1 (pm_rgI _)) gG
  obtain ⟨M2, g2, -⟩ := pm_sound cs_shM l Am cA D (by decide) (Nat.le_of_ble_eq_true rfl) r2 (cs_sok1 (pm_rgI _)) gK
  intro H locs ls hP hD hS hl
  refine lv_aload_n hx hb dL_law_578 rfl (lv_at hl 2 rfl) ?_
  refine lv_aload_n hx hb dL_law_579 rfl (lv_at hl 3 rfl) ?_
  refine lv_iload_n hx hb dL_law_580 rfl (lv_at hl 0 rfl) ?_
  refine lv_iconst (v := 1) hx hb dL_law_581 (by decide) ?_
  refine lv_iadd hx hb dL_law_582 ?_
  refine va_sld hx hb hX hbl hbA hS h1 dL_law_583 ?_
  refine cs_calli_l (own := R_law) (k := 88) (ix := 91) (p1 := 717) (p2 := 718) (p3 := 719) (rest := []) hx hb hml hown hts hnw hK cs_shC rfl M1 (by decide) (by decide +kernel) (by decide +kernel) (by decide +kernel) hP hD hS hA rfl cs_st1 hl.1 (Nat.le_of_ble_eq_true rfl) ⟨Nat.le_of_ble_eq_true rfl, Nat.le_of_ble_eq_true rfl⟩ ⟨Nat.le_refl _, Nat.le_refl _⟩ dL_law_584 (fun H locs hP hD hS => ?_)
  refine lv_aload_n hx hb dL_law_587 rfl (lv_at hl 1 rfl) ?_
  refine lv_aload_n hx hb dL_law_588 rfl (lv_at hl 3 rfl) ?_
  refine lv_iload_n hx hb dL_law_589 rfl (lv_at hl 0 rfl) ?_
  refine lv_iconst (v := 1) hx hb dL_law_590 (by decide) ?_
  refine lv_iadd hx hb dL_law_591 ?_
  refine va_sld hx hb hX hbl hbA hS h1 dL_law_592 ?_
  refine cs_calli_r (own := R_law) (k := 165) (ix := 94) (p1 := 1058) (p2 := 1059) (p3 := 1060) (rest := [.int (Int32.ofInt v)]) hx hb hml hown hts hnw hK cs_shM rfl M2 (by decide) (by decide +kernel) (by decide +kernel) (by decide +kernel) hP hD hS hA rfl cs_st1 hl.1 (Nat.le_of_ble_eq_true rfl) ⟨Nat.le_of_ble_eq_true rfl, Nat.le_of_ble_eq_true rfl⟩ ⟨Nat.le_refl _, Nat.le_refl _⟩ dL_law_593 (fun H locs hP hD hS => ?_)
  exact lv_icmp_eq (tgt := 601) hx hb dL_law_596 (by decide) (fun _ => nx G' K' h' g1 g2 H locs ls hP hD hS hl) (fun cc => absurd rfl cc)
