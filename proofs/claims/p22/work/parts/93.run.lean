/-! THE LAW'S RUN: what its calls answer -/
def pi_of (v : PV) : Int := match v with
  | .inl x => x
  | _ => 0
def ai (as : List PV) (j : Nat) : Int := pi_of (as.getD j (.inl 0))
noncomputable section
def lwX (xs : Nat → Int32) (Ls : Nat) : LX := fun k as G =>
  @ite _ (k = 82) (Classical.propDecidable _) (@ite _ (as = [.inr (.inr 60), .inl (ai as 1), .inl (ai as 2)] ∧ (0 ≤ ai as 1 ∧ ai as 1 ≤ 1000) ∧ (0 < ai as 2 ∧ ai as 2 ≤ 1000)) (Classical.propDecidable _) (some ((some (.inl (cev xs Ls (ai as 1) (ai as 2))), G), 0)) none)
  (@ite _ (k = 86) (Classical.propDecidable _) (@ite _ (∃ n x L : Nat, as = [.inr (.inr 0), .inl (n : Int)] ∧ CI G n x L) (Classical.propDecidable _) (some ((some (.inl 1), G), 1)) none)
  (@ite _ (k = 87) (Classical.propDecidable _) (@ite _ (∃ n x L : Nat, as = [.inr (.inr 0), .inl (n : Int)] ∧ CI G n x L ∧ cchamp G (tF (tz n)) ≠ -6) (Classical.propDecidable _) (some ((some (.inl 1), G), 1)) none)
  (@ite _ (k < 88) (Classical.propDecidable _) ((pm_ca pm_sC k as G).map (fun r => (r, 0))) none)))
end
section LX1
variable {xs : Nat → Int32} {Ls : Nat} {G : PW} {n x L : Nat}
theorem lx_cell {a b : Int} (ha : 0 ≤ a ∧ a ≤ 1000) (hb : 0 < b ∧ b ≤ 1000) : lwX xs Ls 82 [.inr (.inr 60), .inl a, .inl b] G = some ((some (.inl (cev xs Ls a b)), G), 0) := by
  unfold lwX
  rw [if_pos rfl]
  exact if_pos ⟨rfl, ha, hb⟩
theorem lx_fits (h : CI G n x L) : lwX xs Ls 86 [.inr (.inr 0), .inl (n : Int)] G = some ((some (.inl 1), G), 1) := by
  unfold lwX
  rw [if_neg (by decide), if_pos rfl]
  exact if_pos ⟨n, x, L, rfl, h⟩
theorem lx_pl (h : CI G n x L) (q : cchamp G (tF (tz n)) ≠ -6) : lwX xs Ls 87 [.inr (.inr 0), .inl (n : Int)] G = some ((some (.inl 1), G), 1) := by
  unfold lwX
  rw [if_neg (by decide), if_neg (by decide), if_pos rfl]
  exact if_pos ⟨n, x, L, rfl, h, q⟩
theorem lx_of {k : Nat} {as : List PV} {r : PR} (hk : k < 88) (h1 : k ≠ 82) (h2 : k ≠ 86) (h3 : k ≠ 87) (h : pm_ca pm_sC k as G = some r) : lwX xs Ls k as G = some (r, 0) := by
  unfold lwX
  rw [if_neg h1, if_neg h2, if_neg h3, if_pos hk, h]
  rfl
/-- they are answered so -/
theorem lx_ok (hL : Ls ≤ 260) {bb : Nat} (l : Launch) (A : Nat → Nat) (cA : Nat → ClassId) (D : va_G) (hbb : A 60 = bb) : pl_ok (scrY bb Ls xs) l A cA D pm_sC 47 (lwX xs Ls) := by
  intro k as G r G' d h h1 h3 hl
  unfold lwX at h
  by_cases k82 : k = 82
  · subst k82
    rw [if_pos rfl] at h
    by_cases c : as = [.inr (.inr 60), .inl (ai as 1), .inl (ai as 2)] ∧ (0 ≤ ai as 1 ∧ ai as 1 ≤ 1000) ∧ (0 < ai as 2 ∧ ai as 2 ≤ 1000)
    · rw [if_pos c] at h
      cases h
      obtain ⟨e, ha, hb⟩ := c
      refine ⟨⟨h3, fun w hw => ?_⟩, Or.inr ⟨rfl, ?_⟩⟩
      · cases hw
        exact pm_vok_i (pm_rg_iff.mpr (by have := cev_rg (xs := xs) (L := Ls) ha hb; omega))
      · have m := cell_Met (xs := xs) (G := G) l A cA D hbb hL ha hb
        rw [← e] at m
        exact m
    · rw [if_neg c] at h
      cases h
  · rw [if_neg k82] at h
    by_cases k86 : k = 86
    · subst k86
      rw [if_pos rfl] at h
      by_cases c : ∃ n x L : Nat, as = [.inr (.inr 0), .inl (n : Int)] ∧ CI G n x L
      · rw [if_pos c] at h
        cases h
        obtain ⟨n, x, L, e, hc⟩ := c
        subst e
        refine ⟨⟨h3, fun w hw => ?_⟩, Or.inr ⟨rfl, fits_Met l A cA D hc h3⟩⟩
        cases hw
        exact pm_vok_i rfl
      · rw [if_neg c] at h
        cases h
    · rw [if_neg k86] at h
      by_cases k87 : k = 87
      · subst k87
        rw [if_pos rfl] at h
        by_cases c : ∃ n x L : Nat, as = [.inr (.inr 0), .inl (n : Int)] ∧ CI G n x L ∧ cchamp G (tF (tz n)) ≠ -6
        · rw [if_pos c] at h
          cases h
          obtain ⟨n, x, L, e, hc, q⟩ := c
          subst e
          refine ⟨⟨h3, fun w hw => ?_⟩, Or.inr ⟨rfl, placed_Met l A cA D hc q h3⟩⟩
          cases hw
          exact pm_vok_i rfl
        · rw [if_neg c] at h
          cases h
      · rw [if_neg k87] at h
        by_cases hk : k < 88
        · rw [if_pos hk] at h
          cases hc : pm_ca pm_sC k as G with
          | none => rw [hc] at h; cases h
          | some r' =>
            rw [hc] at h
            cases h
            have s := pm_sound cs_shC l A cA D hk hl hc h1 h3
            exact ⟨⟨s.2.1, s.2.2⟩, Or.inl ⟨rfl, fun _ => s.1⟩⟩
        · rw [if_neg hk] at h
          cases h
end LX1
