/-! printed by gen09.py: the places of the cells -/
theorem shC_cl0 : pm_cls pm_sC 0 = some 5 := rfl
theorem shC_fd0_0 : pm_fd pm_sC 5 0 0 = some (some 1) := rfl
theorem shC_fd0_1 : pm_fd pm_sC 5 1 0 = some (some 2) := rfl
theorem shC_fd0_2 : pm_fd pm_sC 5 2 0 = some (some 3) := rfl
theorem shC_fd0_3 : pm_fd pm_sC 5 3 0 = some (some 19) := rfl
theorem shC_fd0_4 : pm_fd pm_sC 5 4 0 = some (some 35) := rfl
theorem shC_fd0_5 : pm_fd pm_sC 5 5 0 = some (some 37) := rfl
theorem shC_fd0_6 : pm_fd pm_sC 5 6 0 = some (some 39) := rfl
theorem shC_fd0_7 : pm_fd pm_sC 5 7 0 = some (some 43) := rfl
theorem shC_ar1 : pm_ar pm_sC 0 1 = some 16 := rfl
theorem lenC_1 : pm_len pm_sC 1 = 16 := rfl
theorem shC_al1 : pm_al pm_sC 1 = some 16 := rfl
theorem shC_ld1 {n : Nat} {P : PL} {t : List PV} {G : PW} {i : Int} (h0 : 0 ≤ i) (h1 : i < 16) : pm_oAld pm_sC 0 n P (.inl i :: .inr (.inr 1) :: t) G = some (.inl (n, P, .inl (G 1 i.toNat) :: t, G)) := pm_ald_ok shC_ar1 h0 h1
theorem shC_st1 {n : Nat} {P : PL} {t : List PV} {G : PW} {i x : Int} (h0 : 0 ≤ i) (h1 : i < 16) : pm_oAst pm_sC 0 n P (.inl x :: .inl i :: .inr (.inr 1) :: t) G = some (.inl (n, P, t, pm_upd G 1 i.toNat x)) := pm_ast_ok shC_ar1 h0 h1 rfl
theorem shC_ar2 : pm_ar pm_sC 0 2 = some 8 := rfl
theorem lenC_2 : pm_len pm_sC 2 = 8 := rfl
theorem shC_al2 : pm_al pm_sC 2 = some 8 := rfl
theorem shC_ld2 {n : Nat} {P : PL} {t : List PV} {G : PW} {i : Int} (h0 : 0 ≤ i) (h1 : i < 8) : pm_oAld pm_sC 0 n P (.inl i :: .inr (.inr 2) :: t) G = some (.inl (n, P, .inl (G 2 i.toNat) :: t, G)) := pm_ald_ok shC_ar2 h0 h1
theorem shC_st2 {n : Nat} {P : PL} {t : List PV} {G : PW} {i x : Int} (h0 : 0 ≤ i) (h1 : i < 8) : pm_oAst pm_sC 0 n P (.inl x :: .inl i :: .inr (.inr 2) :: t) G = some (.inl (n, P, t, pm_upd G 2 i.toNat x)) := pm_ast_ok shC_ar2 h0 h1 rfl
theorem shC_cl3 : pm_cls pm_sC 3 = some 0 := rfl
theorem shC_fd3_0 : pm_fd pm_sC 0 0 3 = some (some 4) := rfl
theorem shC_fd3_1 : pm_fd pm_sC 0 1 3 = some (some 14) := rfl
theorem shC_fd3_2 : pm_fd pm_sC 0 2 3 = some (some 15) := rfl
theorem shC_fd3_3 : pm_fd pm_sC 0 3 3 = some (some 16) := rfl
theorem shC_fd3_4 : pm_fd pm_sC 0 4 3 = some (some 17) := rfl
theorem shC_fd3_5 : pm_fd pm_sC 0 5 3 = some (some 18) := rfl
theorem shC_cl4 : pm_cls pm_sC 4 = some 3 := rfl
theorem shC_fd4_0 : pm_fd pm_sC 3 0 4 = some (none) := rfl
theorem shC_pf4_0 {n : Nat} {P : PL} {t : List PV} {G : PW} {x : Int} : pm_oPf pm_sC 3 0 0 n P (.inl x :: .inr (.inr 4) :: t) G = some (.inl (n, P, t, pm_upd G 4 0 x)) := pe_pf0 rfl
theorem shC_fd4_1 : pm_fd pm_sC 3 1 4 = some (none) := rfl
theorem shC_pf4_1 {n : Nat} {P : PL} {t : List PV} {G : PW} {x : Int} : pm_oPf pm_sC 3 1 0 n P (.inl x :: .inr (.inr 4) :: t) G = some (.inl (n, P, t, pm_upd G 4 1 x)) := pe_pf0 rfl
theorem shC_fd4_2 : pm_fd pm_sC 3 2 4 = some (none) := rfl
theorem shC_pf4_2 {n : Nat} {P : PL} {t : List PV} {G : PW} {x : Int} : pm_oPf pm_sC 3 2 0 n P (.inl x :: .inr (.inr 4) :: t) G = some (.inl (n, P, t, pm_upd G 4 2 x)) := pe_pf0 rfl
theorem shC_fd4_3 : pm_fd pm_sC 3 3 4 = some (none) := rfl
theorem shC_pf4_3 {n : Nat} {P : PL} {t : List PV} {G : PW} {x : Int} : pm_oPf pm_sC 3 3 0 n P (.inl x :: .inr (.inr 4) :: t) G = some (.inl (n, P, t, pm_upd G 4 3 x)) := pe_pf0 rfl
theorem shC_fd4_4 : pm_fd pm_sC 3 4 4 = some (none) := rfl
theorem shC_pf4_4 {n : Nat} {P : PL} {t : List PV} {G : PW} {x : Int} : pm_oPf pm_sC 3 4 0 n P (.inl x :: .inr (.inr 4) :: t) G = some (.inl (n, P, t, pm_upd G 4 4 x)) := pe_pf0 rfl
theorem shC_fd4_5 : pm_fd pm_sC 3 5 4 = some (some 5) := rfl
theorem shC_fd4_6 : pm_fd pm_sC 3 6 4 = some (some 6) := rfl
theorem shC_fd4_7 : pm_fd pm_sC 3 7 4 = some (some 7) := rfl
theorem shC_fd4_8 : pm_fd pm_sC 3 8 4 = some (some 8) := rfl
theorem shC_fd4_9 : pm_fd pm_sC 3 9 4 = some (some 9) := rfl
theorem shC_fd4_10 : pm_fd pm_sC 3 10 4 = some (some 10) := rfl
theorem shC_fd4_11 : pm_fd pm_sC 3 11 4 = some (some 11) := rfl
theorem shC_fd4_12 : pm_fd pm_sC 3 12 4 = some (some 12) := rfl
theorem shC_fd4_13 : pm_fd pm_sC 3 13 4 = some (some 13) := rfl
theorem shC_ar5 : pm_ar pm_sC 0 5 = some 31 := rfl
theorem lenC_5 : pm_len pm_sC 5 = 31 := rfl
theorem shC_al5 : pm_al pm_sC 5 = some 31 := rfl
theorem shC_ld5 {n : Nat} {P : PL} {t : List PV} {G : PW} {i : Int} (h0 : 0 ≤ i) (h1 : i < 31) : pm_oAld pm_sC 0 n P (.inl i :: .inr (.inr 5) :: t) G = some (.inl (n, P, .inl (G 5 i.toNat) :: t, G)) := pm_ald_ok shC_ar5 h0 h1
theorem shC_st5 {n : Nat} {P : PL} {t : List PV} {G : PW} {i x : Int} (h0 : 0 ≤ i) (h1 : i < 31) : pm_oAst pm_sC 0 n P (.inl x :: .inl i :: .inr (.inr 5) :: t) G = some (.inl (n, P, t, pm_upd G 5 i.toNat x)) := pm_ast_ok shC_ar5 h0 h1 rfl
theorem shC_ar6 : pm_ar pm_sC 0 6 = some 31 := rfl
theorem lenC_6 : pm_len pm_sC 6 = 31 := rfl
theorem shC_al6 : pm_al pm_sC 6 = some 31 := rfl
theorem shC_ld6 {n : Nat} {P : PL} {t : List PV} {G : PW} {i : Int} (h0 : 0 ≤ i) (h1 : i < 31) : pm_oAld pm_sC 0 n P (.inl i :: .inr (.inr 6) :: t) G = some (.inl (n, P, .inl (G 6 i.toNat) :: t, G)) := pm_ald_ok shC_ar6 h0 h1
theorem shC_st6 {n : Nat} {P : PL} {t : List PV} {G : PW} {i x : Int} (h0 : 0 ≤ i) (h1 : i < 31) : pm_oAst pm_sC 0 n P (.inl x :: .inl i :: .inr (.inr 6) :: t) G = some (.inl (n, P, t, pm_upd G 6 i.toNat x)) := pm_ast_ok shC_ar6 h0 h1 rfl
theorem shC_ar7 : pm_ar pm_sC 0 7 = some 31 := rfl
theorem lenC_7 : pm_len pm_sC 7 = 31 := rfl
theorem shC_al7 : pm_al pm_sC 7 = some 31 := rfl
theorem shC_ld7 {n : Nat} {P : PL} {t : List PV} {G : PW} {i : Int} (h0 : 0 ≤ i) (h1 : i < 31) : pm_oAld pm_sC 0 n P (.inl i :: .inr (.inr 7) :: t) G = some (.inl (n, P, .inl (G 7 i.toNat) :: t, G)) := pm_ald_ok shC_ar7 h0 h1
theorem shC_st7 {n : Nat} {P : PL} {t : List PV} {G : PW} {i x : Int} (h0 : 0 ≤ i) (h1 : i < 31) : pm_oAst pm_sC 0 n P (.inl x :: .inl i :: .inr (.inr 7) :: t) G = some (.inl (n, P, t, pm_upd G 7 i.toNat x)) := pm_ast_ok shC_ar7 h0 h1 rfl
theorem shC_ar8 : pm_ar pm_sC 0 8 = some 31 := rfl
theorem lenC_8 : pm_len pm_sC 8 = 31 := rfl
theorem shC_al8 : pm_al pm_sC 8 = some 31 := rfl
theorem shC_ld8 {n : Nat} {P : PL} {t : List PV} {G : PW} {i : Int} (h0 : 0 ≤ i) (h1 : i < 31) : pm_oAld pm_sC 0 n P (.inl i :: .inr (.inr 8) :: t) G = some (.inl (n, P, .inl (G 8 i.toNat) :: t, G)) := pm_ald_ok shC_ar8 h0 h1
theorem shC_st8 {n : Nat} {P : PL} {t : List PV} {G : PW} {i x : Int} (h0 : 0 ≤ i) (h1 : i < 31) : pm_oAst pm_sC 0 n P (.inl x :: .inl i :: .inr (.inr 8) :: t) G = some (.inl (n, P, t, pm_upd G 8 i.toNat x)) := pm_ast_ok shC_ar8 h0 h1 rfl
theorem shC_ar9 : pm_ar pm_sC 0 9 = some 31 := rfl
theorem lenC_9 : pm_len pm_sC 9 = 31 := rfl
theorem shC_al9 : pm_al pm_sC 9 = some 31 := rfl
theorem shC_ld9 {n : Nat} {P : PL} {t : List PV} {G : PW} {i : Int} (h0 : 0 ≤ i) (h1 : i < 31) : pm_oAld pm_sC 0 n P (.inl i :: .inr (.inr 9) :: t) G = some (.inl (n, P, .inl (G 9 i.toNat) :: t, G)) := pm_ald_ok shC_ar9 h0 h1
theorem shC_st9 {n : Nat} {P : PL} {t : List PV} {G : PW} {i x : Int} (h0 : 0 ≤ i) (h1 : i < 31) : pm_oAst pm_sC 0 n P (.inl x :: .inl i :: .inr (.inr 9) :: t) G = some (.inl (n, P, t, pm_upd G 9 i.toNat x)) := pm_ast_ok shC_ar9 h0 h1 rfl
theorem shC_ar10 : pm_ar pm_sC 0 10 = some 31 := rfl
theorem lenC_10 : pm_len pm_sC 10 = 31 := rfl
theorem shC_al10 : pm_al pm_sC 10 = some 31 := rfl
theorem shC_ld10 {n : Nat} {P : PL} {t : List PV} {G : PW} {i : Int} (h0 : 0 ≤ i) (h1 : i < 31) : pm_oAld pm_sC 0 n P (.inl i :: .inr (.inr 10) :: t) G = some (.inl (n, P, .inl (G 10 i.toNat) :: t, G)) := pm_ald_ok shC_ar10 h0 h1
theorem shC_st10 {n : Nat} {P : PL} {t : List PV} {G : PW} {i x : Int} (h0 : 0 ≤ i) (h1 : i < 31) : pm_oAst pm_sC 0 n P (.inl x :: .inl i :: .inr (.inr 10) :: t) G = some (.inl (n, P, t, pm_upd G 10 i.toNat x)) := pm_ast_ok shC_ar10 h0 h1 rfl
theorem shC_ar11 : pm_ar pm_sC 0 11 = some 31 := rfl
theorem lenC_11 : pm_len pm_sC 11 = 31 := rfl
theorem shC_al11 : pm_al pm_sC 11 = some 31 := rfl
theorem shC_ld11 {n : Nat} {P : PL} {t : List PV} {G : PW} {i : Int} (h0 : 0 ≤ i) (h1 : i < 31) : pm_oAld pm_sC 0 n P (.inl i :: .inr (.inr 11) :: t) G = some (.inl (n, P, .inl (G 11 i.toNat) :: t, G)) := pm_ald_ok shC_ar11 h0 h1
theorem shC_st11 {n : Nat} {P : PL} {t : List PV} {G : PW} {i x : Int} (h0 : 0 ≤ i) (h1 : i < 31) : pm_oAst pm_sC 0 n P (.inl x :: .inl i :: .inr (.inr 11) :: t) G = some (.inl (n, P, t, pm_upd G 11 i.toNat x)) := pm_ast_ok shC_ar11 h0 h1 rfl
theorem shC_ar12 : pm_ar pm_sC 0 12 = some 16 := rfl
theorem lenC_12 : pm_len pm_sC 12 = 16 := rfl
theorem shC_al12 : pm_al pm_sC 12 = some 16 := rfl
theorem shC_ld12 {n : Nat} {P : PL} {t : List PV} {G : PW} {i : Int} (h0 : 0 ≤ i) (h1 : i < 16) : pm_oAld pm_sC 0 n P (.inl i :: .inr (.inr 12) :: t) G = some (.inl (n, P, .inl (G 12 i.toNat) :: t, G)) := pm_ald_ok shC_ar12 h0 h1
theorem shC_st12 {n : Nat} {P : PL} {t : List PV} {G : PW} {i x : Int} (h0 : 0 ≤ i) (h1 : i < 16) : pm_oAst pm_sC 0 n P (.inl x :: .inl i :: .inr (.inr 12) :: t) G = some (.inl (n, P, t, pm_upd G 12 i.toNat x)) := pm_ast_ok shC_ar12 h0 h1 rfl
theorem shC_ar13 : pm_ar pm_sC 0 13 = some 62 := rfl
theorem lenC_13 : pm_len pm_sC 13 = 62 := rfl
theorem shC_al13 : pm_al pm_sC 13 = some 62 := rfl
theorem shC_ld13 {n : Nat} {P : PL} {t : List PV} {G : PW} {i : Int} (h0 : 0 ≤ i) (h1 : i < 62) : pm_oAld pm_sC 0 n P (.inl i :: .inr (.inr 13) :: t) G = some (.inl (n, P, .inl (G 13 i.toNat) :: t, G)) := pm_ald_ok shC_ar13 h0 h1
theorem shC_st13 {n : Nat} {P : PL} {t : List PV} {G : PW} {i x : Int} (h0 : 0 ≤ i) (h1 : i < 62) : pm_oAst pm_sC 0 n P (.inl x :: .inl i :: .inr (.inr 13) :: t) G = some (.inl (n, P, t, pm_upd G 13 i.toNat x)) := pm_ast_ok shC_ar13 h0 h1 rfl
theorem shC_ar14 : pm_ar pm_sC 0 14 = some 31 := rfl
theorem lenC_14 : pm_len pm_sC 14 = 31 := rfl
theorem shC_al14 : pm_al pm_sC 14 = some 31 := rfl
theorem shC_ld14 {n : Nat} {P : PL} {t : List PV} {G : PW} {i : Int} (h0 : 0 ≤ i) (h1 : i < 31) : pm_oAld pm_sC 0 n P (.inl i :: .inr (.inr 14) :: t) G = some (.inl (n, P, .inl (G 14 i.toNat) :: t, G)) := pm_ald_ok shC_ar14 h0 h1
theorem shC_st14 {n : Nat} {P : PL} {t : List PV} {G : PW} {i x : Int} (h0 : 0 ≤ i) (h1 : i < 31) : pm_oAst pm_sC 0 n P (.inl x :: .inl i :: .inr (.inr 14) :: t) G = some (.inl (n, P, t, pm_upd G 14 i.toNat x)) := pm_ast_ok shC_ar14 h0 h1 rfl
theorem shC_ar15 : pm_ar pm_sC 0 15 = some 16 := rfl
theorem lenC_15 : pm_len pm_sC 15 = 16 := rfl
theorem shC_al15 : pm_al pm_sC 15 = some 16 := rfl
theorem shC_ld15 {n : Nat} {P : PL} {t : List PV} {G : PW} {i : Int} (h0 : 0 ≤ i) (h1 : i < 16) : pm_oAld pm_sC 0 n P (.inl i :: .inr (.inr 15) :: t) G = some (.inl (n, P, .inl (G 15 i.toNat) :: t, G)) := pm_ald_ok shC_ar15 h0 h1
theorem shC_st15 {n : Nat} {P : PL} {t : List PV} {G : PW} {i x : Int} (h0 : 0 ≤ i) (h1 : i < 16) : pm_oAst pm_sC 0 n P (.inl x :: .inl i :: .inr (.inr 15) :: t) G = some (.inl (n, P, t, pm_upd G 15 i.toNat x)) := pm_ast_ok shC_ar15 h0 h1 rfl
theorem shC_ar16 : pm_ar pm_sC 0 16 = some 62 := rfl
theorem lenC_16 : pm_len pm_sC 16 = 62 := rfl
theorem shC_al16 : pm_al pm_sC 16 = some 62 := rfl
theorem shC_ld16 {n : Nat} {P : PL} {t : List PV} {G : PW} {i : Int} (h0 : 0 ≤ i) (h1 : i < 62) : pm_oAld pm_sC 0 n P (.inl i :: .inr (.inr 16) :: t) G = some (.inl (n, P, .inl (G 16 i.toNat) :: t, G)) := pm_ald_ok shC_ar16 h0 h1
theorem shC_st16 {n : Nat} {P : PL} {t : List PV} {G : PW} {i x : Int} (h0 : 0 ≤ i) (h1 : i < 62) : pm_oAst pm_sC 0 n P (.inl x :: .inl i :: .inr (.inr 16) :: t) G = some (.inl (n, P, t, pm_upd G 16 i.toNat x)) := pm_ast_ok shC_ar16 h0 h1 rfl
theorem shC_ar17 : pm_ar pm_sC 0 17 = some 31 := rfl
theorem lenC_17 : pm_len pm_sC 17 = 31 := rfl
theorem shC_al17 : pm_al pm_sC 17 = some 31 := rfl
theorem shC_ld17 {n : Nat} {P : PL} {t : List PV} {G : PW} {i : Int} (h0 : 0 ≤ i) (h1 : i < 31) : pm_oAld pm_sC 0 n P (.inl i :: .inr (.inr 17) :: t) G = some (.inl (n, P, .inl (G 17 i.toNat) :: t, G)) := pm_ald_ok shC_ar17 h0 h1
theorem shC_st17 {n : Nat} {P : PL} {t : List PV} {G : PW} {i x : Int} (h0 : 0 ≤ i) (h1 : i < 31) : pm_oAst pm_sC 0 n P (.inl x :: .inl i :: .inr (.inr 17) :: t) G = some (.inl (n, P, t, pm_upd G 17 i.toNat x)) := pm_ast_ok shC_ar17 h0 h1 rfl
theorem shC_ar18 : pm_ar pm_sC 0 18 = some 31 := rfl
theorem lenC_18 : pm_len pm_sC 18 = 31 := rfl
theorem shC_al18 : pm_al pm_sC 18 = some 31 := rfl
theorem shC_ld18 {n : Nat} {P : PL} {t : List PV} {G : PW} {i : Int} (h0 : 0 ≤ i) (h1 : i < 31) : pm_oAld pm_sC 0 n P (.inl i :: .inr (.inr 18) :: t) G = some (.inl (n, P, .inl (G 18 i.toNat) :: t, G)) := pm_ald_ok shC_ar18 h0 h1
theorem shC_st18 {n : Nat} {P : PL} {t : List PV} {G : PW} {i x : Int} (h0 : 0 ≤ i) (h1 : i < 31) : pm_oAst pm_sC 0 n P (.inl x :: .inl i :: .inr (.inr 18) :: t) G = some (.inl (n, P, t, pm_upd G 18 i.toNat x)) := pm_ast_ok shC_ar18 h0 h1 rfl
theorem shC_cl19 : pm_cls pm_sC 19 = some 0 := rfl
theorem shC_fd19_0 : pm_fd pm_sC 0 0 19 = some (some 20) := rfl
theorem shC_fd19_1 : pm_fd pm_sC 0 1 19 = some (some 30) := rfl
theorem shC_fd19_2 : pm_fd pm_sC 0 2 19 = some (some 31) := rfl
theorem shC_fd19_3 : pm_fd pm_sC 0 3 19 = some (some 32) := rfl
theorem shC_fd19_4 : pm_fd pm_sC 0 4 19 = some (some 33) := rfl
theorem shC_fd19_5 : pm_fd pm_sC 0 5 19 = some (some 34) := rfl
theorem shC_cl20 : pm_cls pm_sC 20 = some 3 := rfl
theorem shC_fd20_0 : pm_fd pm_sC 3 0 20 = some (none) := rfl
theorem shC_pf20_0 {n : Nat} {P : PL} {t : List PV} {G : PW} {x : Int} : pm_oPf pm_sC 3 0 0 n P (.inl x :: .inr (.inr 20) :: t) G = some (.inl (n, P, t, pm_upd G 20 0 x)) := pe_pf0 rfl
theorem shC_fd20_1 : pm_fd pm_sC 3 1 20 = some (none) := rfl
theorem shC_pf20_1 {n : Nat} {P : PL} {t : List PV} {G : PW} {x : Int} : pm_oPf pm_sC 3 1 0 n P (.inl x :: .inr (.inr 20) :: t) G = some (.inl (n, P, t, pm_upd G 20 1 x)) := pe_pf0 rfl
theorem shC_fd20_2 : pm_fd pm_sC 3 2 20 = some (none) := rfl
theorem shC_pf20_2 {n : Nat} {P : PL} {t : List PV} {G : PW} {x : Int} : pm_oPf pm_sC 3 2 0 n P (.inl x :: .inr (.inr 20) :: t) G = some (.inl (n, P, t, pm_upd G 20 2 x)) := pe_pf0 rfl
theorem shC_fd20_3 : pm_fd pm_sC 3 3 20 = some (none) := rfl
theorem shC_pf20_3 {n : Nat} {P : PL} {t : List PV} {G : PW} {x : Int} : pm_oPf pm_sC 3 3 0 n P (.inl x :: .inr (.inr 20) :: t) G = some (.inl (n, P, t, pm_upd G 20 3 x)) := pe_pf0 rfl
theorem shC_fd20_4 : pm_fd pm_sC 3 4 20 = some (none) := rfl
theorem shC_pf20_4 {n : Nat} {P : PL} {t : List PV} {G : PW} {x : Int} : pm_oPf pm_sC 3 4 0 n P (.inl x :: .inr (.inr 20) :: t) G = some (.inl (n, P, t, pm_upd G 20 4 x)) := pe_pf0 rfl
theorem shC_fd20_5 : pm_fd pm_sC 3 5 20 = some (some 21) := rfl
theorem shC_fd20_6 : pm_fd pm_sC 3 6 20 = some (some 22) := rfl
theorem shC_fd20_7 : pm_fd pm_sC 3 7 20 = some (some 23) := rfl
theorem shC_fd20_8 : pm_fd pm_sC 3 8 20 = some (some 24) := rfl
theorem shC_fd20_9 : pm_fd pm_sC 3 9 20 = some (some 25) := rfl
theorem shC_fd20_10 : pm_fd pm_sC 3 10 20 = some (some 26) := rfl
theorem shC_fd20_11 : pm_fd pm_sC 3 11 20 = some (some 27) := rfl
theorem shC_fd20_12 : pm_fd pm_sC 3 12 20 = some (some 28) := rfl
theorem shC_fd20_13 : pm_fd pm_sC 3 13 20 = some (some 29) := rfl
theorem shC_ar21 : pm_ar pm_sC 0 21 = some 31 := rfl
theorem lenC_21 : pm_len pm_sC 21 = 31 := rfl
theorem shC_al21 : pm_al pm_sC 21 = some 31 := rfl
theorem shC_ld21 {n : Nat} {P : PL} {t : List PV} {G : PW} {i : Int} (h0 : 0 ≤ i) (h1 : i < 31) : pm_oAld pm_sC 0 n P (.inl i :: .inr (.inr 21) :: t) G = some (.inl (n, P, .inl (G 21 i.toNat) :: t, G)) := pm_ald_ok shC_ar21 h0 h1
theorem shC_st21 {n : Nat} {P : PL} {t : List PV} {G : PW} {i x : Int} (h0 : 0 ≤ i) (h1 : i < 31) : pm_oAst pm_sC 0 n P (.inl x :: .inl i :: .inr (.inr 21) :: t) G = some (.inl (n, P, t, pm_upd G 21 i.toNat x)) := pm_ast_ok shC_ar21 h0 h1 rfl
theorem shC_ar22 : pm_ar pm_sC 0 22 = some 31 := rfl
theorem lenC_22 : pm_len pm_sC 22 = 31 := rfl
theorem shC_al22 : pm_al pm_sC 22 = some 31 := rfl
theorem shC_ld22 {n : Nat} {P : PL} {t : List PV} {G : PW} {i : Int} (h0 : 0 ≤ i) (h1 : i < 31) : pm_oAld pm_sC 0 n P (.inl i :: .inr (.inr 22) :: t) G = some (.inl (n, P, .inl (G 22 i.toNat) :: t, G)) := pm_ald_ok shC_ar22 h0 h1
theorem shC_st22 {n : Nat} {P : PL} {t : List PV} {G : PW} {i x : Int} (h0 : 0 ≤ i) (h1 : i < 31) : pm_oAst pm_sC 0 n P (.inl x :: .inl i :: .inr (.inr 22) :: t) G = some (.inl (n, P, t, pm_upd G 22 i.toNat x)) := pm_ast_ok shC_ar22 h0 h1 rfl
theorem shC_ar23 : pm_ar pm_sC 0 23 = some 31 := rfl
theorem lenC_23 : pm_len pm_sC 23 = 31 := rfl
theorem shC_al23 : pm_al pm_sC 23 = some 31 := rfl
theorem shC_ld23 {n : Nat} {P : PL} {t : List PV} {G : PW} {i : Int} (h0 : 0 ≤ i) (h1 : i < 31) : pm_oAld pm_sC 0 n P (.inl i :: .inr (.inr 23) :: t) G = some (.inl (n, P, .inl (G 23 i.toNat) :: t, G)) := pm_ald_ok shC_ar23 h0 h1
theorem shC_st23 {n : Nat} {P : PL} {t : List PV} {G : PW} {i x : Int} (h0 : 0 ≤ i) (h1 : i < 31) : pm_oAst pm_sC 0 n P (.inl x :: .inl i :: .inr (.inr 23) :: t) G = some (.inl (n, P, t, pm_upd G 23 i.toNat x)) := pm_ast_ok shC_ar23 h0 h1 rfl
theorem shC_ar24 : pm_ar pm_sC 0 24 = some 31 := rfl
theorem lenC_24 : pm_len pm_sC 24 = 31 := rfl
theorem shC_al24 : pm_al pm_sC 24 = some 31 := rfl
theorem shC_ld24 {n : Nat} {P : PL} {t : List PV} {G : PW} {i : Int} (h0 : 0 ≤ i) (h1 : i < 31) : pm_oAld pm_sC 0 n P (.inl i :: .inr (.inr 24) :: t) G = some (.inl (n, P, .inl (G 24 i.toNat) :: t, G)) := pm_ald_ok shC_ar24 h0 h1
theorem shC_st24 {n : Nat} {P : PL} {t : List PV} {G : PW} {i x : Int} (h0 : 0 ≤ i) (h1 : i < 31) : pm_oAst pm_sC 0 n P (.inl x :: .inl i :: .inr (.inr 24) :: t) G = some (.inl (n, P, t, pm_upd G 24 i.toNat x)) := pm_ast_ok shC_ar24 h0 h1 rfl
theorem shC_ar25 : pm_ar pm_sC 0 25 = some 31 := rfl
theorem lenC_25 : pm_len pm_sC 25 = 31 := rfl
theorem shC_al25 : pm_al pm_sC 25 = some 31 := rfl
theorem shC_ld25 {n : Nat} {P : PL} {t : List PV} {G : PW} {i : Int} (h0 : 0 ≤ i) (h1 : i < 31) : pm_oAld pm_sC 0 n P (.inl i :: .inr (.inr 25) :: t) G = some (.inl (n, P, .inl (G 25 i.toNat) :: t, G)) := pm_ald_ok shC_ar25 h0 h1
theorem shC_st25 {n : Nat} {P : PL} {t : List PV} {G : PW} {i x : Int} (h0 : 0 ≤ i) (h1 : i < 31) : pm_oAst pm_sC 0 n P (.inl x :: .inl i :: .inr (.inr 25) :: t) G = some (.inl (n, P, t, pm_upd G 25 i.toNat x)) := pm_ast_ok shC_ar25 h0 h1 rfl
theorem shC_ar26 : pm_ar pm_sC 0 26 = some 31 := rfl
theorem lenC_26 : pm_len pm_sC 26 = 31 := rfl
theorem shC_al26 : pm_al pm_sC 26 = some 31 := rfl
theorem shC_ld26 {n : Nat} {P : PL} {t : List PV} {G : PW} {i : Int} (h0 : 0 ≤ i) (h1 : i < 31) : pm_oAld pm_sC 0 n P (.inl i :: .inr (.inr 26) :: t) G = some (.inl (n, P, .inl (G 26 i.toNat) :: t, G)) := pm_ald_ok shC_ar26 h0 h1
theorem shC_st26 {n : Nat} {P : PL} {t : List PV} {G : PW} {i x : Int} (h0 : 0 ≤ i) (h1 : i < 31) : pm_oAst pm_sC 0 n P (.inl x :: .inl i :: .inr (.inr 26) :: t) G = some (.inl (n, P, t, pm_upd G 26 i.toNat x)) := pm_ast_ok shC_ar26 h0 h1 rfl
theorem shC_ar27 : pm_ar pm_sC 0 27 = some 31 := rfl
theorem lenC_27 : pm_len pm_sC 27 = 31 := rfl
theorem shC_al27 : pm_al pm_sC 27 = some 31 := rfl
theorem shC_ld27 {n : Nat} {P : PL} {t : List PV} {G : PW} {i : Int} (h0 : 0 ≤ i) (h1 : i < 31) : pm_oAld pm_sC 0 n P (.inl i :: .inr (.inr 27) :: t) G = some (.inl (n, P, .inl (G 27 i.toNat) :: t, G)) := pm_ald_ok shC_ar27 h0 h1
theorem shC_st27 {n : Nat} {P : PL} {t : List PV} {G : PW} {i x : Int} (h0 : 0 ≤ i) (h1 : i < 31) : pm_oAst pm_sC 0 n P (.inl x :: .inl i :: .inr (.inr 27) :: t) G = some (.inl (n, P, t, pm_upd G 27 i.toNat x)) := pm_ast_ok shC_ar27 h0 h1 rfl
theorem shC_ar28 : pm_ar pm_sC 0 28 = some 16 := rfl
theorem lenC_28 : pm_len pm_sC 28 = 16 := rfl
theorem shC_al28 : pm_al pm_sC 28 = some 16 := rfl
theorem shC_ld28 {n : Nat} {P : PL} {t : List PV} {G : PW} {i : Int} (h0 : 0 ≤ i) (h1 : i < 16) : pm_oAld pm_sC 0 n P (.inl i :: .inr (.inr 28) :: t) G = some (.inl (n, P, .inl (G 28 i.toNat) :: t, G)) := pm_ald_ok shC_ar28 h0 h1
theorem shC_st28 {n : Nat} {P : PL} {t : List PV} {G : PW} {i x : Int} (h0 : 0 ≤ i) (h1 : i < 16) : pm_oAst pm_sC 0 n P (.inl x :: .inl i :: .inr (.inr 28) :: t) G = some (.inl (n, P, t, pm_upd G 28 i.toNat x)) := pm_ast_ok shC_ar28 h0 h1 rfl
theorem shC_ar29 : pm_ar pm_sC 0 29 = some 62 := rfl
theorem lenC_29 : pm_len pm_sC 29 = 62 := rfl
theorem shC_al29 : pm_al pm_sC 29 = some 62 := rfl
theorem shC_ld29 {n : Nat} {P : PL} {t : List PV} {G : PW} {i : Int} (h0 : 0 ≤ i) (h1 : i < 62) : pm_oAld pm_sC 0 n P (.inl i :: .inr (.inr 29) :: t) G = some (.inl (n, P, .inl (G 29 i.toNat) :: t, G)) := pm_ald_ok shC_ar29 h0 h1
theorem shC_st29 {n : Nat} {P : PL} {t : List PV} {G : PW} {i x : Int} (h0 : 0 ≤ i) (h1 : i < 62) : pm_oAst pm_sC 0 n P (.inl x :: .inl i :: .inr (.inr 29) :: t) G = some (.inl (n, P, t, pm_upd G 29 i.toNat x)) := pm_ast_ok shC_ar29 h0 h1 rfl
theorem shC_ar30 : pm_ar pm_sC 0 30 = some 31 := rfl
theorem lenC_30 : pm_len pm_sC 30 = 31 := rfl
theorem shC_al30 : pm_al pm_sC 30 = some 31 := rfl
theorem shC_ld30 {n : Nat} {P : PL} {t : List PV} {G : PW} {i : Int} (h0 : 0 ≤ i) (h1 : i < 31) : pm_oAld pm_sC 0 n P (.inl i :: .inr (.inr 30) :: t) G = some (.inl (n, P, .inl (G 30 i.toNat) :: t, G)) := pm_ald_ok shC_ar30 h0 h1
theorem shC_st30 {n : Nat} {P : PL} {t : List PV} {G : PW} {i x : Int} (h0 : 0 ≤ i) (h1 : i < 31) : pm_oAst pm_sC 0 n P (.inl x :: .inl i :: .inr (.inr 30) :: t) G = some (.inl (n, P, t, pm_upd G 30 i.toNat x)) := pm_ast_ok shC_ar30 h0 h1 rfl
theorem shC_ar31 : pm_ar pm_sC 0 31 = some 16 := rfl
theorem lenC_31 : pm_len pm_sC 31 = 16 := rfl
theorem shC_al31 : pm_al pm_sC 31 = some 16 := rfl
theorem shC_ld31 {n : Nat} {P : PL} {t : List PV} {G : PW} {i : Int} (h0 : 0 ≤ i) (h1 : i < 16) : pm_oAld pm_sC 0 n P (.inl i :: .inr (.inr 31) :: t) G = some (.inl (n, P, .inl (G 31 i.toNat) :: t, G)) := pm_ald_ok shC_ar31 h0 h1
theorem shC_st31 {n : Nat} {P : PL} {t : List PV} {G : PW} {i x : Int} (h0 : 0 ≤ i) (h1 : i < 16) : pm_oAst pm_sC 0 n P (.inl x :: .inl i :: .inr (.inr 31) :: t) G = some (.inl (n, P, t, pm_upd G 31 i.toNat x)) := pm_ast_ok shC_ar31 h0 h1 rfl
theorem shC_ar32 : pm_ar pm_sC 0 32 = some 62 := rfl
theorem lenC_32 : pm_len pm_sC 32 = 62 := rfl
theorem shC_al32 : pm_al pm_sC 32 = some 62 := rfl
theorem shC_ld32 {n : Nat} {P : PL} {t : List PV} {G : PW} {i : Int} (h0 : 0 ≤ i) (h1 : i < 62) : pm_oAld pm_sC 0 n P (.inl i :: .inr (.inr 32) :: t) G = some (.inl (n, P, .inl (G 32 i.toNat) :: t, G)) := pm_ald_ok shC_ar32 h0 h1
theorem shC_st32 {n : Nat} {P : PL} {t : List PV} {G : PW} {i x : Int} (h0 : 0 ≤ i) (h1 : i < 62) : pm_oAst pm_sC 0 n P (.inl x :: .inl i :: .inr (.inr 32) :: t) G = some (.inl (n, P, t, pm_upd G 32 i.toNat x)) := pm_ast_ok shC_ar32 h0 h1 rfl
theorem shC_ar33 : pm_ar pm_sC 0 33 = some 31 := rfl
theorem lenC_33 : pm_len pm_sC 33 = 31 := rfl
theorem shC_al33 : pm_al pm_sC 33 = some 31 := rfl
theorem shC_ld33 {n : Nat} {P : PL} {t : List PV} {G : PW} {i : Int} (h0 : 0 ≤ i) (h1 : i < 31) : pm_oAld pm_sC 0 n P (.inl i :: .inr (.inr 33) :: t) G = some (.inl (n, P, .inl (G 33 i.toNat) :: t, G)) := pm_ald_ok shC_ar33 h0 h1
theorem shC_st33 {n : Nat} {P : PL} {t : List PV} {G : PW} {i x : Int} (h0 : 0 ≤ i) (h1 : i < 31) : pm_oAst pm_sC 0 n P (.inl x :: .inl i :: .inr (.inr 33) :: t) G = some (.inl (n, P, t, pm_upd G 33 i.toNat x)) := pm_ast_ok shC_ar33 h0 h1 rfl
theorem shC_ar34 : pm_ar pm_sC 0 34 = some 31 := rfl
theorem lenC_34 : pm_len pm_sC 34 = 31 := rfl
theorem shC_al34 : pm_al pm_sC 34 = some 31 := rfl
theorem shC_ld34 {n : Nat} {P : PL} {t : List PV} {G : PW} {i : Int} (h0 : 0 ≤ i) (h1 : i < 31) : pm_oAld pm_sC 0 n P (.inl i :: .inr (.inr 34) :: t) G = some (.inl (n, P, .inl (G 34 i.toNat) :: t, G)) := pm_ald_ok shC_ar34 h0 h1
theorem shC_st34 {n : Nat} {P : PL} {t : List PV} {G : PW} {i x : Int} (h0 : 0 ≤ i) (h1 : i < 31) : pm_oAst pm_sC 0 n P (.inl x :: .inl i :: .inr (.inr 34) :: t) G = some (.inl (n, P, t, pm_upd G 34 i.toNat x)) := pm_ast_ok shC_ar34 h0 h1 rfl
theorem shC_cl35 : pm_cls pm_sC 35 = some 1 := rfl
theorem shC_fd35_0 : pm_fd pm_sC 1 0 35 = some (some 36) := rfl
theorem shC_fd35_1 : pm_fd pm_sC 1 1 35 = some (none) := rfl
theorem shC_pf35_1 {n : Nat} {P : PL} {t : List PV} {G : PW} {x : Int} : pm_oPf pm_sC 1 1 0 n P (.inl x :: .inr (.inr 35) :: t) G = some (.inl (n, P, t, pm_upd G 35 1 x)) := pe_pf0 rfl
theorem shC_ar36 : pm_ar pm_sC 0 36 = some 47 := rfl
theorem lenC_36 : pm_len pm_sC 36 = 47 := rfl
theorem shC_al36 : pm_al pm_sC 36 = some 47 := rfl
theorem shC_ld36 {n : Nat} {P : PL} {t : List PV} {G : PW} {i : Int} (h0 : 0 ≤ i) (h1 : i < 47) : pm_oAld pm_sC 0 n P (.inl i :: .inr (.inr 36) :: t) G = some (.inl (n, P, .inl (G 36 i.toNat) :: t, G)) := pm_ald_ok shC_ar36 h0 h1
theorem shC_st36 {n : Nat} {P : PL} {t : List PV} {G : PW} {i x : Int} (h0 : 0 ≤ i) (h1 : i < 47) : pm_oAst pm_sC 0 n P (.inl x :: .inl i :: .inr (.inr 36) :: t) G = some (.inl (n, P, t, pm_upd G 36 i.toNat x)) := pm_ast_ok shC_ar36 h0 h1 rfl
theorem shC_cl37 : pm_cls pm_sC 37 = some 2 := rfl
theorem shC_fd37_0 : pm_fd pm_sC 2 0 37 = some (some 38) := rfl
theorem shC_fd37_1 : pm_fd pm_sC 2 1 37 = some (none) := rfl
theorem shC_pf37_1 {n : Nat} {P : PL} {t : List PV} {G : PW} {x : Int} : pm_oPf pm_sC 2 1 0 n P (.inl x :: .inr (.inr 37) :: t) G = some (.inl (n, P, t, pm_upd G 37 1 x)) := pe_pf0 rfl
theorem shC_fd37_2 : pm_fd pm_sC 2 2 37 = some (none) := rfl
theorem shC_pf37_2 {n : Nat} {P : PL} {t : List PV} {G : PW} {x : Int} : pm_oPf pm_sC 2 2 0 n P (.inl x :: .inr (.inr 37) :: t) G = some (.inl (n, P, t, pm_upd G 37 2 x)) := pe_pf0 rfl
theorem shC_fd37_3 : pm_fd pm_sC 2 3 37 = some (none) := rfl
theorem shC_pf37_3 {n : Nat} {P : PL} {t : List PV} {G : PW} {x : Int} : pm_oPf pm_sC 2 3 0 n P (.inl x :: .inr (.inr 37) :: t) G = some (.inl (n, P, t, pm_upd G 37 3 x)) := pe_pf0 rfl
theorem shC_ar38 : pm_ar pm_sC 1 38 = some 60 := rfl
theorem shC_al38 : pm_al pm_sC 38 = some 60 := rfl
theorem shC_ld38 {n : Nat} {P : PL} {t : List PV} {G : PW} {i : Int} (h0 : 0 ≤ i) (h1 : i < 60) : pm_oAld pm_sC 1 n P (.inl i :: .inr (.inr 38) :: t) G = some (.inl (n, P, .inl (G 38 i.toNat) :: t, G)) := pm_ald_ok shC_ar38 h0 h1
theorem shC_st38 {n : Nat} {P : PL} {t : List PV} {G : PW} {i x : Int} (h0 : 0 ≤ i) (h1 : i < 60) (h2 : 0 ≤ x) (h3 : x ≤ 65535) : pm_oAst pm_sC 1 n P (.inl x :: .inl i :: .inr (.inr 38) :: t) G = some (.inl (n, P, t, pm_upd G 38 i.toNat x)) := pm_ast_ok shC_ar38 h0 h1 (pm_fit1 h2 h3)
theorem shC_cl39 : pm_cls pm_sC 39 = some 4 := rfl
theorem shC_fd39_0 : pm_fd pm_sC 4 0 39 = some (none) := rfl
theorem shC_pf39_0 {n : Nat} {P : PL} {t : List PV} {G : PW} {x : Int} (h2 : 0 ≤ x) (h3 : x ≤ 1) : pm_oPf pm_sC 4 0 2 n P (.inl x :: .inr (.inr 39) :: t) G = some (.inl (n, P, t, pm_upd G 39 0 x)) := pe_pf2 rfl h2 h3
theorem shC_fd39_1 : pm_fd pm_sC 4 1 39 = some (none) := rfl
theorem shC_pf39_1 {n : Nat} {P : PL} {t : List PV} {G : PW} {x : Int} : pm_oPf pm_sC 4 1 0 n P (.inl x :: .inr (.inr 39) :: t) G = some (.inl (n, P, t, pm_upd G 39 1 x)) := pe_pf0 rfl
theorem shC_fd39_2 : pm_fd pm_sC 4 2 39 = some (none) := rfl
theorem shC_pf39_2 {n : Nat} {P : PL} {t : List PV} {G : PW} {x : Int} : pm_oPf pm_sC 4 2 0 n P (.inl x :: .inr (.inr 39) :: t) G = some (.inl (n, P, t, pm_upd G 39 2 x)) := pe_pf0 rfl
theorem shC_fd39_3 : pm_fd pm_sC 4 3 39 = some (some 40) := rfl
theorem shC_fd39_4 : pm_fd pm_sC 4 4 39 = some (some 41) := rfl
theorem shC_ar40 : pm_ar pm_sC 0 40 = some 16 := rfl
theorem lenC_40 : pm_len pm_sC 40 = 16 := rfl
theorem shC_al40 : pm_al pm_sC 40 = some 16 := rfl
theorem shC_ld40 {n : Nat} {P : PL} {t : List PV} {G : PW} {i : Int} (h0 : 0 ≤ i) (h1 : i < 16) : pm_oAld pm_sC 0 n P (.inl i :: .inr (.inr 40) :: t) G = some (.inl (n, P, .inl (G 40 i.toNat) :: t, G)) := pm_ald_ok shC_ar40 h0 h1
theorem shC_st40 {n : Nat} {P : PL} {t : List PV} {G : PW} {i x : Int} (h0 : 0 ≤ i) (h1 : i < 16) : pm_oAst pm_sC 0 n P (.inl x :: .inl i :: .inr (.inr 40) :: t) G = some (.inl (n, P, t, pm_upd G 40 i.toNat x)) := pm_ast_ok shC_ar40 h0 h1 rfl
theorem shC_cl41 : pm_cls pm_sC 41 = some 1 := rfl
theorem shC_fd41_0 : pm_fd pm_sC 1 0 41 = some (some 42) := rfl
theorem shC_fd41_1 : pm_fd pm_sC 1 1 41 = some (none) := rfl
theorem shC_pf41_1 {n : Nat} {P : PL} {t : List PV} {G : PW} {x : Int} : pm_oPf pm_sC 1 1 0 n P (.inl x :: .inr (.inr 41) :: t) G = some (.inl (n, P, t, pm_upd G 41 1 x)) := pe_pf0 rfl
theorem shC_ar42 : pm_ar pm_sC 0 42 = some 47 := rfl
theorem lenC_42 : pm_len pm_sC 42 = 47 := rfl
theorem shC_al42 : pm_al pm_sC 42 = some 47 := rfl
theorem shC_ld42 {n : Nat} {P : PL} {t : List PV} {G : PW} {i : Int} (h0 : 0 ≤ i) (h1 : i < 47) : pm_oAld pm_sC 0 n P (.inl i :: .inr (.inr 42) :: t) G = some (.inl (n, P, .inl (G 42 i.toNat) :: t, G)) := pm_ald_ok shC_ar42 h0 h1
theorem shC_st42 {n : Nat} {P : PL} {t : List PV} {G : PW} {i x : Int} (h0 : 0 ≤ i) (h1 : i < 47) : pm_oAst pm_sC 0 n P (.inl x :: .inl i :: .inr (.inr 42) :: t) G = some (.inl (n, P, t, pm_upd G 42 i.toNat x)) := pm_ast_ok shC_ar42 h0 h1 rfl
theorem shC_cl43 : pm_cls pm_sC 43 = some 4 := rfl
theorem shC_fd43_0 : pm_fd pm_sC 4 0 43 = some (none) := rfl
theorem shC_pf43_0 {n : Nat} {P : PL} {t : List PV} {G : PW} {x : Int} (h2 : 0 ≤ x) (h3 : x ≤ 1) : pm_oPf pm_sC 4 0 2 n P (.inl x :: .inr (.inr 43) :: t) G = some (.inl (n, P, t, pm_upd G 43 0 x)) := pe_pf2 rfl h2 h3
theorem shC_fd43_1 : pm_fd pm_sC 4 1 43 = some (none) := rfl
theorem shC_pf43_1 {n : Nat} {P : PL} {t : List PV} {G : PW} {x : Int} : pm_oPf pm_sC 4 1 0 n P (.inl x :: .inr (.inr 43) :: t) G = some (.inl (n, P, t, pm_upd G 43 1 x)) := pe_pf0 rfl
theorem shC_fd43_2 : pm_fd pm_sC 4 2 43 = some (none) := rfl
theorem shC_pf43_2 {n : Nat} {P : PL} {t : List PV} {G : PW} {x : Int} : pm_oPf pm_sC 4 2 0 n P (.inl x :: .inr (.inr 43) :: t) G = some (.inl (n, P, t, pm_upd G 43 2 x)) := pe_pf0 rfl
theorem shC_fd43_3 : pm_fd pm_sC 4 3 43 = some (some 44) := rfl
theorem shC_fd43_4 : pm_fd pm_sC 4 4 43 = some (some 45) := rfl
theorem shC_ar44 : pm_ar pm_sC 0 44 = some 16 := rfl
theorem lenC_44 : pm_len pm_sC 44 = 16 := rfl
theorem shC_al44 : pm_al pm_sC 44 = some 16 := rfl
theorem shC_ld44 {n : Nat} {P : PL} {t : List PV} {G : PW} {i : Int} (h0 : 0 ≤ i) (h1 : i < 16) : pm_oAld pm_sC 0 n P (.inl i :: .inr (.inr 44) :: t) G = some (.inl (n, P, .inl (G 44 i.toNat) :: t, G)) := pm_ald_ok shC_ar44 h0 h1
theorem shC_st44 {n : Nat} {P : PL} {t : List PV} {G : PW} {i x : Int} (h0 : 0 ≤ i) (h1 : i < 16) : pm_oAst pm_sC 0 n P (.inl x :: .inl i :: .inr (.inr 44) :: t) G = some (.inl (n, P, t, pm_upd G 44 i.toNat x)) := pm_ast_ok shC_ar44 h0 h1 rfl
theorem shC_cl45 : pm_cls pm_sC 45 = some 1 := rfl
theorem shC_fd45_0 : pm_fd pm_sC 1 0 45 = some (some 46) := rfl
theorem shC_fd45_1 : pm_fd pm_sC 1 1 45 = some (none) := rfl
theorem shC_pf45_1 {n : Nat} {P : PL} {t : List PV} {G : PW} {x : Int} : pm_oPf pm_sC 1 1 0 n P (.inl x :: .inr (.inr 45) :: t) G = some (.inl (n, P, t, pm_upd G 45 1 x)) := pe_pf0 rfl
theorem shC_ar46 : pm_ar pm_sC 0 46 = some 47 := rfl
theorem lenC_46 : pm_len pm_sC 46 = 47 := rfl
theorem shC_al46 : pm_al pm_sC 46 = some 47 := rfl
theorem shC_ld46 {n : Nat} {P : PL} {t : List PV} {G : PW} {i : Int} (h0 : 0 ≤ i) (h1 : i < 47) : pm_oAld pm_sC 0 n P (.inl i :: .inr (.inr 46) :: t) G = some (.inl (n, P, .inl (G 46 i.toNat) :: t, G)) := pm_ald_ok shC_ar46 h0 h1
theorem shC_st46 {n : Nat} {P : PL} {t : List PV} {G : PW} {i x : Int} (h0 : 0 ≤ i) (h1 : i < 47) : pm_oAst pm_sC 0 n P (.inl x :: .inl i :: .inr (.inr 46) :: t) G = some (.inl (n, P, t, pm_upd G 46 i.toNat x)) := pm_ast_ok shC_ar46 h0 h1 rfl
theorem shF_cl0 : pm_cls pm_sF 0 = some 5 := rfl
theorem shF_fd0_0 : pm_fd pm_sF 5 0 0 = some (some 1) := rfl
theorem shF_fd0_1 : pm_fd pm_sF 5 1 0 = some (some 2) := rfl
theorem shF_fd0_2 : pm_fd pm_sF 5 2 0 = some (some 3) := rfl
theorem shF_fd0_3 : pm_fd pm_sF 5 3 0 = some (some 19) := rfl
theorem shF_fd0_4 : pm_fd pm_sF 5 4 0 = some (some 35) := rfl
theorem shF_fd0_5 : pm_fd pm_sF 5 5 0 = some (some 37) := rfl
theorem shF_fd0_6 : pm_fd pm_sF 5 6 0 = some (some 39) := rfl
theorem shF_fd0_7 : pm_fd pm_sF 5 7 0 = some (some 43) := rfl
theorem shF_ar47 : pm_ar pm_sF 0 47 = some 17 := rfl
theorem lenF_47 : pm_len pm_sF 47 = 17 := rfl
theorem shF_al47 : pm_al pm_sF 47 = some 17 := rfl
theorem shF_ld47 {n : Nat} {P : PL} {t : List PV} {G : PW} {i : Int} (h0 : 0 ≤ i) (h1 : i < 17) : pm_oAld pm_sF 0 n P (.inl i :: .inr (.inr 47) :: t) G = some (.inl (n, P, .inl (G 47 i.toNat) :: t, G)) := pm_ald_ok shF_ar47 h0 h1
theorem shF_st47 {n : Nat} {P : PL} {t : List PV} {G : PW} {i x : Int} (h0 : 0 ≤ i) (h1 : i < 17) : pm_oAst pm_sF 0 n P (.inl x :: .inl i :: .inr (.inr 47) :: t) G = some (.inl (n, P, t, pm_upd G 47 i.toNat x)) := pm_ast_ok shF_ar47 h0 h1 rfl
theorem shF_ar48 : pm_ar pm_sF 0 48 = some 17 := rfl
theorem lenF_48 : pm_len pm_sF 48 = 17 := rfl
theorem shF_al48 : pm_al pm_sF 48 = some 17 := rfl
theorem shF_ld48 {n : Nat} {P : PL} {t : List PV} {G : PW} {i : Int} (h0 : 0 ≤ i) (h1 : i < 17) : pm_oAld pm_sF 0 n P (.inl i :: .inr (.inr 48) :: t) G = some (.inl (n, P, .inl (G 48 i.toNat) :: t, G)) := pm_ald_ok shF_ar48 h0 h1
theorem shF_st48 {n : Nat} {P : PL} {t : List PV} {G : PW} {i x : Int} (h0 : 0 ≤ i) (h1 : i < 17) : pm_oAst pm_sF 0 n P (.inl x :: .inl i :: .inr (.inr 48) :: t) G = some (.inl (n, P, t, pm_upd G 48 i.toNat x)) := pm_ast_ok shF_ar48 h0 h1 rfl
theorem shF_ar49 : pm_ar pm_sF 0 49 = some 17 := rfl
theorem lenF_49 : pm_len pm_sF 49 = 17 := rfl
theorem shF_al49 : pm_al pm_sF 49 = some 17 := rfl
theorem shF_ld49 {n : Nat} {P : PL} {t : List PV} {G : PW} {i : Int} (h0 : 0 ≤ i) (h1 : i < 17) : pm_oAld pm_sF 0 n P (.inl i :: .inr (.inr 49) :: t) G = some (.inl (n, P, .inl (G 49 i.toNat) :: t, G)) := pm_ald_ok shF_ar49 h0 h1
theorem shF_st49 {n : Nat} {P : PL} {t : List PV} {G : PW} {i x : Int} (h0 : 0 ≤ i) (h1 : i < 17) : pm_oAst pm_sF 0 n P (.inl x :: .inl i :: .inr (.inr 49) :: t) G = some (.inl (n, P, t, pm_upd G 49 i.toNat x)) := pm_ast_ok shF_ar49 h0 h1 rfl
theorem shF_ar50 : pm_ar pm_sF 0 50 = some 4 := rfl
theorem lenF_50 : pm_len pm_sF 50 = 4 := rfl
theorem shF_al50 : pm_al pm_sF 50 = some 4 := rfl
theorem shF_ld50 {n : Nat} {P : PL} {t : List PV} {G : PW} {i : Int} (h0 : 0 ≤ i) (h1 : i < 4) : pm_oAld pm_sF 0 n P (.inl i :: .inr (.inr 50) :: t) G = some (.inl (n, P, .inl (G 50 i.toNat) :: t, G)) := pm_ald_ok shF_ar50 h0 h1
theorem shF_st50 {n : Nat} {P : PL} {t : List PV} {G : PW} {i x : Int} (h0 : 0 ≤ i) (h1 : i < 4) : pm_oAst pm_sF 0 n P (.inl x :: .inl i :: .inr (.inr 50) :: t) G = some (.inl (n, P, t, pm_upd G 50 i.toNat x)) := pm_ast_ok shF_ar50 h0 h1 rfl
theorem shP_cl0 : pm_cls pm_sP 0 = some 5 := rfl
theorem shP_fd0_0 : pm_fd pm_sP 5 0 0 = some (some 1) := rfl
theorem shP_fd0_1 : pm_fd pm_sP 5 1 0 = some (some 2) := rfl
theorem shP_fd0_2 : pm_fd pm_sP 5 2 0 = some (some 3) := rfl
theorem shP_fd0_3 : pm_fd pm_sP 5 3 0 = some (some 19) := rfl
theorem shP_fd0_4 : pm_fd pm_sP 5 4 0 = some (some 35) := rfl
theorem shP_fd0_5 : pm_fd pm_sP 5 5 0 = some (some 37) := rfl
theorem shP_fd0_6 : pm_fd pm_sP 5 6 0 = some (some 39) := rfl
theorem shP_fd0_7 : pm_fd pm_sP 5 7 0 = some (some 43) := rfl
theorem shP_ar47 : pm_ar pm_sP 0 47 = some 20 := rfl
theorem lenP_47 : pm_len pm_sP 47 = 20 := rfl
theorem shP_al47 : pm_al pm_sP 47 = some 20 := rfl
theorem shP_ld47 {n : Nat} {P : PL} {t : List PV} {G : PW} {i : Int} (h0 : 0 ≤ i) (h1 : i < 20) : pm_oAld pm_sP 0 n P (.inl i :: .inr (.inr 47) :: t) G = some (.inl (n, P, .inl (G 47 i.toNat) :: t, G)) := pm_ald_ok shP_ar47 h0 h1
theorem shP_st47 {n : Nat} {P : PL} {t : List PV} {G : PW} {i x : Int} (h0 : 0 ≤ i) (h1 : i < 20) : pm_oAst pm_sP 0 n P (.inl x :: .inl i :: .inr (.inr 47) :: t) G = some (.inl (n, P, t, pm_upd G 47 i.toNat x)) := pm_ast_ok shP_ar47 h0 h1 rfl
