/-! printed by gen09.py: what each instruction does, pc by pc -/
theorem ue_40 (a0 : Nat) (a1 : Int) (G : PW) : pm_ca pm_sC 40 [.inr (.inr a0), .inl a1] G = pm_dn pm_sC 40 0 [some (.inr (.inr a0)), some (.inl a1)] [] G := rfl
theorem u_40_0 (P : PL) (st : List PV) (G : PW) : pm_dn pm_sC 40 0 P st G = pm_go pm_sC 40 G (pm_oAL 0 1 P st G) := pm_dn_eq (i := .aload_n 0) (len := 1) rfl
theorem u_40_1 (P : PL) (st : List PV) (G : PW) : pm_dn pm_sC 40 1 P st G = pm_go pm_sC 40 G (pm_oGf pm_sC 3 2 4 P st G) := pm_dn_eq (i := .getfield 46) (len := 3) rfl
theorem u_40_4 (P : PL) (st : List PV) (G : PW) : pm_dn pm_sC 40 4 P st G = pm_go pm_sC 40 G (pm_oIL 1 5 P st G) := pm_dn_eq (i := .iload_n 1) (len := 1) rfl
theorem u_40_5 (P : PL) (st : List PV) (G : PW) : pm_dn pm_sC 40 5 P st G = pm_go pm_sC 40 G (pm_oShr 6 P st G) := pm_dn_eq (i := .ishr) (len := 1) rfl
theorem u_40_6 (P : PL) (st : List PV) (G : PW) : pm_dn pm_sC 40 6 P st G = pm_go pm_sC 40 G (pm_oRi 0 P st G) := pm_dn_eq (i := .ireturn) (len := 1) rfl
theorem ue_41 (a0 : Nat) (G : PW) : pm_ca pm_sC 41 [.inr (.inr a0)] G = pm_dn pm_sC 41 0 [some (.inr (.inr a0))] [] G := rfl
theorem u_41_0 (P : PL) (st : List PV) (G : PW) : pm_dn pm_sC 41 0 P st G = pm_go pm_sC 41 G (pm_oK 2 1 P st G) := pm_dn_eq (i := .iconst 2) (len := 1) rfl
theorem u_41_1 (P : PL) (st : List PV) (G : PW) : pm_dn pm_sC 41 1 P st G = pm_go pm_sC 41 G (pm_oAL 0 2 P st G) := pm_dn_eq (i := .aload_n 0) (len := 1) rfl
theorem u_41_2 (P : PL) (st : List PV) (G : PW) : pm_dn pm_sC 41 2 P st G = pm_go pm_sC 41 G (pm_oGf pm_sC 3 3 5 P st G) := pm_dn_eq (i := .getfield 49) (len := 3) rfl
theorem u_41_5 (P : PL) (st : List PV) (G : PW) : pm_dn pm_sC 41 5 P st G = pm_go pm_sC 41 G (pm_oMul 6 P st G) := pm_dn_eq (i := .imul) (len := 1) rfl
theorem u_41_6 (P : PL) (st : List PV) (G : PW) : pm_dn pm_sC 41 6 P st G = pm_go pm_sC 41 G (pm_oK 2 7 P st G) := pm_dn_eq (i := .iconst 2) (len := 1) rfl
theorem u_41_7 (P : PL) (st : List PV) (G : PW) : pm_dn pm_sC 41 7 P st G = pm_go pm_sC 41 G (pm_oSub 8 P st G) := pm_dn_eq (i := .isub) (len := 1) rfl
theorem u_41_8 (P : PL) (st : List PV) (G : PW) : pm_dn pm_sC 41 8 P st G = pm_go pm_sC 41 G (pm_oRi 0 P st G) := pm_dn_eq (i := .ireturn) (len := 1) rfl
theorem ue_42 (a0 : Nat) (a1 : Int) (G : PW) : pm_ca pm_sC 42 [.inr (.inr a0), .inl a1] G = pm_dn pm_sC 42 0 [some (.inr (.inr a0)), some (.inl a1)] [] G := rfl
theorem u_42_0 (P : PL) (st : List PV) (G : PW) : pm_dn pm_sC 42 0 P st G = pm_go pm_sC 42 G (pm_oAL 0 1 P st G) := pm_dn_eq (i := .aload_n 0) (len := 1) rfl
theorem u_42_1 (P : PL) (st : List PV) (G : PW) : pm_dn pm_sC 42 1 P st G = pm_go pm_sC 42 G (pm_oGf pm_sC 3 2 4 P st G) := pm_dn_eq (i := .getfield 46) (len := 3) rfl
theorem u_42_4 (P : PL) (st : List PV) (G : PW) : pm_dn pm_sC 42 4 P st G = pm_go pm_sC 42 G (pm_oIL 1 5 P st G) := pm_dn_eq (i := .iload_n 1) (len := 1) rfl
theorem u_42_5 (P : PL) (st : List PV) (G : PW) : pm_dn pm_sC 42 5 P st G = pm_go pm_sC 42 G (pm_oK 1 6 P st G) := pm_dn_eq (i := .iconst 1) (len := 1) rfl
theorem u_42_6 (P : PL) (st : List PV) (G : PW) : pm_dn pm_sC 42 6 P st G = pm_go pm_sC 42 G (pm_oAdd 7 P st G) := pm_dn_eq (i := .iadd) (len := 1) rfl
theorem u_42_7 (P : PL) (st : List PV) (G : PW) : pm_dn pm_sC 42 7 P st G = pm_go pm_sC 42 G (pm_oK 2 8 P st G) := pm_dn_eq (i := .iconst 2) (len := 1) rfl
theorem u_42_8 (P : PL) (st : List PV) (G : PW) : pm_dn pm_sC 42 8 P st G = pm_go pm_sC 42 G (pm_oDiv 9 P st G) := pm_dn_eq (i := .idiv) (len := 1) rfl
theorem u_42_9 (P : PL) (st : List PV) (G : PW) : pm_dn pm_sC 42 9 P st G = pm_go pm_sC 42 G (pm_oK 1 10 P st G) := pm_dn_eq (i := .iconst 1) (len := 1) rfl
theorem u_42_10 (P : PL) (st : List PV) (G : PW) : pm_dn pm_sC 42 10 P st G = pm_go pm_sC 42 G (pm_oAdd 11 P st G) := pm_dn_eq (i := .iadd) (len := 1) rfl
theorem u_42_11 (P : PL) (st : List PV) (G : PW) : pm_dn pm_sC 42 11 P st G = pm_go pm_sC 42 G (pm_oShr 12 P st G) := pm_dn_eq (i := .ishr) (len := 1) rfl
theorem u_42_12 (P : PL) (st : List PV) (G : PW) : pm_dn pm_sC 42 12 P st G = pm_go pm_sC 42 G (pm_oRi 0 P st G) := pm_dn_eq (i := .ireturn) (len := 1) rfl
theorem ue_43 (a0 : Nat) (a1 : Int) (G : PW) : pm_ca pm_sC 43 [.inr (.inr a0), .inl a1] G = pm_dn pm_sC 43 0 [some (.inr (.inr a0)), some (.inl a1), none, none] [] G := rfl
theorem u_43_0 (P : PL) (st : List PV) (G : PW) : pm_dn pm_sC 43 0 P st G = pm_go pm_sC 43 G (pm_oAL 0 1 P st G) := pm_dn_eq (i := .aload_n 0) (len := 1) rfl
theorem u_43_1 (P : PL) (st : List PV) (G : PW) : pm_dn pm_sC 43 1 P st G = pm_go pm_sC 43 G (pm_oGf pm_sC 3 2 4 P st G) := pm_dn_eq (i := .getfield 46) (len := 3) rfl
theorem u_43_4 (P : PL) (st : List PV) (G : PW) : pm_dn pm_sC 43 4 P st G = pm_go pm_sC 43 G (pm_oK 1 5 P st G) := pm_dn_eq (i := .iconst 1) (len := 1) rfl
theorem u_43_5 (P : PL) (st : List PV) (G : PW) : pm_dn pm_sC 43 5 P st G = pm_go pm_sC 43 G (pm_oSub 6 P st G) := pm_dn_eq (i := .isub) (len := 1) rfl
theorem u_43_6 (P : PL) (st : List PV) (G : PW) : pm_dn pm_sC 43 6 P st G = pm_go pm_sC 43 G (pm_oIS 2 7 P st G) := pm_dn_eq (i := .istore_n 2) (len := 1) rfl
theorem u_43_7 (P : PL) (st : List PV) (G : PW) : pm_dn pm_sC 43 7 P st G = pm_go pm_sC 43 G (pm_oK 1 8 P st G) := pm_dn_eq (i := .iconst 1) (len := 1) rfl
theorem u_43_8 (P : PL) (st : List PV) (G : PW) : pm_dn pm_sC 43 8 P st G = pm_go pm_sC 43 G (pm_oIS 3 9 P st G) := pm_dn_eq (i := .istore_n 3) (len := 1) rfl
theorem u_43_9 (P : PL) (st : List PV) (G : PW) : pm_dn pm_sC 43 9 P st G = pm_go pm_sC 43 G (pm_oIL 3 10 P st G) := pm_dn_eq (i := .iload_n 3) (len := 1) rfl
theorem u_43_10 (P : PL) (st : List PV) (G : PW) : pm_dn pm_sC 43 10 P st G = pm_go pm_sC 43 G (pm_oIL 1 11 P st G) := pm_dn_eq (i := .iload_n 1) (len := 1) rfl
theorem u_43_11 (P : PL) (st : List PV) (G : PW) : pm_dn pm_sC 43 11 P st G = pm_go pm_sC 43 G (pm_oIc .ge (some 28) 14 P st G) := pm_dn_eq (i := .if_icmp .ge 17) (len := 3) rfl
theorem u_43_14 (P : PL) (st : List PV) (G : PW) : pm_dn pm_sC 43 14 P st G = pm_go pm_sC 43 G (pm_oIL 2 15 P st G) := pm_dn_eq (i := .iload_n 2) (len := 1) rfl
theorem u_43_15 (P : PL) (st : List PV) (G : PW) : pm_dn pm_sC 43 15 P st G = pm_go pm_sC 43 G (pm_oAL 0 16 P st G) := pm_dn_eq (i := .aload_n 0) (len := 1) rfl
theorem u_43_16 (P : PL) (st : List PV) (G : PW) : pm_dn pm_sC 43 16 P st G = pm_go pm_sC 43 G (pm_oIL 3 17 P st G) := pm_dn_eq (i := .iload_n 3) (len := 1) rfl
theorem u_43_17 (P : PL) (st : List PV) (G : PW) : pm_dn pm_sC 43 17 P st G = pm_go pm_sC 43 G (pm_oCv pm_sC 42 1 2 3 20 P st G) := pm_dn_eq (i := .invokevirtual 89) (len := 3) rfl
theorem u_43_20 (P : PL) (st : List PV) (G : PW) : pm_dn pm_sC 43 20 P st G = pm_go pm_sC 43 G (pm_oAdd 21 P st G) := pm_dn_eq (i := .iadd) (len := 1) rfl
theorem u_43_21 (P : PL) (st : List PV) (G : PW) : pm_dn pm_sC 43 21 P st G = pm_go pm_sC 43 G (pm_oIS 2 22 P st G) := pm_dn_eq (i := .istore_n 2) (len := 1) rfl
theorem u_43_22 (P : PL) (st : List PV) (G : PW) : pm_dn pm_sC 43 22 P st G = pm_go pm_sC 43 G (pm_oInc 3 1 25 P st G) := pm_dn_eq (i := .iinc 3 1) (len := 3) rfl
theorem u_43_25 (P : PL) (st : List PV) (G : PW) : pm_dn pm_sC 43 25 P st G = pm_go pm_sC 43 G (pm_oGo (some 9) P st G) := pm_dn_eq (i := .goto (-16)) (len := 3) rfl
theorem u_43_28 (P : PL) (st : List PV) (G : PW) : pm_dn pm_sC 43 28 P st G = pm_go pm_sC 43 G (pm_oIL 2 29 P st G) := pm_dn_eq (i := .iload_n 2) (len := 1) rfl
theorem u_43_29 (P : PL) (st : List PV) (G : PW) : pm_dn pm_sC 43 29 P st G = pm_go pm_sC 43 G (pm_oRi 0 P st G) := pm_dn_eq (i := .ireturn) (len := 1) rfl
theorem ue_44 (a0 : Nat) (a1 : Int) (a2 : Int) (a3 : Int) (a4 : Int) (G : PW) : pm_ca pm_sC 44 [.inr (.inr a0), .inl a1, .inl a2, .inl a3, .inl a4] G = pm_dn pm_sC 44 0 [some (.inr (.inr a0)), some (.inl a1), some (.inl a2), some (.inl a3), some (.inl a4)] [] G := rfl
theorem u_44_0 (P : PL) (st : List PV) (G : PW) : pm_dn pm_sC 44 0 P st G = pm_go pm_sC 44 G (pm_oAL 0 1 P st G) := pm_dn_eq (i := .aload_n 0) (len := 1) rfl
theorem u_44_1 (P : PL) (st : List PV) (G : PW) : pm_dn pm_sC 44 1 P st G = pm_go pm_sC 44 G (pm_oGf pm_sC 3 5 4 P st G) := pm_dn_eq (i := .getfield 9) (len := 3) rfl
theorem u_44_4 (P : PL) (st : List PV) (G : PW) : pm_dn pm_sC 44 4 P st G = pm_go pm_sC 44 G (pm_oIL 1 5 P st G) := pm_dn_eq (i := .iload_n 1) (len := 1) rfl
theorem u_44_5 (P : PL) (st : List PV) (G : PW) : pm_dn pm_sC 44 5 P st G = pm_go pm_sC 44 G (pm_oIL 2 6 P st G) := pm_dn_eq (i := .iload_n 2) (len := 1) rfl
theorem u_44_6 (P : PL) (st : List PV) (G : PW) : pm_dn pm_sC 44 6 P st G = pm_go pm_sC 44 G (pm_oCs 77 3 3 9 P st G) := pm_dn_eq (i := .invokestatic 92) (len := 3) rfl
theorem u_44_9 (P : PL) (st : List PV) (G : PW) : pm_dn pm_sC 44 9 P st G = pm_go pm_sC 44 G (pm_oAL 0 10 P st G) := pm_dn_eq (i := .aload_n 0) (len := 1) rfl
theorem u_44_10 (P : PL) (st : List PV) (G : PW) : pm_dn pm_sC 44 10 P st G = pm_go pm_sC 44 G (pm_oGf pm_sC 3 6 13 P st G) := pm_dn_eq (i := .getfield 15) (len := 3) rfl
theorem u_44_13 (P : PL) (st : List PV) (G : PW) : pm_dn pm_sC 44 13 P st G = pm_go pm_sC 44 G (pm_oIL 1 14 P st G) := pm_dn_eq (i := .iload_n 1) (len := 1) rfl
theorem u_44_14 (P : PL) (st : List PV) (G : PW) : pm_dn pm_sC 44 14 P st G = pm_go pm_sC 44 G (pm_oIL 3 15 P st G) := pm_dn_eq (i := .iload_n 3) (len := 1) rfl
theorem u_44_15 (P : PL) (st : List PV) (G : PW) : pm_dn pm_sC 44 15 P st G = pm_go pm_sC 44 G (pm_oCs 77 3 3 18 P st G) := pm_dn_eq (i := .invokestatic 92) (len := 3) rfl
theorem u_44_18 (P : PL) (st : List PV) (G : PW) : pm_dn pm_sC 44 18 P st G = pm_go pm_sC 44 G (pm_oAL 0 19 P st G) := pm_dn_eq (i := .aload_n 0) (len := 1) rfl
theorem u_44_19 (P : PL) (st : List PV) (G : PW) : pm_dn pm_sC 44 19 P st G = pm_go pm_sC 44 G (pm_oGf pm_sC 3 7 22 P st G) := pm_dn_eq (i := .getfield 18) (len := 3) rfl
theorem u_44_22 (P : PL) (st : List PV) (G : PW) : pm_dn pm_sC 44 22 P st G = pm_go pm_sC 44 G (pm_oIL 1 23 P st G) := pm_dn_eq (i := .iload_n 1) (len := 1) rfl
theorem u_44_23 (P : PL) (st : List PV) (G : PW) : pm_dn pm_sC 44 23 P st G = pm_go pm_sC 44 G (pm_oIL 4 25 P st G) := pm_dn_eq (i := .iload 4) (len := 2) rfl
theorem u_44_25 (P : PL) (st : List PV) (G : PW) : pm_dn pm_sC 44 25 P st G = pm_go pm_sC 44 G (pm_oCs 77 3 3 28 P st G) := pm_dn_eq (i := .invokestatic 92) (len := 3) rfl
theorem u_44_28 (P : PL) (st : List PV) (G : PW) : pm_dn pm_sC 44 28 P st G = pm_go pm_sC 44 G (pm_oAL 0 29 P st G) := pm_dn_eq (i := .aload_n 0) (len := 1) rfl
theorem u_44_29 (P : PL) (st : List PV) (G : PW) : pm_dn pm_sC 44 29 P st G = pm_go pm_sC 44 G (pm_oGf pm_sC 3 8 32 P st G) := pm_dn_eq (i := .getfield 21) (len := 3) rfl
theorem u_44_32 (P : PL) (st : List PV) (G : PW) : pm_dn pm_sC 44 32 P st G = pm_go pm_sC 44 G (pm_oIL 1 33 P st G) := pm_dn_eq (i := .iload_n 1) (len := 1) rfl
theorem u_44_33 (P : PL) (st : List PV) (G : PW) : pm_dn pm_sC 44 33 P st G = pm_go pm_sC 44 G (pm_oK (-6) 35 P st G) := pm_dn_eq (i := .bipush (-6)) (len := 2) rfl
theorem u_44_35 (P : PL) (st : List PV) (G : PW) : pm_dn pm_sC 44 35 P st G = pm_go pm_sC 44 G (pm_oCs 77 3 3 38 P st G) := pm_dn_eq (i := .invokestatic 92) (len := 3) rfl
theorem u_44_38 (P : PL) (st : List PV) (G : PW) : pm_dn pm_sC 44 38 P st G = pm_go pm_sC 44 G (pm_oAL 0 39 P st G) := pm_dn_eq (i := .aload_n 0) (len := 1) rfl
theorem u_44_39 (P : PL) (st : List PV) (G : PW) : pm_dn pm_sC 44 39 P st G = pm_go pm_sC 44 G (pm_oGf pm_sC 3 9 42 P st G) := pm_dn_eq (i := .getfield 24) (len := 3) rfl
theorem u_44_42 (P : PL) (st : List PV) (G : PW) : pm_dn pm_sC 44 42 P st G = pm_go pm_sC 44 G (pm_oIL 1 43 P st G) := pm_dn_eq (i := .iload_n 1) (len := 1) rfl
theorem u_44_43 (P : PL) (st : List PV) (G : PW) : pm_dn pm_sC 44 43 P st G = pm_go pm_sC 44 G (pm_oK (-6) 45 P st G) := pm_dn_eq (i := .bipush (-6)) (len := 2) rfl
theorem u_44_45 (P : PL) (st : List PV) (G : PW) : pm_dn pm_sC 44 45 P st G = pm_go pm_sC 44 G (pm_oCs 77 3 3 48 P st G) := pm_dn_eq (i := .invokestatic 92) (len := 3) rfl
theorem u_44_48 (P : PL) (st : List PV) (G : PW) : pm_dn pm_sC 44 48 P st G = pm_go pm_sC 44 G (pm_oAL 0 49 P st G) := pm_dn_eq (i := .aload_n 0) (len := 1) rfl
theorem u_44_49 (P : PL) (st : List PV) (G : PW) : pm_dn pm_sC 44 49 P st G = pm_go pm_sC 44 G (pm_oGf pm_sC 3 10 52 P st G) := pm_dn_eq (i := .getfield 27) (len := 3) rfl
theorem u_44_52 (P : PL) (st : List PV) (G : PW) : pm_dn pm_sC 44 52 P st G = pm_go pm_sC 44 G (pm_oIL 1 53 P st G) := pm_dn_eq (i := .iload_n 1) (len := 1) rfl
theorem u_44_53 (P : PL) (st : List PV) (G : PW) : pm_dn pm_sC 44 53 P st G = pm_go pm_sC 44 G (pm_oK (-6) 55 P st G) := pm_dn_eq (i := .bipush (-6)) (len := 2) rfl
theorem u_44_55 (P : PL) (st : List PV) (G : PW) : pm_dn pm_sC 44 55 P st G = pm_go pm_sC 44 G (pm_oCs 77 3 3 58 P st G) := pm_dn_eq (i := .invokestatic 92) (len := 3) rfl
theorem u_44_58 (P : PL) (st : List PV) (G : PW) : pm_dn pm_sC 44 58 P st G = pm_go pm_sC 44 G (pm_oAL 0 59 P st G) := pm_dn_eq (i := .aload_n 0) (len := 1) rfl
theorem u_44_59 (P : PL) (st : List PV) (G : PW) : pm_dn pm_sC 44 59 P st G = pm_go pm_sC 44 G (pm_oGf pm_sC 3 11 62 P st G) := pm_dn_eq (i := .getfield 30) (len := 3) rfl
theorem u_44_62 (P : PL) (st : List PV) (G : PW) : pm_dn pm_sC 44 62 P st G = pm_go pm_sC 44 G (pm_oIL 1 63 P st G) := pm_dn_eq (i := .iload_n 1) (len := 1) rfl
theorem u_44_63 (P : PL) (st : List PV) (G : PW) : pm_dn pm_sC 44 63 P st G = pm_go pm_sC 44 G (pm_oK (-6) 65 P st G) := pm_dn_eq (i := .bipush (-6)) (len := 2) rfl
theorem u_44_65 (P : PL) (st : List PV) (G : PW) : pm_dn pm_sC 44 65 P st G = pm_go pm_sC 44 G (pm_oCs 77 3 3 68 P st G) := pm_dn_eq (i := .invokestatic 92) (len := 3) rfl
theorem u_44_68 (P : PL) (st : List PV) (G : PW) : pm_dn pm_sC 44 68 P st G = pm_go pm_sC 44 G (pm_oRv P st G) := pm_dn_eq (i := .return_) (len := 1) rfl
theorem ue_45 (a0 : Nat) (G : PW) : pm_ca pm_sC 45 [.inr (.inr a0)] G = pm_dn pm_sC 45 0 [some (.inr (.inr a0)), none, none, none] [] G := rfl
theorem u_45_0 (P : PL) (st : List PV) (G : PW) : pm_dn pm_sC 45 0 P st G = pm_go pm_sC 45 G (pm_oK 1 1 P st G) := pm_dn_eq (i := .iconst 1) (len := 1) rfl
theorem u_45_1 (P : PL) (st : List PV) (G : PW) : pm_dn pm_sC 45 1 P st G = pm_go pm_sC 45 G (pm_oIS 1 2 P st G) := pm_dn_eq (i := .istore_n 1) (len := 1) rfl
theorem u_45_2 (P : PL) (st : List PV) (G : PW) : pm_dn pm_sC 45 2 P st G = pm_go pm_sC 45 G (pm_oIL 1 3 P st G) := pm_dn_eq (i := .iload_n 1) (len := 1) rfl
theorem u_45_3 (P : PL) (st : List PV) (G : PW) : pm_dn pm_sC 45 3 P st G = pm_go pm_sC 45 G (pm_oAL 0 4 P st G) := pm_dn_eq (i := .aload_n 0) (len := 1) rfl
theorem u_45_4 (P : PL) (st : List PV) (G : PW) : pm_dn pm_sC 45 4 P st G = pm_go pm_sC 45 G (pm_oGf pm_sC 3 3 7 P st G) := pm_dn_eq (i := .getfield 49) (len := 3) rfl
theorem u_45_7 (P : PL) (st : List PV) (G : PW) : pm_dn pm_sC 45 7 P st G = pm_go pm_sC 45 G (pm_oIc .gt (some 81) 10 P st G) := pm_dn_eq (i := .if_icmp .gt 74) (len := 3) rfl
theorem u_45_10 (P : PL) (st : List PV) (G : PW) : pm_dn pm_sC 45 10 P st G = pm_go pm_sC 45 G (pm_oAL 0 11 P st G) := pm_dn_eq (i := .aload_n 0) (len := 1) rfl
theorem u_45_11 (P : PL) (st : List PV) (G : PW) : pm_dn pm_sC 45 11 P st G = pm_go pm_sC 45 G (pm_oIL 1 12 P st G) := pm_dn_eq (i := .iload_n 1) (len := 1) rfl
theorem u_45_12 (P : PL) (st : List PV) (G : PW) : pm_dn pm_sC 45 12 P st G = pm_go pm_sC 45 G (pm_oCv pm_sC 39 1 2 3 15 P st G) := pm_dn_eq (i := .invokevirtual 96) (len := 3) rfl
theorem u_45_15 (P : PL) (st : List PV) (G : PW) : pm_dn pm_sC 45 15 P st G = pm_go pm_sC 45 G (pm_oIS 2 16 P st G) := pm_dn_eq (i := .istore_n 2) (len := 1) rfl
theorem u_45_16 (P : PL) (st : List PV) (G : PW) : pm_dn pm_sC 45 16 P st G = pm_go pm_sC 45 G (pm_oK 0 17 P st G) := pm_dn_eq (i := .iconst 0) (len := 1) rfl
theorem u_45_17 (P : PL) (st : List PV) (G : PW) : pm_dn pm_sC 45 17 P st G = pm_go pm_sC 45 G (pm_oIS 3 18 P st G) := pm_dn_eq (i := .istore_n 3) (len := 1) rfl
theorem u_45_18 (P : PL) (st : List PV) (G : PW) : pm_dn pm_sC 45 18 P st G = pm_go pm_sC 45 G (pm_oIL 3 19 P st G) := pm_dn_eq (i := .iload_n 3) (len := 1) rfl
theorem u_45_19 (P : PL) (st : List PV) (G : PW) : pm_dn pm_sC 45 19 P st G = pm_go pm_sC 45 G (pm_oAL 0 20 P st G) := pm_dn_eq (i := .aload_n 0) (len := 1) rfl
theorem u_45_20 (P : PL) (st : List PV) (G : PW) : pm_dn pm_sC 45 20 P st G = pm_go pm_sC 45 G (pm_oIL 1 21 P st G) := pm_dn_eq (i := .iload_n 1) (len := 1) rfl
theorem u_45_21 (P : PL) (st : List PV) (G : PW) : pm_dn pm_sC 45 21 P st G = pm_go pm_sC 45 G (pm_oCv pm_sC 40 1 2 3 24 P st G) := pm_dn_eq (i := .invokevirtual 99) (len := 3) rfl
theorem u_45_24 (P : PL) (st : List PV) (G : PW) : pm_dn pm_sC 45 24 P st G = pm_go pm_sC 45 G (pm_oIc .ge (some 75) 27 P st G) := pm_dn_eq (i := .if_icmp .ge 51) (len := 3) rfl
theorem u_45_27 (P : PL) (st : List PV) (G : PW) : pm_dn pm_sC 45 27 P st G = pm_go pm_sC 45 G (pm_oAL 0 28 P st G) := pm_dn_eq (i := .aload_n 0) (len := 1) rfl
theorem u_45_28 (P : PL) (st : List PV) (G : PW) : pm_dn pm_sC 45 28 P st G = pm_go pm_sC 45 G (pm_oIL 2 29 P st G) := pm_dn_eq (i := .iload_n 2) (len := 1) rfl
theorem u_45_29 (P : PL) (st : List PV) (G : PW) : pm_dn pm_sC 45 29 P st G = pm_go pm_sC 45 G (pm_oIL 3 30 P st G) := pm_dn_eq (i := .iload_n 3) (len := 1) rfl
theorem u_45_30 (P : PL) (st : List PV) (G : PW) : pm_dn pm_sC 45 30 P st G = pm_go pm_sC 45 G (pm_oAdd 31 P st G) := pm_dn_eq (i := .iadd) (len := 1) rfl
theorem u_45_31 (P : PL) (st : List PV) (G : PW) : pm_dn pm_sC 45 31 P st G = pm_go pm_sC 45 G (pm_oK 0 32 P st G) := pm_dn_eq (i := .iconst 0) (len := 1) rfl
theorem u_45_32 (P : PL) (st : List PV) (G : PW) : pm_dn pm_sC 45 32 P st G = pm_go pm_sC 45 G (pm_oIL 1 33 P st G) := pm_dn_eq (i := .iload_n 1) (len := 1) rfl
theorem u_45_33 (P : PL) (st : List PV) (G : PW) : pm_dn pm_sC 45 33 P st G = pm_go pm_sC 45 G (pm_oIL 3 34 P st G) := pm_dn_eq (i := .iload_n 3) (len := 1) rfl
theorem u_45_34 (P : PL) (st : List PV) (G : PW) : pm_dn pm_sC 45 34 P st G = pm_go pm_sC 45 G (pm_oCv pm_sC 44 4 5 3 37 P st G) := pm_dn_eq (i := .invokevirtual 65) (len := 3) rfl
theorem u_45_37 (P : PL) (st : List PV) (G : PW) : pm_dn pm_sC 45 37 P st G = pm_go pm_sC 45 G (pm_oAL 0 38 P st G) := pm_dn_eq (i := .aload_n 0) (len := 1) rfl
theorem u_45_38 (P : PL) (st : List PV) (G : PW) : pm_dn pm_sC 45 38 P st G = pm_go pm_sC 45 G (pm_oGf pm_sC 3 8 41 P st G) := pm_dn_eq (i := .getfield 21) (len := 3) rfl
theorem u_45_41 (P : PL) (st : List PV) (G : PW) : pm_dn pm_sC 45 41 P st G = pm_go pm_sC 45 G (pm_oIL 2 42 P st G) := pm_dn_eq (i := .iload_n 2) (len := 1) rfl
theorem u_45_42 (P : PL) (st : List PV) (G : PW) : pm_dn pm_sC 45 42 P st G = pm_go pm_sC 45 G (pm_oIL 3 43 P st G) := pm_dn_eq (i := .iload_n 3) (len := 1) rfl
theorem u_45_43 (P : PL) (st : List PV) (G : PW) : pm_dn pm_sC 45 43 P st G = pm_go pm_sC 45 G (pm_oAdd 44 P st G) := pm_dn_eq (i := .iadd) (len := 1) rfl
theorem u_45_44 (P : PL) (st : List PV) (G : PW) : pm_dn pm_sC 45 44 P st G = pm_go pm_sC 45 G (pm_oAL 0 45 P st G) := pm_dn_eq (i := .aload_n 0) (len := 1) rfl
theorem u_45_45 (P : PL) (st : List PV) (G : PW) : pm_dn pm_sC 45 45 P st G = pm_go pm_sC 45 G (pm_oIL 1 46 P st G) := pm_dn_eq (i := .iload_n 1) (len := 1) rfl
theorem u_45_46 (P : PL) (st : List PV) (G : PW) : pm_dn pm_sC 45 46 P st G = pm_go pm_sC 45 G (pm_oIL 3 47 P st G) := pm_dn_eq (i := .iload_n 3) (len := 1) rfl
theorem u_45_47 (P : PL) (st : List PV) (G : PW) : pm_dn pm_sC 45 47 P st G = pm_go pm_sC 45 G (pm_oCv pm_sC 47 2 3 3 50 P st G) := pm_dn_eq (i := .invokevirtual 102) (len := 3) rfl
theorem u_45_50 (P : PL) (st : List PV) (G : PW) : pm_dn pm_sC 45 50 P st G = pm_go pm_sC 45 G (pm_oCs 77 3 3 53 P st G) := pm_dn_eq (i := .invokestatic 92) (len := 3) rfl
theorem u_45_53 (P : PL) (st : List PV) (G : PW) : pm_dn pm_sC 45 53 P st G = pm_go pm_sC 45 G (pm_oAL 0 54 P st G) := pm_dn_eq (i := .aload_n 0) (len := 1) rfl
theorem u_45_54 (P : PL) (st : List PV) (G : PW) : pm_dn pm_sC 45 54 P st G = pm_go pm_sC 45 G (pm_oGf pm_sC 3 9 57 P st G) := pm_dn_eq (i := .getfield 24) (len := 3) rfl
theorem u_45_57 (P : PL) (st : List PV) (G : PW) : pm_dn pm_sC 45 57 P st G = pm_go pm_sC 45 G (pm_oIL 2 58 P st G) := pm_dn_eq (i := .iload_n 2) (len := 1) rfl
theorem u_45_58 (P : PL) (st : List PV) (G : PW) : pm_dn pm_sC 45 58 P st G = pm_go pm_sC 45 G (pm_oIL 3 59 P st G) := pm_dn_eq (i := .iload_n 3) (len := 1) rfl
theorem u_45_59 (P : PL) (st : List PV) (G : PW) : pm_dn pm_sC 45 59 P st G = pm_go pm_sC 45 G (pm_oAdd 60 P st G) := pm_dn_eq (i := .iadd) (len := 1) rfl
theorem u_45_60 (P : PL) (st : List PV) (G : PW) : pm_dn pm_sC 45 60 P st G = pm_go pm_sC 45 G (pm_oAL 0 61 P st G) := pm_dn_eq (i := .aload_n 0) (len := 1) rfl
theorem u_45_61 (P : PL) (st : List PV) (G : PW) : pm_dn pm_sC 45 61 P st G = pm_go pm_sC 45 G (pm_oIL 1 62 P st G) := pm_dn_eq (i := .iload_n 1) (len := 1) rfl
theorem u_45_62 (P : PL) (st : List PV) (G : PW) : pm_dn pm_sC 45 62 P st G = pm_go pm_sC 45 G (pm_oIL 3 63 P st G) := pm_dn_eq (i := .iload_n 3) (len := 1) rfl
theorem u_45_63 (P : PL) (st : List PV) (G : PW) : pm_dn pm_sC 45 63 P st G = pm_go pm_sC 45 G (pm_oCv pm_sC 48 2 5 3 66 P st G) := pm_dn_eq (i := .invokevirtual 106) (len := 3) rfl
theorem u_45_66 (P : PL) (st : List PV) (G : PW) : pm_dn pm_sC 45 66 P st G = pm_go pm_sC 45 G (pm_oCs 77 3 3 69 P st G) := pm_dn_eq (i := .invokestatic 92) (len := 3) rfl
theorem u_45_69 (P : PL) (st : List PV) (G : PW) : pm_dn pm_sC 45 69 P st G = pm_go pm_sC 45 G (pm_oInc 3 1 72 P st G) := pm_dn_eq (i := .iinc 3 1) (len := 3) rfl
theorem u_45_72 (P : PL) (st : List PV) (G : PW) : pm_dn pm_sC 45 72 P st G = pm_go pm_sC 45 G (pm_oGo (some 18) P st G) := pm_dn_eq (i := .goto (-54)) (len := 3) rfl
theorem u_45_75 (P : PL) (st : List PV) (G : PW) : pm_dn pm_sC 45 75 P st G = pm_go pm_sC 45 G (pm_oInc 1 1 78 P st G) := pm_dn_eq (i := .iinc 1 1) (len := 3) rfl
theorem u_45_78 (P : PL) (st : List PV) (G : PW) : pm_dn pm_sC 45 78 P st G = pm_go pm_sC 45 G (pm_oGo (some 2) P st G) := pm_dn_eq (i := .goto (-76)) (len := 3) rfl
theorem u_45_81 (P : PL) (st : List PV) (G : PW) : pm_dn pm_sC 45 81 P st G = pm_go pm_sC 45 G (pm_oRv P st G) := pm_dn_eq (i := .return_) (len := 1) rfl
theorem ue_46 (a0 : Nat) (G : PW) : pm_ca pm_sC 46 [.inr (.inr a0)] G = pm_dn pm_sC 46 0 [some (.inr (.inr a0)), none, none, none] [] G := rfl
theorem u_46_0 (P : PL) (st : List PV) (G : PW) : pm_dn pm_sC 46 0 P st G = pm_go pm_sC 46 G (pm_oK 1 1 P st G) := pm_dn_eq (i := .iconst 1) (len := 1) rfl
theorem u_46_1 (P : PL) (st : List PV) (G : PW) : pm_dn pm_sC 46 1 P st G = pm_go pm_sC 46 G (pm_oIS 1 2 P st G) := pm_dn_eq (i := .istore_n 1) (len := 1) rfl
theorem u_46_2 (P : PL) (st : List PV) (G : PW) : pm_dn pm_sC 46 2 P st G = pm_go pm_sC 46 G (pm_oIL 1 3 P st G) := pm_dn_eq (i := .iload_n 1) (len := 1) rfl
theorem u_46_3 (P : PL) (st : List PV) (G : PW) : pm_dn pm_sC 46 3 P st G = pm_go pm_sC 46 G (pm_oAL 0 4 P st G) := pm_dn_eq (i := .aload_n 0) (len := 1) rfl
theorem u_46_4 (P : PL) (st : List PV) (G : PW) : pm_dn pm_sC 46 4 P st G = pm_go pm_sC 46 G (pm_oCv pm_sC 41 0 1 3 7 P st G) := pm_dn_eq (i := .invokevirtual 109) (len := 3) rfl
theorem u_46_7 (P : PL) (st : List PV) (G : PW) : pm_dn pm_sC 46 7 P st G = pm_go pm_sC 46 G (pm_oIc .gt (some 65) 10 P st G) := pm_dn_eq (i := .if_icmp .gt 58) (len := 3) rfl
theorem u_46_10 (P : PL) (st : List PV) (G : PW) : pm_dn pm_sC 46 10 P st G = pm_go pm_sC 46 G (pm_oAL 0 11 P st G) := pm_dn_eq (i := .aload_n 0) (len := 1) rfl
theorem u_46_11 (P : PL) (st : List PV) (G : PW) : pm_dn pm_sC 46 11 P st G = pm_go pm_sC 46 G (pm_oIL 1 12 P st G) := pm_dn_eq (i := .iload_n 1) (len := 1) rfl
theorem u_46_12 (P : PL) (st : List PV) (G : PW) : pm_dn pm_sC 46 12 P st G = pm_go pm_sC 46 G (pm_oCv pm_sC 43 1 4 3 15 P st G) := pm_dn_eq (i := .invokevirtual 112) (len := 3) rfl
theorem u_46_15 (P : PL) (st : List PV) (G : PW) : pm_dn pm_sC 46 15 P st G = pm_go pm_sC 46 G (pm_oIS 2 16 P st G) := pm_dn_eq (i := .istore_n 2) (len := 1) rfl
theorem u_46_16 (P : PL) (st : List PV) (G : PW) : pm_dn pm_sC 46 16 P st G = pm_go pm_sC 46 G (pm_oK 0 17 P st G) := pm_dn_eq (i := .iconst 0) (len := 1) rfl
theorem u_46_17 (P : PL) (st : List PV) (G : PW) : pm_dn pm_sC 46 17 P st G = pm_go pm_sC 46 G (pm_oIS 3 18 P st G) := pm_dn_eq (i := .istore_n 3) (len := 1) rfl
theorem u_46_18 (P : PL) (st : List PV) (G : PW) : pm_dn pm_sC 46 18 P st G = pm_go pm_sC 46 G (pm_oIL 3 19 P st G) := pm_dn_eq (i := .iload_n 3) (len := 1) rfl
theorem u_46_19 (P : PL) (st : List PV) (G : PW) : pm_dn pm_sC 46 19 P st G = pm_go pm_sC 46 G (pm_oAL 0 20 P st G) := pm_dn_eq (i := .aload_n 0) (len := 1) rfl
theorem u_46_20 (P : PL) (st : List PV) (G : PW) : pm_dn pm_sC 46 20 P st G = pm_go pm_sC 46 G (pm_oIL 1 21 P st G) := pm_dn_eq (i := .iload_n 1) (len := 1) rfl
theorem u_46_21 (P : PL) (st : List PV) (G : PW) : pm_dn pm_sC 46 21 P st G = pm_go pm_sC 46 G (pm_oCv pm_sC 42 1 2 3 24 P st G) := pm_dn_eq (i := .invokevirtual 89) (len := 3) rfl
theorem u_46_24 (P : PL) (st : List PV) (G : PW) : pm_dn pm_sC 46 24 P st G = pm_go pm_sC 46 G (pm_oIc .ge (some 59) 27 P st G) := pm_dn_eq (i := .if_icmp .ge 35) (len := 3) rfl
theorem u_46_27 (P : PL) (st : List PV) (G : PW) : pm_dn pm_sC 46 27 P st G = pm_go pm_sC 46 G (pm_oAL 0 28 P st G) := pm_dn_eq (i := .aload_n 0) (len := 1) rfl
theorem u_46_28 (P : PL) (st : List PV) (G : PW) : pm_dn pm_sC 46 28 P st G = pm_go pm_sC 46 G (pm_oIL 2 29 P st G) := pm_dn_eq (i := .iload_n 2) (len := 1) rfl
theorem u_46_29 (P : PL) (st : List PV) (G : PW) : pm_dn pm_sC 46 29 P st G = pm_go pm_sC 46 G (pm_oIL 3 30 P st G) := pm_dn_eq (i := .iload_n 3) (len := 1) rfl
theorem u_46_30 (P : PL) (st : List PV) (G : PW) : pm_dn pm_sC 46 30 P st G = pm_go pm_sC 46 G (pm_oAdd 31 P st G) := pm_dn_eq (i := .iadd) (len := 1) rfl
theorem u_46_31 (P : PL) (st : List PV) (G : PW) : pm_dn pm_sC 46 31 P st G = pm_go pm_sC 46 G (pm_oK 1 32 P st G) := pm_dn_eq (i := .iconst 1) (len := 1) rfl
theorem u_46_32 (P : PL) (st : List PV) (G : PW) : pm_dn pm_sC 46 32 P st G = pm_go pm_sC 46 G (pm_oIL 1 33 P st G) := pm_dn_eq (i := .iload_n 1) (len := 1) rfl
theorem u_46_33 (P : PL) (st : List PV) (G : PW) : pm_dn pm_sC 46 33 P st G = pm_go pm_sC 46 G (pm_oIL 3 34 P st G) := pm_dn_eq (i := .iload_n 3) (len := 1) rfl
theorem u_46_34 (P : PL) (st : List PV) (G : PW) : pm_dn pm_sC 46 34 P st G = pm_go pm_sC 46 G (pm_oCv pm_sC 44 4 5 3 37 P st G) := pm_dn_eq (i := .invokevirtual 65) (len := 3) rfl
theorem u_46_37 (P : PL) (st : List PV) (G : PW) : pm_dn pm_sC 46 37 P st G = pm_go pm_sC 46 G (pm_oAL 0 38 P st G) := pm_dn_eq (i := .aload_n 0) (len := 1) rfl
theorem u_46_38 (P : PL) (st : List PV) (G : PW) : pm_dn pm_sC 46 38 P st G = pm_go pm_sC 46 G (pm_oGf pm_sC 3 8 41 P st G) := pm_dn_eq (i := .getfield 21) (len := 3) rfl
theorem u_46_41 (P : PL) (st : List PV) (G : PW) : pm_dn pm_sC 46 41 P st G = pm_go pm_sC 46 G (pm_oIL 2 42 P st G) := pm_dn_eq (i := .iload_n 2) (len := 1) rfl
theorem u_46_42 (P : PL) (st : List PV) (G : PW) : pm_dn pm_sC 46 42 P st G = pm_go pm_sC 46 G (pm_oIL 3 43 P st G) := pm_dn_eq (i := .iload_n 3) (len := 1) rfl
theorem u_46_43 (P : PL) (st : List PV) (G : PW) : pm_dn pm_sC 46 43 P st G = pm_go pm_sC 46 G (pm_oAdd 44 P st G) := pm_dn_eq (i := .iadd) (len := 1) rfl
theorem u_46_44 (P : PL) (st : List PV) (G : PW) : pm_dn pm_sC 46 44 P st G = pm_go pm_sC 46 G (pm_oAL 0 45 P st G) := pm_dn_eq (i := .aload_n 0) (len := 1) rfl
theorem u_46_45 (P : PL) (st : List PV) (G : PW) : pm_dn pm_sC 46 45 P st G = pm_go pm_sC 46 G (pm_oIL 1 46 P st G) := pm_dn_eq (i := .iload_n 1) (len := 1) rfl
theorem u_46_46 (P : PL) (st : List PV) (G : PW) : pm_dn pm_sC 46 46 P st G = pm_go pm_sC 46 G (pm_oIL 3 47 P st G) := pm_dn_eq (i := .iload_n 3) (len := 1) rfl
theorem u_46_47 (P : PL) (st : List PV) (G : PW) : pm_dn pm_sC 46 47 P st G = pm_go pm_sC 46 G (pm_oCv pm_sC 49 2 3 3 50 P st G) := pm_dn_eq (i := .invokevirtual 115) (len := 3) rfl
theorem u_46_50 (P : PL) (st : List PV) (G : PW) : pm_dn pm_sC 46 50 P st G = pm_go pm_sC 46 G (pm_oCs 77 3 3 53 P st G) := pm_dn_eq (i := .invokestatic 92) (len := 3) rfl
theorem u_46_53 (P : PL) (st : List PV) (G : PW) : pm_dn pm_sC 46 53 P st G = pm_go pm_sC 46 G (pm_oInc 3 1 56 P st G) := pm_dn_eq (i := .iinc 3 1) (len := 3) rfl
theorem u_46_56 (P : PL) (st : List PV) (G : PW) : pm_dn pm_sC 46 56 P st G = pm_go pm_sC 46 G (pm_oGo (some 18) P st G) := pm_dn_eq (i := .goto (-38)) (len := 3) rfl
theorem u_46_59 (P : PL) (st : List PV) (G : PW) : pm_dn pm_sC 46 59 P st G = pm_go pm_sC 46 G (pm_oInc 1 1 62 P st G) := pm_dn_eq (i := .iinc 1 1) (len := 3) rfl
theorem u_46_62 (P : PL) (st : List PV) (G : PW) : pm_dn pm_sC 46 62 P st G = pm_go pm_sC 46 G (pm_oGo (some 2) P st G) := pm_dn_eq (i := .goto (-60)) (len := 3) rfl
theorem u_46_65 (P : PL) (st : List PV) (G : PW) : pm_dn pm_sC 46 65 P st G = pm_go pm_sC 46 G (pm_oRv P st G) := pm_dn_eq (i := .return_) (len := 1) rfl
theorem ue_47 (a0 : Nat) (a1 : Int) (a2 : Int) (G : PW) : pm_ca pm_sC 47 [.inr (.inr a0), .inl a1, .inl a2] G = pm_dn pm_sC 47 0 [some (.inr (.inr a0)), some (.inl a1), some (.inl a2)] [] G := rfl
theorem u_47_0 (P : PL) (st : List PV) (G : PW) : pm_dn pm_sC 47 0 P st G = pm_go pm_sC 47 G (pm_oIL 1 1 P st G) := pm_dn_eq (i := .iload_n 1) (len := 1) rfl
theorem u_47_1 (P : PL) (st : List PV) (G : PW) : pm_dn pm_sC 47 1 P st G = pm_go pm_sC 47 G (pm_oAL 0 2 P st G) := pm_dn_eq (i := .aload_n 0) (len := 1) rfl
theorem u_47_2 (P : PL) (st : List PV) (G : PW) : pm_dn pm_sC 47 2 P st G = pm_go pm_sC 47 G (pm_oGf pm_sC 3 3 5 P st G) := pm_dn_eq (i := .getfield 49) (len := 3) rfl
theorem u_47_5 (P : PL) (st : List PV) (G : PW) : pm_dn pm_sC 47 5 P st G = pm_go pm_sC 47 G (pm_oIc .ne (some 19) 8 P st G) := pm_dn_eq (i := .if_icmp .ne 14) (len := 3) rfl
theorem u_47_8 (P : PL) (st : List PV) (G : PW) : pm_dn pm_sC 47 8 P st G = pm_go pm_sC 47 G (pm_oAL 0 9 P st G) := pm_dn_eq (i := .aload_n 0) (len := 1) rfl
theorem u_47_9 (P : PL) (st : List PV) (G : PW) : pm_dn pm_sC 47 9 P st G = pm_go pm_sC 47 G (pm_oCv pm_sC 36 0 1 3 12 P st G) := pm_dn_eq (i := .invokevirtual 61) (len := 3) rfl
theorem u_47_12 (P : PL) (st : List PV) (G : PW) : pm_dn pm_sC 47 12 P st G = pm_go pm_sC 47 G (pm_oK 0 13 P st G) := pm_dn_eq (i := .iconst 0) (len := 1) rfl
theorem u_47_13 (P : PL) (st : List PV) (G : PW) : pm_dn pm_sC 47 13 P st G = pm_go pm_sC 47 G (pm_oCs 79 2 2 16 P st G) := pm_dn_eq (i := .invokestatic 118) (len := 3) rfl
theorem u_47_16 (P : PL) (st : List PV) (G : PW) : pm_dn pm_sC 47 16 P st G = pm_go pm_sC 47 G (pm_oGo (some 36) P st G) := pm_dn_eq (i := .goto 20) (len := 3) rfl
theorem u_47_19 (P : PL) (st : List PV) (G : PW) : pm_dn pm_sC 47 19 P st G = pm_go pm_sC 47 G (pm_oAL 0 20 P st G) := pm_dn_eq (i := .aload_n 0) (len := 1) rfl
theorem u_47_20 (P : PL) (st : List PV) (G : PW) : pm_dn pm_sC 47 20 P st G = pm_go pm_sC 47 G (pm_oIL 1 21 P st G) := pm_dn_eq (i := .iload_n 1) (len := 1) rfl
theorem u_47_21 (P : PL) (st : List PV) (G : PW) : pm_dn pm_sC 47 21 P st G = pm_go pm_sC 47 G (pm_oK 1 22 P st G) := pm_dn_eq (i := .iconst 1) (len := 1) rfl
theorem u_47_22 (P : PL) (st : List PV) (G : PW) : pm_dn pm_sC 47 22 P st G = pm_go pm_sC 47 G (pm_oAdd 23 P st G) := pm_dn_eq (i := .iadd) (len := 1) rfl
theorem u_47_23 (P : PL) (st : List PV) (G : PW) : pm_dn pm_sC 47 23 P st G = pm_go pm_sC 47 G (pm_oCv pm_sC 39 1 2 3 26 P st G) := pm_dn_eq (i := .invokevirtual 96) (len := 3) rfl
theorem u_47_26 (P : PL) (st : List PV) (G : PW) : pm_dn pm_sC 47 26 P st G = pm_go pm_sC 47 G (pm_oIL 2 27 P st G) := pm_dn_eq (i := .iload_n 2) (len := 1) rfl
theorem u_47_27 (P : PL) (st : List PV) (G : PW) : pm_dn pm_sC 47 27 P st G = pm_go pm_sC 47 G (pm_oK 2 28 P st G) := pm_dn_eq (i := .iconst 2) (len := 1) rfl
theorem u_47_28 (P : PL) (st : List PV) (G : PW) : pm_dn pm_sC 47 28 P st G = pm_go pm_sC 47 G (pm_oDiv 29 P st G) := pm_dn_eq (i := .idiv) (len := 1) rfl
theorem u_47_29 (P : PL) (st : List PV) (G : PW) : pm_dn pm_sC 47 29 P st G = pm_go pm_sC 47 G (pm_oAdd 30 P st G) := pm_dn_eq (i := .iadd) (len := 1) rfl
theorem u_47_30 (P : PL) (st : List PV) (G : PW) : pm_dn pm_sC 47 30 P st G = pm_go pm_sC 47 G (pm_oIL 2 31 P st G) := pm_dn_eq (i := .iload_n 2) (len := 1) rfl
theorem u_47_31 (P : PL) (st : List PV) (G : PW) : pm_dn pm_sC 47 31 P st G = pm_go pm_sC 47 G (pm_oK 2 32 P st G) := pm_dn_eq (i := .iconst 2) (len := 1) rfl
theorem u_47_32 (P : PL) (st : List PV) (G : PW) : pm_dn pm_sC 47 32 P st G = pm_go pm_sC 47 G (pm_oRem 33 P st G) := pm_dn_eq (i := .irem) (len := 1) rfl
theorem u_47_33 (P : PL) (st : List PV) (G : PW) : pm_dn pm_sC 47 33 P st G = pm_go pm_sC 47 G (pm_oCs 79 2 2 36 P st G) := pm_dn_eq (i := .invokestatic 118) (len := 3) rfl
theorem u_47_36 (P : PL) (st : List PV) (G : PW) : pm_dn pm_sC 47 36 P st G = pm_go pm_sC 47 G (pm_oRi 0 P st G) := pm_dn_eq (i := .ireturn) (len := 1) rfl
theorem ue_48 (a0 : Nat) (a1 : Int) (a2 : Int) (G : PW) : pm_ca pm_sC 48 [.inr (.inr a0), .inl a1, .inl a2] G = pm_dn pm_sC 48 0 [some (.inr (.inr a0)), some (.inl a1), some (.inl a2), none, none] [] G := rfl
theorem u_48_0 (P : PL) (st : List PV) (G : PW) : pm_dn pm_sC 48 0 P st G = pm_go pm_sC 48 G (pm_oIL 1 1 P st G) := pm_dn_eq (i := .iload_n 1) (len := 1) rfl
theorem u_48_1 (P : PL) (st : List PV) (G : PW) : pm_dn pm_sC 48 1 P st G = pm_go pm_sC 48 G (pm_oK 1 2 P st G) := pm_dn_eq (i := .iconst 1) (len := 1) rfl
theorem u_48_2 (P : PL) (st : List PV) (G : PW) : pm_dn pm_sC 48 2 P st G = pm_go pm_sC 48 G (pm_oIc .ne (some 21) 5 P st G) := pm_dn_eq (i := .if_icmp .ne 19) (len := 3) rfl
theorem u_48_5 (P : PL) (st : List PV) (G : PW) : pm_dn pm_sC 48 5 P st G = pm_go pm_sC 48 G (pm_oAL 0 6 P st G) := pm_dn_eq (i := .aload_n 0) (len := 1) rfl
theorem u_48_6 (P : PL) (st : List PV) (G : PW) : pm_dn pm_sC 48 6 P st G = pm_go pm_sC 48 G (pm_oK 1 7 P st G) := pm_dn_eq (i := .iconst 1) (len := 1) rfl
theorem u_48_7 (P : PL) (st : List PV) (G : PW) : pm_dn pm_sC 48 7 P st G = pm_go pm_sC 48 G (pm_oCv pm_sC 43 1 4 3 10 P st G) := pm_dn_eq (i := .invokevirtual 112) (len := 3) rfl
theorem u_48_10 (P : PL) (st : List PV) (G : PW) : pm_dn pm_sC 48 10 P st G = pm_go pm_sC 48 G (pm_oIL 2 11 P st G) := pm_dn_eq (i := .iload_n 2) (len := 1) rfl
theorem u_48_11 (P : PL) (st : List PV) (G : PW) : pm_dn pm_sC 48 11 P st G = pm_go pm_sC 48 G (pm_oK 2 12 P st G) := pm_dn_eq (i := .iconst 2) (len := 1) rfl
theorem u_48_12 (P : PL) (st : List PV) (G : PW) : pm_dn pm_sC 48 12 P st G = pm_go pm_sC 48 G (pm_oDiv 13 P st G) := pm_dn_eq (i := .idiv) (len := 1) rfl
theorem u_48_13 (P : PL) (st : List PV) (G : PW) : pm_dn pm_sC 48 13 P st G = pm_go pm_sC 48 G (pm_oAdd 14 P st G) := pm_dn_eq (i := .iadd) (len := 1) rfl
theorem u_48_14 (P : PL) (st : List PV) (G : PW) : pm_dn pm_sC 48 14 P st G = pm_go pm_sC 48 G (pm_oIL 2 15 P st G) := pm_dn_eq (i := .iload_n 2) (len := 1) rfl
theorem u_48_15 (P : PL) (st : List PV) (G : PW) : pm_dn pm_sC 48 15 P st G = pm_go pm_sC 48 G (pm_oK 2 16 P st G) := pm_dn_eq (i := .iconst 2) (len := 1) rfl
theorem u_48_16 (P : PL) (st : List PV) (G : PW) : pm_dn pm_sC 48 16 P st G = pm_go pm_sC 48 G (pm_oRem 17 P st G) := pm_dn_eq (i := .irem) (len := 1) rfl
theorem u_48_17 (P : PL) (st : List PV) (G : PW) : pm_dn pm_sC 48 17 P st G = pm_go pm_sC 48 G (pm_oCs 79 2 2 20 P st G) := pm_dn_eq (i := .invokestatic 118) (len := 3) rfl
theorem u_48_20 (P : PL) (st : List PV) (G : PW) : pm_dn pm_sC 48 20 P st G = pm_go pm_sC 48 G (pm_oRi 0 P st G) := pm_dn_eq (i := .ireturn) (len := 1) rfl
theorem u_48_21 (P : PL) (st : List PV) (G : PW) : pm_dn pm_sC 48 21 P st G = pm_go pm_sC 48 G (pm_oAL 0 22 P st G) := pm_dn_eq (i := .aload_n 0) (len := 1) rfl
theorem u_48_22 (P : PL) (st : List PV) (G : PW) : pm_dn pm_sC 48 22 P st G = pm_go pm_sC 48 G (pm_oGf pm_sC 3 1 25 P st G) := pm_dn_eq (i := .getfield 43) (len := 3) rfl
theorem u_48_25 (P : PL) (st : List PV) (G : PW) : pm_dn pm_sC 48 25 P st G = pm_go pm_sC 48 G (pm_oK 1 26 P st G) := pm_dn_eq (i := .iconst 1) (len := 1) rfl
theorem u_48_26 (P : PL) (st : List PV) (G : PW) : pm_dn pm_sC 48 26 P st G = pm_go pm_sC 48 G (pm_oIc .ne (some 39) 29 P st G) := pm_dn_eq (i := .if_icmp .ne 13) (len := 3) rfl
theorem u_48_29 (P : PL) (st : List PV) (G : PW) : pm_dn pm_sC 48 29 P st G = pm_go pm_sC 48 G (pm_oIL 1 30 P st G) := pm_dn_eq (i := .iload_n 1) (len := 1) rfl
theorem u_48_30 (P : PL) (st : List PV) (G : PW) : pm_dn pm_sC 48 30 P st G = pm_go pm_sC 48 G (pm_oK 2 31 P st G) := pm_dn_eq (i := .iconst 2) (len := 1) rfl
theorem u_48_31 (P : PL) (st : List PV) (G : PW) : pm_dn pm_sC 48 31 P st G = pm_go pm_sC 48 G (pm_oRem 32 P st G) := pm_dn_eq (i := .irem) (len := 1) rfl
theorem u_48_32 (P : PL) (st : List PV) (G : PW) : pm_dn pm_sC 48 32 P st G = pm_go pm_sC 48 G (pm_oIf .ne (some 39) 35 P st G) := pm_dn_eq (i := .ifCond .ne 7) (len := 3) rfl
theorem u_48_35 (P : PL) (st : List PV) (G : PW) : pm_dn pm_sC 48 35 P st G = pm_go pm_sC 48 G (pm_oK 1 36 P st G) := pm_dn_eq (i := .iconst 1) (len := 1) rfl
theorem u_48_36 (P : PL) (st : List PV) (G : PW) : pm_dn pm_sC 48 36 P st G = pm_go pm_sC 48 G (pm_oGo (some 40) P st G) := pm_dn_eq (i := .goto 4) (len := 3) rfl
theorem u_48_39 (P : PL) (st : List PV) (G : PW) : pm_dn pm_sC 48 39 P st G = pm_go pm_sC 48 G (pm_oK 0 40 P st G) := pm_dn_eq (i := .iconst 0) (len := 1) rfl
theorem u_48_40 (P : PL) (st : List PV) (G : PW) : pm_dn pm_sC 48 40 P st G = pm_go pm_sC 48 G (pm_oIS 3 41 P st G) := pm_dn_eq (i := .istore_n 3) (len := 1) rfl
theorem u_48_41 (P : PL) (st : List PV) (G : PW) : pm_dn pm_sC 48 41 P st G = pm_go pm_sC 48 G (pm_oIL 3 42 P st G) := pm_dn_eq (i := .iload_n 3) (len := 1) rfl
theorem u_48_42 (P : PL) (st : List PV) (G : PW) : pm_dn pm_sC 48 42 P st G = pm_go pm_sC 48 G (pm_oIf .eq (some 57) 45 P st G) := pm_dn_eq (i := .ifCond .eq 15) (len := 3) rfl
theorem u_48_45 (P : PL) (st : List PV) (G : PW) : pm_dn pm_sC 48 45 P st G = pm_go pm_sC 48 G (pm_oAL 0 46 P st G) := pm_dn_eq (i := .aload_n 0) (len := 1) rfl
theorem u_48_46 (P : PL) (st : List PV) (G : PW) : pm_dn pm_sC 48 46 P st G = pm_go pm_sC 48 G (pm_oIL 1 47 P st G) := pm_dn_eq (i := .iload_n 1) (len := 1) rfl
theorem u_48_47 (P : PL) (st : List PV) (G : PW) : pm_dn pm_sC 48 47 P st G = pm_go pm_sC 48 G (pm_oCv pm_sC 40 1 2 3 50 P st G) := pm_dn_eq (i := .invokevirtual 99) (len := 3) rfl
theorem u_48_50 (P : PL) (st : List PV) (G : PW) : pm_dn pm_sC 48 50 P st G = pm_go pm_sC 48 G (pm_oK 1 51 P st G) := pm_dn_eq (i := .iconst 1) (len := 1) rfl
theorem u_48_51 (P : PL) (st : List PV) (G : PW) : pm_dn pm_sC 48 51 P st G = pm_go pm_sC 48 G (pm_oSub 52 P st G) := pm_dn_eq (i := .isub) (len := 1) rfl
theorem u_48_52 (P : PL) (st : List PV) (G : PW) : pm_dn pm_sC 48 52 P st G = pm_go pm_sC 48 G (pm_oIL 2 53 P st G) := pm_dn_eq (i := .iload_n 2) (len := 1) rfl
theorem u_48_53 (P : PL) (st : List PV) (G : PW) : pm_dn pm_sC 48 53 P st G = pm_go pm_sC 48 G (pm_oSub 54 P st G) := pm_dn_eq (i := .isub) (len := 1) rfl
theorem u_48_54 (P : PL) (st : List PV) (G : PW) : pm_dn pm_sC 48 54 P st G = pm_go pm_sC 48 G (pm_oGo (some 58) P st G) := pm_dn_eq (i := .goto 4) (len := 3) rfl
theorem u_48_57 (P : PL) (st : List PV) (G : PW) : pm_dn pm_sC 48 57 P st G = pm_go pm_sC 48 G (pm_oIL 2 58 P st G) := pm_dn_eq (i := .iload_n 2) (len := 1) rfl
theorem u_48_58 (P : PL) (st : List PV) (G : PW) : pm_dn pm_sC 48 58 P st G = pm_go pm_sC 48 G (pm_oIS 4 60 P st G) := pm_dn_eq (i := .istore 4) (len := 2) rfl
theorem u_48_60 (P : PL) (st : List PV) (G : PW) : pm_dn pm_sC 48 60 P st G = pm_go pm_sC 48 G (pm_oAL 0 61 P st G) := pm_dn_eq (i := .aload_n 0) (len := 1) rfl
theorem u_48_61 (P : PL) (st : List PV) (G : PW) : pm_dn pm_sC 48 61 P st G = pm_go pm_sC 48 G (pm_oK 2 62 P st G) := pm_dn_eq (i := .iconst 2) (len := 1) rfl
theorem u_48_62 (P : PL) (st : List PV) (G : PW) : pm_dn pm_sC 48 62 P st G = pm_go pm_sC 48 G (pm_oIL 1 63 P st G) := pm_dn_eq (i := .iload_n 1) (len := 1) rfl
theorem u_48_63 (P : PL) (st : List PV) (G : PW) : pm_dn pm_sC 48 63 P st G = pm_go pm_sC 48 G (pm_oK 1 64 P st G) := pm_dn_eq (i := .iconst 1) (len := 1) rfl
theorem u_48_64 (P : PL) (st : List PV) (G : PW) : pm_dn pm_sC 48 64 P st G = pm_go pm_sC 48 G (pm_oSub 65 P st G) := pm_dn_eq (i := .isub) (len := 1) rfl
theorem u_48_65 (P : PL) (st : List PV) (G : PW) : pm_dn pm_sC 48 65 P st G = pm_go pm_sC 48 G (pm_oMul 66 P st G) := pm_dn_eq (i := .imul) (len := 1) rfl
theorem u_48_66 (P : PL) (st : List PV) (G : PW) : pm_dn pm_sC 48 66 P st G = pm_go pm_sC 48 G (pm_oCv pm_sC 43 1 4 3 69 P st G) := pm_dn_eq (i := .invokevirtual 112) (len := 3) rfl
theorem u_48_69 (P : PL) (st : List PV) (G : PW) : pm_dn pm_sC 48 69 P st G = pm_go pm_sC 48 G (pm_oIL 4 71 P st G) := pm_dn_eq (i := .iload 4) (len := 2) rfl
theorem u_48_71 (P : PL) (st : List PV) (G : PW) : pm_dn pm_sC 48 71 P st G = pm_go pm_sC 48 G (pm_oAdd 72 P st G) := pm_dn_eq (i := .iadd) (len := 1) rfl
theorem u_48_72 (P : PL) (st : List PV) (G : PW) : pm_dn pm_sC 48 72 P st G = pm_go pm_sC 48 G (pm_oK 1 73 P st G) := pm_dn_eq (i := .iconst 1) (len := 1) rfl
theorem u_48_73 (P : PL) (st : List PV) (G : PW) : pm_dn pm_sC 48 73 P st G = pm_go pm_sC 48 G (pm_oCs 79 2 2 76 P st G) := pm_dn_eq (i := .invokestatic 118) (len := 3) rfl
theorem u_48_76 (P : PL) (st : List PV) (G : PW) : pm_dn pm_sC 48 76 P st G = pm_go pm_sC 48 G (pm_oRi 0 P st G) := pm_dn_eq (i := .ireturn) (len := 1) rfl
theorem ue_49 (a0 : Nat) (a1 : Int) (a2 : Int) (G : PW) : pm_ca pm_sC 49 [.inr (.inr a0), .inl a1, .inl a2] G = pm_dn pm_sC 49 0 [some (.inr (.inr a0)), some (.inl a1), some (.inl a2)] [] G := rfl
theorem u_49_0 (P : PL) (st : List PV) (G : PW) : pm_dn pm_sC 49 0 P st G = pm_go pm_sC 49 G (pm_oIL 1 1 P st G) := pm_dn_eq (i := .iload_n 1) (len := 1) rfl
theorem u_49_1 (P : PL) (st : List PV) (G : PW) : pm_dn pm_sC 49 1 P st G = pm_go pm_sC 49 G (pm_oAL 0 2 P st G) := pm_dn_eq (i := .aload_n 0) (len := 1) rfl
theorem u_49_2 (P : PL) (st : List PV) (G : PW) : pm_dn pm_sC 49 2 P st G = pm_go pm_sC 49 G (pm_oCv pm_sC 41 0 1 3 5 P st G) := pm_dn_eq (i := .invokevirtual 109) (len := 3) rfl
theorem u_49_5 (P : PL) (st : List PV) (G : PW) : pm_dn pm_sC 49 5 P st G = pm_go pm_sC 49 G (pm_oIc .ne (some 17) 8 P st G) := pm_dn_eq (i := .if_icmp .ne 12) (len := 3) rfl
theorem u_49_8 (P : PL) (st : List PV) (G : PW) : pm_dn pm_sC 49 8 P st G = pm_go pm_sC 49 G (pm_oAL 0 9 P st G) := pm_dn_eq (i := .aload_n 0) (len := 1) rfl
theorem u_49_9 (P : PL) (st : List PV) (G : PW) : pm_dn pm_sC 49 9 P st G = pm_go pm_sC 49 G (pm_oCv pm_sC 36 0 1 3 12 P st G) := pm_dn_eq (i := .invokevirtual 61) (len := 3) rfl
theorem u_49_12 (P : PL) (st : List PV) (G : PW) : pm_dn pm_sC 49 12 P st G = pm_go pm_sC 49 G (pm_oK 1 13 P st G) := pm_dn_eq (i := .iconst 1) (len := 1) rfl
theorem u_49_13 (P : PL) (st : List PV) (G : PW) : pm_dn pm_sC 49 13 P st G = pm_go pm_sC 49 G (pm_oCs 79 2 2 16 P st G) := pm_dn_eq (i := .invokestatic 118) (len := 3) rfl
theorem u_49_16 (P : PL) (st : List PV) (G : PW) : pm_dn pm_sC 49 16 P st G = pm_go pm_sC 49 G (pm_oRi 0 P st G) := pm_dn_eq (i := .ireturn) (len := 1) rfl
theorem u_49_17 (P : PL) (st : List PV) (G : PW) : pm_dn pm_sC 49 17 P st G = pm_go pm_sC 49 G (pm_oIL 1 18 P st G) := pm_dn_eq (i := .iload_n 1) (len := 1) rfl
theorem u_49_18 (P : PL) (st : List PV) (G : PW) : pm_dn pm_sC 49 18 P st G = pm_go pm_sC 49 G (pm_oK 2 19 P st G) := pm_dn_eq (i := .iconst 2) (len := 1) rfl
theorem u_49_19 (P : PL) (st : List PV) (G : PW) : pm_dn pm_sC 49 19 P st G = pm_go pm_sC 49 G (pm_oRem 20 P st G) := pm_dn_eq (i := .irem) (len := 1) rfl
theorem u_49_20 (P : PL) (st : List PV) (G : PW) : pm_dn pm_sC 49 20 P st G = pm_go pm_sC 49 G (pm_oK 1 21 P st G) := pm_dn_eq (i := .iconst 1) (len := 1) rfl
theorem u_49_21 (P : PL) (st : List PV) (G : PW) : pm_dn pm_sC 49 21 P st G = pm_go pm_sC 49 G (pm_oIc .ne (some 38) 24 P st G) := pm_dn_eq (i := .if_icmp .ne 17) (len := 3) rfl
theorem u_49_24 (P : PL) (st : List PV) (G : PW) : pm_dn pm_sC 49 24 P st G = pm_go pm_sC 49 G (pm_oAL 0 25 P st G) := pm_dn_eq (i := .aload_n 0) (len := 1) rfl
theorem u_49_25 (P : PL) (st : List PV) (G : PW) : pm_dn pm_sC 49 25 P st G = pm_go pm_sC 49 G (pm_oIL 1 26 P st G) := pm_dn_eq (i := .iload_n 1) (len := 1) rfl
theorem u_49_26 (P : PL) (st : List PV) (G : PW) : pm_dn pm_sC 49 26 P st G = pm_go pm_sC 49 G (pm_oK 1 27 P st G) := pm_dn_eq (i := .iconst 1) (len := 1) rfl
theorem u_49_27 (P : PL) (st : List PV) (G : PW) : pm_dn pm_sC 49 27 P st G = pm_go pm_sC 49 G (pm_oAdd 28 P st G) := pm_dn_eq (i := .iadd) (len := 1) rfl
theorem u_49_28 (P : PL) (st : List PV) (G : PW) : pm_dn pm_sC 49 28 P st G = pm_go pm_sC 49 G (pm_oCv pm_sC 43 1 4 3 31 P st G) := pm_dn_eq (i := .invokevirtual 112) (len := 3) rfl
theorem u_49_31 (P : PL) (st : List PV) (G : PW) : pm_dn pm_sC 49 31 P st G = pm_go pm_sC 49 G (pm_oIL 2 32 P st G) := pm_dn_eq (i := .iload_n 2) (len := 1) rfl
theorem u_49_32 (P : PL) (st : List PV) (G : PW) : pm_dn pm_sC 49 32 P st G = pm_go pm_sC 49 G (pm_oAdd 33 P st G) := pm_dn_eq (i := .iadd) (len := 1) rfl
theorem u_49_33 (P : PL) (st : List PV) (G : PW) : pm_dn pm_sC 49 33 P st G = pm_go pm_sC 49 G (pm_oK 0 34 P st G) := pm_dn_eq (i := .iconst 0) (len := 1) rfl
theorem u_49_34 (P : PL) (st : List PV) (G : PW) : pm_dn pm_sC 49 34 P st G = pm_go pm_sC 49 G (pm_oCs 79 2 2 37 P st G) := pm_dn_eq (i := .invokestatic 118) (len := 3) rfl
theorem u_49_37 (P : PL) (st : List PV) (G : PW) : pm_dn pm_sC 49 37 P st G = pm_go pm_sC 49 G (pm_oRi 0 P st G) := pm_dn_eq (i := .ireturn) (len := 1) rfl
theorem u_49_38 (P : PL) (st : List PV) (G : PW) : pm_dn pm_sC 49 38 P st G = pm_go pm_sC 49 G (pm_oAL 0 39 P st G) := pm_dn_eq (i := .aload_n 0) (len := 1) rfl
theorem u_49_39 (P : PL) (st : List PV) (G : PW) : pm_dn pm_sC 49 39 P st G = pm_go pm_sC 49 G (pm_oIL 1 40 P st G) := pm_dn_eq (i := .iload_n 1) (len := 1) rfl
theorem u_49_40 (P : PL) (st : List PV) (G : PW) : pm_dn pm_sC 49 40 P st G = pm_go pm_sC 49 G (pm_oK 1 41 P st G) := pm_dn_eq (i := .iconst 1) (len := 1) rfl
theorem u_49_41 (P : PL) (st : List PV) (G : PW) : pm_dn pm_sC 49 41 P st G = pm_go pm_sC 49 G (pm_oAdd 42 P st G) := pm_dn_eq (i := .iadd) (len := 1) rfl
theorem u_49_42 (P : PL) (st : List PV) (G : PW) : pm_dn pm_sC 49 42 P st G = pm_go pm_sC 49 G (pm_oCv pm_sC 43 1 4 3 45 P st G) := pm_dn_eq (i := .invokevirtual 112) (len := 3) rfl
theorem u_49_45 (P : PL) (st : List PV) (G : PW) : pm_dn pm_sC 49 45 P st G = pm_go pm_sC 49 G (pm_oIL 2 46 P st G) := pm_dn_eq (i := .iload_n 2) (len := 1) rfl
theorem u_49_46 (P : PL) (st : List PV) (G : PW) : pm_dn pm_sC 49 46 P st G = pm_go pm_sC 49 G (pm_oK 2 47 P st G) := pm_dn_eq (i := .iconst 2) (len := 1) rfl
theorem u_49_47 (P : PL) (st : List PV) (G : PW) : pm_dn pm_sC 49 47 P st G = pm_go pm_sC 49 G (pm_oDiv 48 P st G) := pm_dn_eq (i := .idiv) (len := 1) rfl
theorem u_49_48 (P : PL) (st : List PV) (G : PW) : pm_dn pm_sC 49 48 P st G = pm_go pm_sC 49 G (pm_oAdd 49 P st G) := pm_dn_eq (i := .iadd) (len := 1) rfl
theorem u_49_49 (P : PL) (st : List PV) (G : PW) : pm_dn pm_sC 49 49 P st G = pm_go pm_sC 49 G (pm_oIL 2 50 P st G) := pm_dn_eq (i := .iload_n 2) (len := 1) rfl
theorem u_49_50 (P : PL) (st : List PV) (G : PW) : pm_dn pm_sC 49 50 P st G = pm_go pm_sC 49 G (pm_oK 2 51 P st G) := pm_dn_eq (i := .iconst 2) (len := 1) rfl
theorem u_49_51 (P : PL) (st : List PV) (G : PW) : pm_dn pm_sC 49 51 P st G = pm_go pm_sC 49 G (pm_oRem 52 P st G) := pm_dn_eq (i := .irem) (len := 1) rfl
theorem u_49_52 (P : PL) (st : List PV) (G : PW) : pm_dn pm_sC 49 52 P st G = pm_go pm_sC 49 G (pm_oCs 79 2 2 55 P st G) := pm_dn_eq (i := .invokestatic 118) (len := 3) rfl
theorem u_49_55 (P : PL) (st : List PV) (G : PW) : pm_dn pm_sC 49 55 P st G = pm_go pm_sC 49 G (pm_oRi 0 P st G) := pm_dn_eq (i := .ireturn) (len := 1) rfl
theorem ue_50 (a0 : Nat) (G : PW) : pm_ca pm_sC 50 [.inr (.inr a0)] G = pm_dn pm_sC 50 0 [some (.inr (.inr a0)), none, none, none] [] G := rfl
theorem u_50_0 (P : PL) (st : List PV) (G : PW) : pm_dn pm_sC 50 0 P st G = pm_go pm_sC 50 G (pm_oAL 0 1 P st G) := pm_dn_eq (i := .aload_n 0) (len := 1) rfl
theorem u_50_1 (P : PL) (st : List PV) (G : PW) : pm_dn pm_sC 50 1 P st G = pm_go pm_sC 50 G (pm_oGf pm_sC 3 12 4 P st G) := pm_dn_eq (i := .getfield 33) (len := 3) rfl
theorem u_50_4 (P : PL) (st : List PV) (G : PW) : pm_dn pm_sC 50 4 P st G = pm_go pm_sC 50 G (pm_oK 0 5 P st G) := pm_dn_eq (i := .iconst 0) (len := 1) rfl
theorem u_50_5 (P : PL) (st : List PV) (G : PW) : pm_dn pm_sC 50 5 P st G = pm_go pm_sC 50 G (pm_oK 0 6 P st G) := pm_dn_eq (i := .iconst 0) (len := 1) rfl
theorem u_50_6 (P : PL) (st : List PV) (G : PW) : pm_dn pm_sC 50 6 P st G = pm_go pm_sC 50 G (pm_oCs 77 3 3 9 P st G) := pm_dn_eq (i := .invokestatic 92) (len := 3) rfl
theorem u_50_9 (P : PL) (st : List PV) (G : PW) : pm_dn pm_sC 50 9 P st G = pm_go pm_sC 50 G (pm_oK 1 10 P st G) := pm_dn_eq (i := .iconst 1) (len := 1) rfl
theorem u_50_10 (P : PL) (st : List PV) (G : PW) : pm_dn pm_sC 50 10 P st G = pm_go pm_sC 50 G (pm_oIS 1 11 P st G) := pm_dn_eq (i := .istore_n 1) (len := 1) rfl
theorem u_50_11 (P : PL) (st : List PV) (G : PW) : pm_dn pm_sC 50 11 P st G = pm_go pm_sC 50 G (pm_oIL 1 12 P st G) := pm_dn_eq (i := .iload_n 1) (len := 1) rfl
theorem u_50_12 (P : PL) (st : List PV) (G : PW) : pm_dn pm_sC 50 12 P st G = pm_go pm_sC 50 G (pm_oAL 0 13 P st G) := pm_dn_eq (i := .aload_n 0) (len := 1) rfl
theorem u_50_13 (P : PL) (st : List PV) (G : PW) : pm_dn pm_sC 50 13 P st G = pm_go pm_sC 50 G (pm_oGf pm_sC 3 2 16 P st G) := pm_dn_eq (i := .getfield 46) (len := 3) rfl
theorem u_50_16 (P : PL) (st : List PV) (G : PW) : pm_dn pm_sC 50 16 P st G = pm_go pm_sC 50 G (pm_oIc .ge (some 79) 19 P st G) := pm_dn_eq (i := .if_icmp .ge 63) (len := 3) rfl
theorem u_50_19 (P : PL) (st : List PV) (G : PW) : pm_dn pm_sC 50 19 P st G = pm_go pm_sC 50 G (pm_oIL 1 20 P st G) := pm_dn_eq (i := .iload_n 1) (len := 1) rfl
theorem u_50_20 (P : PL) (st : List PV) (G : PW) : pm_dn pm_sC 50 20 P st G = pm_go pm_sC 50 G (pm_oK 1 21 P st G) := pm_dn_eq (i := .iconst 1) (len := 1) rfl
theorem u_50_21 (P : PL) (st : List PV) (G : PW) : pm_dn pm_sC 50 21 P st G = pm_go pm_sC 50 G (pm_oSub 22 P st G) := pm_dn_eq (i := .isub) (len := 1) rfl
theorem u_50_22 (P : PL) (st : List PV) (G : PW) : pm_dn pm_sC 50 22 P st G = pm_go pm_sC 50 G (pm_oIS 2 23 P st G) := pm_dn_eq (i := .istore_n 2) (len := 1) rfl
theorem u_50_23 (P : PL) (st : List PV) (G : PW) : pm_dn pm_sC 50 23 P st G = pm_go pm_sC 50 G (pm_oIL 2 24 P st G) := pm_dn_eq (i := .iload_n 2) (len := 1) rfl
theorem u_50_24 (P : PL) (st : List PV) (G : PW) : pm_dn pm_sC 50 24 P st G = pm_go pm_sC 50 G (pm_oIf .lt (some 72) 27 P st G) := pm_dn_eq (i := .ifCond .lt 48) (len := 3) rfl
theorem u_50_27 (P : PL) (st : List PV) (G : PW) : pm_dn pm_sC 50 27 P st G = pm_go pm_sC 50 G (pm_oAL 0 28 P st G) := pm_dn_eq (i := .aload_n 0) (len := 1) rfl
theorem u_50_28 (P : PL) (st : List PV) (G : PW) : pm_dn pm_sC 50 28 P st G = pm_go pm_sC 50 G (pm_oGf pm_sC 3 12 31 P st G) := pm_dn_eq (i := .getfield 33) (len := 3) rfl
theorem u_50_31 (P : PL) (st : List PV) (G : PW) : pm_dn pm_sC 50 31 P st G = pm_go pm_sC 50 G (pm_oIL 2 32 P st G) := pm_dn_eq (i := .iload_n 2) (len := 1) rfl
theorem u_50_32 (P : PL) (st : List PV) (G : PW) : pm_dn pm_sC 50 32 P st G = pm_go pm_sC 50 G (pm_oCs 76 2 2 35 P st G) := pm_dn_eq (i := .invokestatic 81) (len := 3) rfl
theorem u_50_35 (P : PL) (st : List PV) (G : PW) : pm_dn pm_sC 50 35 P st G = pm_go pm_sC 50 G (pm_oIS 3 36 P st G) := pm_dn_eq (i := .istore_n 3) (len := 1) rfl
theorem u_50_36 (P : PL) (st : List PV) (G : PW) : pm_dn pm_sC 50 36 P st G = pm_go pm_sC 50 G (pm_oAL 0 37 P st G) := pm_dn_eq (i := .aload_n 0) (len := 1) rfl
theorem u_50_37 (P : PL) (st : List PV) (G : PW) : pm_dn pm_sC 50 37 P st G = pm_go pm_sC 50 G (pm_oGf pm_sC 3 12 40 P st G) := pm_dn_eq (i := .getfield 33) (len := 3) rfl
theorem u_50_40 (P : PL) (st : List PV) (G : PW) : pm_dn pm_sC 50 40 P st G = pm_go pm_sC 50 G (pm_oK 2 41 P st G) := pm_dn_eq (i := .iconst 2) (len := 1) rfl
theorem u_50_41 (P : PL) (st : List PV) (G : PW) : pm_dn pm_sC 50 41 P st G = pm_go pm_sC 50 G (pm_oIL 2 42 P st G) := pm_dn_eq (i := .iload_n 2) (len := 1) rfl
theorem u_50_42 (P : PL) (st : List PV) (G : PW) : pm_dn pm_sC 50 42 P st G = pm_go pm_sC 50 G (pm_oMul 43 P st G) := pm_dn_eq (i := .imul) (len := 1) rfl
theorem u_50_43 (P : PL) (st : List PV) (G : PW) : pm_dn pm_sC 50 43 P st G = pm_go pm_sC 50 G (pm_oIL 3 44 P st G) := pm_dn_eq (i := .iload_n 3) (len := 1) rfl
theorem u_50_44 (P : PL) (st : List PV) (G : PW) : pm_dn pm_sC 50 44 P st G = pm_go pm_sC 50 G (pm_oCs 77 3 3 47 P st G) := pm_dn_eq (i := .invokestatic 92) (len := 3) rfl
theorem u_50_47 (P : PL) (st : List PV) (G : PW) : pm_dn pm_sC 50 47 P st G = pm_go pm_sC 50 G (pm_oAL 0 48 P st G) := pm_dn_eq (i := .aload_n 0) (len := 1) rfl
theorem u_50_48 (P : PL) (st : List PV) (G : PW) : pm_dn pm_sC 50 48 P st G = pm_go pm_sC 50 G (pm_oGf pm_sC 3 12 51 P st G) := pm_dn_eq (i := .getfield 33) (len := 3) rfl
theorem u_50_51 (P : PL) (st : List PV) (G : PW) : pm_dn pm_sC 50 51 P st G = pm_go pm_sC 50 G (pm_oK 2 52 P st G) := pm_dn_eq (i := .iconst 2) (len := 1) rfl
theorem u_50_52 (P : PL) (st : List PV) (G : PW) : pm_dn pm_sC 50 52 P st G = pm_go pm_sC 50 G (pm_oIL 2 53 P st G) := pm_dn_eq (i := .iload_n 2) (len := 1) rfl
theorem u_50_53 (P : PL) (st : List PV) (G : PW) : pm_dn pm_sC 50 53 P st G = pm_go pm_sC 50 G (pm_oMul 54 P st G) := pm_dn_eq (i := .imul) (len := 1) rfl
theorem u_50_54 (P : PL) (st : List PV) (G : PW) : pm_dn pm_sC 50 54 P st G = pm_go pm_sC 50 G (pm_oK 1 55 P st G) := pm_dn_eq (i := .iconst 1) (len := 1) rfl
theorem u_50_55 (P : PL) (st : List PV) (G : PW) : pm_dn pm_sC 50 55 P st G = pm_go pm_sC 50 G (pm_oAdd 56 P st G) := pm_dn_eq (i := .iadd) (len := 1) rfl
theorem u_50_56 (P : PL) (st : List PV) (G : PW) : pm_dn pm_sC 50 56 P st G = pm_go pm_sC 50 G (pm_oK 2 57 P st G) := pm_dn_eq (i := .iconst 2) (len := 1) rfl
theorem u_50_57 (P : PL) (st : List PV) (G : PW) : pm_dn pm_sC 50 57 P st G = pm_go pm_sC 50 G (pm_oIL 1 58 P st G) := pm_dn_eq (i := .iload_n 1) (len := 1) rfl
theorem u_50_58 (P : PL) (st : List PV) (G : PW) : pm_dn pm_sC 50 58 P st G = pm_go pm_sC 50 G (pm_oMul 59 P st G) := pm_dn_eq (i := .imul) (len := 1) rfl
theorem u_50_59 (P : PL) (st : List PV) (G : PW) : pm_dn pm_sC 50 59 P st G = pm_go pm_sC 50 G (pm_oK 1 60 P st G) := pm_dn_eq (i := .iconst 1) (len := 1) rfl
theorem u_50_60 (P : PL) (st : List PV) (G : PW) : pm_dn pm_sC 50 60 P st G = pm_go pm_sC 50 G (pm_oSub 61 P st G) := pm_dn_eq (i := .isub) (len := 1) rfl
theorem u_50_61 (P : PL) (st : List PV) (G : PW) : pm_dn pm_sC 50 61 P st G = pm_go pm_sC 50 G (pm_oIL 3 62 P st G) := pm_dn_eq (i := .iload_n 3) (len := 1) rfl
theorem u_50_62 (P : PL) (st : List PV) (G : PW) : pm_dn pm_sC 50 62 P st G = pm_go pm_sC 50 G (pm_oSub 63 P st G) := pm_dn_eq (i := .isub) (len := 1) rfl
theorem u_50_63 (P : PL) (st : List PV) (G : PW) : pm_dn pm_sC 50 63 P st G = pm_go pm_sC 50 G (pm_oCs 77 3 3 66 P st G) := pm_dn_eq (i := .invokestatic 92) (len := 3) rfl
theorem u_50_66 (P : PL) (st : List PV) (G : PW) : pm_dn pm_sC 50 66 P st G = pm_go pm_sC 50 G (pm_oInc 2 (-1) 69 P st G) := pm_dn_eq (i := .iinc 2 (-1)) (len := 3) rfl
theorem u_50_69 (P : PL) (st : List PV) (G : PW) : pm_dn pm_sC 50 69 P st G = pm_go pm_sC 50 G (pm_oGo (some 23) P st G) := pm_dn_eq (i := .goto (-46)) (len := 3) rfl
theorem u_50_72 (P : PL) (st : List PV) (G : PW) : pm_dn pm_sC 50 72 P st G = pm_go pm_sC 50 G (pm_oIL 1 73 P st G) := pm_dn_eq (i := .iload_n 1) (len := 1) rfl
theorem u_50_73 (P : PL) (st : List PV) (G : PW) : pm_dn pm_sC 50 73 P st G = pm_go pm_sC 50 G (pm_oK 2 74 P st G) := pm_dn_eq (i := .iconst 2) (len := 1) rfl
theorem u_50_74 (P : PL) (st : List PV) (G : PW) : pm_dn pm_sC 50 74 P st G = pm_go pm_sC 50 G (pm_oMul 75 P st G) := pm_dn_eq (i := .imul) (len := 1) rfl
theorem u_50_75 (P : PL) (st : List PV) (G : PW) : pm_dn pm_sC 50 75 P st G = pm_go pm_sC 50 G (pm_oIS 1 76 P st G) := pm_dn_eq (i := .istore_n 1) (len := 1) rfl
theorem u_50_76 (P : PL) (st : List PV) (G : PW) : pm_dn pm_sC 50 76 P st G = pm_go pm_sC 50 G (pm_oGo (some 11) P st G) := pm_dn_eq (i := .goto (-65)) (len := 3) rfl
theorem u_50_79 (P : PL) (st : List PV) (G : PW) : pm_dn pm_sC 50 79 P st G = pm_go pm_sC 50 G (pm_oRv P st G) := pm_dn_eq (i := .return_) (len := 1) rfl
theorem ue_51 (a0 : Nat) (G : PW) : pm_ca pm_sC 51 [.inr (.inr a0)] G = pm_dn pm_sC 51 0 [some (.inr (.inr a0)), none, none] [] G := rfl
theorem u_51_0 (P : PL) (st : List PV) (G : PW) : pm_dn pm_sC 51 0 P st G = pm_go pm_sC 51 G (pm_oK 0 1 P st G) := pm_dn_eq (i := .iconst 0) (len := 1) rfl
theorem u_51_1 (P : PL) (st : List PV) (G : PW) : pm_dn pm_sC 51 1 P st G = pm_go pm_sC 51 G (pm_oIS 1 2 P st G) := pm_dn_eq (i := .istore_n 1) (len := 1) rfl
theorem u_51_2 (P : PL) (st : List PV) (G : PW) : pm_dn pm_sC 51 2 P st G = pm_go pm_sC 51 G (pm_oIL 1 3 P st G) := pm_dn_eq (i := .iload_n 1) (len := 1) rfl
theorem u_51_3 (P : PL) (st : List PV) (G : PW) : pm_dn pm_sC 51 3 P st G = pm_go pm_sC 51 G (pm_oAL 0 4 P st G) := pm_dn_eq (i := .aload_n 0) (len := 1) rfl
theorem u_51_4 (P : PL) (st : List PV) (G : PW) : pm_dn pm_sC 51 4 P st G = pm_go pm_sC 51 G (pm_oGf pm_sC 3 2 7 P st G) := pm_dn_eq (i := .getfield 46) (len := 3) rfl
theorem u_51_7 (P : PL) (st : List PV) (G : PW) : pm_dn pm_sC 51 7 P st G = pm_go pm_sC 51 G (pm_oIc .ge (some 39) 10 P st G) := pm_dn_eq (i := .if_icmp .ge 32) (len := 3) rfl
theorem u_51_10 (P : PL) (st : List PV) (G : PW) : pm_dn pm_sC 51 10 P st G = pm_go pm_sC 51 G (pm_oAL 0 11 P st G) := pm_dn_eq (i := .aload_n 0) (len := 1) rfl
theorem u_51_11 (P : PL) (st : List PV) (G : PW) : pm_dn pm_sC 51 11 P st G = pm_go pm_sC 51 G (pm_oGf pm_sC 3 13 14 P st G) := pm_dn_eq (i := .getfield 36) (len := 3) rfl
theorem u_51_14 (P : PL) (st : List PV) (G : PW) : pm_dn pm_sC 51 14 P st G = pm_go pm_sC 51 G (pm_oIL 1 15 P st G) := pm_dn_eq (i := .iload_n 1) (len := 1) rfl
theorem u_51_15 (P : PL) (st : List PV) (G : PW) : pm_dn pm_sC 51 15 P st G = pm_go pm_sC 51 G (pm_oAL 0 16 P st G) := pm_dn_eq (i := .aload_n 0) (len := 1) rfl
theorem u_51_16 (P : PL) (st : List PV) (G : PW) : pm_dn pm_sC 51 16 P st G = pm_go pm_sC 51 G (pm_oIL 1 17 P st G) := pm_dn_eq (i := .iload_n 1) (len := 1) rfl
theorem u_51_17 (P : PL) (st : List PV) (G : PW) : pm_dn pm_sC 51 17 P st G = pm_go pm_sC 51 G (pm_oCv pm_sC 38 1 3 3 20 P st G) := pm_dn_eq (i := .invokevirtual 121) (len := 3) rfl
theorem u_51_20 (P : PL) (st : List PV) (G : PW) : pm_dn pm_sC 51 20 P st G = pm_go pm_sC 51 G (pm_oK 16 22 P st G) := pm_dn_eq (i := .bipush 16) (len := 2) rfl
theorem u_51_22 (P : PL) (st : List PV) (G : PW) : pm_dn pm_sC 51 22 P st G = pm_go pm_sC 51 G (pm_oIc .ne (some 29) 25 P st G) := pm_dn_eq (i := .if_icmp .ne 7) (len := 3) rfl
theorem u_51_25 (P : PL) (st : List PV) (G : PW) : pm_dn pm_sC 51 25 P st G = pm_go pm_sC 51 G (pm_oK 1 26 P st G) := pm_dn_eq (i := .iconst 1) (len := 1) rfl
theorem u_51_26 (P : PL) (st : List PV) (G : PW) : pm_dn pm_sC 51 26 P st G = pm_go pm_sC 51 G (pm_oGo (some 30) P st G) := pm_dn_eq (i := .goto 4) (len := 3) rfl
theorem u_51_29 (P : PL) (st : List PV) (G : PW) : pm_dn pm_sC 51 29 P st G = pm_go pm_sC 51 G (pm_oK 0 30 P st G) := pm_dn_eq (i := .iconst 0) (len := 1) rfl
theorem u_51_30 (P : PL) (st : List PV) (G : PW) : pm_dn pm_sC 51 30 P st G = pm_go pm_sC 51 G (pm_oCs 77 3 3 33 P st G) := pm_dn_eq (i := .invokestatic 92) (len := 3) rfl
theorem u_51_33 (P : PL) (st : List PV) (G : PW) : pm_dn pm_sC 51 33 P st G = pm_go pm_sC 51 G (pm_oInc 1 1 36 P st G) := pm_dn_eq (i := .iinc 1 1) (len := 3) rfl
theorem u_51_36 (P : PL) (st : List PV) (G : PW) : pm_dn pm_sC 51 36 P st G = pm_go pm_sC 51 G (pm_oGo (some 2) P st G) := pm_dn_eq (i := .goto (-34)) (len := 3) rfl
theorem u_51_39 (P : PL) (st : List PV) (G : PW) : pm_dn pm_sC 51 39 P st G = pm_go pm_sC 51 G (pm_oK 0 40 P st G) := pm_dn_eq (i := .iconst 0) (len := 1) rfl
theorem u_51_40 (P : PL) (st : List PV) (G : PW) : pm_dn pm_sC 51 40 P st G = pm_go pm_sC 51 G (pm_oIS 1 41 P st G) := pm_dn_eq (i := .istore_n 1) (len := 1) rfl
theorem u_51_41 (P : PL) (st : List PV) (G : PW) : pm_dn pm_sC 51 41 P st G = pm_go pm_sC 51 G (pm_oIL 1 42 P st G) := pm_dn_eq (i := .iload_n 1) (len := 1) rfl
theorem u_51_42 (P : PL) (st : List PV) (G : PW) : pm_dn pm_sC 51 42 P st G = pm_go pm_sC 51 G (pm_oAL 0 43 P st G) := pm_dn_eq (i := .aload_n 0) (len := 1) rfl
theorem u_51_43 (P : PL) (st : List PV) (G : PW) : pm_dn pm_sC 51 43 P st G = pm_go pm_sC 51 G (pm_oCv pm_sC 36 0 1 3 46 P st G) := pm_dn_eq (i := .invokevirtual 61) (len := 3) rfl
theorem u_51_46 (P : PL) (st : List PV) (G : PW) : pm_dn pm_sC 51 46 P st G = pm_go pm_sC 51 G (pm_oIc .ge (some 110) 49 P st G) := pm_dn_eq (i := .if_icmp .ge 64) (len := 3) rfl
theorem u_51_49 (P : PL) (st : List PV) (G : PW) : pm_dn pm_sC 51 49 P st G = pm_go pm_sC 51 G (pm_oAL 0 50 P st G) := pm_dn_eq (i := .aload_n 0) (len := 1) rfl
theorem u_51_50 (P : PL) (st : List PV) (G : PW) : pm_dn pm_sC 51 50 P st G = pm_go pm_sC 51 G (pm_oIL 1 51 P st G) := pm_dn_eq (i := .iload_n 1) (len := 1) rfl
theorem u_51_51 (P : PL) (st : List PV) (G : PW) : pm_dn pm_sC 51 51 P st G = pm_go pm_sC 51 G (pm_oCv pm_sC 52 1 2 3 54 P st G) := pm_dn_eq (i := .invokevirtual 124) (len := 3) rfl
theorem u_51_54 (P : PL) (st : List PV) (G : PW) : pm_dn pm_sC 51 54 P st G = pm_go pm_sC 51 G (pm_oIS 2 55 P st G) := pm_dn_eq (i := .istore_n 2) (len := 1) rfl
theorem u_51_55 (P : PL) (st : List PV) (G : PW) : pm_dn pm_sC 51 55 P st G = pm_go pm_sC 51 G (pm_oAL 0 56 P st G) := pm_dn_eq (i := .aload_n 0) (len := 1) rfl
theorem u_51_56 (P : PL) (st : List PV) (G : PW) : pm_dn pm_sC 51 56 P st G = pm_go pm_sC 51 G (pm_oGf pm_sC 3 13 59 P st G) := pm_dn_eq (i := .getfield 36) (len := 3) rfl
theorem u_51_59 (P : PL) (st : List PV) (G : PW) : pm_dn pm_sC 51 59 P st G = pm_go pm_sC 51 G (pm_oAL 0 60 P st G) := pm_dn_eq (i := .aload_n 0) (len := 1) rfl
theorem u_51_60 (P : PL) (st : List PV) (G : PW) : pm_dn pm_sC 51 60 P st G = pm_go pm_sC 51 G (pm_oGf pm_sC 3 8 63 P st G) := pm_dn_eq (i := .getfield 21) (len := 3) rfl
theorem u_51_63 (P : PL) (st : List PV) (G : PW) : pm_dn pm_sC 51 63 P st G = pm_go pm_sC 51 G (pm_oIL 1 64 P st G) := pm_dn_eq (i := .iload_n 1) (len := 1) rfl
theorem u_51_64 (P : PL) (st : List PV) (G : PW) : pm_dn pm_sC 51 64 P st G = pm_go pm_sC 51 G (pm_oCs 76 2 2 67 P st G) := pm_dn_eq (i := .invokestatic 81) (len := 3) rfl
theorem u_51_67 (P : PL) (st : List PV) (G : PW) : pm_dn pm_sC 51 67 P st G = pm_go pm_sC 51 G (pm_oIL 2 68 P st G) := pm_dn_eq (i := .iload_n 2) (len := 1) rfl
theorem u_51_68 (P : PL) (st : List PV) (G : PW) : pm_dn pm_sC 51 68 P st G = pm_go pm_sC 51 G (pm_oK 2 69 P st G) := pm_dn_eq (i := .iconst 2) (len := 1) rfl
theorem u_51_69 (P : PL) (st : List PV) (G : PW) : pm_dn pm_sC 51 69 P st G = pm_go pm_sC 51 G (pm_oIc .ne (some 76) 72 P st G) := pm_dn_eq (i := .if_icmp .ne 7) (len := 3) rfl
theorem u_51_72 (P : PL) (st : List PV) (G : PW) : pm_dn pm_sC 51 72 P st G = pm_go pm_sC 51 G (pm_oK 1 73 P st G) := pm_dn_eq (i := .iconst 1) (len := 1) rfl
theorem u_51_73 (P : PL) (st : List PV) (G : PW) : pm_dn pm_sC 51 73 P st G = pm_go pm_sC 51 G (pm_oGo (some 77) P st G) := pm_dn_eq (i := .goto 4) (len := 3) rfl
theorem u_51_76 (P : PL) (st : List PV) (G : PW) : pm_dn pm_sC 51 76 P st G = pm_go pm_sC 51 G (pm_oK 0 77 P st G) := pm_dn_eq (i := .iconst 0) (len := 1) rfl
theorem u_51_77 (P : PL) (st : List PV) (G : PW) : pm_dn pm_sC 51 77 P st G = pm_go pm_sC 51 G (pm_oCs 77 3 3 80 P st G) := pm_dn_eq (i := .invokestatic 92) (len := 3) rfl
theorem u_51_80 (P : PL) (st : List PV) (G : PW) : pm_dn pm_sC 51 80 P st G = pm_go pm_sC 51 G (pm_oAL 0 81 P st G) := pm_dn_eq (i := .aload_n 0) (len := 1) rfl
theorem u_51_81 (P : PL) (st : List PV) (G : PW) : pm_dn pm_sC 51 81 P st G = pm_go pm_sC 51 G (pm_oGf pm_sC 3 13 84 P st G) := pm_dn_eq (i := .getfield 36) (len := 3) rfl
theorem u_51_84 (P : PL) (st : List PV) (G : PW) : pm_dn pm_sC 51 84 P st G = pm_go pm_sC 51 G (pm_oAL 0 85 P st G) := pm_dn_eq (i := .aload_n 0) (len := 1) rfl
theorem u_51_85 (P : PL) (st : List PV) (G : PW) : pm_dn pm_sC 51 85 P st G = pm_go pm_sC 51 G (pm_oGf pm_sC 3 9 88 P st G) := pm_dn_eq (i := .getfield 24) (len := 3) rfl
theorem u_51_88 (P : PL) (st : List PV) (G : PW) : pm_dn pm_sC 51 88 P st G = pm_go pm_sC 51 G (pm_oIL 1 89 P st G) := pm_dn_eq (i := .iload_n 1) (len := 1) rfl
theorem u_51_89 (P : PL) (st : List PV) (G : PW) : pm_dn pm_sC 51 89 P st G = pm_go pm_sC 51 G (pm_oCs 76 2 2 92 P st G) := pm_dn_eq (i := .invokestatic 81) (len := 3) rfl
theorem u_51_92 (P : PL) (st : List PV) (G : PW) : pm_dn pm_sC 51 92 P st G = pm_go pm_sC 51 G (pm_oIL 2 93 P st G) := pm_dn_eq (i := .iload_n 2) (len := 1) rfl
theorem u_51_93 (P : PL) (st : List PV) (G : PW) : pm_dn pm_sC 51 93 P st G = pm_go pm_sC 51 G (pm_oIf .le (some 100) 96 P st G) := pm_dn_eq (i := .ifCond .le 7) (len := 3) rfl
theorem u_51_96 (P : PL) (st : List PV) (G : PW) : pm_dn pm_sC 51 96 P st G = pm_go pm_sC 51 G (pm_oK 1 97 P st G) := pm_dn_eq (i := .iconst 1) (len := 1) rfl
theorem u_51_97 (P : PL) (st : List PV) (G : PW) : pm_dn pm_sC 51 97 P st G = pm_go pm_sC 51 G (pm_oGo (some 101) P st G) := pm_dn_eq (i := .goto 4) (len := 3) rfl
theorem u_51_100 (P : PL) (st : List PV) (G : PW) : pm_dn pm_sC 51 100 P st G = pm_go pm_sC 51 G (pm_oK 0 101 P st G) := pm_dn_eq (i := .iconst 0) (len := 1) rfl
theorem u_51_101 (P : PL) (st : List PV) (G : PW) : pm_dn pm_sC 51 101 P st G = pm_go pm_sC 51 G (pm_oCs 77 3 3 104 P st G) := pm_dn_eq (i := .invokestatic 92) (len := 3) rfl
theorem u_51_104 (P : PL) (st : List PV) (G : PW) : pm_dn pm_sC 51 104 P st G = pm_go pm_sC 51 G (pm_oInc 1 1 107 P st G) := pm_dn_eq (i := .iinc 1 1) (len := 3) rfl
theorem u_51_107 (P : PL) (st : List PV) (G : PW) : pm_dn pm_sC 51 107 P st G = pm_go pm_sC 51 G (pm_oGo (some 41) P st G) := pm_dn_eq (i := .goto (-66)) (len := 3) rfl
theorem u_51_110 (P : PL) (st : List PV) (G : PW) : pm_dn pm_sC 51 110 P st G = pm_go pm_sC 51 G (pm_oRv P st G) := pm_dn_eq (i := .return_) (len := 1) rfl
theorem ue_52 (a0 : Nat) (a1 : Int) (G : PW) : pm_ca pm_sC 52 [.inr (.inr a0), .inl a1] G = pm_dn pm_sC 52 0 [some (.inr (.inr a0)), some (.inl a1)] [] G := rfl
theorem u_52_0 (P : PL) (st : List PV) (G : PW) : pm_dn pm_sC 52 0 P st G = pm_go pm_sC 52 G (pm_oAL 0 1 P st G) := pm_dn_eq (i := .aload_n 0) (len := 1) rfl
theorem u_52_1 (P : PL) (st : List PV) (G : PW) : pm_dn pm_sC 52 1 P st G = pm_go pm_sC 52 G (pm_oGf pm_sC 3 13 4 P st G) := pm_dn_eq (i := .getfield 36) (len := 3) rfl
theorem u_52_4 (P : PL) (st : List PV) (G : PW) : pm_dn pm_sC 52 4 P st G = pm_go pm_sC 52 G (pm_oIL 1 5 P st G) := pm_dn_eq (i := .iload_n 1) (len := 1) rfl
theorem u_52_5 (P : PL) (st : List PV) (G : PW) : pm_dn pm_sC 52 5 P st G = pm_go pm_sC 52 G (pm_oK 0 6 P st G) := pm_dn_eq (i := .iconst 0) (len := 1) rfl
theorem u_52_6 (P : PL) (st : List PV) (G : PW) : pm_dn pm_sC 52 6 P st G = pm_go pm_sC 52 G (pm_oCs 79 2 2 9 P st G) := pm_dn_eq (i := .invokestatic 118) (len := 3) rfl
theorem u_52_9 (P : PL) (st : List PV) (G : PW) : pm_dn pm_sC 52 9 P st G = pm_go pm_sC 52 G (pm_oCs 76 2 2 12 P st G) := pm_dn_eq (i := .invokestatic 81) (len := 3) rfl
theorem u_52_12 (P : PL) (st : List PV) (G : PW) : pm_dn pm_sC 52 12 P st G = pm_go pm_sC 52 G (pm_oAL 0 13 P st G) := pm_dn_eq (i := .aload_n 0) (len := 1) rfl
theorem u_52_13 (P : PL) (st : List PV) (G : PW) : pm_dn pm_sC 52 13 P st G = pm_go pm_sC 52 G (pm_oGf pm_sC 3 13 16 P st G) := pm_dn_eq (i := .getfield 36) (len := 3) rfl
theorem u_52_16 (P : PL) (st : List PV) (G : PW) : pm_dn pm_sC 52 16 P st G = pm_go pm_sC 52 G (pm_oIL 1 17 P st G) := pm_dn_eq (i := .iload_n 1) (len := 1) rfl
theorem u_52_17 (P : PL) (st : List PV) (G : PW) : pm_dn pm_sC 52 17 P st G = pm_go pm_sC 52 G (pm_oK 1 18 P st G) := pm_dn_eq (i := .iconst 1) (len := 1) rfl
theorem u_52_18 (P : PL) (st : List PV) (G : PW) : pm_dn pm_sC 52 18 P st G = pm_go pm_sC 52 G (pm_oCs 79 2 2 21 P st G) := pm_dn_eq (i := .invokestatic 118) (len := 3) rfl
theorem u_52_21 (P : PL) (st : List PV) (G : PW) : pm_dn pm_sC 52 21 P st G = pm_go pm_sC 52 G (pm_oCs 76 2 2 24 P st G) := pm_dn_eq (i := .invokestatic 81) (len := 3) rfl
theorem u_52_24 (P : PL) (st : List PV) (G : PW) : pm_dn pm_sC 52 24 P st G = pm_go pm_sC 52 G (pm_oAdd 25 P st G) := pm_dn_eq (i := .iadd) (len := 1) rfl
theorem u_52_25 (P : PL) (st : List PV) (G : PW) : pm_dn pm_sC 52 25 P st G = pm_go pm_sC 52 G (pm_oRi 0 P st G) := pm_dn_eq (i := .ireturn) (len := 1) rfl
theorem ue_53 (a0 : Nat) (G : PW) : pm_ca pm_sC 53 [.inr (.inr a0)] G = pm_dn pm_sC 53 0 [some (.inr (.inr a0)), none, none, none, none, none, none] [] G := rfl
theorem u_53_0 (P : PL) (st : List PV) (G : PW) : pm_dn pm_sC 53 0 P st G = pm_go pm_sC 53 G (pm_oK 0 1 P st G) := pm_dn_eq (i := .iconst 0) (len := 1) rfl
theorem u_53_1 (P : PL) (st : List PV) (G : PW) : pm_dn pm_sC 53 1 P st G = pm_go pm_sC 53 G (pm_oIS 1 2 P st G) := pm_dn_eq (i := .istore_n 1) (len := 1) rfl
theorem u_53_2 (P : PL) (st : List PV) (G : PW) : pm_dn pm_sC 53 2 P st G = pm_go pm_sC 53 G (pm_oAL 0 3 P st G) := pm_dn_eq (i := .aload_n 0) (len := 1) rfl
theorem u_53_3 (P : PL) (st : List PV) (G : PW) : pm_dn pm_sC 53 3 P st G = pm_go pm_sC 53 G (pm_oCv pm_sC 41 0 1 3 6 P st G) := pm_dn_eq (i := .invokevirtual 109) (len := 3) rfl
theorem u_53_6 (P : PL) (st : List PV) (G : PW) : pm_dn pm_sC 53 6 P st G = pm_go pm_sC 53 G (pm_oIS 2 7 P st G) := pm_dn_eq (i := .istore_n 2) (len := 1) rfl
theorem u_53_7 (P : PL) (st : List PV) (G : PW) : pm_dn pm_sC 53 7 P st G = pm_go pm_sC 53 G (pm_oIL 2 8 P st G) := pm_dn_eq (i := .iload_n 2) (len := 1) rfl
theorem u_53_8 (P : PL) (st : List PV) (G : PW) : pm_dn pm_sC 53 8 P st G = pm_go pm_sC 53 G (pm_oK 1 9 P st G) := pm_dn_eq (i := .iconst 1) (len := 1) rfl
theorem u_53_9 (P : PL) (st : List PV) (G : PW) : pm_dn pm_sC 53 9 P st G = pm_go pm_sC 53 G (pm_oIc .lt (some 119) 12 P st G) := pm_dn_eq (i := .if_icmp .lt 110) (len := 3) rfl
theorem u_53_12 (P : PL) (st : List PV) (G : PW) : pm_dn pm_sC 53 12 P st G = pm_go pm_sC 53 G (pm_oAL 0 13 P st G) := pm_dn_eq (i := .aload_n 0) (len := 1) rfl
theorem u_53_13 (P : PL) (st : List PV) (G : PW) : pm_dn pm_sC 53 13 P st G = pm_go pm_sC 53 G (pm_oIL 2 14 P st G) := pm_dn_eq (i := .iload_n 2) (len := 1) rfl
theorem u_53_14 (P : PL) (st : List PV) (G : PW) : pm_dn pm_sC 53 14 P st G = pm_go pm_sC 53 G (pm_oCv pm_sC 43 1 4 3 17 P st G) := pm_dn_eq (i := .invokevirtual 112) (len := 3) rfl
theorem u_53_17 (P : PL) (st : List PV) (G : PW) : pm_dn pm_sC 53 17 P st G = pm_go pm_sC 53 G (pm_oIS 3 18 P st G) := pm_dn_eq (i := .istore_n 3) (len := 1) rfl
theorem u_53_18 (P : PL) (st : List PV) (G : PW) : pm_dn pm_sC 53 18 P st G = pm_go pm_sC 53 G (pm_oIL 3 19 P st G) := pm_dn_eq (i := .iload_n 3) (len := 1) rfl
theorem u_53_19 (P : PL) (st : List PV) (G : PW) : pm_dn pm_sC 53 19 P st G = pm_go pm_sC 53 G (pm_oAL 0 20 P st G) := pm_dn_eq (i := .aload_n 0) (len := 1) rfl
theorem u_53_20 (P : PL) (st : List PV) (G : PW) : pm_dn pm_sC 53 20 P st G = pm_go pm_sC 53 G (pm_oIL 2 21 P st G) := pm_dn_eq (i := .iload_n 2) (len := 1) rfl
theorem u_53_21 (P : PL) (st : List PV) (G : PW) : pm_dn pm_sC 53 21 P st G = pm_go pm_sC 53 G (pm_oCv pm_sC 42 1 2 3 24 P st G) := pm_dn_eq (i := .invokevirtual 89) (len := 3) rfl
theorem u_53_24 (P : PL) (st : List PV) (G : PW) : pm_dn pm_sC 53 24 P st G = pm_go pm_sC 53 G (pm_oAdd 25 P st G) := pm_dn_eq (i := .iadd) (len := 1) rfl
theorem u_53_25 (P : PL) (st : List PV) (G : PW) : pm_dn pm_sC 53 25 P st G = pm_go pm_sC 53 G (pm_oIS 4 27 P st G) := pm_dn_eq (i := .istore 4) (len := 2) rfl
theorem u_53_27 (P : PL) (st : List PV) (G : PW) : pm_dn pm_sC 53 27 P st G = pm_go pm_sC 53 G (pm_oK 0 28 P st G) := pm_dn_eq (i := .iconst 0) (len := 1) rfl
theorem u_53_28 (P : PL) (st : List PV) (G : PW) : pm_dn pm_sC 53 28 P st G = pm_go pm_sC 53 G (pm_oIS 5 30 P st G) := pm_dn_eq (i := .istore 5) (len := 2) rfl
theorem u_53_30 (P : PL) (st : List PV) (G : PW) : pm_dn pm_sC 53 30 P st G = pm_go pm_sC 53 G (pm_oIL 3 31 P st G) := pm_dn_eq (i := .iload_n 3) (len := 1) rfl
theorem u_53_31 (P : PL) (st : List PV) (G : PW) : pm_dn pm_sC 53 31 P st G = pm_go pm_sC 53 G (pm_oIS 6 33 P st G) := pm_dn_eq (i := .istore 6) (len := 2) rfl
theorem u_53_33 (P : PL) (st : List PV) (G : PW) : pm_dn pm_sC 53 33 P st G = pm_go pm_sC 53 G (pm_oIL 6 35 P st G) := pm_dn_eq (i := .iload 6) (len := 2) rfl
theorem u_53_35 (P : PL) (st : List PV) (G : PW) : pm_dn pm_sC 53 35 P st G = pm_go pm_sC 53 G (pm_oIL 4 37 P st G) := pm_dn_eq (i := .iload 4) (len := 2) rfl
theorem u_53_37 (P : PL) (st : List PV) (G : PW) : pm_dn pm_sC 53 37 P st G = pm_go pm_sC 53 G (pm_oIc .ge (some 65) 40 P st G) := pm_dn_eq (i := .if_icmp .ge 28) (len := 3) rfl
theorem u_53_40 (P : PL) (st : List PV) (G : PW) : pm_dn pm_sC 53 40 P st G = pm_go pm_sC 53 G (pm_oIL 5 42 P st G) := pm_dn_eq (i := .iload 5) (len := 2) rfl
theorem u_53_42 (P : PL) (st : List PV) (G : PW) : pm_dn pm_sC 53 42 P st G = pm_go pm_sC 53 G (pm_oAL 0 43 P st G) := pm_dn_eq (i := .aload_n 0) (len := 1) rfl
theorem u_53_43 (P : PL) (st : List PV) (G : PW) : pm_dn pm_sC 53 43 P st G = pm_go pm_sC 53 G (pm_oIL 6 45 P st G) := pm_dn_eq (i := .iload 6) (len := 2) rfl
theorem u_53_45 (P : PL) (st : List PV) (G : PW) : pm_dn pm_sC 53 45 P st G = pm_go pm_sC 53 G (pm_oCv pm_sC 52 1 2 3 48 P st G) := pm_dn_eq (i := .invokevirtual 124) (len := 3) rfl
theorem u_53_48 (P : PL) (st : List PV) (G : PW) : pm_dn pm_sC 53 48 P st G = pm_go pm_sC 53 G (pm_oIf .ne (some 55) 51 P st G) := pm_dn_eq (i := .ifCond .ne 7) (len := 3) rfl
theorem u_53_51 (P : PL) (st : List PV) (G : PW) : pm_dn pm_sC 53 51 P st G = pm_go pm_sC 53 G (pm_oK 1 52 P st G) := pm_dn_eq (i := .iconst 1) (len := 1) rfl
theorem u_53_52 (P : PL) (st : List PV) (G : PW) : pm_dn pm_sC 53 52 P st G = pm_go pm_sC 53 G (pm_oGo (some 56) P st G) := pm_dn_eq (i := .goto 4) (len := 3) rfl
theorem u_53_55 (P : PL) (st : List PV) (G : PW) : pm_dn pm_sC 53 55 P st G = pm_go pm_sC 53 G (pm_oK 0 56 P st G) := pm_dn_eq (i := .iconst 0) (len := 1) rfl
theorem u_53_56 (P : PL) (st : List PV) (G : PW) : pm_dn pm_sC 53 56 P st G = pm_go pm_sC 53 G (pm_oAdd 57 P st G) := pm_dn_eq (i := .iadd) (len := 1) rfl
theorem u_53_57 (P : PL) (st : List PV) (G : PW) : pm_dn pm_sC 53 57 P st G = pm_go pm_sC 53 G (pm_oIS 5 59 P st G) := pm_dn_eq (i := .istore 5) (len := 2) rfl
theorem u_53_59 (P : PL) (st : List PV) (G : PW) : pm_dn pm_sC 53 59 P st G = pm_go pm_sC 53 G (pm_oInc 6 1 62 P st G) := pm_dn_eq (i := .iinc 6 1) (len := 3) rfl
theorem u_53_62 (P : PL) (st : List PV) (G : PW) : pm_dn pm_sC 53 62 P st G = pm_go pm_sC 53 G (pm_oGo (some 33) P st G) := pm_dn_eq (i := .goto (-29)) (len := 3) rfl
theorem u_53_65 (P : PL) (st : List PV) (G : PW) : pm_dn pm_sC 53 65 P st G = pm_go pm_sC 53 G (pm_oIL 3 66 P st G) := pm_dn_eq (i := .iload_n 3) (len := 1) rfl
theorem u_53_66 (P : PL) (st : List PV) (G : PW) : pm_dn pm_sC 53 66 P st G = pm_go pm_sC 53 G (pm_oIS 6 68 P st G) := pm_dn_eq (i := .istore 6) (len := 2) rfl
theorem u_53_68 (P : PL) (st : List PV) (G : PW) : pm_dn pm_sC 53 68 P st G = pm_go pm_sC 53 G (pm_oIL 6 70 P st G) := pm_dn_eq (i := .iload 6) (len := 2) rfl
theorem u_53_70 (P : PL) (st : List PV) (G : PW) : pm_dn pm_sC 53 70 P st G = pm_go pm_sC 53 G (pm_oIL 4 72 P st G) := pm_dn_eq (i := .iload 4) (len := 2) rfl
theorem u_53_72 (P : PL) (st : List PV) (G : PW) : pm_dn pm_sC 53 72 P st G = pm_go pm_sC 53 G (pm_oIc .ge (some 108) 75 P st G) := pm_dn_eq (i := .if_icmp .ge 36) (len := 3) rfl
theorem u_53_75 (P : PL) (st : List PV) (G : PW) : pm_dn pm_sC 53 75 P st G = pm_go pm_sC 53 G (pm_oAL 0 76 P st G) := pm_dn_eq (i := .aload_n 0) (len := 1) rfl
theorem u_53_76 (P : PL) (st : List PV) (G : PW) : pm_dn pm_sC 53 76 P st G = pm_go pm_sC 53 G (pm_oGf pm_sC 3 10 79 P st G) := pm_dn_eq (i := .getfield 27) (len := 3) rfl
theorem u_53_79 (P : PL) (st : List PV) (G : PW) : pm_dn pm_sC 53 79 P st G = pm_go pm_sC 53 G (pm_oIL 6 81 P st G) := pm_dn_eq (i := .iload 6) (len := 2) rfl
theorem u_53_81 (P : PL) (st : List PV) (G : PW) : pm_dn pm_sC 53 81 P st G = pm_go pm_sC 53 G (pm_oIL 1 82 P st G) := pm_dn_eq (i := .iload_n 1) (len := 1) rfl
theorem u_53_82 (P : PL) (st : List PV) (G : PW) : pm_dn pm_sC 53 82 P st G = pm_go pm_sC 53 G (pm_oK 3 83 P st G) := pm_dn_eq (i := .iconst 3) (len := 1) rfl
theorem u_53_83 (P : PL) (st : List PV) (G : PW) : pm_dn pm_sC 53 83 P st G = pm_go pm_sC 53 G (pm_oAdd 84 P st G) := pm_dn_eq (i := .iadd) (len := 1) rfl
theorem u_53_84 (P : PL) (st : List PV) (G : PW) : pm_dn pm_sC 53 84 P st G = pm_go pm_sC 53 G (pm_oCs 77 3 3 87 P st G) := pm_dn_eq (i := .invokestatic 92) (len := 3) rfl
theorem u_53_87 (P : PL) (st : List PV) (G : PW) : pm_dn pm_sC 53 87 P st G = pm_go pm_sC 53 G (pm_oAL 0 88 P st G) := pm_dn_eq (i := .aload_n 0) (len := 1) rfl
theorem u_53_88 (P : PL) (st : List PV) (G : PW) : pm_dn pm_sC 53 88 P st G = pm_go pm_sC 53 G (pm_oGf pm_sC 3 11 91 P st G) := pm_dn_eq (i := .getfield 30) (len := 3) rfl
theorem u_53_91 (P : PL) (st : List PV) (G : PW) : pm_dn pm_sC 53 91 P st G = pm_go pm_sC 53 G (pm_oIL 6 93 P st G) := pm_dn_eq (i := .iload 6) (len := 2) rfl
theorem u_53_93 (P : PL) (st : List PV) (G : PW) : pm_dn pm_sC 53 93 P st G = pm_go pm_sC 53 G (pm_oIL 1 94 P st G) := pm_dn_eq (i := .iload_n 1) (len := 1) rfl
theorem u_53_94 (P : PL) (st : List PV) (G : PW) : pm_dn pm_sC 53 94 P st G = pm_go pm_sC 53 G (pm_oK 2 95 P st G) := pm_dn_eq (i := .iconst 2) (len := 1) rfl
theorem u_53_95 (P : PL) (st : List PV) (G : PW) : pm_dn pm_sC 53 95 P st G = pm_go pm_sC 53 G (pm_oAdd 96 P st G) := pm_dn_eq (i := .iadd) (len := 1) rfl
theorem u_53_96 (P : PL) (st : List PV) (G : PW) : pm_dn pm_sC 53 96 P st G = pm_go pm_sC 53 G (pm_oIL 5 98 P st G) := pm_dn_eq (i := .iload 5) (len := 2) rfl
theorem u_53_98 (P : PL) (st : List PV) (G : PW) : pm_dn pm_sC 53 98 P st G = pm_go pm_sC 53 G (pm_oAdd 99 P st G) := pm_dn_eq (i := .iadd) (len := 1) rfl
theorem u_53_99 (P : PL) (st : List PV) (G : PW) : pm_dn pm_sC 53 99 P st G = pm_go pm_sC 53 G (pm_oCs 77 3 3 102 P st G) := pm_dn_eq (i := .invokestatic 92) (len := 3) rfl
theorem u_53_102 (P : PL) (st : List PV) (G : PW) : pm_dn pm_sC 53 102 P st G = pm_go pm_sC 53 G (pm_oInc 6 1 105 P st G) := pm_dn_eq (i := .iinc 6 1) (len := 3) rfl
theorem u_53_105 (P : PL) (st : List PV) (G : PW) : pm_dn pm_sC 53 105 P st G = pm_go pm_sC 53 G (pm_oGo (some 68) P st G) := pm_dn_eq (i := .goto (-37)) (len := 3) rfl
theorem u_53_108 (P : PL) (st : List PV) (G : PW) : pm_dn pm_sC 53 108 P st G = pm_go pm_sC 53 G (pm_oIL 1 109 P st G) := pm_dn_eq (i := .iload_n 1) (len := 1) rfl
theorem u_53_109 (P : PL) (st : List PV) (G : PW) : pm_dn pm_sC 53 109 P st G = pm_go pm_sC 53 G (pm_oIL 5 111 P st G) := pm_dn_eq (i := .iload 5) (len := 2) rfl
theorem u_53_111 (P : PL) (st : List PV) (G : PW) : pm_dn pm_sC 53 111 P st G = pm_go pm_sC 53 G (pm_oAdd 112 P st G) := pm_dn_eq (i := .iadd) (len := 1) rfl
theorem u_53_112 (P : PL) (st : List PV) (G : PW) : pm_dn pm_sC 53 112 P st G = pm_go pm_sC 53 G (pm_oIS 1 113 P st G) := pm_dn_eq (i := .istore_n 1) (len := 1) rfl
theorem u_53_113 (P : PL) (st : List PV) (G : PW) : pm_dn pm_sC 53 113 P st G = pm_go pm_sC 53 G (pm_oInc 2 (-1) 116 P st G) := pm_dn_eq (i := .iinc 2 (-1)) (len := 3) rfl
theorem u_53_116 (P : PL) (st : List PV) (G : PW) : pm_dn pm_sC 53 116 P st G = pm_go pm_sC 53 G (pm_oGo (some 7) P st G) := pm_dn_eq (i := .goto (-109)) (len := 3) rfl
theorem u_53_119 (P : PL) (st : List PV) (G : PW) : pm_dn pm_sC 53 119 P st G = pm_go pm_sC 53 G (pm_oRv P st G) := pm_dn_eq (i := .return_) (len := 1) rfl
theorem ue_54 (a0 : Nat) (a1 : Int) (a2 : Int) (G : PW) : pm_ca pm_sC 54 [.inr (.inr a0), .inl a1, .inl a2] G = pm_dn pm_sC 54 0 [some (.inr (.inr a0)), some (.inl a1), some (.inl a2)] [] G := rfl
theorem u_54_0 (P : PL) (st : List PV) (G : PW) : pm_dn pm_sC 54 0 P st G = pm_go pm_sC 54 G (pm_oIL 1 1 P st G) := pm_dn_eq (i := .iload_n 1) (len := 1) rfl
theorem u_54_1 (P : PL) (st : List PV) (G : PW) : pm_dn pm_sC 54 1 P st G = pm_go pm_sC 54 G (pm_oK 2 2 P st G) := pm_dn_eq (i := .iconst 2) (len := 1) rfl
theorem u_54_2 (P : PL) (st : List PV) (G : PW) : pm_dn pm_sC 54 2 P st G = pm_go pm_sC 54 G (pm_oIc .lt (some 20) 5 P st G) := pm_dn_eq (i := .if_icmp .lt 18) (len := 3) rfl
theorem u_54_5 (P : PL) (st : List PV) (G : PW) : pm_dn pm_sC 54 5 P st G = pm_go pm_sC 54 G (pm_oIL 1 6 P st G) := pm_dn_eq (i := .iload_n 1) (len := 1) rfl
theorem u_54_6 (P : PL) (st : List PV) (G : PW) : pm_dn pm_sC 54 6 P st G = pm_go pm_sC 54 G (pm_oK 16 8 P st G) := pm_dn_eq (i := .bipush 16) (len := 2) rfl
theorem u_54_8 (P : PL) (st : List PV) (G : PW) : pm_dn pm_sC 54 8 P st G = pm_go pm_sC 54 G (pm_oIc .gt (some 20) 11 P st G) := pm_dn_eq (i := .if_icmp .gt 12) (len := 3) rfl
theorem u_54_11 (P : PL) (st : List PV) (G : PW) : pm_dn pm_sC 54 11 P st G = pm_go pm_sC 54 G (pm_oIL 2 12 P st G) := pm_dn_eq (i := .iload_n 2) (len := 1) rfl
theorem u_54_12 (P : PL) (st : List PV) (G : PW) : pm_dn pm_sC 54 12 P st G = pm_go pm_sC 54 G (pm_oIf .lt (some 20) 15 P st G) := pm_dn_eq (i := .ifCond .lt 8) (len := 3) rfl
theorem u_54_15 (P : PL) (st : List PV) (G : PW) : pm_dn pm_sC 54 15 P st G = pm_go pm_sC 54 G (pm_oIL 2 16 P st G) := pm_dn_eq (i := .iload_n 2) (len := 1) rfl
theorem u_54_16 (P : PL) (st : List PV) (G : PW) : pm_dn pm_sC 54 16 P st G = pm_go pm_sC 54 G (pm_oK 1 17 P st G) := pm_dn_eq (i := .iconst 1) (len := 1) rfl
theorem u_54_17 (P : PL) (st : List PV) (G : PW) : pm_dn pm_sC 54 17 P st G = pm_go pm_sC 54 G (pm_oIc .le (some 23) 20 P st G) := pm_dn_eq (i := .if_icmp .le 6) (len := 3) rfl
theorem u_54_20 (P : PL) (st : List PV) (G : PW) : pm_dn pm_sC 54 20 P st G = pm_go pm_sC 54 G (pm_oK (-2) 22 P st G) := pm_dn_eq (i := .bipush (-2)) (len := 2) rfl
theorem u_54_22 (P : PL) (st : List PV) (G : PW) : pm_dn pm_sC 54 22 P st G = pm_go pm_sC 54 G (pm_oRi 0 P st G) := pm_dn_eq (i := .ireturn) (len := 1) rfl
theorem u_54_23 (P : PL) (st : List PV) (G : PW) : pm_dn pm_sC 54 23 P st G = pm_go pm_sC 54 G (pm_oAL 0 24 P st G) := pm_dn_eq (i := .aload_n 0) (len := 1) rfl
theorem u_54_24 (P : PL) (st : List PV) (G : PW) : pm_dn pm_sC 54 24 P st G = pm_go pm_sC 54 G (pm_oIL 1 25 P st G) := pm_dn_eq (i := .iload_n 1) (len := 1) rfl
theorem u_54_25 (P : PL) (st : List PV) (G : PW) : pm_dn pm_sC 54 25 P st G = pm_go pm_sC 54 G (pm_oIL 2 26 P st G) := pm_dn_eq (i := .iload_n 2) (len := 1) rfl
theorem u_54_26 (P : PL) (st : List PV) (G : PW) : pm_dn pm_sC 54 26 P st G = pm_go pm_sC 54 G (pm_oCv pm_sC 63 2 3 5 29 P st G) := pm_dn_eq (i := .invokevirtual 50) (len := 3) rfl
theorem u_54_29 (P : PL) (st : List PV) (G : PW) : pm_dn pm_sC 54 29 P st G = pm_go pm_sC 54 G (pm_oAL 0 30 P st G) := pm_dn_eq (i := .aload_n 0) (len := 1) rfl
theorem u_54_30 (P : PL) (st : List PV) (G : PW) : pm_dn pm_sC 54 30 P st G = pm_go pm_sC 54 G (pm_oCv pm_sC 73 0 2 5 33 P st G) := pm_dn_eq (i := .invokevirtual 54) (len := 3) rfl
theorem u_54_33 (P : PL) (st : List PV) (G : PW) : pm_dn pm_sC 54 33 P st G = pm_go pm_sC 54 G (pm_oAL 0 34 P st G) := pm_dn_eq (i := .aload_n 0) (len := 1) rfl
theorem u_54_34 (P : PL) (st : List PV) (G : PW) : pm_dn pm_sC 54 34 P st G = pm_go pm_sC 54 G (pm_oGf pm_sC 5 4 37 P st G) := pm_dn_eq (i := .getfield 29) (len := 3) rfl
theorem u_54_37 (P : PL) (st : List PV) (G : PW) : pm_dn pm_sC 54 37 P st G = pm_go pm_sC 54 G (pm_oCv pm_sC 31 0 1 1 40 P st G) := pm_dn_eq (i := .invokevirtual 57) (len := 3) rfl
theorem u_54_40 (P : PL) (st : List PV) (G : PW) : pm_dn pm_sC 54 40 P st G = pm_go pm_sC 54 G (pm_oAL 0 41 P st G) := pm_dn_eq (i := .aload_n 0) (len := 1) rfl
theorem u_54_41 (P : PL) (st : List PV) (G : PW) : pm_dn pm_sC 54 41 P st G = pm_go pm_sC 54 G (pm_oGf pm_sC 5 2 44 P st G) := pm_dn_eq (i := .getfield 19) (len := 3) rfl
theorem u_54_44 (P : PL) (st : List PV) (G : PW) : pm_dn pm_sC 54 44 P st G = pm_go pm_sC 54 G (pm_oGf pm_sC 0 0 47 P st G) := pm_dn_eq (i := .getfield 60) (len := 3) rfl
theorem u_54_47 (P : PL) (st : List PV) (G : PW) : pm_dn pm_sC 54 47 P st G = pm_go pm_sC 54 G (pm_oGf pm_sC 3 4 50 P st G) := pm_dn_eq (i := .getfield 64) (len := 3) rfl
theorem u_54_50 (P : PL) (st : List PV) (G : PW) : pm_dn pm_sC 54 50 P st G = pm_go pm_sC 54 G (pm_oRi 0 P st G) := pm_dn_eq (i := .ireturn) (len := 1) rfl
theorem ue_55 (a0 : Nat) (a1 : Int) (a2 : Int) (G : PW) : pm_ca pm_sC 55 [.inr (.inr a0), .inl a1, .inl a2] G = pm_dn pm_sC 55 0 [some (.inr (.inr a0)), some (.inl a1), some (.inl a2), none, none] [] G := rfl
theorem u_55_0 (P : PL) (st : List PV) (G : PW) : pm_dn pm_sC 55 0 P st G = pm_go pm_sC 55 G (pm_oAL 0 1 P st G) := pm_dn_eq (i := .aload_n 0) (len := 1) rfl
theorem u_55_1 (P : PL) (st : List PV) (G : PW) : pm_dn pm_sC 55 1 P st G = pm_go pm_sC 55 G (pm_oGf pm_sC 5 2 4 P st G) := pm_dn_eq (i := .getfield 19) (len := 3) rfl
theorem u_55_4 (P : PL) (st : List PV) (G : PW) : pm_dn pm_sC 55 4 P st G = pm_go pm_sC 55 G (pm_oGf pm_sC 0 0 7 P st G) := pm_dn_eq (i := .getfield 60) (len := 3) rfl
theorem u_55_7 (P : PL) (st : List PV) (G : PW) : pm_dn pm_sC 55 7 P st G = pm_go pm_sC 55 G (pm_oIL 1 8 P st G) := pm_dn_eq (i := .iload_n 1) (len := 1) rfl
theorem u_55_8 (P : PL) (st : List PV) (G : PW) : pm_dn pm_sC 55 8 P st G = pm_go pm_sC 55 G (pm_oCv pm_sC 35 1 2 3 11 P st G) := pm_dn_eq (i := .invokevirtual 81) (len := 3) rfl
theorem u_55_11 (P : PL) (st : List PV) (G : PW) : pm_dn pm_sC 55 11 P st G = pm_go pm_sC 55 G (pm_oIf .ne (some 16) 14 P st G) := pm_dn_eq (i := .ifCond .ne 5) (len := 3) rfl
theorem u_55_14 (P : PL) (st : List PV) (G : PW) : pm_dn pm_sC 55 14 P st G = pm_go pm_sC 55 G (pm_oK (-1) 15 P st G) := pm_dn_eq (i := .iconst (-1)) (len := 1) rfl
theorem u_55_15 (P : PL) (st : List PV) (G : PW) : pm_dn pm_sC 55 15 P st G = pm_go pm_sC 55 G (pm_oRi 0 P st G) := pm_dn_eq (i := .ireturn) (len := 1) rfl
theorem u_55_16 (P : PL) (st : List PV) (G : PW) : pm_dn pm_sC 55 16 P st G = pm_go pm_sC 55 G (pm_oIL 2 17 P st G) := pm_dn_eq (i := .iload_n 2) (len := 1) rfl
theorem u_55_17 (P : PL) (st : List PV) (G : PW) : pm_dn pm_sC 55 17 P st G = pm_go pm_sC 55 G (pm_oIf .lt (some 25) 20 P st G) := pm_dn_eq (i := .ifCond .lt 8) (len := 3) rfl
theorem u_55_20 (P : PL) (st : List PV) (G : PW) : pm_dn pm_sC 55 20 P st G = pm_go pm_sC 55 G (pm_oIL 2 21 P st G) := pm_dn_eq (i := .iload_n 2) (len := 1) rfl
theorem u_55_21 (P : PL) (st : List PV) (G : PW) : pm_dn pm_sC 55 21 P st G = pm_go pm_sC 55 G (pm_oK 1 22 P st G) := pm_dn_eq (i := .iconst 1) (len := 1) rfl
theorem u_55_22 (P : PL) (st : List PV) (G : PW) : pm_dn pm_sC 55 22 P st G = pm_go pm_sC 55 G (pm_oIc .le (some 28) 25 P st G) := pm_dn_eq (i := .if_icmp .le 6) (len := 3) rfl
theorem u_55_25 (P : PL) (st : List PV) (G : PW) : pm_dn pm_sC 55 25 P st G = pm_go pm_sC 55 G (pm_oK (-2) 27 P st G) := pm_dn_eq (i := .bipush (-2)) (len := 2) rfl
theorem u_55_27 (P : PL) (st : List PV) (G : PW) : pm_dn pm_sC 55 27 P st G = pm_go pm_sC 55 G (pm_oRi 0 P st G) := pm_dn_eq (i := .ireturn) (len := 1) rfl
theorem u_55_28 (P : PL) (st : List PV) (G : PW) : pm_dn pm_sC 55 28 P st G = pm_go pm_sC 55 G (pm_oAL 0 29 P st G) := pm_dn_eq (i := .aload_n 0) (len := 1) rfl
theorem u_55_29 (P : PL) (st : List PV) (G : PW) : pm_dn pm_sC 55 29 P st G = pm_go pm_sC 55 G (pm_oGf pm_sC 5 2 32 P st G) := pm_dn_eq (i := .getfield 19) (len := 3) rfl
theorem u_55_32 (P : PL) (st : List PV) (G : PW) : pm_dn pm_sC 55 32 P st G = pm_go pm_sC 55 G (pm_oIL 1 33 P st G) := pm_dn_eq (i := .iload_n 1) (len := 1) rfl
theorem u_55_33 (P : PL) (st : List PV) (G : PW) : pm_dn pm_sC 55 33 P st G = pm_go pm_sC 55 G (pm_oCv pm_sC 9 1 2 0 36 P st G) := pm_dn_eq (i := .invokevirtual 84) (len := 3) rfl
theorem u_55_36 (P : PL) (st : List PV) (G : PW) : pm_dn pm_sC 55 36 P st G = pm_go pm_sC 55 G (pm_oIf .ne (some 42) 39 P st G) := pm_dn_eq (i := .ifCond .ne 6) (len := 3) rfl
theorem u_55_39 (P : PL) (st : List PV) (G : PW) : pm_dn pm_sC 55 39 P st G = pm_go pm_sC 55 G (pm_oK (-5) 41 P st G) := pm_dn_eq (i := .bipush (-5)) (len := 2) rfl
theorem u_55_41 (P : PL) (st : List PV) (G : PW) : pm_dn pm_sC 55 41 P st G = pm_go pm_sC 55 G (pm_oRi 0 P st G) := pm_dn_eq (i := .ireturn) (len := 1) rfl
theorem u_55_42 (P : PL) (st : List PV) (G : PW) : pm_dn pm_sC 55 42 P st G = pm_go pm_sC 55 G (pm_oAL 0 43 P st G) := pm_dn_eq (i := .aload_n 0) (len := 1) rfl
theorem u_55_43 (P : PL) (st : List PV) (G : PW) : pm_dn pm_sC 55 43 P st G = pm_go pm_sC 55 G (pm_oGf pm_sC 5 2 46 P st G) := pm_dn_eq (i := .getfield 19) (len := 3) rfl
theorem u_55_46 (P : PL) (st : List PV) (G : PW) : pm_dn pm_sC 55 46 P st G = pm_go pm_sC 55 G (pm_oIL 1 47 P st G) := pm_dn_eq (i := .iload_n 1) (len := 1) rfl
theorem u_55_47 (P : PL) (st : List PV) (G : PW) : pm_dn pm_sC 55 47 P st G = pm_go pm_sC 55 G (pm_oIL 2 48 P st G) := pm_dn_eq (i := .iload_n 2) (len := 1) rfl
theorem u_55_48 (P : PL) (st : List PV) (G : PW) : pm_dn pm_sC 55 48 P st G = pm_go pm_sC 55 G (pm_oCv pm_sC 5 2 3 0 51 P st G) := pm_dn_eq (i := .invokevirtual 87) (len := 3) rfl
theorem u_55_51 (P : PL) (st : List PV) (G : PW) : pm_dn pm_sC 55 51 P st G = pm_go pm_sC 55 G (pm_oIS 3 52 P st G) := pm_dn_eq (i := .istore_n 3) (len := 1) rfl
theorem u_55_52 (P : PL) (st : List PV) (G : PW) : pm_dn pm_sC 55 52 P st G = pm_go pm_sC 55 G (pm_oIL 1 53 P st G) := pm_dn_eq (i := .iload_n 1) (len := 1) rfl
theorem u_55_53 (P : PL) (st : List PV) (G : PW) : pm_dn pm_sC 55 53 P st G = pm_go pm_sC 55 G (pm_oIL 2 54 P st G) := pm_dn_eq (i := .iload_n 2) (len := 1) rfl
theorem u_55_54 (P : PL) (st : List PV) (G : PW) : pm_dn pm_sC 55 54 P st G = pm_go pm_sC 55 G (pm_oCs 24 2 2 57 P st G) := pm_dn_eq (i := .invokestatic 91) (len := 3) rfl
theorem u_55_57 (P : PL) (st : List PV) (G : PW) : pm_dn pm_sC 55 57 P st G = pm_go pm_sC 55 G (pm_oIS 4 59 P st G) := pm_dn_eq (i := .istore 4) (len := 2) rfl
theorem u_55_59 (P : PL) (st : List PV) (G : PW) : pm_dn pm_sC 55 59 P st G = pm_go pm_sC 55 G (pm_oAL 0 60 P st G) := pm_dn_eq (i := .aload_n 0) (len := 1) rfl
theorem u_55_60 (P : PL) (st : List PV) (G : PW) : pm_dn pm_sC 55 60 P st G = pm_go pm_sC 55 G (pm_oGf pm_sC 5 4 63 P st G) := pm_dn_eq (i := .getfield 29) (len := 3) rfl
theorem u_55_63 (P : PL) (st : List PV) (G : PW) : pm_dn pm_sC 55 63 P st G = pm_go pm_sC 55 G (pm_oIL 4 65 P st G) := pm_dn_eq (i := .iload 4) (len := 2) rfl
theorem u_55_65 (P : PL) (st : List PV) (G : PW) : pm_dn pm_sC 55 65 P st G = pm_go pm_sC 55 G (pm_oCv pm_sC 29 1 2 1 68 P st G) := pm_dn_eq (i := .invokevirtual 94) (len := 3) rfl
theorem u_55_68 (P : PL) (st : List PV) (G : PW) : pm_dn pm_sC 55 68 P st G = pm_go pm_sC 55 G (pm_oAL 0 69 P st G) := pm_dn_eq (i := .aload_n 0) (len := 1) rfl
theorem u_55_69 (P : PL) (st : List PV) (G : PW) : pm_dn pm_sC 55 69 P st G = pm_go pm_sC 55 G (pm_oIL 4 71 P st G) := pm_dn_eq (i := .iload 4) (len := 2) rfl
theorem u_55_71 (P : PL) (st : List PV) (G : PW) : pm_dn pm_sC 55 71 P st G = pm_go pm_sC 55 G (pm_oCv pm_sC 64 1 3 5 74 P st G) := pm_dn_eq (i := .invokevirtual 98) (len := 3) rfl
theorem u_55_74 (P : PL) (st : List PV) (G : PW) : pm_dn pm_sC 55 74 P st G = pm_go pm_sC 55 G (pm_oPop 75 P st G) := pm_dn_eq (i := .pop) (len := 1) rfl
theorem u_55_75 (P : PL) (st : List PV) (G : PW) : pm_dn pm_sC 55 75 P st G = pm_go pm_sC 55 G (pm_oIL 3 76 P st G) := pm_dn_eq (i := .iload_n 3) (len := 1) rfl
theorem u_55_76 (P : PL) (st : List PV) (G : PW) : pm_dn pm_sC 55 76 P st G = pm_go pm_sC 55 G (pm_oRi 0 P st G) := pm_dn_eq (i := .ireturn) (len := 1) rfl
theorem ue_56 (a0 : Nat) (a1 : Int) (G : PW) : pm_ca pm_sC 56 [.inr (.inr a0), .inl a1] G = pm_dn pm_sC 56 0 [some (.inr (.inr a0)), some (.inl a1), none] [] G := rfl
theorem u_56_0 (P : PL) (st : List PV) (G : PW) : pm_dn pm_sC 56 0 P st G = pm_go pm_sC 56 G (pm_oAL 0 1 P st G) := pm_dn_eq (i := .aload_n 0) (len := 1) rfl
theorem u_56_1 (P : PL) (st : List PV) (G : PW) : pm_dn pm_sC 56 1 P st G = pm_go pm_sC 56 G (pm_oGf pm_sC 5 2 4 P st G) := pm_dn_eq (i := .getfield 19) (len := 3) rfl
theorem u_56_4 (P : PL) (st : List PV) (G : PW) : pm_dn pm_sC 56 4 P st G = pm_go pm_sC 56 G (pm_oGf pm_sC 0 0 7 P st G) := pm_dn_eq (i := .getfield 60) (len := 3) rfl
theorem u_56_7 (P : PL) (st : List PV) (G : PW) : pm_dn pm_sC 56 7 P st G = pm_go pm_sC 56 G (pm_oIL 1 8 P st G) := pm_dn_eq (i := .iload_n 1) (len := 1) rfl
theorem u_56_8 (P : PL) (st : List PV) (G : PW) : pm_dn pm_sC 56 8 P st G = pm_go pm_sC 56 G (pm_oCv pm_sC 34 1 2 3 11 P st G) := pm_dn_eq (i := .invokevirtual 70) (len := 3) rfl
theorem u_56_11 (P : PL) (st : List PV) (G : PW) : pm_dn pm_sC 56 11 P st G = pm_go pm_sC 56 G (pm_oIf .ne (some 16) 14 P st G) := pm_dn_eq (i := .ifCond .ne 5) (len := 3) rfl
theorem u_56_14 (P : PL) (st : List PV) (G : PW) : pm_dn pm_sC 56 14 P st G = pm_go pm_sC 56 G (pm_oK (-1) 15 P st G) := pm_dn_eq (i := .iconst (-1)) (len := 1) rfl
theorem u_56_15 (P : PL) (st : List PV) (G : PW) : pm_dn pm_sC 56 15 P st G = pm_go pm_sC 56 G (pm_oRi 0 P st G) := pm_dn_eq (i := .ireturn) (len := 1) rfl
theorem u_56_16 (P : PL) (st : List PV) (G : PW) : pm_dn pm_sC 56 16 P st G = pm_go pm_sC 56 G (pm_oAL 0 17 P st G) := pm_dn_eq (i := .aload_n 0) (len := 1) rfl
theorem u_56_17 (P : PL) (st : List PV) (G : PW) : pm_dn pm_sC 56 17 P st G = pm_go pm_sC 56 G (pm_oGf pm_sC 5 2 20 P st G) := pm_dn_eq (i := .getfield 19) (len := 3) rfl
theorem u_56_20 (P : PL) (st : List PV) (G : PW) : pm_dn pm_sC 56 20 P st G = pm_go pm_sC 56 G (pm_oIL 1 21 P st G) := pm_dn_eq (i := .iload_n 1) (len := 1) rfl
theorem u_56_21 (P : PL) (st : List PV) (G : PW) : pm_dn pm_sC 56 21 P st G = pm_go pm_sC 56 G (pm_oCv pm_sC 4 1 2 0 24 P st G) := pm_dn_eq (i := .invokevirtual 101) (len := 3) rfl
theorem u_56_24 (P : PL) (st : List PV) (G : PW) : pm_dn pm_sC 56 24 P st G = pm_go pm_sC 56 G (pm_oIf .ne (some 38) 27 P st G) := pm_dn_eq (i := .ifCond .ne 14) (len := 3) rfl
theorem u_56_27 (P : PL) (st : List PV) (G : PW) : pm_dn pm_sC 56 27 P st G = pm_go pm_sC 56 G (pm_oAL 0 28 P st G) := pm_dn_eq (i := .aload_n 0) (len := 1) rfl
theorem u_56_28 (P : PL) (st : List PV) (G : PW) : pm_dn pm_sC 56 28 P st G = pm_go pm_sC 56 G (pm_oGf pm_sC 5 2 31 P st G) := pm_dn_eq (i := .getfield 19) (len := 3) rfl
theorem u_56_31 (P : PL) (st : List PV) (G : PW) : pm_dn pm_sC 56 31 P st G = pm_go pm_sC 56 G (pm_oIL 1 32 P st G) := pm_dn_eq (i := .iload_n 1) (len := 1) rfl
theorem u_56_32 (P : PL) (st : List PV) (G : PW) : pm_dn pm_sC 56 32 P st G = pm_go pm_sC 56 G (pm_oCv pm_sC 14 1 2 0 35 P st G) := pm_dn_eq (i := .invokevirtual 104) (len := 3) rfl
theorem u_56_35 (P : PL) (st : List PV) (G : PW) : pm_dn pm_sC 56 35 P st G = pm_go pm_sC 56 G (pm_oIf .eq (some 41) 38 P st G) := pm_dn_eq (i := .ifCond .eq 6) (len := 3) rfl
theorem u_56_38 (P : PL) (st : List PV) (G : PW) : pm_dn pm_sC 56 38 P st G = pm_go pm_sC 56 G (pm_oK (-5) 40 P st G) := pm_dn_eq (i := .bipush (-5)) (len := 2) rfl
theorem u_56_40 (P : PL) (st : List PV) (G : PW) : pm_dn pm_sC 56 40 P st G = pm_go pm_sC 56 G (pm_oRi 0 P st G) := pm_dn_eq (i := .ireturn) (len := 1) rfl
theorem u_56_41 (P : PL) (st : List PV) (G : PW) : pm_dn pm_sC 56 41 P st G = pm_go pm_sC 56 G (pm_oIL 1 42 P st G) := pm_dn_eq (i := .iload_n 1) (len := 1) rfl
theorem u_56_42 (P : PL) (st : List PV) (G : PW) : pm_dn pm_sC 56 42 P st G = pm_go pm_sC 56 G (pm_oCs 25 1 1 45 P st G) := pm_dn_eq (i := .invokestatic 107) (len := 3) rfl
theorem u_56_45 (P : PL) (st : List PV) (G : PW) : pm_dn pm_sC 56 45 P st G = pm_go pm_sC 56 G (pm_oIS 2 46 P st G) := pm_dn_eq (i := .istore_n 2) (len := 1) rfl
theorem u_56_46 (P : PL) (st : List PV) (G : PW) : pm_dn pm_sC 56 46 P st G = pm_go pm_sC 56 G (pm_oAL 0 47 P st G) := pm_dn_eq (i := .aload_n 0) (len := 1) rfl
theorem u_56_47 (P : PL) (st : List PV) (G : PW) : pm_dn pm_sC 56 47 P st G = pm_go pm_sC 56 G (pm_oGf pm_sC 5 4 50 P st G) := pm_dn_eq (i := .getfield 29) (len := 3) rfl
theorem u_56_50 (P : PL) (st : List PV) (G : PW) : pm_dn pm_sC 56 50 P st G = pm_go pm_sC 56 G (pm_oIL 2 51 P st G) := pm_dn_eq (i := .iload_n 2) (len := 1) rfl
theorem u_56_51 (P : PL) (st : List PV) (G : PW) : pm_dn pm_sC 56 51 P st G = pm_go pm_sC 56 G (pm_oCv pm_sC 29 1 2 1 54 P st G) := pm_dn_eq (i := .invokevirtual 94) (len := 3) rfl
theorem u_56_54 (P : PL) (st : List PV) (G : PW) : pm_dn pm_sC 56 54 P st G = pm_go pm_sC 56 G (pm_oAL 0 55 P st G) := pm_dn_eq (i := .aload_n 0) (len := 1) rfl
theorem u_56_55 (P : PL) (st : List PV) (G : PW) : pm_dn pm_sC 56 55 P st G = pm_go pm_sC 56 G (pm_oIL 2 56 P st G) := pm_dn_eq (i := .iload_n 2) (len := 1) rfl
theorem u_56_56 (P : PL) (st : List PV) (G : PW) : pm_dn pm_sC 56 56 P st G = pm_go pm_sC 56 G (pm_oCv pm_sC 64 1 3 5 59 P st G) := pm_dn_eq (i := .invokevirtual 98) (len := 3) rfl
theorem u_56_59 (P : PL) (st : List PV) (G : PW) : pm_dn pm_sC 56 59 P st G = pm_go pm_sC 56 G (pm_oRi 0 P st G) := pm_dn_eq (i := .ireturn) (len := 1) rfl
theorem ue_57 (a0 : Nat) (a1 : Int) (a2 : Int) (G : PW) : pm_ca pm_sC 57 [.inr (.inr a0), .inl a1, .inl a2] G = pm_dn pm_sC 57 0 [some (.inr (.inr a0)), some (.inl a1), some (.inl a2), none] [] G := rfl
theorem u_57_0 (P : PL) (st : List PV) (G : PW) : pm_dn pm_sC 57 0 P st G = pm_go pm_sC 57 G (pm_oAL 0 1 P st G) := pm_dn_eq (i := .aload_n 0) (len := 1) rfl
theorem u_57_1 (P : PL) (st : List PV) (G : PW) : pm_dn pm_sC 57 1 P st G = pm_go pm_sC 57 G (pm_oGf pm_sC 5 2 4 P st G) := pm_dn_eq (i := .getfield 19) (len := 3) rfl
theorem u_57_4 (P : PL) (st : List PV) (G : PW) : pm_dn pm_sC 57 4 P st G = pm_go pm_sC 57 G (pm_oGf pm_sC 0 0 7 P st G) := pm_dn_eq (i := .getfield 60) (len := 3) rfl
theorem u_57_7 (P : PL) (st : List PV) (G : PW) : pm_dn pm_sC 57 7 P st G = pm_go pm_sC 57 G (pm_oAS 3 8 P st G) := pm_dn_eq (i := .astore_n 3) (len := 1) rfl
theorem u_57_8 (P : PL) (st : List PV) (G : PW) : pm_dn pm_sC 57 8 P st G = pm_go pm_sC 57 G (pm_oAL 3 9 P st G) := pm_dn_eq (i := .aload_n 3) (len := 1) rfl
theorem u_57_9 (P : PL) (st : List PV) (G : PW) : pm_dn pm_sC 57 9 P st G = pm_go pm_sC 57 G (pm_oIL 1 10 P st G) := pm_dn_eq (i := .iload_n 1) (len := 1) rfl
theorem u_57_10 (P : PL) (st : List PV) (G : PW) : pm_dn pm_sC 57 10 P st G = pm_go pm_sC 57 G (pm_oCv pm_sC 35 1 2 3 13 P st G) := pm_dn_eq (i := .invokevirtual 81) (len := 3) rfl
theorem u_57_13 (P : PL) (st : List PV) (G : PW) : pm_dn pm_sC 57 13 P st G = pm_go pm_sC 57 G (pm_oIf .ne (some 18) 16 P st G) := pm_dn_eq (i := .ifCond .ne 5) (len := 3) rfl
theorem u_57_16 (P : PL) (st : List PV) (G : PW) : pm_dn pm_sC 57 16 P st G = pm_go pm_sC 57 G (pm_oK (-1) 17 P st G) := pm_dn_eq (i := .iconst (-1)) (len := 1) rfl
theorem u_57_17 (P : PL) (st : List PV) (G : PW) : pm_dn pm_sC 57 17 P st G = pm_go pm_sC 57 G (pm_oRi 0 P st G) := pm_dn_eq (i := .ireturn) (len := 1) rfl
theorem u_57_18 (P : PL) (st : List PV) (G : PW) : pm_dn pm_sC 57 18 P st G = pm_go pm_sC 57 G (pm_oIL 2 19 P st G) := pm_dn_eq (i := .iload_n 2) (len := 1) rfl
theorem u_57_19 (P : PL) (st : List PV) (G : PW) : pm_dn pm_sC 57 19 P st G = pm_go pm_sC 57 G (pm_oSw 0 11 (some 202) (some [80, 90, 100, 109, 118, 127, 136, 145, 154, 166, 178, 190]) P st G) := pm_dn_eq (i := .tableswitch 183 0 11 #[61, 71, 81, 90, 99, 108, 117, 126, 135, 147, 159, 171]) (len := 61) rfl
theorem u_57_80 (P : PL) (st : List PV) (G : PW) : pm_dn pm_sC 57 80 P st G = pm_go pm_sC 57 G (pm_oAL 0 81 P st G) := pm_dn_eq (i := .aload_n 0) (len := 1) rfl
theorem u_57_81 (P : PL) (st : List PV) (G : PW) : pm_dn pm_sC 57 81 P st G = pm_go pm_sC 57 G (pm_oGf pm_sC 5 2 84 P st G) := pm_dn_eq (i := .getfield 19) (len := 3) rfl
theorem u_57_84 (P : PL) (st : List PV) (G : PW) : pm_dn pm_sC 57 84 P st G = pm_go pm_sC 57 G (pm_oIL 1 85 P st G) := pm_dn_eq (i := .iload_n 1) (len := 1) rfl
theorem u_57_85 (P : PL) (st : List PV) (G : PW) : pm_dn pm_sC 57 85 P st G = pm_go pm_sC 57 G (pm_oK 0 86 P st G) := pm_dn_eq (i := .iconst 0) (len := 1) rfl
theorem u_57_86 (P : PL) (st : List PV) (G : PW) : pm_dn pm_sC 57 86 P st G = pm_go pm_sC 57 G (pm_oCv pm_sC 5 2 3 0 89 P st G) := pm_dn_eq (i := .invokevirtual 87) (len := 3) rfl
theorem u_57_89 (P : PL) (st : List PV) (G : PW) : pm_dn pm_sC 57 89 P st G = pm_go pm_sC 57 G (pm_oRi 0 P st G) := pm_dn_eq (i := .ireturn) (len := 1) rfl
theorem u_57_90 (P : PL) (st : List PV) (G : PW) : pm_dn pm_sC 57 90 P st G = pm_go pm_sC 57 G (pm_oAL 0 91 P st G) := pm_dn_eq (i := .aload_n 0) (len := 1) rfl
theorem u_57_91 (P : PL) (st : List PV) (G : PW) : pm_dn pm_sC 57 91 P st G = pm_go pm_sC 57 G (pm_oGf pm_sC 5 2 94 P st G) := pm_dn_eq (i := .getfield 19) (len := 3) rfl
theorem u_57_94 (P : PL) (st : List PV) (G : PW) : pm_dn pm_sC 57 94 P st G = pm_go pm_sC 57 G (pm_oIL 1 95 P st G) := pm_dn_eq (i := .iload_n 1) (len := 1) rfl
theorem u_57_95 (P : PL) (st : List PV) (G : PW) : pm_dn pm_sC 57 95 P st G = pm_go pm_sC 57 G (pm_oK 1 96 P st G) := pm_dn_eq (i := .iconst 1) (len := 1) rfl
theorem u_57_96 (P : PL) (st : List PV) (G : PW) : pm_dn pm_sC 57 96 P st G = pm_go pm_sC 57 G (pm_oCv pm_sC 5 2 3 0 99 P st G) := pm_dn_eq (i := .invokevirtual 87) (len := 3) rfl
theorem u_57_99 (P : PL) (st : List PV) (G : PW) : pm_dn pm_sC 57 99 P st G = pm_go pm_sC 57 G (pm_oRi 0 P st G) := pm_dn_eq (i := .ireturn) (len := 1) rfl
theorem u_57_100 (P : PL) (st : List PV) (G : PW) : pm_dn pm_sC 57 100 P st G = pm_go pm_sC 57 G (pm_oAL 0 101 P st G) := pm_dn_eq (i := .aload_n 0) (len := 1) rfl
theorem u_57_101 (P : PL) (st : List PV) (G : PW) : pm_dn pm_sC 57 101 P st G = pm_go pm_sC 57 G (pm_oGf pm_sC 5 2 104 P st G) := pm_dn_eq (i := .getfield 19) (len := 3) rfl
theorem u_57_104 (P : PL) (st : List PV) (G : PW) : pm_dn pm_sC 57 104 P st G = pm_go pm_sC 57 G (pm_oIL 1 105 P st G) := pm_dn_eq (i := .iload_n 1) (len := 1) rfl
theorem u_57_105 (P : PL) (st : List PV) (G : PW) : pm_dn pm_sC 57 105 P st G = pm_go pm_sC 57 G (pm_oCv pm_sC 7 1 2 0 108 P st G) := pm_dn_eq (i := .invokevirtual 110) (len := 3) rfl
theorem u_57_108 (P : PL) (st : List PV) (G : PW) : pm_dn pm_sC 57 108 P st G = pm_go pm_sC 57 G (pm_oRi 0 P st G) := pm_dn_eq (i := .ireturn) (len := 1) rfl
theorem u_57_109 (P : PL) (st : List PV) (G : PW) : pm_dn pm_sC 57 109 P st G = pm_go pm_sC 57 G (pm_oAL 0 110 P st G) := pm_dn_eq (i := .aload_n 0) (len := 1) rfl
theorem u_57_110 (P : PL) (st : List PV) (G : PW) : pm_dn pm_sC 57 110 P st G = pm_go pm_sC 57 G (pm_oGf pm_sC 5 2 113 P st G) := pm_dn_eq (i := .getfield 19) (len := 3) rfl
theorem u_57_113 (P : PL) (st : List PV) (G : PW) : pm_dn pm_sC 57 113 P st G = pm_go pm_sC 57 G (pm_oIL 1 114 P st G) := pm_dn_eq (i := .iload_n 1) (len := 1) rfl
theorem u_57_114 (P : PL) (st : List PV) (G : PW) : pm_dn pm_sC 57 114 P st G = pm_go pm_sC 57 G (pm_oCv pm_sC 8 1 2 0 117 P st G) := pm_dn_eq (i := .invokevirtual 113) (len := 3) rfl
theorem u_57_117 (P : PL) (st : List PV) (G : PW) : pm_dn pm_sC 57 117 P st G = pm_go pm_sC 57 G (pm_oRi 0 P st G) := pm_dn_eq (i := .ireturn) (len := 1) rfl
theorem u_57_118 (P : PL) (st : List PV) (G : PW) : pm_dn pm_sC 57 118 P st G = pm_go pm_sC 57 G (pm_oAL 0 119 P st G) := pm_dn_eq (i := .aload_n 0) (len := 1) rfl
theorem u_57_119 (P : PL) (st : List PV) (G : PW) : pm_dn pm_sC 57 119 P st G = pm_go pm_sC 57 G (pm_oGf pm_sC 5 2 122 P st G) := pm_dn_eq (i := .getfield 19) (len := 3) rfl
theorem u_57_122 (P : PL) (st : List PV) (G : PW) : pm_dn pm_sC 57 122 P st G = pm_go pm_sC 57 G (pm_oIL 1 123 P st G) := pm_dn_eq (i := .iload_n 1) (len := 1) rfl
theorem u_57_123 (P : PL) (st : List PV) (G : PW) : pm_dn pm_sC 57 123 P st G = pm_go pm_sC 57 G (pm_oCv pm_sC 6 1 2 0 126 P st G) := pm_dn_eq (i := .invokevirtual 116) (len := 3) rfl
theorem u_57_126 (P : PL) (st : List PV) (G : PW) : pm_dn pm_sC 57 126 P st G = pm_go pm_sC 57 G (pm_oRi 0 P st G) := pm_dn_eq (i := .ireturn) (len := 1) rfl
theorem u_57_127 (P : PL) (st : List PV) (G : PW) : pm_dn pm_sC 57 127 P st G = pm_go pm_sC 57 G (pm_oAL 3 128 P st G) := pm_dn_eq (i := .aload_n 3) (len := 1) rfl
theorem u_57_128 (P : PL) (st : List PV) (G : PW) : pm_dn pm_sC 57 128 P st G = pm_go pm_sC 57 G (pm_oGf pm_sC 3 5 131 P st G) := pm_dn_eq (i := .getfield 119) (len := 3) rfl
theorem u_57_131 (P : PL) (st : List PV) (G : PW) : pm_dn pm_sC 57 131 P st G = pm_go pm_sC 57 G (pm_oIL 1 132 P st G) := pm_dn_eq (i := .iload_n 1) (len := 1) rfl
theorem u_57_132 (P : PL) (st : List PV) (G : PW) : pm_dn pm_sC 57 132 P st G = pm_go pm_sC 57 G (pm_oCs 76 2 2 135 P st G) := pm_dn_eq (i := .invokestatic 122) (len := 3) rfl
theorem u_57_135 (P : PL) (st : List PV) (G : PW) : pm_dn pm_sC 57 135 P st G = pm_go pm_sC 57 G (pm_oRi 0 P st G) := pm_dn_eq (i := .ireturn) (len := 1) rfl
theorem u_57_136 (P : PL) (st : List PV) (G : PW) : pm_dn pm_sC 57 136 P st G = pm_go pm_sC 57 G (pm_oAL 3 137 P st G) := pm_dn_eq (i := .aload_n 3) (len := 1) rfl
theorem u_57_137 (P : PL) (st : List PV) (G : PW) : pm_dn pm_sC 57 137 P st G = pm_go pm_sC 57 G (pm_oGf pm_sC 3 6 140 P st G) := pm_dn_eq (i := .getfield 126) (len := 3) rfl
theorem u_57_140 (P : PL) (st : List PV) (G : PW) : pm_dn pm_sC 57 140 P st G = pm_go pm_sC 57 G (pm_oIL 1 141 P st G) := pm_dn_eq (i := .iload_n 1) (len := 1) rfl
theorem u_57_141 (P : PL) (st : List PV) (G : PW) : pm_dn pm_sC 57 141 P st G = pm_go pm_sC 57 G (pm_oCs 76 2 2 144 P st G) := pm_dn_eq (i := .invokestatic 122) (len := 3) rfl
theorem u_57_144 (P : PL) (st : List PV) (G : PW) : pm_dn pm_sC 57 144 P st G = pm_go pm_sC 57 G (pm_oRi 0 P st G) := pm_dn_eq (i := .ireturn) (len := 1) rfl
theorem u_57_145 (P : PL) (st : List PV) (G : PW) : pm_dn pm_sC 57 145 P st G = pm_go pm_sC 57 G (pm_oAL 3 146 P st G) := pm_dn_eq (i := .aload_n 3) (len := 1) rfl
theorem u_57_146 (P : PL) (st : List PV) (G : PW) : pm_dn pm_sC 57 146 P st G = pm_go pm_sC 57 G (pm_oGf pm_sC 3 7 149 P st G) := pm_dn_eq (i := .getfield 129) (len := 3) rfl
theorem u_57_149 (P : PL) (st : List PV) (G : PW) : pm_dn pm_sC 57 149 P st G = pm_go pm_sC 57 G (pm_oIL 1 150 P st G) := pm_dn_eq (i := .iload_n 1) (len := 1) rfl
theorem u_57_150 (P : PL) (st : List PV) (G : PW) : pm_dn pm_sC 57 150 P st G = pm_go pm_sC 57 G (pm_oCs 76 2 2 153 P st G) := pm_dn_eq (i := .invokestatic 122) (len := 3) rfl
theorem u_57_153 (P : PL) (st : List PV) (G : PW) : pm_dn pm_sC 57 153 P st G = pm_go pm_sC 57 G (pm_oRi 0 P st G) := pm_dn_eq (i := .ireturn) (len := 1) rfl
theorem u_57_154 (P : PL) (st : List PV) (G : PW) : pm_dn pm_sC 57 154 P st G = pm_go pm_sC 57 G (pm_oAL 3 155 P st G) := pm_dn_eq (i := .aload_n 3) (len := 1) rfl
theorem u_57_155 (P : PL) (st : List PV) (G : PW) : pm_dn pm_sC 57 155 P st G = pm_go pm_sC 57 G (pm_oGf pm_sC 3 8 158 P st G) := pm_dn_eq (i := .getfield 132) (len := 3) rfl
theorem u_57_158 (P : PL) (st : List PV) (G : PW) : pm_dn pm_sC 57 158 P st G = pm_go pm_sC 57 G (pm_oIL 1 159 P st G) := pm_dn_eq (i := .iload_n 1) (len := 1) rfl
theorem u_57_159 (P : PL) (st : List PV) (G : PW) : pm_dn pm_sC 57 159 P st G = pm_go pm_sC 57 G (pm_oCs 76 2 2 162 P st G) := pm_dn_eq (i := .invokestatic 122) (len := 3) rfl
theorem u_57_162 (P : PL) (st : List PV) (G : PW) : pm_dn pm_sC 57 162 P st G = pm_go pm_sC 57 G (pm_oCs 80 1 1 165 P st G) := pm_dn_eq (i := .invokestatic 135) (len := 3) rfl
theorem u_57_165 (P : PL) (st : List PV) (G : PW) : pm_dn pm_sC 57 165 P st G = pm_go pm_sC 57 G (pm_oRi 0 P st G) := pm_dn_eq (i := .ireturn) (len := 1) rfl
theorem u_57_166 (P : PL) (st : List PV) (G : PW) : pm_dn pm_sC 57 166 P st G = pm_go pm_sC 57 G (pm_oAL 3 167 P st G) := pm_dn_eq (i := .aload_n 3) (len := 1) rfl
theorem u_57_167 (P : PL) (st : List PV) (G : PW) : pm_dn pm_sC 57 167 P st G = pm_go pm_sC 57 G (pm_oGf pm_sC 3 9 170 P st G) := pm_dn_eq (i := .getfield 138) (len := 3) rfl
theorem u_57_170 (P : PL) (st : List PV) (G : PW) : pm_dn pm_sC 57 170 P st G = pm_go pm_sC 57 G (pm_oIL 1 171 P st G) := pm_dn_eq (i := .iload_n 1) (len := 1) rfl
theorem u_57_171 (P : PL) (st : List PV) (G : PW) : pm_dn pm_sC 57 171 P st G = pm_go pm_sC 57 G (pm_oCs 76 2 2 174 P st G) := pm_dn_eq (i := .invokestatic 122) (len := 3) rfl
theorem u_57_174 (P : PL) (st : List PV) (G : PW) : pm_dn pm_sC 57 174 P st G = pm_go pm_sC 57 G (pm_oCs 80 1 1 177 P st G) := pm_dn_eq (i := .invokestatic 135) (len := 3) rfl
theorem u_57_177 (P : PL) (st : List PV) (G : PW) : pm_dn pm_sC 57 177 P st G = pm_go pm_sC 57 G (pm_oRi 0 P st G) := pm_dn_eq (i := .ireturn) (len := 1) rfl
theorem u_57_178 (P : PL) (st : List PV) (G : PW) : pm_dn pm_sC 57 178 P st G = pm_go pm_sC 57 G (pm_oAL 3 179 P st G) := pm_dn_eq (i := .aload_n 3) (len := 1) rfl
theorem u_57_179 (P : PL) (st : List PV) (G : PW) : pm_dn pm_sC 57 179 P st G = pm_go pm_sC 57 G (pm_oGf pm_sC 3 8 182 P st G) := pm_dn_eq (i := .getfield 132) (len := 3) rfl
theorem u_57_182 (P : PL) (st : List PV) (G : PW) : pm_dn pm_sC 57 182 P st G = pm_go pm_sC 57 G (pm_oIL 1 183 P st G) := pm_dn_eq (i := .iload_n 1) (len := 1) rfl
theorem u_57_183 (P : PL) (st : List PV) (G : PW) : pm_dn pm_sC 57 183 P st G = pm_go pm_sC 57 G (pm_oCs 76 2 2 186 P st G) := pm_dn_eq (i := .invokestatic 122) (len := 3) rfl
theorem u_57_186 (P : PL) (st : List PV) (G : PW) : pm_dn pm_sC 57 186 P st G = pm_go pm_sC 57 G (pm_oCs 81 1 1 189 P st G) := pm_dn_eq (i := .invokestatic 141) (len := 3) rfl
theorem u_57_189 (P : PL) (st : List PV) (G : PW) : pm_dn pm_sC 57 189 P st G = pm_go pm_sC 57 G (pm_oRi 0 P st G) := pm_dn_eq (i := .ireturn) (len := 1) rfl
theorem u_57_190 (P : PL) (st : List PV) (G : PW) : pm_dn pm_sC 57 190 P st G = pm_go pm_sC 57 G (pm_oAL 3 191 P st G) := pm_dn_eq (i := .aload_n 3) (len := 1) rfl
theorem u_57_191 (P : PL) (st : List PV) (G : PW) : pm_dn pm_sC 57 191 P st G = pm_go pm_sC 57 G (pm_oGf pm_sC 3 9 194 P st G) := pm_dn_eq (i := .getfield 138) (len := 3) rfl
theorem u_57_194 (P : PL) (st : List PV) (G : PW) : pm_dn pm_sC 57 194 P st G = pm_go pm_sC 57 G (pm_oIL 1 195 P st G) := pm_dn_eq (i := .iload_n 1) (len := 1) rfl
theorem u_57_195 (P : PL) (st : List PV) (G : PW) : pm_dn pm_sC 57 195 P st G = pm_go pm_sC 57 G (pm_oCs 76 2 2 198 P st G) := pm_dn_eq (i := .invokestatic 122) (len := 3) rfl
theorem u_57_198 (P : PL) (st : List PV) (G : PW) : pm_dn pm_sC 57 198 P st G = pm_go pm_sC 57 G (pm_oCs 81 1 1 201 P st G) := pm_dn_eq (i := .invokestatic 141) (len := 3) rfl
theorem u_57_201 (P : PL) (st : List PV) (G : PW) : pm_dn pm_sC 57 201 P st G = pm_go pm_sC 57 G (pm_oRi 0 P st G) := pm_dn_eq (i := .ireturn) (len := 1) rfl
theorem u_57_202 (P : PL) (st : List PV) (G : PW) : pm_dn pm_sC 57 202 P st G = pm_go pm_sC 57 G (pm_oK (-2) 204 P st G) := pm_dn_eq (i := .bipush (-2)) (len := 2) rfl
theorem u_57_204 (P : PL) (st : List PV) (G : PW) : pm_dn pm_sC 57 204 P st G = pm_go pm_sC 57 G (pm_oRi 0 P st G) := pm_dn_eq (i := .ireturn) (len := 1) rfl
theorem ue_58 (a0 : Nat) (a1 : Int) (a2 : Int) (G : PW) : pm_ca pm_sC 58 [.inr (.inr a0), .inl a1, .inl a2] G = pm_dn pm_sC 58 0 [some (.inr (.inr a0)), some (.inl a1), some (.inl a2)] [] G := rfl
theorem u_58_0 (P : PL) (st : List PV) (G : PW) : pm_dn pm_sC 58 0 P st G = pm_go pm_sC 58 G (pm_oAL 0 1 P st G) := pm_dn_eq (i := .aload_n 0) (len := 1) rfl
theorem u_58_1 (P : PL) (st : List PV) (G : PW) : pm_dn pm_sC 58 1 P st G = pm_go pm_sC 58 G (pm_oGf pm_sC 5 2 4 P st G) := pm_dn_eq (i := .getfield 19) (len := 3) rfl
theorem u_58_4 (P : PL) (st : List PV) (G : PW) : pm_dn pm_sC 58 4 P st G = pm_go pm_sC 58 G (pm_oGf pm_sC 0 0 7 P st G) := pm_dn_eq (i := .getfield 60) (len := 3) rfl
theorem u_58_7 (P : PL) (st : List PV) (G : PW) : pm_dn pm_sC 58 7 P st G = pm_go pm_sC 58 G (pm_oIL 1 8 P st G) := pm_dn_eq (i := .iload_n 1) (len := 1) rfl
theorem u_58_8 (P : PL) (st : List PV) (G : PW) : pm_dn pm_sC 58 8 P st G = pm_go pm_sC 58 G (pm_oCv pm_sC 34 1 2 3 11 P st G) := pm_dn_eq (i := .invokevirtual 70) (len := 3) rfl
theorem u_58_11 (P : PL) (st : List PV) (G : PW) : pm_dn pm_sC 58 11 P st G = pm_go pm_sC 58 G (pm_oIf .ne (some 16) 14 P st G) := pm_dn_eq (i := .ifCond .ne 5) (len := 3) rfl
theorem u_58_14 (P : PL) (st : List PV) (G : PW) : pm_dn pm_sC 58 14 P st G = pm_go pm_sC 58 G (pm_oK (-1) 15 P st G) := pm_dn_eq (i := .iconst (-1)) (len := 1) rfl
theorem u_58_15 (P : PL) (st : List PV) (G : PW) : pm_dn pm_sC 58 15 P st G = pm_go pm_sC 58 G (pm_oRi 0 P st G) := pm_dn_eq (i := .ireturn) (len := 1) rfl
theorem u_58_16 (P : PL) (st : List PV) (G : PW) : pm_dn pm_sC 58 16 P st G = pm_go pm_sC 58 G (pm_oIL 2 17 P st G) := pm_dn_eq (i := .iload_n 2) (len := 1) rfl
theorem u_58_17 (P : PL) (st : List PV) (G : PW) : pm_dn pm_sC 58 17 P st G = pm_go pm_sC 58 G (pm_oSw 0 8 (some 151) (some [68, 74, 83, 92, 109, 115, 124, 133, 142]) P st G) := pm_dn_eq (i := .tableswitch 134 0 8 #[51, 57, 66, 75, 92, 98, 107, 116, 125]) (len := 51) rfl
theorem u_58_68 (P : PL) (st : List PV) (G : PW) : pm_dn pm_sC 58 68 P st G = pm_go pm_sC 58 G (pm_oAL 0 69 P st G) := pm_dn_eq (i := .aload_n 0) (len := 1) rfl
theorem u_58_69 (P : PL) (st : List PV) (G : PW) : pm_dn pm_sC 58 69 P st G = pm_go pm_sC 58 G (pm_oIL 1 70 P st G) := pm_dn_eq (i := .iload_n 1) (len := 1) rfl
theorem u_58_70 (P : PL) (st : List PV) (G : PW) : pm_dn pm_sC 58 70 P st G = pm_go pm_sC 58 G (pm_oCv pm_sC 74 1 2 5 73 P st G) := pm_dn_eq (i := .invokevirtual 74) (len := 3) rfl
theorem u_58_73 (P : PL) (st : List PV) (G : PW) : pm_dn pm_sC 58 73 P st G = pm_go pm_sC 58 G (pm_oRi 0 P st G) := pm_dn_eq (i := .ireturn) (len := 1) rfl
theorem u_58_74 (P : PL) (st : List PV) (G : PW) : pm_dn pm_sC 58 74 P st G = pm_go pm_sC 58 G (pm_oAL 0 75 P st G) := pm_dn_eq (i := .aload_n 0) (len := 1) rfl
theorem u_58_75 (P : PL) (st : List PV) (G : PW) : pm_dn pm_sC 58 75 P st G = pm_go pm_sC 58 G (pm_oGf pm_sC 5 2 78 P st G) := pm_dn_eq (i := .getfield 19) (len := 3) rfl
theorem u_58_78 (P : PL) (st : List PV) (G : PW) : pm_dn pm_sC 58 78 P st G = pm_go pm_sC 58 G (pm_oIL 1 79 P st G) := pm_dn_eq (i := .iload_n 1) (len := 1) rfl
theorem u_58_79 (P : PL) (st : List PV) (G : PW) : pm_dn pm_sC 58 79 P st G = pm_go pm_sC 58 G (pm_oCv pm_sC 21 1 4 0 82 P st G) := pm_dn_eq (i := .invokevirtual 144) (len := 3) rfl
theorem u_58_82 (P : PL) (st : List PV) (G : PW) : pm_dn pm_sC 58 82 P st G = pm_go pm_sC 58 G (pm_oRi 0 P st G) := pm_dn_eq (i := .ireturn) (len := 1) rfl
theorem u_58_83 (P : PL) (st : List PV) (G : PW) : pm_dn pm_sC 58 83 P st G = pm_go pm_sC 58 G (pm_oAL 0 84 P st G) := pm_dn_eq (i := .aload_n 0) (len := 1) rfl
theorem u_58_84 (P : PL) (st : List PV) (G : PW) : pm_dn pm_sC 58 84 P st G = pm_go pm_sC 58 G (pm_oGf pm_sC 5 2 87 P st G) := pm_dn_eq (i := .getfield 19) (len := 3) rfl
theorem u_58_87 (P : PL) (st : List PV) (G : PW) : pm_dn pm_sC 58 87 P st G = pm_go pm_sC 58 G (pm_oIL 1 88 P st G) := pm_dn_eq (i := .iload_n 1) (len := 1) rfl
theorem u_58_88 (P : PL) (st : List PV) (G : PW) : pm_dn pm_sC 58 88 P st G = pm_go pm_sC 58 G (pm_oCv pm_sC 22 1 4 0 91 P st G) := pm_dn_eq (i := .invokevirtual 147) (len := 3) rfl
theorem u_58_91 (P : PL) (st : List PV) (G : PW) : pm_dn pm_sC 58 91 P st G = pm_go pm_sC 58 G (pm_oRi 0 P st G) := pm_dn_eq (i := .ireturn) (len := 1) rfl
theorem u_58_92 (P : PL) (st : List PV) (G : PW) : pm_dn pm_sC 58 92 P st G = pm_go pm_sC 58 G (pm_oAL 0 93 P st G) := pm_dn_eq (i := .aload_n 0) (len := 1) rfl
theorem u_58_93 (P : PL) (st : List PV) (G : PW) : pm_dn pm_sC 58 93 P st G = pm_go pm_sC 58 G (pm_oGf pm_sC 5 2 96 P st G) := pm_dn_eq (i := .getfield 19) (len := 3) rfl
theorem u_58_96 (P : PL) (st : List PV) (G : PW) : pm_dn pm_sC 58 96 P st G = pm_go pm_sC 58 G (pm_oIL 1 97 P st G) := pm_dn_eq (i := .iload_n 1) (len := 1) rfl
theorem u_58_97 (P : PL) (st : List PV) (G : PW) : pm_dn pm_sC 58 97 P st G = pm_go pm_sC 58 G (pm_oCv pm_sC 4 1 2 0 100 P st G) := pm_dn_eq (i := .invokevirtual 101) (len := 3) rfl
theorem u_58_100 (P : PL) (st : List PV) (G : PW) : pm_dn pm_sC 58 100 P st G = pm_go pm_sC 58 G (pm_oIf .eq (some 107) 103 P st G) := pm_dn_eq (i := .ifCond .eq 7) (len := 3) rfl
theorem u_58_103 (P : PL) (st : List PV) (G : PW) : pm_dn pm_sC 58 103 P st G = pm_go pm_sC 58 G (pm_oK 1 104 P st G) := pm_dn_eq (i := .iconst 1) (len := 1) rfl
theorem u_58_104 (P : PL) (st : List PV) (G : PW) : pm_dn pm_sC 58 104 P st G = pm_go pm_sC 58 G (pm_oGo (some 108) P st G) := pm_dn_eq (i := .goto 4) (len := 3) rfl
theorem u_58_107 (P : PL) (st : List PV) (G : PW) : pm_dn pm_sC 58 107 P st G = pm_go pm_sC 58 G (pm_oK 0 108 P st G) := pm_dn_eq (i := .iconst 0) (len := 1) rfl
theorem u_58_108 (P : PL) (st : List PV) (G : PW) : pm_dn pm_sC 58 108 P st G = pm_go pm_sC 58 G (pm_oRi 0 P st G) := pm_dn_eq (i := .ireturn) (len := 1) rfl
theorem u_58_109 (P : PL) (st : List PV) (G : PW) : pm_dn pm_sC 58 109 P st G = pm_go pm_sC 58 G (pm_oAL 0 110 P st G) := pm_dn_eq (i := .aload_n 0) (len := 1) rfl
theorem u_58_110 (P : PL) (st : List PV) (G : PW) : pm_dn pm_sC 58 110 P st G = pm_go pm_sC 58 G (pm_oIL 1 111 P st G) := pm_dn_eq (i := .iload_n 1) (len := 1) rfl
theorem u_58_111 (P : PL) (st : List PV) (G : PW) : pm_dn pm_sC 58 111 P st G = pm_go pm_sC 58 G (pm_oCv pm_sC 67 1 3 5 114 P st G) := pm_dn_eq (i := .invokevirtual 150) (len := 3) rfl
theorem u_58_114 (P : PL) (st : List PV) (G : PW) : pm_dn pm_sC 58 114 P st G = pm_go pm_sC 58 G (pm_oRi 0 P st G) := pm_dn_eq (i := .ireturn) (len := 1) rfl
theorem u_58_115 (P : PL) (st : List PV) (G : PW) : pm_dn pm_sC 58 115 P st G = pm_go pm_sC 58 G (pm_oAL 0 116 P st G) := pm_dn_eq (i := .aload_n 0) (len := 1) rfl
theorem u_58_116 (P : PL) (st : List PV) (G : PW) : pm_dn pm_sC 58 116 P st G = pm_go pm_sC 58 G (pm_oGf pm_sC 5 2 119 P st G) := pm_dn_eq (i := .getfield 19) (len := 3) rfl
theorem u_58_119 (P : PL) (st : List PV) (G : PW) : pm_dn pm_sC 58 119 P st G = pm_go pm_sC 58 G (pm_oIL 1 120 P st G) := pm_dn_eq (i := .iload_n 1) (len := 1) rfl
theorem u_58_120 (P : PL) (st : List PV) (G : PW) : pm_dn pm_sC 58 120 P st G = pm_go pm_sC 58 G (pm_oCv pm_sC 13 1 4 0 123 P st G) := pm_dn_eq (i := .invokevirtual 153) (len := 3) rfl
theorem u_58_123 (P : PL) (st : List PV) (G : PW) : pm_dn pm_sC 58 123 P st G = pm_go pm_sC 58 G (pm_oRi 0 P st G) := pm_dn_eq (i := .ireturn) (len := 1) rfl
theorem u_58_124 (P : PL) (st : List PV) (G : PW) : pm_dn pm_sC 58 124 P st G = pm_go pm_sC 58 G (pm_oAL 0 125 P st G) := pm_dn_eq (i := .aload_n 0) (len := 1) rfl
theorem u_58_125 (P : PL) (st : List PV) (G : PW) : pm_dn pm_sC 58 125 P st G = pm_go pm_sC 58 G (pm_oGf pm_sC 5 2 128 P st G) := pm_dn_eq (i := .getfield 19) (len := 3) rfl
theorem u_58_128 (P : PL) (st : List PV) (G : PW) : pm_dn pm_sC 58 128 P st G = pm_go pm_sC 58 G (pm_oIL 1 129 P st G) := pm_dn_eq (i := .iload_n 1) (len := 1) rfl
theorem u_58_129 (P : PL) (st : List PV) (G : PW) : pm_dn pm_sC 58 129 P st G = pm_go pm_sC 58 G (pm_oCv pm_sC 16 1 2 0 132 P st G) := pm_dn_eq (i := .invokevirtual 156) (len := 3) rfl
theorem u_58_132 (P : PL) (st : List PV) (G : PW) : pm_dn pm_sC 58 132 P st G = pm_go pm_sC 58 G (pm_oRi 0 P st G) := pm_dn_eq (i := .ireturn) (len := 1) rfl
theorem u_58_133 (P : PL) (st : List PV) (G : PW) : pm_dn pm_sC 58 133 P st G = pm_go pm_sC 58 G (pm_oAL 0 134 P st G) := pm_dn_eq (i := .aload_n 0) (len := 1) rfl
theorem u_58_134 (P : PL) (st : List PV) (G : PW) : pm_dn pm_sC 58 134 P st G = pm_go pm_sC 58 G (pm_oGf pm_sC 5 2 137 P st G) := pm_dn_eq (i := .getfield 19) (len := 3) rfl
theorem u_58_137 (P : PL) (st : List PV) (G : PW) : pm_dn pm_sC 58 137 P st G = pm_go pm_sC 58 G (pm_oIL 1 138 P st G) := pm_dn_eq (i := .iload_n 1) (len := 1) rfl
theorem u_58_138 (P : PL) (st : List PV) (G : PW) : pm_dn pm_sC 58 138 P st G = pm_go pm_sC 58 G (pm_oCv pm_sC 17 1 2 0 141 P st G) := pm_dn_eq (i := .invokevirtual 159) (len := 3) rfl
theorem u_58_141 (P : PL) (st : List PV) (G : PW) : pm_dn pm_sC 58 141 P st G = pm_go pm_sC 58 G (pm_oRi 0 P st G) := pm_dn_eq (i := .ireturn) (len := 1) rfl
theorem u_58_142 (P : PL) (st : List PV) (G : PW) : pm_dn pm_sC 58 142 P st G = pm_go pm_sC 58 G (pm_oAL 0 143 P st G) := pm_dn_eq (i := .aload_n 0) (len := 1) rfl
theorem u_58_143 (P : PL) (st : List PV) (G : PW) : pm_dn pm_sC 58 143 P st G = pm_go pm_sC 58 G (pm_oGf pm_sC 5 2 146 P st G) := pm_dn_eq (i := .getfield 19) (len := 3) rfl
theorem u_58_146 (P : PL) (st : List PV) (G : PW) : pm_dn pm_sC 58 146 P st G = pm_go pm_sC 58 G (pm_oIL 1 147 P st G) := pm_dn_eq (i := .iload_n 1) (len := 1) rfl
theorem u_58_147 (P : PL) (st : List PV) (G : PW) : pm_dn pm_sC 58 147 P st G = pm_go pm_sC 58 G (pm_oCv pm_sC 23 1 5 0 150 P st G) := pm_dn_eq (i := .invokevirtual 162) (len := 3) rfl
theorem u_58_150 (P : PL) (st : List PV) (G : PW) : pm_dn pm_sC 58 150 P st G = pm_go pm_sC 58 G (pm_oRi 0 P st G) := pm_dn_eq (i := .ireturn) (len := 1) rfl
theorem u_58_151 (P : PL) (st : List PV) (G : PW) : pm_dn pm_sC 58 151 P st G = pm_go pm_sC 58 G (pm_oK (-2) 153 P st G) := pm_dn_eq (i := .bipush (-2)) (len := 2) rfl
theorem u_58_153 (P : PL) (st : List PV) (G : PW) : pm_dn pm_sC 58 153 P st G = pm_go pm_sC 58 G (pm_oRi 0 P st G) := pm_dn_eq (i := .ireturn) (len := 1) rfl
theorem ue_59 (a0 : Nat) (a1 : Int) (G : PW) : pm_ca pm_sC 59 [.inr (.inr a0), .inl a1] G = pm_dn pm_sC 59 0 [some (.inr (.inr a0)), some (.inl a1), none, none] [] G := rfl
theorem u_59_0 (P : PL) (st : List PV) (G : PW) : pm_dn pm_sC 59 0 P st G = pm_go pm_sC 59 G (pm_oIL 1 1 P st G) := pm_dn_eq (i := .iload_n 1) (len := 1) rfl
theorem u_59_1 (P : PL) (st : List PV) (G : PW) : pm_dn pm_sC 59 1 P st G = pm_go pm_sC 59 G (pm_oIf .ge (some 7) 4 P st G) := pm_dn_eq (i := .ifCond .ge 6) (len := 3) rfl
theorem u_59_4 (P : PL) (st : List PV) (G : PW) : pm_dn pm_sC 59 4 P st G = pm_go pm_sC 59 G (pm_oK (-6) 6 P st G) := pm_dn_eq (i := .bipush (-6)) (len := 2) rfl
theorem u_59_6 (P : PL) (st : List PV) (G : PW) : pm_dn pm_sC 59 6 P st G = pm_go pm_sC 59 G (pm_oRi 0 P st G) := pm_dn_eq (i := .ireturn) (len := 1) rfl
theorem u_59_7 (P : PL) (st : List PV) (G : PW) : pm_dn pm_sC 59 7 P st G = pm_go pm_sC 59 G (pm_oK 0 8 P st G) := pm_dn_eq (i := .iconst 0) (len := 1) rfl
theorem u_59_8 (P : PL) (st : List PV) (G : PW) : pm_dn pm_sC 59 8 P st G = pm_go pm_sC 59 G (pm_oIS 2 9 P st G) := pm_dn_eq (i := .istore_n 2) (len := 1) rfl
theorem u_59_9 (P : PL) (st : List PV) (G : PW) : pm_dn pm_sC 59 9 P st G = pm_go pm_sC 59 G (pm_oK 0 10 P st G) := pm_dn_eq (i := .iconst 0) (len := 1) rfl
theorem u_59_10 (P : PL) (st : List PV) (G : PW) : pm_dn pm_sC 59 10 P st G = pm_go pm_sC 59 G (pm_oIS 3 11 P st G) := pm_dn_eq (i := .istore_n 3) (len := 1) rfl
theorem u_59_11 (P : PL) (st : List PV) (G : PW) : pm_dn pm_sC 59 11 P st G = pm_go pm_sC 59 G (pm_oIL 3 12 P st G) := pm_dn_eq (i := .iload_n 3) (len := 1) rfl
theorem u_59_12 (P : PL) (st : List PV) (G : PW) : pm_dn pm_sC 59 12 P st G = pm_go pm_sC 59 G (pm_oAL 0 13 P st G) := pm_dn_eq (i := .aload_n 0) (len := 1) rfl
theorem u_59_13 (P : PL) (st : List PV) (G : PW) : pm_dn pm_sC 59 13 P st G = pm_go pm_sC 59 G (pm_oGf pm_sC 5 2 16 P st G) := pm_dn_eq (i := .getfield 19) (len := 3) rfl
theorem u_59_16 (P : PL) (st : List PV) (G : PW) : pm_dn pm_sC 59 16 P st G = pm_go pm_sC 59 G (pm_oGf pm_sC 0 0 19 P st G) := pm_dn_eq (i := .getfield 60) (len := 3) rfl
theorem u_59_19 (P : PL) (st : List PV) (G : PW) : pm_dn pm_sC 59 19 P st G = pm_go pm_sC 59 G (pm_oGf pm_sC 3 4 22 P st G) := pm_dn_eq (i := .getfield 64) (len := 3) rfl
theorem u_59_22 (P : PL) (st : List PV) (G : PW) : pm_dn pm_sC 59 22 P st G = pm_go pm_sC 59 G (pm_oIc .ge (some 52) 25 P st G) := pm_dn_eq (i := .if_icmp .ge 30) (len := 3) rfl
theorem u_59_25 (P : PL) (st : List PV) (G : PW) : pm_dn pm_sC 59 25 P st G = pm_go pm_sC 59 G (pm_oAL 0 26 P st G) := pm_dn_eq (i := .aload_n 0) (len := 1) rfl
theorem u_59_26 (P : PL) (st : List PV) (G : PW) : pm_dn pm_sC 59 26 P st G = pm_go pm_sC 59 G (pm_oGf pm_sC 5 2 29 P st G) := pm_dn_eq (i := .getfield 19) (len := 3) rfl
theorem u_59_29 (P : PL) (st : List PV) (G : PW) : pm_dn pm_sC 59 29 P st G = pm_go pm_sC 59 G (pm_oIL 3 30 P st G) := pm_dn_eq (i := .iload_n 3) (len := 1) rfl
theorem u_59_30 (P : PL) (st : List PV) (G : PW) : pm_dn pm_sC 59 30 P st G = pm_go pm_sC 59 G (pm_oCv pm_sC 9 1 2 0 33 P st G) := pm_dn_eq (i := .invokevirtual 84) (len := 3) rfl
theorem u_59_33 (P : PL) (st : List PV) (G : PW) : pm_dn pm_sC 59 33 P st G = pm_go pm_sC 59 G (pm_oIf .eq (some 46) 36 P st G) := pm_dn_eq (i := .ifCond .eq 13) (len := 3) rfl
theorem u_59_36 (P : PL) (st : List PV) (G : PW) : pm_dn pm_sC 59 36 P st G = pm_go pm_sC 59 G (pm_oIL 2 37 P st G) := pm_dn_eq (i := .iload_n 2) (len := 1) rfl
theorem u_59_37 (P : PL) (st : List PV) (G : PW) : pm_dn pm_sC 59 37 P st G = pm_go pm_sC 59 G (pm_oIL 1 38 P st G) := pm_dn_eq (i := .iload_n 1) (len := 1) rfl
theorem u_59_38 (P : PL) (st : List PV) (G : PW) : pm_dn pm_sC 59 38 P st G = pm_go pm_sC 59 G (pm_oIc .ne (some 43) 41 P st G) := pm_dn_eq (i := .if_icmp .ne 5) (len := 3) rfl
theorem u_59_41 (P : PL) (st : List PV) (G : PW) : pm_dn pm_sC 59 41 P st G = pm_go pm_sC 59 G (pm_oIL 3 42 P st G) := pm_dn_eq (i := .iload_n 3) (len := 1) rfl
theorem u_59_42 (P : PL) (st : List PV) (G : PW) : pm_dn pm_sC 59 42 P st G = pm_go pm_sC 59 G (pm_oRi 0 P st G) := pm_dn_eq (i := .ireturn) (len := 1) rfl
theorem u_59_43 (P : PL) (st : List PV) (G : PW) : pm_dn pm_sC 59 43 P st G = pm_go pm_sC 59 G (pm_oInc 2 1 46 P st G) := pm_dn_eq (i := .iinc 2 1) (len := 3) rfl
theorem u_59_46 (P : PL) (st : List PV) (G : PW) : pm_dn pm_sC 59 46 P st G = pm_go pm_sC 59 G (pm_oInc 3 1 49 P st G) := pm_dn_eq (i := .iinc 3 1) (len := 3) rfl
theorem u_59_49 (P : PL) (st : List PV) (G : PW) : pm_dn pm_sC 59 49 P st G = pm_go pm_sC 59 G (pm_oGo (some 11) P st G) := pm_dn_eq (i := .goto (-38)) (len := 3) rfl
theorem u_59_52 (P : PL) (st : List PV) (G : PW) : pm_dn pm_sC 59 52 P st G = pm_go pm_sC 59 G (pm_oK (-6) 54 P st G) := pm_dn_eq (i := .bipush (-6)) (len := 2) rfl
theorem u_59_54 (P : PL) (st : List PV) (G : PW) : pm_dn pm_sC 59 54 P st G = pm_go pm_sC 59 G (pm_oRi 0 P st G) := pm_dn_eq (i := .ireturn) (len := 1) rfl
theorem ue_60 (a0 : Nat) (a1 : Int) (G : PW) : pm_ca pm_sC 60 [.inr (.inr a0), .inl a1] G = pm_dn pm_sC 60 0 [some (.inr (.inr a0)), some (.inl a1)] [] G := rfl
theorem u_60_0 (P : PL) (st : List PV) (G : PW) : pm_dn pm_sC 60 0 P st G = pm_go pm_sC 60 G (pm_oIL 1 1 P st G) := pm_dn_eq (i := .iload_n 1) (len := 1) rfl
theorem u_60_1 (P : PL) (st : List PV) (G : PW) : pm_dn pm_sC 60 1 P st G = pm_go pm_sC 60 G (pm_oSw 0 13 (some 189) (some [72, 83, 94, 105, 116, 125, 134, 143, 148, 156, 161, 167, 173, 181]) P st G) := pm_dn_eq (i := .tableswitch 188 0 13 #[71, 82, 93, 104, 115, 124, 133, 142, 147, 155, 160, 166, 172, 180]) (len := 71) rfl
theorem u_60_72 (P : PL) (st : List PV) (G : PW) : pm_dn pm_sC 60 72 P st G = pm_go pm_sC 60 G (pm_oAL 0 73 P st G) := pm_dn_eq (i := .aload_n 0) (len := 1) rfl
theorem u_60_73 (P : PL) (st : List PV) (G : PW) : pm_dn pm_sC 60 73 P st G = pm_go pm_sC 60 G (pm_oGf pm_sC 5 2 76 P st G) := pm_dn_eq (i := .getfield 19) (len := 3) rfl
theorem u_60_76 (P : PL) (st : List PV) (G : PW) : pm_dn pm_sC 60 76 P st G = pm_go pm_sC 60 G (pm_oGf pm_sC 0 0 79 P st G) := pm_dn_eq (i := .getfield 60) (len := 3) rfl
theorem u_60_79 (P : PL) (st : List PV) (G : PW) : pm_dn pm_sC 60 79 P st G = pm_go pm_sC 60 G (pm_oGf pm_sC 3 0 82 P st G) := pm_dn_eq (i := .getfield 165) (len := 3) rfl
theorem u_60_82 (P : PL) (st : List PV) (G : PW) : pm_dn pm_sC 60 82 P st G = pm_go pm_sC 60 G (pm_oRi 0 P st G) := pm_dn_eq (i := .ireturn) (len := 1) rfl
theorem u_60_83 (P : PL) (st : List PV) (G : PW) : pm_dn pm_sC 60 83 P st G = pm_go pm_sC 60 G (pm_oAL 0 84 P st G) := pm_dn_eq (i := .aload_n 0) (len := 1) rfl
theorem u_60_84 (P : PL) (st : List PV) (G : PW) : pm_dn pm_sC 60 84 P st G = pm_go pm_sC 60 G (pm_oGf pm_sC 5 2 87 P st G) := pm_dn_eq (i := .getfield 19) (len := 3) rfl
theorem u_60_87 (P : PL) (st : List PV) (G : PW) : pm_dn pm_sC 60 87 P st G = pm_go pm_sC 60 G (pm_oGf pm_sC 0 0 90 P st G) := pm_dn_eq (i := .getfield 60) (len := 3) rfl
theorem u_60_90 (P : PL) (st : List PV) (G : PW) : pm_dn pm_sC 60 90 P st G = pm_go pm_sC 60 G (pm_oGf pm_sC 3 2 93 P st G) := pm_dn_eq (i := .getfield 168) (len := 3) rfl
theorem u_60_93 (P : PL) (st : List PV) (G : PW) : pm_dn pm_sC 60 93 P st G = pm_go pm_sC 60 G (pm_oRi 0 P st G) := pm_dn_eq (i := .ireturn) (len := 1) rfl
theorem u_60_94 (P : PL) (st : List PV) (G : PW) : pm_dn pm_sC 60 94 P st G = pm_go pm_sC 60 G (pm_oAL 0 95 P st G) := pm_dn_eq (i := .aload_n 0) (len := 1) rfl
theorem u_60_95 (P : PL) (st : List PV) (G : PW) : pm_dn pm_sC 60 95 P st G = pm_go pm_sC 60 G (pm_oGf pm_sC 5 2 98 P st G) := pm_dn_eq (i := .getfield 19) (len := 3) rfl
theorem u_60_98 (P : PL) (st : List PV) (G : PW) : pm_dn pm_sC 60 98 P st G = pm_go pm_sC 60 G (pm_oGf pm_sC 0 0 101 P st G) := pm_dn_eq (i := .getfield 60) (len := 3) rfl
theorem u_60_101 (P : PL) (st : List PV) (G : PW) : pm_dn pm_sC 60 101 P st G = pm_go pm_sC 60 G (pm_oGf pm_sC 3 4 104 P st G) := pm_dn_eq (i := .getfield 64) (len := 3) rfl
theorem u_60_104 (P : PL) (st : List PV) (G : PW) : pm_dn pm_sC 60 104 P st G = pm_go pm_sC 60 G (pm_oRi 0 P st G) := pm_dn_eq (i := .ireturn) (len := 1) rfl
theorem u_60_105 (P : PL) (st : List PV) (G : PW) : pm_dn pm_sC 60 105 P st G = pm_go pm_sC 60 G (pm_oAL 0 106 P st G) := pm_dn_eq (i := .aload_n 0) (len := 1) rfl
theorem u_60_106 (P : PL) (st : List PV) (G : PW) : pm_dn pm_sC 60 106 P st G = pm_go pm_sC 60 G (pm_oGf pm_sC 5 2 109 P st G) := pm_dn_eq (i := .getfield 19) (len := 3) rfl
theorem u_60_109 (P : PL) (st : List PV) (G : PW) : pm_dn pm_sC 60 109 P st G = pm_go pm_sC 60 G (pm_oGf pm_sC 0 0 112 P st G) := pm_dn_eq (i := .getfield 60) (len := 3) rfl
theorem u_60_112 (P : PL) (st : List PV) (G : PW) : pm_dn pm_sC 60 112 P st G = pm_go pm_sC 60 G (pm_oGf pm_sC 3 1 115 P st G) := pm_dn_eq (i := .getfield 171) (len := 3) rfl
theorem u_60_115 (P : PL) (st : List PV) (G : PW) : pm_dn pm_sC 60 115 P st G = pm_go pm_sC 60 G (pm_oRi 0 P st G) := pm_dn_eq (i := .ireturn) (len := 1) rfl
theorem u_60_116 (P : PL) (st : List PV) (G : PW) : pm_dn pm_sC 60 116 P st G = pm_go pm_sC 60 G (pm_oAL 0 117 P st G) := pm_dn_eq (i := .aload_n 0) (len := 1) rfl
theorem u_60_117 (P : PL) (st : List PV) (G : PW) : pm_dn pm_sC 60 117 P st G = pm_go pm_sC 60 G (pm_oGf pm_sC 5 2 120 P st G) := pm_dn_eq (i := .getfield 19) (len := 3) rfl
theorem u_60_120 (P : PL) (st : List PV) (G : PW) : pm_dn pm_sC 60 120 P st G = pm_go pm_sC 60 G (pm_oK 3 121 P st G) := pm_dn_eq (i := .iconst 3) (len := 1) rfl
theorem u_60_121 (P : PL) (st : List PV) (G : PW) : pm_dn pm_sC 60 121 P st G = pm_go pm_sC 60 G (pm_oCv pm_sC 20 1 4 0 124 P st G) := pm_dn_eq (i := .invokevirtual 174) (len := 3) rfl
theorem u_60_124 (P : PL) (st : List PV) (G : PW) : pm_dn pm_sC 60 124 P st G = pm_go pm_sC 60 G (pm_oRi 0 P st G) := pm_dn_eq (i := .ireturn) (len := 1) rfl
theorem u_60_125 (P : PL) (st : List PV) (G : PW) : pm_dn pm_sC 60 125 P st G = pm_go pm_sC 60 G (pm_oAL 0 126 P st G) := pm_dn_eq (i := .aload_n 0) (len := 1) rfl
theorem u_60_126 (P : PL) (st : List PV) (G : PW) : pm_dn pm_sC 60 126 P st G = pm_go pm_sC 60 G (pm_oGf pm_sC 5 2 129 P st G) := pm_dn_eq (i := .getfield 19) (len := 3) rfl
theorem u_60_129 (P : PL) (st : List PV) (G : PW) : pm_dn pm_sC 60 129 P st G = pm_go pm_sC 60 G (pm_oK 2 130 P st G) := pm_dn_eq (i := .iconst 2) (len := 1) rfl
theorem u_60_130 (P : PL) (st : List PV) (G : PW) : pm_dn pm_sC 60 130 P st G = pm_go pm_sC 60 G (pm_oCv pm_sC 20 1 4 0 133 P st G) := pm_dn_eq (i := .invokevirtual 174) (len := 3) rfl
theorem u_60_133 (P : PL) (st : List PV) (G : PW) : pm_dn pm_sC 60 133 P st G = pm_go pm_sC 60 G (pm_oRi 0 P st G) := pm_dn_eq (i := .ireturn) (len := 1) rfl
theorem u_60_134 (P : PL) (st : List PV) (G : PW) : pm_dn pm_sC 60 134 P st G = pm_go pm_sC 60 G (pm_oAL 0 135 P st G) := pm_dn_eq (i := .aload_n 0) (len := 1) rfl
theorem u_60_135 (P : PL) (st : List PV) (G : PW) : pm_dn pm_sC 60 135 P st G = pm_go pm_sC 60 G (pm_oGf pm_sC 5 2 138 P st G) := pm_dn_eq (i := .getfield 19) (len := 3) rfl
theorem u_60_138 (P : PL) (st : List PV) (G : PW) : pm_dn pm_sC 60 138 P st G = pm_go pm_sC 60 G (pm_oK 1 139 P st G) := pm_dn_eq (i := .iconst 1) (len := 1) rfl
theorem u_60_139 (P : PL) (st : List PV) (G : PW) : pm_dn pm_sC 60 139 P st G = pm_go pm_sC 60 G (pm_oCv pm_sC 20 1 4 0 142 P st G) := pm_dn_eq (i := .invokevirtual 174) (len := 3) rfl
theorem u_60_142 (P : PL) (st : List PV) (G : PW) : pm_dn pm_sC 60 142 P st G = pm_go pm_sC 60 G (pm_oRi 0 P st G) := pm_dn_eq (i := .ireturn) (len := 1) rfl
theorem u_60_143 (P : PL) (st : List PV) (G : PW) : pm_dn pm_sC 60 143 P st G = pm_go pm_sC 60 G (pm_oAL 0 144 P st G) := pm_dn_eq (i := .aload_n 0) (len := 1) rfl
theorem u_60_144 (P : PL) (st : List PV) (G : PW) : pm_dn pm_sC 60 144 P st G = pm_go pm_sC 60 G (pm_oCv pm_sC 68 0 3 5 147 P st G) := pm_dn_eq (i := .invokevirtual 177) (len := 3) rfl
theorem u_60_147 (P : PL) (st : List PV) (G : PW) : pm_dn pm_sC 60 147 P st G = pm_go pm_sC 60 G (pm_oRi 0 P st G) := pm_dn_eq (i := .ireturn) (len := 1) rfl
theorem u_60_148 (P : PL) (st : List PV) (G : PW) : pm_dn pm_sC 60 148 P st G = pm_go pm_sC 60 G (pm_oAL 0 149 P st G) := pm_dn_eq (i := .aload_n 0) (len := 1) rfl
theorem u_60_149 (P : PL) (st : List PV) (G : PW) : pm_dn pm_sC 60 149 P st G = pm_go pm_sC 60 G (pm_oGf pm_sC 5 2 152 P st G) := pm_dn_eq (i := .getfield 19) (len := 3) rfl
theorem u_60_152 (P : PL) (st : List PV) (G : PW) : pm_dn pm_sC 60 152 P st G = pm_go pm_sC 60 G (pm_oCv pm_sC 15 0 3 0 155 P st G) := pm_dn_eq (i := .invokevirtual 181) (len := 3) rfl
theorem u_60_155 (P : PL) (st : List PV) (G : PW) : pm_dn pm_sC 60 155 P st G = pm_go pm_sC 60 G (pm_oRi 0 P st G) := pm_dn_eq (i := .ireturn) (len := 1) rfl
theorem u_60_156 (P : PL) (st : List PV) (G : PW) : pm_dn pm_sC 60 156 P st G = pm_go pm_sC 60 G (pm_oAL 0 157 P st G) := pm_dn_eq (i := .aload_n 0) (len := 1) rfl
theorem u_60_157 (P : PL) (st : List PV) (G : PW) : pm_dn pm_sC 60 157 P st G = pm_go pm_sC 60 G (pm_oCv pm_sC 69 0 3 5 160 P st G) := pm_dn_eq (i := .invokevirtual 184) (len := 3) rfl
theorem u_60_160 (P : PL) (st : List PV) (G : PW) : pm_dn pm_sC 60 160 P st G = pm_go pm_sC 60 G (pm_oRi 0 P st G) := pm_dn_eq (i := .ireturn) (len := 1) rfl
theorem u_60_161 (P : PL) (st : List PV) (G : PW) : pm_dn pm_sC 60 161 P st G = pm_go pm_sC 60 G (pm_oAL 0 162 P st G) := pm_dn_eq (i := .aload_n 0) (len := 1) rfl
theorem u_60_162 (P : PL) (st : List PV) (G : PW) : pm_dn pm_sC 60 162 P st G = pm_go pm_sC 60 G (pm_oK 0 163 P st G) := pm_dn_eq (i := .iconst 0) (len := 1) rfl
theorem u_60_163 (P : PL) (st : List PV) (G : PW) : pm_dn pm_sC 60 163 P st G = pm_go pm_sC 60 G (pm_oCv pm_sC 70 1 7 5 166 P st G) := pm_dn_eq (i := .invokevirtual 187) (len := 3) rfl
theorem u_60_166 (P : PL) (st : List PV) (G : PW) : pm_dn pm_sC 60 166 P st G = pm_go pm_sC 60 G (pm_oRi 0 P st G) := pm_dn_eq (i := .ireturn) (len := 1) rfl
theorem u_60_167 (P : PL) (st : List PV) (G : PW) : pm_dn pm_sC 60 167 P st G = pm_go pm_sC 60 G (pm_oAL 0 168 P st G) := pm_dn_eq (i := .aload_n 0) (len := 1) rfl
theorem u_60_168 (P : PL) (st : List PV) (G : PW) : pm_dn pm_sC 60 168 P st G = pm_go pm_sC 60 G (pm_oK 1 169 P st G) := pm_dn_eq (i := .iconst 1) (len := 1) rfl
theorem u_60_169 (P : PL) (st : List PV) (G : PW) : pm_dn pm_sC 60 169 P st G = pm_go pm_sC 60 G (pm_oCv pm_sC 70 1 7 5 172 P st G) := pm_dn_eq (i := .invokevirtual 187) (len := 3) rfl
theorem u_60_172 (P : PL) (st : List PV) (G : PW) : pm_dn pm_sC 60 172 P st G = pm_go pm_sC 60 G (pm_oRi 0 P st G) := pm_dn_eq (i := .ireturn) (len := 1) rfl
theorem u_60_173 (P : PL) (st : List PV) (G : PW) : pm_dn pm_sC 60 173 P st G = pm_go pm_sC 60 G (pm_oAL 0 174 P st G) := pm_dn_eq (i := .aload_n 0) (len := 1) rfl
theorem u_60_174 (P : PL) (st : List PV) (G : PW) : pm_dn pm_sC 60 174 P st G = pm_go pm_sC 60 G (pm_oGf pm_sC 5 5 177 P st G) := pm_dn_eq (i := .getfield 36) (len := 3) rfl
theorem u_60_177 (P : PL) (st : List PV) (G : PW) : pm_dn pm_sC 60 177 P st G = pm_go pm_sC 60 G (pm_oGf pm_sC 2 1 180 P st G) := pm_dn_eq (i := .getfield 191) (len := 3) rfl
theorem u_60_180 (P : PL) (st : List PV) (G : PW) : pm_dn pm_sC 60 180 P st G = pm_go pm_sC 60 G (pm_oRi 0 P st G) := pm_dn_eq (i := .ireturn) (len := 1) rfl
theorem u_60_181 (P : PL) (st : List PV) (G : PW) : pm_dn pm_sC 60 181 P st G = pm_go pm_sC 60 G (pm_oAL 0 182 P st G) := pm_dn_eq (i := .aload_n 0) (len := 1) rfl
theorem u_60_182 (P : PL) (st : List PV) (G : PW) : pm_dn pm_sC 60 182 P st G = pm_go pm_sC 60 G (pm_oGf pm_sC 5 4 185 P st G) := pm_dn_eq (i := .getfield 29) (len := 3) rfl
theorem u_60_185 (P : PL) (st : List PV) (G : PW) : pm_dn pm_sC 60 185 P st G = pm_go pm_sC 60 G (pm_oGf pm_sC 1 1 188 P st G) := pm_dn_eq (i := .getfield 194) (len := 3) rfl
theorem u_60_188 (P : PL) (st : List PV) (G : PW) : pm_dn pm_sC 60 188 P st G = pm_go pm_sC 60 G (pm_oRi 0 P st G) := pm_dn_eq (i := .ireturn) (len := 1) rfl
theorem u_60_189 (P : PL) (st : List PV) (G : PW) : pm_dn pm_sC 60 189 P st G = pm_go pm_sC 60 G (pm_oK (-2) 191 P st G) := pm_dn_eq (i := .bipush (-2)) (len := 2) rfl
theorem u_60_191 (P : PL) (st : List PV) (G : PW) : pm_dn pm_sC 60 191 P st G = pm_go pm_sC 60 G (pm_oRi 0 P st G) := pm_dn_eq (i := .ireturn) (len := 1) rfl
theorem ue_61 (a0 : Nat) (G : PW) : pm_ca pm_sC 61 [.inr (.inr a0)] G = pm_dn pm_sC 61 0 [some (.inr (.inr a0))] [] G := rfl
theorem u_61_0 (P : PL) (st : List PV) (G : PW) : pm_dn pm_sC 61 0 P st G = pm_go pm_sC 61 G (pm_oAL 0 1 P st G) := pm_dn_eq (i := .aload_n 0) (len := 1) rfl
theorem u_61_1 (P : PL) (st : List PV) (G : PW) : pm_dn pm_sC 61 1 P st G = pm_go pm_sC 61 G (pm_oK (-6) 3 P st G) := pm_dn_eq (i := .bipush (-6)) (len := 2) rfl
theorem u_61_3 (P : PL) (st : List PV) (G : PW) : pm_dn pm_sC 61 3 P st G = pm_go pm_sC 61 G (pm_oCv pm_sC 71 1 6 5 6 P st G) := pm_dn_eq (i := .invokevirtual 195) (len := 3) rfl
theorem u_61_6 (P : PL) (st : List PV) (G : PW) : pm_dn pm_sC 61 6 P st G = pm_go pm_sC 61 G (pm_oPop 7 P st G) := pm_dn_eq (i := .pop) (len := 1) rfl
theorem u_61_7 (P : PL) (st : List PV) (G : PW) : pm_dn pm_sC 61 7 P st G = pm_go pm_sC 61 G (pm_oAL 0 8 P st G) := pm_dn_eq (i := .aload_n 0) (len := 1) rfl
theorem u_61_8 (P : PL) (st : List PV) (G : PW) : pm_dn pm_sC 61 8 P st G = pm_go pm_sC 61 G (pm_oGf pm_sC 5 3 11 P st G) := pm_dn_eq (i := .getfield 23) (len := 3) rfl
theorem u_61_11 (P : PL) (st : List PV) (G : PW) : pm_dn pm_sC 61 11 P st G = pm_go pm_sC 61 G (pm_oCv pm_sC 15 0 3 0 14 P st G) := pm_dn_eq (i := .invokevirtual 181) (len := 3) rfl
theorem u_61_14 (P : PL) (st : List PV) (G : PW) : pm_dn pm_sC 61 14 P st G = pm_go pm_sC 61 G (pm_oRi 0 P st G) := pm_dn_eq (i := .ireturn) (len := 1) rfl
theorem ue_62 (a0 : Nat) (G : PW) : pm_ca pm_sC 62 [.inr (.inr a0)] G = pm_dn pm_sC 62 0 [some (.inr (.inr a0))] [] G := rfl
theorem u_62_0 (P : PL) (st : List PV) (G : PW) : pm_dn pm_sC 62 0 P st G = pm_go pm_sC 62 G (pm_oAL 0 1 P st G) := pm_dn_eq (i := .aload_n 0) (len := 1) rfl
theorem u_62_1 (P : PL) (st : List PV) (G : PW) : pm_dn pm_sC 62 1 P st G = pm_go pm_sC 62 G (pm_oGf pm_sC 5 4 4 P st G) := pm_dn_eq (i := .getfield 29) (len := 3) rfl
theorem u_62_4 (P : PL) (st : List PV) (G : PW) : pm_dn pm_sC 62 4 P st G = pm_go pm_sC 62 G (pm_oGf pm_sC 1 1 7 P st G) := pm_dn_eq (i := .getfield 194) (len := 3) rfl
theorem u_62_7 (P : PL) (st : List PV) (G : PW) : pm_dn pm_sC 62 7 P st G = pm_go pm_sC 62 G (pm_oIf .ne (some 13) 10 P st G) := pm_dn_eq (i := .ifCond .ne 6) (len := 3) rfl
theorem u_62_10 (P : PL) (st : List PV) (G : PW) : pm_dn pm_sC 62 10 P st G = pm_go pm_sC 62 G (pm_oK (-5) 12 P st G) := pm_dn_eq (i := .bipush (-5)) (len := 2) rfl
theorem u_62_12 (P : PL) (st : List PV) (G : PW) : pm_dn pm_sC 62 12 P st G = pm_go pm_sC 62 G (pm_oRi 0 P st G) := pm_dn_eq (i := .ireturn) (len := 1) rfl
theorem u_62_13 (P : PL) (st : List PV) (G : PW) : pm_dn pm_sC 62 13 P st G = pm_go pm_sC 62 G (pm_oAL 0 14 P st G) := pm_dn_eq (i := .aload_n 0) (len := 1) rfl
theorem u_62_14 (P : PL) (st : List PV) (G : PW) : pm_dn pm_sC 62 14 P st G = pm_go pm_sC 62 G (pm_oGf pm_sC 5 4 17 P st G) := pm_dn_eq (i := .getfield 29) (len := 3) rfl
theorem u_62_17 (P : PL) (st : List PV) (G : PW) : pm_dn pm_sC 62 17 P st G = pm_go pm_sC 62 G (pm_oCv pm_sC 30 0 1 1 20 P st G) := pm_dn_eq (i := .invokevirtual 238) (len := 3) rfl
theorem u_62_20 (P : PL) (st : List PV) (G : PW) : pm_dn pm_sC 62 20 P st G = pm_go pm_sC 62 G (pm_oAL 0 21 P st G) := pm_dn_eq (i := .aload_n 0) (len := 1) rfl
theorem u_62_21 (P : PL) (st : List PV) (G : PW) : pm_dn pm_sC 62 21 P st G = pm_go pm_sC 62 G (pm_oCv pm_sC 66 0 2 5 24 P st G) := pm_dn_eq (i := .invokevirtual 241) (len := 3) rfl
theorem u_62_24 (P : PL) (st : List PV) (G : PW) : pm_dn pm_sC 62 24 P st G = pm_go pm_sC 62 G (pm_oAL 0 25 P st G) := pm_dn_eq (i := .aload_n 0) (len := 1) rfl
theorem u_62_25 (P : PL) (st : List PV) (G : PW) : pm_dn pm_sC 62 25 P st G = pm_go pm_sC 62 G (pm_oGf pm_sC 5 4 28 P st G) := pm_dn_eq (i := .getfield 29) (len := 3) rfl
theorem u_62_28 (P : PL) (st : List PV) (G : PW) : pm_dn pm_sC 62 28 P st G = pm_go pm_sC 62 G (pm_oGf pm_sC 1 1 31 P st G) := pm_dn_eq (i := .getfield 194) (len := 3) rfl
theorem u_62_31 (P : PL) (st : List PV) (G : PW) : pm_dn pm_sC 62 31 P st G = pm_go pm_sC 62 G (pm_oRi 0 P st G) := pm_dn_eq (i := .ireturn) (len := 1) rfl
theorem ue_63 (a0 : Nat) (a1 : Int) (a2 : Int) (G : PW) : pm_ca pm_sC 63 [.inr (.inr a0), .inl a1, .inl a2] G = pm_dn pm_sC 63 0 [some (.inr (.inr a0)), some (.inl a1), some (.inl a2)] [] G := rfl
theorem u_63_0 (P : PL) (st : List PV) (G : PW) : pm_dn pm_sC 63 0 P st G = pm_go pm_sC 63 G (pm_oAL 0 1 P st G) := pm_dn_eq (i := .aload_n 0) (len := 1) rfl
theorem u_63_1 (P : PL) (st : List PV) (G : PW) : pm_dn pm_sC 63 1 P st G = pm_go pm_sC 63 G (pm_oGf pm_sC 5 2 4 P st G) := pm_dn_eq (i := .getfield 19) (len := 3) rfl
theorem u_63_4 (P : PL) (st : List PV) (G : PW) : pm_dn pm_sC 63 4 P st G = pm_go pm_sC 63 G (pm_oGf pm_sC 0 0 7 P st G) := pm_dn_eq (i := .getfield 60) (len := 3) rfl
theorem u_63_7 (P : PL) (st : List PV) (G : PW) : pm_dn pm_sC 63 7 P st G = pm_go pm_sC 63 G (pm_oIL 1 8 P st G) := pm_dn_eq (i := .iload_n 1) (len := 1) rfl
theorem u_63_8 (P : PL) (st : List PV) (G : PW) : pm_dn pm_sC 63 8 P st G = pm_go pm_sC 63 G (pm_oIL 2 9 P st G) := pm_dn_eq (i := .iload_n 2) (len := 1) rfl
theorem u_63_9 (P : PL) (st : List PV) (G : PW) : pm_dn pm_sC 63 9 P st G = pm_go pm_sC 63 G (pm_oCv pm_sC 33 2 3 3 12 P st G) := pm_dn_eq (i := .invokevirtual 259) (len := 3) rfl
theorem u_63_12 (P : PL) (st : List PV) (G : PW) : pm_dn pm_sC 63 12 P st G = pm_go pm_sC 63 G (pm_oAL 0 13 P st G) := pm_dn_eq (i := .aload_n 0) (len := 1) rfl
theorem u_63_13 (P : PL) (st : List PV) (G : PW) : pm_dn pm_sC 63 13 P st G = pm_go pm_sC 63 G (pm_oGf pm_sC 5 3 16 P st G) := pm_dn_eq (i := .getfield 23) (len := 3) rfl
theorem u_63_16 (P : PL) (st : List PV) (G : PW) : pm_dn pm_sC 63 16 P st G = pm_go pm_sC 63 G (pm_oGf pm_sC 0 0 19 P st G) := pm_dn_eq (i := .getfield 60) (len := 3) rfl
theorem u_63_19 (P : PL) (st : List PV) (G : PW) : pm_dn pm_sC 63 19 P st G = pm_go pm_sC 63 G (pm_oIL 1 20 P st G) := pm_dn_eq (i := .iload_n 1) (len := 1) rfl
theorem u_63_20 (P : PL) (st : List PV) (G : PW) : pm_dn pm_sC 63 20 P st G = pm_go pm_sC 63 G (pm_oIL 2 21 P st G) := pm_dn_eq (i := .iload_n 2) (len := 1) rfl
theorem u_63_21 (P : PL) (st : List PV) (G : PW) : pm_dn pm_sC 63 21 P st G = pm_go pm_sC 63 G (pm_oCv pm_sC 33 2 3 3 24 P st G) := pm_dn_eq (i := .invokevirtual 259) (len := 3) rfl
theorem u_63_24 (P : PL) (st : List PV) (G : PW) : pm_dn pm_sC 63 24 P st G = pm_go pm_sC 63 G (pm_oAL 0 25 P st G) := pm_dn_eq (i := .aload_n 0) (len := 1) rfl
theorem u_63_25 (P : PL) (st : List PV) (G : PW) : pm_dn pm_sC 63 25 P st G = pm_go pm_sC 63 G (pm_oGf pm_sC 5 2 28 P st G) := pm_dn_eq (i := .getfield 19) (len := 3) rfl
theorem u_63_28 (P : PL) (st : List PV) (G : PW) : pm_dn pm_sC 63 28 P st G = pm_go pm_sC 63 G (pm_oCv pm_sC 0 0 2 0 31 P st G) := pm_dn_eq (i := .invokevirtual 262) (len := 3) rfl
theorem u_63_31 (P : PL) (st : List PV) (G : PW) : pm_dn pm_sC 63 31 P st G = pm_go pm_sC 63 G (pm_oRv P st G) := pm_dn_eq (i := .return_) (len := 1) rfl
theorem ue_64 (a0 : Nat) (a1 : Int) (G : PW) : pm_ca pm_sC 64 [.inr (.inr a0), .inl a1] G = pm_dn pm_sC 64 0 [some (.inr (.inr a0)), some (.inl a1), none] [] G := rfl
theorem u_64_0 (P : PL) (st : List PV) (G : PW) : pm_dn pm_sC 64 0 P st G = pm_go pm_sC 64 G (pm_oAL 0 1 P st G) := pm_dn_eq (i := .aload_n 0) (len := 1) rfl
theorem u_64_1 (P : PL) (st : List PV) (G : PW) : pm_dn pm_sC 64 1 P st G = pm_go pm_sC 64 G (pm_oGf pm_sC 5 2 4 P st G) := pm_dn_eq (i := .getfield 19) (len := 3) rfl
theorem u_64_4 (P : PL) (st : List PV) (G : PW) : pm_dn pm_sC 64 4 P st G = pm_go pm_sC 64 G (pm_oCv pm_sC 19 0 1 0 7 P st G) := pm_dn_eq (i := .invokevirtual 263) (len := 3) rfl
theorem u_64_7 (P : PL) (st : List PV) (G : PW) : pm_dn pm_sC 64 7 P st G = pm_go pm_sC 64 G (pm_oIS 2 8 P st G) := pm_dn_eq (i := .istore_n 2) (len := 1) rfl
theorem u_64_8 (P : PL) (st : List PV) (G : PW) : pm_dn pm_sC 64 8 P st G = pm_go pm_sC 64 G (pm_oAL 0 9 P st G) := pm_dn_eq (i := .aload_n 0) (len := 1) rfl
theorem u_64_9 (P : PL) (st : List PV) (G : PW) : pm_dn pm_sC 64 9 P st G = pm_go pm_sC 64 G (pm_oIL 1 10 P st G) := pm_dn_eq (i := .iload_n 1) (len := 1) rfl
theorem u_64_10 (P : PL) (st : List PV) (G : PW) : pm_dn pm_sC 64 10 P st G = pm_go pm_sC 64 G (pm_oCv pm_sC 65 1 3 5 13 P st G) := pm_dn_eq (i := .invokevirtual 266) (len := 3) rfl
theorem u_64_13 (P : PL) (st : List PV) (G : PW) : pm_dn pm_sC 64 13 P st G = pm_go pm_sC 64 G (pm_oAL 0 14 P st G) := pm_dn_eq (i := .aload_n 0) (len := 1) rfl
theorem u_64_14 (P : PL) (st : List PV) (G : PW) : pm_dn pm_sC 64 14 P st G = pm_go pm_sC 64 G (pm_oGf pm_sC 5 2 17 P st G) := pm_dn_eq (i := .getfield 19) (len := 3) rfl
theorem u_64_17 (P : PL) (st : List PV) (G : PW) : pm_dn pm_sC 64 17 P st G = pm_go pm_sC 64 G (pm_oCv pm_sC 10 0 2 0 20 P st G) := pm_dn_eq (i := .invokevirtual 269) (len := 3) rfl
theorem u_64_20 (P : PL) (st : List PV) (G : PW) : pm_dn pm_sC 64 20 P st G = pm_go pm_sC 64 G (pm_oAL 0 21 P st G) := pm_dn_eq (i := .aload_n 0) (len := 1) rfl
theorem u_64_21 (P : PL) (st : List PV) (G : PW) : pm_dn pm_sC 64 21 P st G = pm_go pm_sC 64 G (pm_oGf pm_sC 5 2 24 P st G) := pm_dn_eq (i := .getfield 19) (len := 3) rfl
theorem u_64_24 (P : PL) (st : List PV) (G : PW) : pm_dn pm_sC 64 24 P st G = pm_go pm_sC 64 G (pm_oCv pm_sC 19 0 1 0 27 P st G) := pm_dn_eq (i := .invokevirtual 263) (len := 3) rfl
theorem u_64_27 (P : PL) (st : List PV) (G : PW) : pm_dn pm_sC 64 27 P st G = pm_go pm_sC 64 G (pm_oIL 2 28 P st G) := pm_dn_eq (i := .iload_n 2) (len := 1) rfl
theorem u_64_28 (P : PL) (st : List PV) (G : PW) : pm_dn pm_sC 64 28 P st G = pm_go pm_sC 64 G (pm_oSub 29 P st G) := pm_dn_eq (i := .isub) (len := 1) rfl
theorem u_64_29 (P : PL) (st : List PV) (G : PW) : pm_dn pm_sC 64 29 P st G = pm_go pm_sC 64 G (pm_oRi 0 P st G) := pm_dn_eq (i := .ireturn) (len := 1) rfl
theorem ue_65 (a0 : Nat) (a1 : Int) (G : PW) : pm_ca pm_sC 65 [.inr (.inr a0), .inl a1] G = pm_dn pm_sC 65 0 [some (.inr (.inr a0)), some (.inl a1), none] [] G := rfl
theorem u_65_0 (P : PL) (st : List PV) (G : PW) : pm_dn pm_sC 65 0 P st G = pm_go pm_sC 65 G (pm_oIL 1 1 P st G) := pm_dn_eq (i := .iload_n 1) (len := 1) rfl
theorem u_65_1 (P : PL) (st : List PV) (G : PW) : pm_dn pm_sC 65 1 P st G = pm_go pm_sC 65 G (pm_oCs 26 1 1 4 P st G) := pm_dn_eq (i := .invokestatic 272) (len := 3) rfl
theorem u_65_4 (P : PL) (st : List PV) (G : PW) : pm_dn pm_sC 65 4 P st G = pm_go pm_sC 65 G (pm_oIf .eq (some 30) 7 P st G) := pm_dn_eq (i := .ifCond .eq 26) (len := 3) rfl
theorem u_65_7 (P : PL) (st : List PV) (G : PW) : pm_dn pm_sC 65 7 P st G = pm_go pm_sC 65 G (pm_oIL 1 8 P st G) := pm_dn_eq (i := .iload_n 1) (len := 1) rfl
theorem u_65_8 (P : PL) (st : List PV) (G : PW) : pm_dn pm_sC 65 8 P st G = pm_go pm_sC 65 G (pm_oCs 27 1 1 11 P st G) := pm_dn_eq (i := .invokestatic 275) (len := 3) rfl
theorem u_65_11 (P : PL) (st : List PV) (G : PW) : pm_dn pm_sC 65 11 P st G = pm_go pm_sC 65 G (pm_oIS 2 12 P st G) := pm_dn_eq (i := .istore_n 2) (len := 1) rfl
theorem u_65_12 (P : PL) (st : List PV) (G : PW) : pm_dn pm_sC 65 12 P st G = pm_go pm_sC 65 G (pm_oAL 0 13 P st G) := pm_dn_eq (i := .aload_n 0) (len := 1) rfl
theorem u_65_13 (P : PL) (st : List PV) (G : PW) : pm_dn pm_sC 65 13 P st G = pm_go pm_sC 65 G (pm_oGf pm_sC 5 2 16 P st G) := pm_dn_eq (i := .getfield 19) (len := 3) rfl
theorem u_65_16 (P : PL) (st : List PV) (G : PW) : pm_dn pm_sC 65 16 P st G = pm_go pm_sC 65 G (pm_oIL 2 17 P st G) := pm_dn_eq (i := .iload_n 2) (len := 1) rfl
theorem u_65_17 (P : PL) (st : List PV) (G : PW) : pm_dn pm_sC 65 17 P st G = pm_go pm_sC 65 G (pm_oCs 80 1 1 20 P st G) := pm_dn_eq (i := .invokestatic 135) (len := 3) rfl
theorem u_65_20 (P : PL) (st : List PV) (G : PW) : pm_dn pm_sC 65 20 P st G = pm_go pm_sC 65 G (pm_oIL 2 21 P st G) := pm_dn_eq (i := .iload_n 2) (len := 1) rfl
theorem u_65_21 (P : PL) (st : List PV) (G : PW) : pm_dn pm_sC 65 21 P st G = pm_go pm_sC 65 G (pm_oCs 81 1 1 24 P st G) := pm_dn_eq (i := .invokestatic 141) (len := 3) rfl
theorem u_65_24 (P : PL) (st : List PV) (G : PW) : pm_dn pm_sC 65 24 P st G = pm_go pm_sC 65 G (pm_oCv pm_sC 2 2 3 0 27 P st G) := pm_dn_eq (i := .invokevirtual 278) (len := 3) rfl
theorem u_65_27 (P : PL) (st : List PV) (G : PW) : pm_dn pm_sC 65 27 P st G = pm_go pm_sC 65 G (pm_oGo (some 41) P st G) := pm_dn_eq (i := .goto 14) (len := 3) rfl
theorem u_65_30 (P : PL) (st : List PV) (G : PW) : pm_dn pm_sC 65 30 P st G = pm_go pm_sC 65 G (pm_oAL 0 31 P st G) := pm_dn_eq (i := .aload_n 0) (len := 1) rfl
theorem u_65_31 (P : PL) (st : List PV) (G : PW) : pm_dn pm_sC 65 31 P st G = pm_go pm_sC 65 G (pm_oGf pm_sC 5 2 34 P st G) := pm_dn_eq (i := .getfield 19) (len := 3) rfl
theorem u_65_34 (P : PL) (st : List PV) (G : PW) : pm_dn pm_sC 65 34 P st G = pm_go pm_sC 65 G (pm_oIL 1 35 P st G) := pm_dn_eq (i := .iload_n 1) (len := 1) rfl
theorem u_65_35 (P : PL) (st : List PV) (G : PW) : pm_dn pm_sC 65 35 P st G = pm_go pm_sC 65 G (pm_oCs 28 1 1 38 P st G) := pm_dn_eq (i := .invokestatic 281) (len := 3) rfl
theorem u_65_38 (P : PL) (st : List PV) (G : PW) : pm_dn pm_sC 65 38 P st G = pm_go pm_sC 65 G (pm_oCv pm_sC 3 1 2 0 41 P st G) := pm_dn_eq (i := .invokevirtual 284) (len := 3) rfl
theorem u_65_41 (P : PL) (st : List PV) (G : PW) : pm_dn pm_sC 65 41 P st G = pm_go pm_sC 65 G (pm_oRv P st G) := pm_dn_eq (i := .return_) (len := 1) rfl
theorem ue_66 (a0 : Nat) (G : PW) : pm_ca pm_sC 66 [.inr (.inr a0)] G = pm_dn pm_sC 66 0 [some (.inr (.inr a0)), none] [] G := rfl
theorem u_66_0 (P : PL) (st : List PV) (G : PW) : pm_dn pm_sC 66 0 P st G = pm_go pm_sC 66 G (pm_oAL 0 1 P st G) := pm_dn_eq (i := .aload_n 0) (len := 1) rfl
theorem u_66_1 (P : PL) (st : List PV) (G : PW) : pm_dn pm_sC 66 1 P st G = pm_go pm_sC 66 G (pm_oGf pm_sC 5 2 4 P st G) := pm_dn_eq (i := .getfield 19) (len := 3) rfl
theorem u_66_4 (P : PL) (st : List PV) (G : PW) : pm_dn pm_sC 66 4 P st G = pm_go pm_sC 66 G (pm_oCv pm_sC 0 0 2 0 7 P st G) := pm_dn_eq (i := .invokevirtual 262) (len := 3) rfl
theorem u_66_7 (P : PL) (st : List PV) (G : PW) : pm_dn pm_sC 66 7 P st G = pm_go pm_sC 66 G (pm_oK 0 8 P st G) := pm_dn_eq (i := .iconst 0) (len := 1) rfl
theorem u_66_8 (P : PL) (st : List PV) (G : PW) : pm_dn pm_sC 66 8 P st G = pm_go pm_sC 66 G (pm_oIS 1 9 P st G) := pm_dn_eq (i := .istore_n 1) (len := 1) rfl
theorem u_66_9 (P : PL) (st : List PV) (G : PW) : pm_dn pm_sC 66 9 P st G = pm_go pm_sC 66 G (pm_oIL 1 10 P st G) := pm_dn_eq (i := .iload_n 1) (len := 1) rfl
theorem u_66_10 (P : PL) (st : List PV) (G : PW) : pm_dn pm_sC 66 10 P st G = pm_go pm_sC 66 G (pm_oAL 0 11 P st G) := pm_dn_eq (i := .aload_n 0) (len := 1) rfl
theorem u_66_11 (P : PL) (st : List PV) (G : PW) : pm_dn pm_sC 66 11 P st G = pm_go pm_sC 66 G (pm_oGf pm_sC 5 4 14 P st G) := pm_dn_eq (i := .getfield 29) (len := 3) rfl
theorem u_66_14 (P : PL) (st : List PV) (G : PW) : pm_dn pm_sC 66 14 P st G = pm_go pm_sC 66 G (pm_oGf pm_sC 1 1 17 P st G) := pm_dn_eq (i := .getfield 194) (len := 3) rfl
theorem u_66_17 (P : PL) (st : List PV) (G : PW) : pm_dn pm_sC 66 17 P st G = pm_go pm_sC 66 G (pm_oIc .ge (some 38) 20 P st G) := pm_dn_eq (i := .if_icmp .ge 21) (len := 3) rfl
theorem u_66_20 (P : PL) (st : List PV) (G : PW) : pm_dn pm_sC 66 20 P st G = pm_go pm_sC 66 G (pm_oAL 0 21 P st G) := pm_dn_eq (i := .aload_n 0) (len := 1) rfl
theorem u_66_21 (P : PL) (st : List PV) (G : PW) : pm_dn pm_sC 66 21 P st G = pm_go pm_sC 66 G (pm_oAL 0 22 P st G) := pm_dn_eq (i := .aload_n 0) (len := 1) rfl
theorem u_66_22 (P : PL) (st : List PV) (G : PW) : pm_dn pm_sC 66 22 P st G = pm_go pm_sC 66 G (pm_oGf pm_sC 5 4 25 P st G) := pm_dn_eq (i := .getfield 29) (len := 3) rfl
theorem u_66_25 (P : PL) (st : List PV) (G : PW) : pm_dn pm_sC 66 25 P st G = pm_go pm_sC 66 G (pm_oIL 1 26 P st G) := pm_dn_eq (i := .iload_n 1) (len := 1) rfl
theorem u_66_26 (P : PL) (st : List PV) (G : PW) : pm_dn pm_sC 66 26 P st G = pm_go pm_sC 66 G (pm_oCv pm_sC 32 1 2 1 29 P st G) := pm_dn_eq (i := .invokevirtual 287) (len := 3) rfl
theorem u_66_29 (P : PL) (st : List PV) (G : PW) : pm_dn pm_sC 66 29 P st G = pm_go pm_sC 66 G (pm_oCv pm_sC 65 1 3 5 32 P st G) := pm_dn_eq (i := .invokevirtual 266) (len := 3) rfl
theorem u_66_32 (P : PL) (st : List PV) (G : PW) : pm_dn pm_sC 66 32 P st G = pm_go pm_sC 66 G (pm_oInc 1 1 35 P st G) := pm_dn_eq (i := .iinc 1 1) (len := 3) rfl
theorem u_66_35 (P : PL) (st : List PV) (G : PW) : pm_dn pm_sC 66 35 P st G = pm_go pm_sC 66 G (pm_oGo (some 9) P st G) := pm_dn_eq (i := .goto (-26)) (len := 3) rfl
theorem u_66_38 (P : PL) (st : List PV) (G : PW) : pm_dn pm_sC 66 38 P st G = pm_go pm_sC 66 G (pm_oAL 0 39 P st G) := pm_dn_eq (i := .aload_n 0) (len := 1) rfl
theorem u_66_39 (P : PL) (st : List PV) (G : PW) : pm_dn pm_sC 66 39 P st G = pm_go pm_sC 66 G (pm_oGf pm_sC 5 2 42 P st G) := pm_dn_eq (i := .getfield 19) (len := 3) rfl
theorem u_66_42 (P : PL) (st : List PV) (G : PW) : pm_dn pm_sC 66 42 P st G = pm_go pm_sC 66 G (pm_oCv pm_sC 10 0 2 0 45 P st G) := pm_dn_eq (i := .invokevirtual 269) (len := 3) rfl
theorem u_66_45 (P : PL) (st : List PV) (G : PW) : pm_dn pm_sC 66 45 P st G = pm_go pm_sC 66 G (pm_oRv P st G) := pm_dn_eq (i := .return_) (len := 1) rfl
theorem ue_67 (a0 : Nat) (a1 : Int) (G : PW) : pm_ca pm_sC 67 [.inr (.inr a0), .inl a1] G = pm_dn pm_sC 67 0 [some (.inr (.inr a0)), some (.inl a1), none] [] G := rfl
theorem u_67_0 (P : PL) (st : List PV) (G : PW) : pm_dn pm_sC 67 0 P st G = pm_go pm_sC 67 G (pm_oAL 0 1 P st G) := pm_dn_eq (i := .aload_n 0) (len := 1) rfl
theorem u_67_1 (P : PL) (st : List PV) (G : PW) : pm_dn pm_sC 67 1 P st G = pm_go pm_sC 67 G (pm_oGf pm_sC 5 2 4 P st G) := pm_dn_eq (i := .getfield 19) (len := 3) rfl
theorem u_67_4 (P : PL) (st : List PV) (G : PW) : pm_dn pm_sC 67 4 P st G = pm_go pm_sC 67 G (pm_oIL 1 5 P st G) := pm_dn_eq (i := .iload_n 1) (len := 1) rfl
theorem u_67_5 (P : PL) (st : List PV) (G : PW) : pm_dn pm_sC 67 5 P st G = pm_go pm_sC 67 G (pm_oCv pm_sC 13 1 4 0 8 P st G) := pm_dn_eq (i := .invokevirtual 153) (len := 3) rfl
theorem u_67_8 (P : PL) (st : List PV) (G : PW) : pm_dn pm_sC 67 8 P st G = pm_go pm_sC 67 G (pm_oIS 2 9 P st G) := pm_dn_eq (i := .istore_n 2) (len := 1) rfl
theorem u_67_9 (P : PL) (st : List PV) (G : PW) : pm_dn pm_sC 67 9 P st G = pm_go pm_sC 67 G (pm_oIL 2 10 P st G) := pm_dn_eq (i := .iload_n 2) (len := 1) rfl
theorem u_67_10 (P : PL) (st : List PV) (G : PW) : pm_dn pm_sC 67 10 P st G = pm_go pm_sC 67 G (pm_oK (-6) 12 P st G) := pm_dn_eq (i := .bipush (-6)) (len := 2) rfl
theorem u_67_12 (P : PL) (st : List PV) (G : PW) : pm_dn pm_sC 67 12 P st G = pm_go pm_sC 67 G (pm_oIc .ne (some 19) 15 P st G) := pm_dn_eq (i := .if_icmp .ne 7) (len := 3) rfl
theorem u_67_15 (P : PL) (st : List PV) (G : PW) : pm_dn pm_sC 67 15 P st G = pm_go pm_sC 67 G (pm_oK 3 16 P st G) := pm_dn_eq (i := .iconst 3) (len := 1) rfl
theorem u_67_16 (P : PL) (st : List PV) (G : PW) : pm_dn pm_sC 67 16 P st G = pm_go pm_sC 67 G (pm_oGo (some 33) P st G) := pm_dn_eq (i := .goto 17) (len := 3) rfl
theorem u_67_19 (P : PL) (st : List PV) (G : PW) : pm_dn pm_sC 67 19 P st G = pm_go pm_sC 67 G (pm_oAL 0 20 P st G) := pm_dn_eq (i := .aload_n 0) (len := 1) rfl
theorem u_67_20 (P : PL) (st : List PV) (G : PW) : pm_dn pm_sC 67 20 P st G = pm_go pm_sC 67 G (pm_oGf pm_sC 5 2 23 P st G) := pm_dn_eq (i := .getfield 19) (len := 3) rfl
theorem u_67_23 (P : PL) (st : List PV) (G : PW) : pm_dn pm_sC 67 23 P st G = pm_go pm_sC 67 G (pm_oGf pm_sC 0 0 26 P st G) := pm_dn_eq (i := .getfield 60) (len := 3) rfl
theorem u_67_26 (P : PL) (st : List PV) (G : PW) : pm_dn pm_sC 67 26 P st G = pm_go pm_sC 67 G (pm_oGf pm_sC 3 5 29 P st G) := pm_dn_eq (i := .getfield 119) (len := 3) rfl
theorem u_67_29 (P : PL) (st : List PV) (G : PW) : pm_dn pm_sC 67 29 P st G = pm_go pm_sC 67 G (pm_oIL 2 30 P st G) := pm_dn_eq (i := .iload_n 2) (len := 1) rfl
theorem u_67_30 (P : PL) (st : List PV) (G : PW) : pm_dn pm_sC 67 30 P st G = pm_go pm_sC 67 G (pm_oCs 76 2 2 33 P st G) := pm_dn_eq (i := .invokestatic 122) (len := 3) rfl
theorem u_67_33 (P : PL) (st : List PV) (G : PW) : pm_dn pm_sC 67 33 P st G = pm_go pm_sC 67 G (pm_oRi 0 P st G) := pm_dn_eq (i := .ireturn) (len := 1) rfl
theorem ue_68 (a0 : Nat) (G : PW) : pm_ca pm_sC 68 [.inr (.inr a0)] G = pm_dn pm_sC 68 0 [some (.inr (.inr a0)), none, none] [] G := rfl
theorem u_68_0 (P : PL) (st : List PV) (G : PW) : pm_dn pm_sC 68 0 P st G = pm_go pm_sC 68 G (pm_oK 0 1 P st G) := pm_dn_eq (i := .iconst 0) (len := 1) rfl
theorem u_68_1 (P : PL) (st : List PV) (G : PW) : pm_dn pm_sC 68 1 P st G = pm_go pm_sC 68 G (pm_oIS 1 2 P st G) := pm_dn_eq (i := .istore_n 1) (len := 1) rfl
theorem u_68_2 (P : PL) (st : List PV) (G : PW) : pm_dn pm_sC 68 2 P st G = pm_go pm_sC 68 G (pm_oK 0 3 P st G) := pm_dn_eq (i := .iconst 0) (len := 1) rfl
theorem u_68_3 (P : PL) (st : List PV) (G : PW) : pm_dn pm_sC 68 3 P st G = pm_go pm_sC 68 G (pm_oIS 2 4 P st G) := pm_dn_eq (i := .istore_n 2) (len := 1) rfl
theorem u_68_4 (P : PL) (st : List PV) (G : PW) : pm_dn pm_sC 68 4 P st G = pm_go pm_sC 68 G (pm_oIL 2 5 P st G) := pm_dn_eq (i := .iload_n 2) (len := 1) rfl
theorem u_68_5 (P : PL) (st : List PV) (G : PW) : pm_dn pm_sC 68 5 P st G = pm_go pm_sC 68 G (pm_oAL 0 6 P st G) := pm_dn_eq (i := .aload_n 0) (len := 1) rfl
theorem u_68_6 (P : PL) (st : List PV) (G : PW) : pm_dn pm_sC 68 6 P st G = pm_go pm_sC 68 G (pm_oGf pm_sC 5 2 9 P st G) := pm_dn_eq (i := .getfield 19) (len := 3) rfl
theorem u_68_9 (P : PL) (st : List PV) (G : PW) : pm_dn pm_sC 68 9 P st G = pm_go pm_sC 68 G (pm_oGf pm_sC 0 0 12 P st G) := pm_dn_eq (i := .getfield 60) (len := 3) rfl
theorem u_68_12 (P : PL) (st : List PV) (G : PW) : pm_dn pm_sC 68 12 P st G = pm_go pm_sC 68 G (pm_oGf pm_sC 3 4 15 P st G) := pm_dn_eq (i := .getfield 64) (len := 3) rfl
theorem u_68_15 (P : PL) (st : List PV) (G : PW) : pm_dn pm_sC 68 15 P st G = pm_go pm_sC 68 G (pm_oIc .ge (some 38) 18 P st G) := pm_dn_eq (i := .if_icmp .ge 23) (len := 3) rfl
theorem u_68_18 (P : PL) (st : List PV) (G : PW) : pm_dn pm_sC 68 18 P st G = pm_go pm_sC 68 G (pm_oAL 0 19 P st G) := pm_dn_eq (i := .aload_n 0) (len := 1) rfl
theorem u_68_19 (P : PL) (st : List PV) (G : PW) : pm_dn pm_sC 68 19 P st G = pm_go pm_sC 68 G (pm_oGf pm_sC 5 2 22 P st G) := pm_dn_eq (i := .getfield 19) (len := 3) rfl
theorem u_68_22 (P : PL) (st : List PV) (G : PW) : pm_dn pm_sC 68 22 P st G = pm_go pm_sC 68 G (pm_oIL 2 23 P st G) := pm_dn_eq (i := .iload_n 2) (len := 1) rfl
theorem u_68_23 (P : PL) (st : List PV) (G : PW) : pm_dn pm_sC 68 23 P st G = pm_go pm_sC 68 G (pm_oCv pm_sC 9 1 2 0 26 P st G) := pm_dn_eq (i := .invokevirtual 84) (len := 3) rfl
theorem u_68_26 (P : PL) (st : List PV) (G : PW) : pm_dn pm_sC 68 26 P st G = pm_go pm_sC 68 G (pm_oIf .eq (some 32) 29 P st G) := pm_dn_eq (i := .ifCond .eq 6) (len := 3) rfl
theorem u_68_29 (P : PL) (st : List PV) (G : PW) : pm_dn pm_sC 68 29 P st G = pm_go pm_sC 68 G (pm_oInc 1 1 32 P st G) := pm_dn_eq (i := .iinc 1 1) (len := 3) rfl
theorem u_68_32 (P : PL) (st : List PV) (G : PW) : pm_dn pm_sC 68 32 P st G = pm_go pm_sC 68 G (pm_oInc 2 1 35 P st G) := pm_dn_eq (i := .iinc 2 1) (len := 3) rfl
theorem u_68_35 (P : PL) (st : List PV) (G : PW) : pm_dn pm_sC 68 35 P st G = pm_go pm_sC 68 G (pm_oGo (some 4) P st G) := pm_dn_eq (i := .goto (-31)) (len := 3) rfl
theorem u_68_38 (P : PL) (st : List PV) (G : PW) : pm_dn pm_sC 68 38 P st G = pm_go pm_sC 68 G (pm_oIL 1 39 P st G) := pm_dn_eq (i := .iload_n 1) (len := 1) rfl
theorem u_68_39 (P : PL) (st : List PV) (G : PW) : pm_dn pm_sC 68 39 P st G = pm_go pm_sC 68 G (pm_oRi 0 P st G) := pm_dn_eq (i := .ireturn) (len := 1) rfl
theorem ue_69 (a0 : Nat) (G : PW) : pm_ca pm_sC 69 [.inr (.inr a0)] G = pm_dn pm_sC 69 0 [some (.inr (.inr a0)), none, none] [] G := rfl
theorem u_69_0 (P : PL) (st : List PV) (G : PW) : pm_dn pm_sC 69 0 P st G = pm_go pm_sC 69 G (pm_oK 0 1 P st G) := pm_dn_eq (i := .iconst 0) (len := 1) rfl
theorem u_69_1 (P : PL) (st : List PV) (G : PW) : pm_dn pm_sC 69 1 P st G = pm_go pm_sC 69 G (pm_oIS 1 2 P st G) := pm_dn_eq (i := .istore_n 1) (len := 1) rfl
theorem u_69_2 (P : PL) (st : List PV) (G : PW) : pm_dn pm_sC 69 2 P st G = pm_go pm_sC 69 G (pm_oK 0 3 P st G) := pm_dn_eq (i := .iconst 0) (len := 1) rfl
theorem u_69_3 (P : PL) (st : List PV) (G : PW) : pm_dn pm_sC 69 3 P st G = pm_go pm_sC 69 G (pm_oIS 2 4 P st G) := pm_dn_eq (i := .istore_n 2) (len := 1) rfl
theorem u_69_4 (P : PL) (st : List PV) (G : PW) : pm_dn pm_sC 69 4 P st G = pm_go pm_sC 69 G (pm_oIL 2 5 P st G) := pm_dn_eq (i := .iload_n 2) (len := 1) rfl
theorem u_69_5 (P : PL) (st : List PV) (G : PW) : pm_dn pm_sC 69 5 P st G = pm_go pm_sC 69 G (pm_oAL 0 6 P st G) := pm_dn_eq (i := .aload_n 0) (len := 1) rfl
theorem u_69_6 (P : PL) (st : List PV) (G : PW) : pm_dn pm_sC 69 6 P st G = pm_go pm_sC 69 G (pm_oGf pm_sC 5 2 9 P st G) := pm_dn_eq (i := .getfield 19) (len := 3) rfl
theorem u_69_9 (P : PL) (st : List PV) (G : PW) : pm_dn pm_sC 69 9 P st G = pm_go pm_sC 69 G (pm_oGf pm_sC 0 0 12 P st G) := pm_dn_eq (i := .getfield 60) (len := 3) rfl
theorem u_69_12 (P : PL) (st : List PV) (G : PW) : pm_dn pm_sC 69 12 P st G = pm_go pm_sC 69 G (pm_oGf pm_sC 3 0 15 P st G) := pm_dn_eq (i := .getfield 165) (len := 3) rfl
theorem u_69_15 (P : PL) (st : List PV) (G : PW) : pm_dn pm_sC 69 15 P st G = pm_go pm_sC 69 G (pm_oIc .ge (some 38) 18 P st G) := pm_dn_eq (i := .if_icmp .ge 23) (len := 3) rfl
theorem u_69_18 (P : PL) (st : List PV) (G : PW) : pm_dn pm_sC 69 18 P st G = pm_go pm_sC 69 G (pm_oAL 0 19 P st G) := pm_dn_eq (i := .aload_n 0) (len := 1) rfl
theorem u_69_19 (P : PL) (st : List PV) (G : PW) : pm_dn pm_sC 69 19 P st G = pm_go pm_sC 69 G (pm_oGf pm_sC 5 2 22 P st G) := pm_dn_eq (i := .getfield 19) (len := 3) rfl
theorem u_69_22 (P : PL) (st : List PV) (G : PW) : pm_dn pm_sC 69 22 P st G = pm_go pm_sC 69 G (pm_oIL 2 23 P st G) := pm_dn_eq (i := .iload_n 2) (len := 1) rfl
theorem u_69_23 (P : PL) (st : List PV) (G : PW) : pm_dn pm_sC 69 23 P st G = pm_go pm_sC 69 G (pm_oCv pm_sC 14 1 2 0 26 P st G) := pm_dn_eq (i := .invokevirtual 104) (len := 3) rfl
theorem u_69_26 (P : PL) (st : List PV) (G : PW) : pm_dn pm_sC 69 26 P st G = pm_go pm_sC 69 G (pm_oIf .eq (some 32) 29 P st G) := pm_dn_eq (i := .ifCond .eq 6) (len := 3) rfl
theorem u_69_29 (P : PL) (st : List PV) (G : PW) : pm_dn pm_sC 69 29 P st G = pm_go pm_sC 69 G (pm_oInc 1 1 32 P st G) := pm_dn_eq (i := .iinc 1 1) (len := 3) rfl
theorem u_69_32 (P : PL) (st : List PV) (G : PW) : pm_dn pm_sC 69 32 P st G = pm_go pm_sC 69 G (pm_oInc 2 1 35 P st G) := pm_dn_eq (i := .iinc 2 1) (len := 3) rfl
theorem u_69_35 (P : PL) (st : List PV) (G : PW) : pm_dn pm_sC 69 35 P st G = pm_go pm_sC 69 G (pm_oGo (some 4) P st G) := pm_dn_eq (i := .goto (-31)) (len := 3) rfl
theorem u_69_38 (P : PL) (st : List PV) (G : PW) : pm_dn pm_sC 69 38 P st G = pm_go pm_sC 69 G (pm_oIL 1 39 P st G) := pm_dn_eq (i := .iload_n 1) (len := 1) rfl
theorem u_69_39 (P : PL) (st : List PV) (G : PW) : pm_dn pm_sC 69 39 P st G = pm_go pm_sC 69 G (pm_oRi 0 P st G) := pm_dn_eq (i := .ireturn) (len := 1) rfl
theorem ue_70 (a0 : Nat) (a1 : Int) (G : PW) : pm_ca pm_sC 70 [.inr (.inr a0), .inl a1] G = pm_dn pm_sC 70 0 [some (.inr (.inr a0)), some (.inl a1), none, none, none, none, none] [] G := rfl
theorem u_70_0 (P : PL) (st : List PV) (G : PW) : pm_dn pm_sC 70 0 P st G = pm_go pm_sC 70 G (pm_oK 0 1 P st G) := pm_dn_eq (i := .iconst 0) (len := 1) rfl
theorem u_70_1 (P : PL) (st : List PV) (G : PW) : pm_dn pm_sC 70 1 P st G = pm_go pm_sC 70 G (pm_oIS 2 2 P st G) := pm_dn_eq (i := .istore_n 2) (len := 1) rfl
theorem u_70_2 (P : PL) (st : List PV) (G : PW) : pm_dn pm_sC 70 2 P st G = pm_go pm_sC 70 G (pm_oK 0 3 P st G) := pm_dn_eq (i := .iconst 0) (len := 1) rfl
theorem u_70_3 (P : PL) (st : List PV) (G : PW) : pm_dn pm_sC 70 3 P st G = pm_go pm_sC 70 G (pm_oIS 3 4 P st G) := pm_dn_eq (i := .istore_n 3) (len := 1) rfl
theorem u_70_4 (P : PL) (st : List PV) (G : PW) : pm_dn pm_sC 70 4 P st G = pm_go pm_sC 70 G (pm_oK 0 5 P st G) := pm_dn_eq (i := .iconst 0) (len := 1) rfl
theorem u_70_5 (P : PL) (st : List PV) (G : PW) : pm_dn pm_sC 70 5 P st G = pm_go pm_sC 70 G (pm_oIS 4 7 P st G) := pm_dn_eq (i := .istore 4) (len := 2) rfl
theorem u_70_7 (P : PL) (st : List PV) (G : PW) : pm_dn pm_sC 70 7 P st G = pm_go pm_sC 70 G (pm_oK 0 8 P st G) := pm_dn_eq (i := .iconst 0) (len := 1) rfl
theorem u_70_8 (P : PL) (st : List PV) (G : PW) : pm_dn pm_sC 70 8 P st G = pm_go pm_sC 70 G (pm_oIS 5 10 P st G) := pm_dn_eq (i := .istore 5) (len := 2) rfl
theorem u_70_10 (P : PL) (st : List PV) (G : PW) : pm_dn pm_sC 70 10 P st G = pm_go pm_sC 70 G (pm_oIL 5 12 P st G) := pm_dn_eq (i := .iload 5) (len := 2) rfl
theorem u_70_12 (P : PL) (st : List PV) (G : PW) : pm_dn pm_sC 70 12 P st G = pm_go pm_sC 70 G (pm_oAL 0 13 P st G) := pm_dn_eq (i := .aload_n 0) (len := 1) rfl
theorem u_70_13 (P : PL) (st : List PV) (G : PW) : pm_dn pm_sC 70 13 P st G = pm_go pm_sC 70 G (pm_oGf pm_sC 5 2 16 P st G) := pm_dn_eq (i := .getfield 19) (len := 3) rfl
theorem u_70_16 (P : PL) (st : List PV) (G : PW) : pm_dn pm_sC 70 16 P st G = pm_go pm_sC 70 G (pm_oGf pm_sC 0 0 19 P st G) := pm_dn_eq (i := .getfield 60) (len := 3) rfl
theorem u_70_19 (P : PL) (st : List PV) (G : PW) : pm_dn pm_sC 70 19 P st G = pm_go pm_sC 70 G (pm_oGf pm_sC 3 0 22 P st G) := pm_dn_eq (i := .getfield 165) (len := 3) rfl
theorem u_70_22 (P : PL) (st : List PV) (G : PW) : pm_dn pm_sC 70 22 P st G = pm_go pm_sC 70 G (pm_oIc .ge (some 93) 25 P st G) := pm_dn_eq (i := .if_icmp .ge 71) (len := 3) rfl
theorem u_70_25 (P : PL) (st : List PV) (G : PW) : pm_dn pm_sC 70 25 P st G = pm_go pm_sC 70 G (pm_oAL 0 26 P st G) := pm_dn_eq (i := .aload_n 0) (len := 1) rfl
theorem u_70_26 (P : PL) (st : List PV) (G : PW) : pm_dn pm_sC 70 26 P st G = pm_go pm_sC 70 G (pm_oGf pm_sC 5 2 29 P st G) := pm_dn_eq (i := .getfield 19) (len := 3) rfl
theorem u_70_29 (P : PL) (st : List PV) (G : PW) : pm_dn pm_sC 70 29 P st G = pm_go pm_sC 70 G (pm_oIL 5 31 P st G) := pm_dn_eq (i := .iload 5) (len := 2) rfl
theorem u_70_31 (P : PL) (st : List PV) (G : PW) : pm_dn pm_sC 70 31 P st G = pm_go pm_sC 70 G (pm_oCv pm_sC 4 1 2 0 34 P st G) := pm_dn_eq (i := .invokevirtual 101) (len := 3) rfl
theorem u_70_34 (P : PL) (st : List PV) (G : PW) : pm_dn pm_sC 70 34 P st G = pm_go pm_sC 70 G (pm_oIf .ne (some 87) 37 P st G) := pm_dn_eq (i := .ifCond .ne 53) (len := 3) rfl
theorem u_70_37 (P : PL) (st : List PV) (G : PW) : pm_dn pm_sC 70 37 P st G = pm_go pm_sC 70 G (pm_oAL 0 38 P st G) := pm_dn_eq (i := .aload_n 0) (len := 1) rfl
theorem u_70_38 (P : PL) (st : List PV) (G : PW) : pm_dn pm_sC 70 38 P st G = pm_go pm_sC 70 G (pm_oGf pm_sC 5 2 41 P st G) := pm_dn_eq (i := .getfield 19) (len := 3) rfl
theorem u_70_41 (P : PL) (st : List PV) (G : PW) : pm_dn pm_sC 70 41 P st G = pm_go pm_sC 70 G (pm_oIL 5 43 P st G) := pm_dn_eq (i := .iload 5) (len := 2) rfl
theorem u_70_43 (P : PL) (st : List PV) (G : PW) : pm_dn pm_sC 70 43 P st G = pm_go pm_sC 70 G (pm_oCv pm_sC 14 1 2 0 46 P st G) := pm_dn_eq (i := .invokevirtual 104) (len := 3) rfl
theorem u_70_46 (P : PL) (st : List PV) (G : PW) : pm_dn pm_sC 70 46 P st G = pm_go pm_sC 70 G (pm_oIf .ne (some 87) 49 P st G) := pm_dn_eq (i := .ifCond .ne 41) (len := 3) rfl
theorem u_70_49 (P : PL) (st : List PV) (G : PW) : pm_dn pm_sC 70 49 P st G = pm_go pm_sC 70 G (pm_oAL 0 50 P st G) := pm_dn_eq (i := .aload_n 0) (len := 1) rfl
theorem u_70_50 (P : PL) (st : List PV) (G : PW) : pm_dn pm_sC 70 50 P st G = pm_go pm_sC 70 G (pm_oGf pm_sC 5 2 53 P st G) := pm_dn_eq (i := .getfield 19) (len := 3) rfl
theorem u_70_53 (P : PL) (st : List PV) (G : PW) : pm_dn pm_sC 70 53 P st G = pm_go pm_sC 70 G (pm_oIL 5 55 P st G) := pm_dn_eq (i := .iload 5) (len := 2) rfl
theorem u_70_55 (P : PL) (st : List PV) (G : PW) : pm_dn pm_sC 70 55 P st G = pm_go pm_sC 70 G (pm_oCv pm_sC 22 1 4 0 58 P st G) := pm_dn_eq (i := .invokevirtual 147) (len := 3) rfl
theorem u_70_58 (P : PL) (st : List PV) (G : PW) : pm_dn pm_sC 70 58 P st G = pm_go pm_sC 70 G (pm_oIS 6 60 P st G) := pm_dn_eq (i := .istore 6) (len := 2) rfl
theorem u_70_60 (P : PL) (st : List PV) (G : PW) : pm_dn pm_sC 70 60 P st G = pm_go pm_sC 70 G (pm_oInc 2 1 63 P st G) := pm_dn_eq (i := .iinc 2 1) (len := 3) rfl
theorem u_70_63 (P : PL) (st : List PV) (G : PW) : pm_dn pm_sC 70 63 P st G = pm_go pm_sC 70 G (pm_oIL 3 64 P st G) := pm_dn_eq (i := .iload_n 3) (len := 1) rfl
theorem u_70_64 (P : PL) (st : List PV) (G : PW) : pm_dn pm_sC 70 64 P st G = pm_go pm_sC 70 G (pm_oK 2 65 P st G) := pm_dn_eq (i := .iconst 2) (len := 1) rfl
theorem u_70_65 (P : PL) (st : List PV) (G : PW) : pm_dn pm_sC 70 65 P st G = pm_go pm_sC 70 G (pm_oIL 6 67 P st G) := pm_dn_eq (i := .iload 6) (len := 2) rfl
theorem u_70_67 (P : PL) (st : List PV) (G : PW) : pm_dn pm_sC 70 67 P st G = pm_go pm_sC 70 G (pm_oSub 68 P st G) := pm_dn_eq (i := .isub) (len := 1) rfl
theorem u_70_68 (P : PL) (st : List PV) (G : PW) : pm_dn pm_sC 70 68 P st G = pm_go pm_sC 70 G (pm_oAdd 69 P st G) := pm_dn_eq (i := .iadd) (len := 1) rfl
theorem u_70_69 (P : PL) (st : List PV) (G : PW) : pm_dn pm_sC 70 69 P st G = pm_go pm_sC 70 G (pm_oIS 3 70 P st G) := pm_dn_eq (i := .istore_n 3) (len := 1) rfl
theorem u_70_70 (P : PL) (st : List PV) (G : PW) : pm_dn pm_sC 70 70 P st G = pm_go pm_sC 70 G (pm_oIL 4 72 P st G) := pm_dn_eq (i := .iload 4) (len := 2) rfl
theorem u_70_72 (P : PL) (st : List PV) (G : PW) : pm_dn pm_sC 70 72 P st G = pm_go pm_sC 70 G (pm_oIf .ne (some 80) 75 P st G) := pm_dn_eq (i := .ifCond .ne 8) (len := 3) rfl
theorem u_70_75 (P : PL) (st : List PV) (G : PW) : pm_dn pm_sC 70 75 P st G = pm_go pm_sC 70 G (pm_oIL 6 77 P st G) := pm_dn_eq (i := .iload 6) (len := 2) rfl
theorem u_70_77 (P : PL) (st : List PV) (G : PW) : pm_dn pm_sC 70 77 P st G = pm_go pm_sC 70 G (pm_oIf .ne (some 84) 80 P st G) := pm_dn_eq (i := .ifCond .ne 7) (len := 3) rfl
theorem u_70_80 (P : PL) (st : List PV) (G : PW) : pm_dn pm_sC 70 80 P st G = pm_go pm_sC 70 G (pm_oK 1 81 P st G) := pm_dn_eq (i := .iconst 1) (len := 1) rfl
theorem u_70_81 (P : PL) (st : List PV) (G : PW) : pm_dn pm_sC 70 81 P st G = pm_go pm_sC 70 G (pm_oGo (some 85) P st G) := pm_dn_eq (i := .goto 4) (len := 3) rfl
theorem u_70_84 (P : PL) (st : List PV) (G : PW) : pm_dn pm_sC 70 84 P st G = pm_go pm_sC 70 G (pm_oK 0 85 P st G) := pm_dn_eq (i := .iconst 0) (len := 1) rfl
theorem u_70_85 (P : PL) (st : List PV) (G : PW) : pm_dn pm_sC 70 85 P st G = pm_go pm_sC 70 G (pm_oIS 4 87 P st G) := pm_dn_eq (i := .istore 4) (len := 2) rfl
theorem u_70_87 (P : PL) (st : List PV) (G : PW) : pm_dn pm_sC 70 87 P st G = pm_go pm_sC 70 G (pm_oInc 5 1 90 P st G) := pm_dn_eq (i := .iinc 5 1) (len := 3) rfl
theorem u_70_90 (P : PL) (st : List PV) (G : PW) : pm_dn pm_sC 70 90 P st G = pm_go pm_sC 70 G (pm_oGo (some 10) P st G) := pm_dn_eq (i := .goto (-80)) (len := 3) rfl
theorem u_70_93 (P : PL) (st : List PV) (G : PW) : pm_dn pm_sC 70 93 P st G = pm_go pm_sC 70 G (pm_oIL 2 94 P st G) := pm_dn_eq (i := .iload_n 2) (len := 1) rfl
theorem u_70_94 (P : PL) (st : List PV) (G : PW) : pm_dn pm_sC 70 94 P st G = pm_go pm_sC 70 G (pm_oK 2 95 P st G) := pm_dn_eq (i := .iconst 2) (len := 1) rfl
theorem u_70_95 (P : PL) (st : List PV) (G : PW) : pm_dn pm_sC 70 95 P st G = pm_go pm_sC 70 G (pm_oIc .ge (some 100) 98 P st G) := pm_dn_eq (i := .if_icmp .ge 5) (len := 3) rfl
theorem u_70_98 (P : PL) (st : List PV) (G : PW) : pm_dn pm_sC 70 98 P st G = pm_go pm_sC 70 G (pm_oK 0 99 P st G) := pm_dn_eq (i := .iconst 0) (len := 1) rfl
theorem u_70_99 (P : PL) (st : List PV) (G : PW) : pm_dn pm_sC 70 99 P st G = pm_go pm_sC 70 G (pm_oRi 0 P st G) := pm_dn_eq (i := .ireturn) (len := 1) rfl
theorem u_70_100 (P : PL) (st : List PV) (G : PW) : pm_dn pm_sC 70 100 P st G = pm_go pm_sC 70 G (pm_oIL 3 101 P st G) := pm_dn_eq (i := .iload_n 3) (len := 1) rfl
theorem u_70_101 (P : PL) (st : List PV) (G : PW) : pm_dn pm_sC 70 101 P st G = pm_go pm_sC 70 G (pm_oIL 4 103 P st G) := pm_dn_eq (i := .iload 4) (len := 2) rfl
theorem u_70_103 (P : PL) (st : List PV) (G : PW) : pm_dn pm_sC 70 103 P st G = pm_go pm_sC 70 G (pm_oIf .eq (some 114) 106 P st G) := pm_dn_eq (i := .ifCond .eq 11) (len := 3) rfl
theorem u_70_106 (P : PL) (st : List PV) (G : PW) : pm_dn pm_sC 70 106 P st G = pm_go pm_sC 70 G (pm_oIL 1 107 P st G) := pm_dn_eq (i := .iload_n 1) (len := 1) rfl
theorem u_70_107 (P : PL) (st : List PV) (G : PW) : pm_dn pm_sC 70 107 P st G = pm_go pm_sC 70 G (pm_oIf .ne (some 114) 110 P st G) := pm_dn_eq (i := .ifCond .ne 7) (len := 3) rfl
theorem u_70_110 (P : PL) (st : List PV) (G : PW) : pm_dn pm_sC 70 110 P st G = pm_go pm_sC 70 G (pm_oK 2 111 P st G) := pm_dn_eq (i := .iconst 2) (len := 1) rfl
theorem u_70_111 (P : PL) (st : List PV) (G : PW) : pm_dn pm_sC 70 111 P st G = pm_go pm_sC 70 G (pm_oGo (some 115) P st G) := pm_dn_eq (i := .goto 4) (len := 3) rfl
theorem u_70_114 (P : PL) (st : List PV) (G : PW) : pm_dn pm_sC 70 114 P st G = pm_go pm_sC 70 G (pm_oK 1 115 P st G) := pm_dn_eq (i := .iconst 1) (len := 1) rfl
theorem u_70_115 (P : PL) (st : List PV) (G : PW) : pm_dn pm_sC 70 115 P st G = pm_go pm_sC 70 G (pm_oSub 116 P st G) := pm_dn_eq (i := .isub) (len := 1) rfl
theorem u_70_116 (P : PL) (st : List PV) (G : PW) : pm_dn pm_sC 70 116 P st G = pm_go pm_sC 70 G (pm_oRi 0 P st G) := pm_dn_eq (i := .ireturn) (len := 1) rfl
theorem ue_71 (a0 : Nat) (a1 : Int) (G : PW) : pm_ca pm_sC 71 [.inr (.inr a0), .inl a1] G = pm_dn pm_sC 71 0 [some (.inr (.inr a0)), some (.inl a1), none, none, none, none] [] G := rfl
theorem u_71_0 (P : PL) (st : List PV) (G : PW) : pm_dn pm_sC 71 0 P st G = pm_go pm_sC 71 G (pm_oAL 0 1 P st G) := pm_dn_eq (i := .aload_n 0) (len := 1) rfl
theorem u_71_1 (P : PL) (st : List PV) (G : PW) : pm_dn pm_sC 71 1 P st G = pm_go pm_sC 71 G (pm_oGf pm_sC 5 3 4 P st G) := pm_dn_eq (i := .getfield 23) (len := 3) rfl
theorem u_71_4 (P : PL) (st : List PV) (G : PW) : pm_dn pm_sC 71 4 P st G = pm_go pm_sC 71 G (pm_oAL 0 5 P st G) := pm_dn_eq (i := .aload_n 0) (len := 1) rfl
theorem u_71_5 (P : PL) (st : List PV) (G : PW) : pm_dn pm_sC 71 5 P st G = pm_go pm_sC 71 G (pm_oGf pm_sC 5 2 8 P st G) := pm_dn_eq (i := .getfield 19) (len := 3) rfl
theorem u_71_8 (P : PL) (st : List PV) (G : PW) : pm_dn pm_sC 71 8 P st G = pm_go pm_sC 71 G (pm_oCv pm_sC 1 1 2 0 11 P st G) := pm_dn_eq (i := .invokevirtual 198) (len := 3) rfl
theorem u_71_11 (P : PL) (st : List PV) (G : PW) : pm_dn pm_sC 71 11 P st G = pm_go pm_sC 71 G (pm_oK 0 12 P st G) := pm_dn_eq (i := .iconst 0) (len := 1) rfl
theorem u_71_12 (P : PL) (st : List PV) (G : PW) : pm_dn pm_sC 71 12 P st G = pm_go pm_sC 71 G (pm_oIS 2 13 P st G) := pm_dn_eq (i := .istore_n 2) (len := 1) rfl
theorem u_71_13 (P : PL) (st : List PV) (G : PW) : pm_dn pm_sC 71 13 P st G = pm_go pm_sC 71 G (pm_oK 0 14 P st G) := pm_dn_eq (i := .iconst 0) (len := 1) rfl
theorem u_71_14 (P : PL) (st : List PV) (G : PW) : pm_dn pm_sC 71 14 P st G = pm_go pm_sC 71 G (pm_oIS 3 15 P st G) := pm_dn_eq (i := .istore_n 3) (len := 1) rfl
theorem u_71_15 (P : PL) (st : List PV) (G : PW) : pm_dn pm_sC 71 15 P st G = pm_go pm_sC 71 G (pm_oIL 3 16 P st G) := pm_dn_eq (i := .iload_n 3) (len := 1) rfl
theorem u_71_16 (P : PL) (st : List PV) (G : PW) : pm_dn pm_sC 71 16 P st G = pm_go pm_sC 71 G (pm_oAL 0 17 P st G) := pm_dn_eq (i := .aload_n 0) (len := 1) rfl
theorem u_71_17 (P : PL) (st : List PV) (G : PW) : pm_dn pm_sC 71 17 P st G = pm_go pm_sC 71 G (pm_oGf pm_sC 5 3 20 P st G) := pm_dn_eq (i := .getfield 23) (len := 3) rfl
theorem u_71_20 (P : PL) (st : List PV) (G : PW) : pm_dn pm_sC 71 20 P st G = pm_go pm_sC 71 G (pm_oGf pm_sC 0 0 23 P st G) := pm_dn_eq (i := .getfield 60) (len := 3) rfl
theorem u_71_23 (P : PL) (st : List PV) (G : PW) : pm_dn pm_sC 71 23 P st G = pm_go pm_sC 71 G (pm_oGf pm_sC 3 4 26 P st G) := pm_dn_eq (i := .getfield 64) (len := 3) rfl
theorem u_71_26 (P : PL) (st : List PV) (G : PW) : pm_dn pm_sC 71 26 P st G = pm_go pm_sC 71 G (pm_oIc .ge (some 116) 29 P st G) := pm_dn_eq (i := .if_icmp .ge 90) (len := 3) rfl
theorem u_71_29 (P : PL) (st : List PV) (G : PW) : pm_dn pm_sC 71 29 P st G = pm_go pm_sC 71 G (pm_oAL 0 30 P st G) := pm_dn_eq (i := .aload_n 0) (len := 1) rfl
theorem u_71_30 (P : PL) (st : List PV) (G : PW) : pm_dn pm_sC 71 30 P st G = pm_go pm_sC 71 G (pm_oGf pm_sC 5 3 33 P st G) := pm_dn_eq (i := .getfield 23) (len := 3) rfl
theorem u_71_33 (P : PL) (st : List PV) (G : PW) : pm_dn pm_sC 71 33 P st G = pm_go pm_sC 71 G (pm_oIL 3 34 P st G) := pm_dn_eq (i := .iload_n 3) (len := 1) rfl
theorem u_71_34 (P : PL) (st : List PV) (G : PW) : pm_dn pm_sC 71 34 P st G = pm_go pm_sC 71 G (pm_oCv pm_sC 11 1 5 0 37 P st G) := pm_dn_eq (i := .invokevirtual 290) (len := 3) rfl
theorem u_71_37 (P : PL) (st : List PV) (G : PW) : pm_dn pm_sC 71 37 P st G = pm_go pm_sC 71 G (pm_oAL 0 38 P st G) := pm_dn_eq (i := .aload_n 0) (len := 1) rfl
theorem u_71_38 (P : PL) (st : List PV) (G : PW) : pm_dn pm_sC 71 38 P st G = pm_go pm_sC 71 G (pm_oGf pm_sC 5 3 41 P st G) := pm_dn_eq (i := .getfield 23) (len := 3) rfl
theorem u_71_41 (P : PL) (st : List PV) (G : PW) : pm_dn pm_sC 71 41 P st G = pm_go pm_sC 71 G (pm_oIL 3 42 P st G) := pm_dn_eq (i := .iload_n 3) (len := 1) rfl
theorem u_71_42 (P : PL) (st : List PV) (G : PW) : pm_dn pm_sC 71 42 P st G = pm_go pm_sC 71 G (pm_oCv pm_sC 9 1 2 0 45 P st G) := pm_dn_eq (i := .invokevirtual 84) (len := 3) rfl
theorem u_71_45 (P : PL) (st : List PV) (G : PW) : pm_dn pm_sC 71 45 P st G = pm_go pm_sC 71 G (pm_oIf .eq (some 110) 48 P st G) := pm_dn_eq (i := .ifCond .eq 65) (len := 3) rfl
theorem u_71_48 (P : PL) (st : List PV) (G : PW) : pm_dn pm_sC 71 48 P st G = pm_go pm_sC 71 G (pm_oAL 0 49 P st G) := pm_dn_eq (i := .aload_n 0) (len := 1) rfl
theorem u_71_49 (P : PL) (st : List PV) (G : PW) : pm_dn pm_sC 71 49 P st G = pm_go pm_sC 71 G (pm_oIL 3 50 P st G) := pm_dn_eq (i := .iload_n 3) (len := 1) rfl
theorem u_71_50 (P : PL) (st : List PV) (G : PW) : pm_dn pm_sC 71 50 P st G = pm_go pm_sC 71 G (pm_oCv pm_sC 72 1 5 5 53 P st G) := pm_dn_eq (i := .invokevirtual 293) (len := 3) rfl
theorem u_71_53 (P : PL) (st : List PV) (G : PW) : pm_dn pm_sC 71 53 P st G = pm_go pm_sC 71 G (pm_oIS 4 55 P st G) := pm_dn_eq (i := .istore 4) (len := 2) rfl
theorem u_71_55 (P : PL) (st : List PV) (G : PW) : pm_dn pm_sC 71 55 P st G = pm_go pm_sC 71 G (pm_oIL 1 56 P st G) := pm_dn_eq (i := .iload_n 1) (len := 1) rfl
theorem u_71_56 (P : PL) (st : List PV) (G : PW) : pm_dn pm_sC 71 56 P st G = pm_go pm_sC 71 G (pm_oAL 0 57 P st G) := pm_dn_eq (i := .aload_n 0) (len := 1) rfl
theorem u_71_57 (P : PL) (st : List PV) (G : PW) : pm_dn pm_sC 71 57 P st G = pm_go pm_sC 71 G (pm_oGf pm_sC 5 3 60 P st G) := pm_dn_eq (i := .getfield 23) (len := 3) rfl
theorem u_71_60 (P : PL) (st : List PV) (G : PW) : pm_dn pm_sC 71 60 P st G = pm_go pm_sC 71 G (pm_oIL 3 61 P st G) := pm_dn_eq (i := .iload_n 3) (len := 1) rfl
theorem u_71_61 (P : PL) (st : List PV) (G : PW) : pm_dn pm_sC 71 61 P st G = pm_go pm_sC 71 G (pm_oK 1 62 P st G) := pm_dn_eq (i := .iconst 1) (len := 1) rfl
theorem u_71_62 (P : PL) (st : List PV) (G : PW) : pm_dn pm_sC 71 62 P st G = pm_go pm_sC 71 G (pm_oIL 4 64 P st G) := pm_dn_eq (i := .iload 4) (len := 2) rfl
theorem u_71_64 (P : PL) (st : List PV) (G : PW) : pm_dn pm_sC 71 64 P st G = pm_go pm_sC 71 G (pm_oSub 65 P st G) := pm_dn_eq (i := .isub) (len := 1) rfl
theorem u_71_65 (P : PL) (st : List PV) (G : PW) : pm_dn pm_sC 71 65 P st G = pm_go pm_sC 71 G (pm_oCv pm_sC 5 2 3 0 68 P st G) := pm_dn_eq (i := .invokevirtual 87) (len := 3) rfl
theorem u_71_68 (P : PL) (st : List PV) (G : PW) : pm_dn pm_sC 71 68 P st G = pm_go pm_sC 71 G (pm_oIc .ne (some 78) 71 P st G) := pm_dn_eq (i := .if_icmp .ne 10) (len := 3) rfl
theorem u_71_71 (P : PL) (st : List PV) (G : PW) : pm_dn pm_sC 71 71 P st G = pm_go pm_sC 71 G (pm_oK 1 72 P st G) := pm_dn_eq (i := .iconst 1) (len := 1) rfl
theorem u_71_72 (P : PL) (st : List PV) (G : PW) : pm_dn pm_sC 71 72 P st G = pm_go pm_sC 71 G (pm_oIL 4 74 P st G) := pm_dn_eq (i := .iload 4) (len := 2) rfl
theorem u_71_74 (P : PL) (st : List PV) (G : PW) : pm_dn pm_sC 71 74 P st G = pm_go pm_sC 71 G (pm_oSub 75 P st G) := pm_dn_eq (i := .isub) (len := 1) rfl
theorem u_71_75 (P : PL) (st : List PV) (G : PW) : pm_dn pm_sC 71 75 P st G = pm_go pm_sC 71 G (pm_oGo (some 80) P st G) := pm_dn_eq (i := .goto 5) (len := 3) rfl
theorem u_71_78 (P : PL) (st : List PV) (G : PW) : pm_dn pm_sC 71 78 P st G = pm_go pm_sC 71 G (pm_oIL 4 80 P st G) := pm_dn_eq (i := .iload 4) (len := 2) rfl
theorem u_71_80 (P : PL) (st : List PV) (G : PW) : pm_dn pm_sC 71 80 P st G = pm_go pm_sC 71 G (pm_oIS 5 82 P st G) := pm_dn_eq (i := .istore 5) (len := 2) rfl
theorem u_71_82 (P : PL) (st : List PV) (G : PW) : pm_dn pm_sC 71 82 P st G = pm_go pm_sC 71 G (pm_oIL 5 84 P st G) := pm_dn_eq (i := .iload 5) (len := 2) rfl
theorem u_71_84 (P : PL) (st : List PV) (G : PW) : pm_dn pm_sC 71 84 P st G = pm_go pm_sC 71 G (pm_oIL 4 86 P st G) := pm_dn_eq (i := .iload 4) (len := 2) rfl
theorem u_71_86 (P : PL) (st : List PV) (G : PW) : pm_dn pm_sC 71 86 P st G = pm_go pm_sC 71 G (pm_oIc .eq (some 92) 89 P st G) := pm_dn_eq (i := .if_icmp .eq 6) (len := 3) rfl
theorem u_71_89 (P : PL) (st : List PV) (G : PW) : pm_dn pm_sC 71 89 P st G = pm_go pm_sC 71 G (pm_oInc 2 1 92 P st G) := pm_dn_eq (i := .iinc 2 1) (len := 3) rfl
theorem u_71_92 (P : PL) (st : List PV) (G : PW) : pm_dn pm_sC 71 92 P st G = pm_go pm_sC 71 G (pm_oAL 0 93 P st G) := pm_dn_eq (i := .aload_n 0) (len := 1) rfl
theorem u_71_93 (P : PL) (st : List PV) (G : PW) : pm_dn pm_sC 71 93 P st G = pm_go pm_sC 71 G (pm_oGf pm_sC 5 3 96 P st G) := pm_dn_eq (i := .getfield 23) (len := 3) rfl
theorem u_71_96 (P : PL) (st : List PV) (G : PW) : pm_dn pm_sC 71 96 P st G = pm_go pm_sC 71 G (pm_oIL 3 97 P st G) := pm_dn_eq (i := .iload_n 3) (len := 1) rfl
theorem u_71_97 (P : PL) (st : List PV) (G : PW) : pm_dn pm_sC 71 97 P st G = pm_go pm_sC 71 G (pm_oIL 5 99 P st G) := pm_dn_eq (i := .iload 5) (len := 2) rfl
theorem u_71_99 (P : PL) (st : List PV) (G : PW) : pm_dn pm_sC 71 99 P st G = pm_go pm_sC 71 G (pm_oCv pm_sC 2 2 3 0 102 P st G) := pm_dn_eq (i := .invokevirtual 278) (len := 3) rfl
theorem u_71_102 (P : PL) (st : List PV) (G : PW) : pm_dn pm_sC 71 102 P st G = pm_go pm_sC 71 G (pm_oAL 0 103 P st G) := pm_dn_eq (i := .aload_n 0) (len := 1) rfl
theorem u_71_103 (P : PL) (st : List PV) (G : PW) : pm_dn pm_sC 71 103 P st G = pm_go pm_sC 71 G (pm_oGf pm_sC 5 3 106 P st G) := pm_dn_eq (i := .getfield 23) (len := 3) rfl
theorem u_71_106 (P : PL) (st : List PV) (G : PW) : pm_dn pm_sC 71 106 P st G = pm_go pm_sC 71 G (pm_oIL 3 107 P st G) := pm_dn_eq (i := .iload_n 3) (len := 1) rfl
theorem u_71_107 (P : PL) (st : List PV) (G : PW) : pm_dn pm_sC 71 107 P st G = pm_go pm_sC 71 G (pm_oCv pm_sC 11 1 5 0 110 P st G) := pm_dn_eq (i := .invokevirtual 290) (len := 3) rfl
theorem u_71_110 (P : PL) (st : List PV) (G : PW) : pm_dn pm_sC 71 110 P st G = pm_go pm_sC 71 G (pm_oInc 3 1 113 P st G) := pm_dn_eq (i := .iinc 3 1) (len := 3) rfl
theorem u_71_113 (P : PL) (st : List PV) (G : PW) : pm_dn pm_sC 71 113 P st G = pm_go pm_sC 71 G (pm_oGo (some 15) P st G) := pm_dn_eq (i := .goto (-98)) (len := 3) rfl
theorem u_71_116 (P : PL) (st : List PV) (G : PW) : pm_dn pm_sC 71 116 P st G = pm_go pm_sC 71 G (pm_oIL 2 117 P st G) := pm_dn_eq (i := .iload_n 2) (len := 1) rfl
theorem u_71_117 (P : PL) (st : List PV) (G : PW) : pm_dn pm_sC 71 117 P st G = pm_go pm_sC 71 G (pm_oRi 0 P st G) := pm_dn_eq (i := .ireturn) (len := 1) rfl
theorem ue_72 (a0 : Nat) (a1 : Int) (G : PW) : pm_ca pm_sC 72 [.inr (.inr a0), .inl a1] G = pm_dn pm_sC 72 0 [some (.inr (.inr a0)), some (.inl a1), none, none, none] [] G := rfl
theorem u_72_0 (P : PL) (st : List PV) (G : PW) : pm_dn pm_sC 72 0 P st G = pm_go pm_sC 72 G (pm_oAL 0 1 P st G) := pm_dn_eq (i := .aload_n 0) (len := 1) rfl
theorem u_72_1 (P : PL) (st : List PV) (G : PW) : pm_dn pm_sC 72 1 P st G = pm_go pm_sC 72 G (pm_oGf pm_sC 5 3 4 P st G) := pm_dn_eq (i := .getfield 23) (len := 3) rfl
theorem u_72_4 (P : PL) (st : List PV) (G : PW) : pm_dn pm_sC 72 4 P st G = pm_go pm_sC 72 G (pm_oIL 1 5 P st G) := pm_dn_eq (i := .iload_n 1) (len := 1) rfl
theorem u_72_5 (P : PL) (st : List PV) (G : PW) : pm_dn pm_sC 72 5 P st G = pm_go pm_sC 72 G (pm_oK 0 6 P st G) := pm_dn_eq (i := .iconst 0) (len := 1) rfl
theorem u_72_6 (P : PL) (st : List PV) (G : PW) : pm_dn pm_sC 72 6 P st G = pm_go pm_sC 72 G (pm_oCv pm_sC 5 2 3 0 9 P st G) := pm_dn_eq (i := .invokevirtual 87) (len := 3) rfl
theorem u_72_9 (P : PL) (st : List PV) (G : PW) : pm_dn pm_sC 72 9 P st G = pm_go pm_sC 72 G (pm_oIS 2 10 P st G) := pm_dn_eq (i := .istore_n 2) (len := 1) rfl
theorem u_72_10 (P : PL) (st : List PV) (G : PW) : pm_dn pm_sC 72 10 P st G = pm_go pm_sC 72 G (pm_oAL 0 11 P st G) := pm_dn_eq (i := .aload_n 0) (len := 1) rfl
theorem u_72_11 (P : PL) (st : List PV) (G : PW) : pm_dn pm_sC 72 11 P st G = pm_go pm_sC 72 G (pm_oGf pm_sC 5 3 14 P st G) := pm_dn_eq (i := .getfield 23) (len := 3) rfl
theorem u_72_14 (P : PL) (st : List PV) (G : PW) : pm_dn pm_sC 72 14 P st G = pm_go pm_sC 72 G (pm_oIL 1 15 P st G) := pm_dn_eq (i := .iload_n 1) (len := 1) rfl
theorem u_72_15 (P : PL) (st : List PV) (G : PW) : pm_dn pm_sC 72 15 P st G = pm_go pm_sC 72 G (pm_oK 1 16 P st G) := pm_dn_eq (i := .iconst 1) (len := 1) rfl
theorem u_72_16 (P : PL) (st : List PV) (G : PW) : pm_dn pm_sC 72 16 P st G = pm_go pm_sC 72 G (pm_oCv pm_sC 5 2 3 0 19 P st G) := pm_dn_eq (i := .invokevirtual 87) (len := 3) rfl
theorem u_72_19 (P : PL) (st : List PV) (G : PW) : pm_dn pm_sC 72 19 P st G = pm_go pm_sC 72 G (pm_oIS 3 20 P st G) := pm_dn_eq (i := .istore_n 3) (len := 1) rfl
theorem u_72_20 (P : PL) (st : List PV) (G : PW) : pm_dn pm_sC 72 20 P st G = pm_go pm_sC 72 G (pm_oAL 0 21 P st G) := pm_dn_eq (i := .aload_n 0) (len := 1) rfl
theorem u_72_21 (P : PL) (st : List PV) (G : PW) : pm_dn pm_sC 72 21 P st G = pm_go pm_sC 72 G (pm_oIL 2 22 P st G) := pm_dn_eq (i := .iload_n 2) (len := 1) rfl
theorem u_72_22 (P : PL) (st : List PV) (G : PW) : pm_dn pm_sC 72 22 P st G = pm_go pm_sC 72 G (pm_oCv pm_sC 74 1 2 5 25 P st G) := pm_dn_eq (i := .invokevirtual 74) (len := 3) rfl
theorem u_72_25 (P : PL) (st : List PV) (G : PW) : pm_dn pm_sC 72 25 P st G = pm_go pm_sC 72 G (pm_oAL 0 26 P st G) := pm_dn_eq (i := .aload_n 0) (len := 1) rfl
theorem u_72_26 (P : PL) (st : List PV) (G : PW) : pm_dn pm_sC 72 26 P st G = pm_go pm_sC 72 G (pm_oIL 3 27 P st G) := pm_dn_eq (i := .iload_n 3) (len := 1) rfl
theorem u_72_27 (P : PL) (st : List PV) (G : PW) : pm_dn pm_sC 72 27 P st G = pm_go pm_sC 72 G (pm_oCv pm_sC 74 1 2 5 30 P st G) := pm_dn_eq (i := .invokevirtual 74) (len := 3) rfl
theorem u_72_30 (P : PL) (st : List PV) (G : PW) : pm_dn pm_sC 72 30 P st G = pm_go pm_sC 72 G (pm_oSub 31 P st G) := pm_dn_eq (i := .isub) (len := 1) rfl
theorem u_72_31 (P : PL) (st : List PV) (G : PW) : pm_dn pm_sC 72 31 P st G = pm_go pm_sC 72 G (pm_oIS 4 33 P st G) := pm_dn_eq (i := .istore 4) (len := 2) rfl
theorem u_72_33 (P : PL) (st : List PV) (G : PW) : pm_dn pm_sC 72 33 P st G = pm_go pm_sC 72 G (pm_oIL 4 35 P st G) := pm_dn_eq (i := .iload 4) (len := 2) rfl
theorem u_72_35 (P : PL) (st : List PV) (G : PW) : pm_dn pm_sC 72 35 P st G = pm_go pm_sC 72 G (pm_oIf .eq (some 49) 38 P st G) := pm_dn_eq (i := .ifCond .eq 14) (len := 3) rfl
theorem u_72_38 (P : PL) (st : List PV) (G : PW) : pm_dn pm_sC 72 38 P st G = pm_go pm_sC 72 G (pm_oIL 4 40 P st G) := pm_dn_eq (i := .iload 4) (len := 2) rfl
theorem u_72_40 (P : PL) (st : List PV) (G : PW) : pm_dn pm_sC 72 40 P st G = pm_go pm_sC 72 G (pm_oIf .le (some 47) 43 P st G) := pm_dn_eq (i := .ifCond .le 7) (len := 3) rfl
theorem u_72_43 (P : PL) (st : List PV) (G : PW) : pm_dn pm_sC 72 43 P st G = pm_go pm_sC 72 G (pm_oK 0 44 P st G) := pm_dn_eq (i := .iconst 0) (len := 1) rfl
theorem u_72_44 (P : PL) (st : List PV) (G : PW) : pm_dn pm_sC 72 44 P st G = pm_go pm_sC 72 G (pm_oGo (some 48) P st G) := pm_dn_eq (i := .goto 4) (len := 3) rfl
theorem u_72_47 (P : PL) (st : List PV) (G : PW) : pm_dn pm_sC 72 47 P st G = pm_go pm_sC 72 G (pm_oK 1 48 P st G) := pm_dn_eq (i := .iconst 1) (len := 1) rfl
theorem u_72_48 (P : PL) (st : List PV) (G : PW) : pm_dn pm_sC 72 48 P st G = pm_go pm_sC 72 G (pm_oRi 0 P st G) := pm_dn_eq (i := .ireturn) (len := 1) rfl
theorem u_72_49 (P : PL) (st : List PV) (G : PW) : pm_dn pm_sC 72 49 P st G = pm_go pm_sC 72 G (pm_oIL 2 50 P st G) := pm_dn_eq (i := .iload_n 2) (len := 1) rfl
theorem u_72_50 (P : PL) (st : List PV) (G : PW) : pm_dn pm_sC 72 50 P st G = pm_go pm_sC 72 G (pm_oIL 3 51 P st G) := pm_dn_eq (i := .iload_n 3) (len := 1) rfl
theorem u_72_51 (P : PL) (st : List PV) (G : PW) : pm_dn pm_sC 72 51 P st G = pm_go pm_sC 72 G (pm_oIc .ge (some 58) 54 P st G) := pm_dn_eq (i := .if_icmp .ge 7) (len := 3) rfl
theorem u_72_54 (P : PL) (st : List PV) (G : PW) : pm_dn pm_sC 72 54 P st G = pm_go pm_sC 72 G (pm_oK 0 55 P st G) := pm_dn_eq (i := .iconst 0) (len := 1) rfl
theorem u_72_55 (P : PL) (st : List PV) (G : PW) : pm_dn pm_sC 72 55 P st G = pm_go pm_sC 72 G (pm_oGo (some 59) P st G) := pm_dn_eq (i := .goto 4) (len := 3) rfl
theorem u_72_58 (P : PL) (st : List PV) (G : PW) : pm_dn pm_sC 72 58 P st G = pm_go pm_sC 72 G (pm_oK 1 59 P st G) := pm_dn_eq (i := .iconst 1) (len := 1) rfl
theorem u_72_59 (P : PL) (st : List PV) (G : PW) : pm_dn pm_sC 72 59 P st G = pm_go pm_sC 72 G (pm_oRi 0 P st G) := pm_dn_eq (i := .ireturn) (len := 1) rfl
theorem ue_73 (a0 : Nat) (G : PW) : pm_ca pm_sC 73 [.inr (.inr a0)] G = pm_dn pm_sC 73 0 [some (.inr (.inr a0)), none] [] G := rfl
theorem u_73_0 (P : PL) (st : List PV) (G : PW) : pm_dn pm_sC 73 0 P st G = pm_go pm_sC 73 G (pm_oK 0 1 P st G) := pm_dn_eq (i := .iconst 0) (len := 1) rfl
theorem u_73_1 (P : PL) (st : List PV) (G : PW) : pm_dn pm_sC 73 1 P st G = pm_go pm_sC 73 G (pm_oIS 1 2 P st G) := pm_dn_eq (i := .istore_n 1) (len := 1) rfl
theorem u_73_2 (P : PL) (st : List PV) (G : PW) : pm_dn pm_sC 73 2 P st G = pm_go pm_sC 73 G (pm_oIL 1 3 P st G) := pm_dn_eq (i := .iload_n 1) (len := 1) rfl
theorem u_73_3 (P : PL) (st : List PV) (G : PW) : pm_dn pm_sC 73 3 P st G = pm_go pm_sC 73 G (pm_oK 16 5 P st G) := pm_dn_eq (i := .bipush 16) (len := 2) rfl
theorem u_73_5 (P : PL) (st : List PV) (G : PW) : pm_dn pm_sC 73 5 P st G = pm_go pm_sC 73 G (pm_oIc .ge (some 27) 8 P st G) := pm_dn_eq (i := .if_icmp .ge 22) (len := 3) rfl
theorem u_73_8 (P : PL) (st : List PV) (G : PW) : pm_dn pm_sC 73 8 P st G = pm_go pm_sC 73 G (pm_oAL 0 9 P st G) := pm_dn_eq (i := .aload_n 0) (len := 1) rfl
theorem u_73_9 (P : PL) (st : List PV) (G : PW) : pm_dn pm_sC 73 9 P st G = pm_go pm_sC 73 G (pm_oIL 1 10 P st G) := pm_dn_eq (i := .iload_n 1) (len := 1) rfl
theorem u_73_10 (P : PL) (st : List PV) (G : PW) : pm_dn pm_sC 73 10 P st G = pm_go pm_sC 73 G (pm_oK 1500 13 P st G) := pm_dn_eq (i := .sipush 1500) (len := 3) rfl
theorem u_73_13 (P : PL) (st : List PV) (G : PW) : pm_dn pm_sC 73 13 P st G = pm_go pm_sC 73 G (pm_oK 10 15 P st G) := pm_dn_eq (i := .bipush 10) (len := 2) rfl
theorem u_73_15 (P : PL) (st : List PV) (G : PW) : pm_dn pm_sC 73 15 P st G = pm_go pm_sC 73 G (pm_oIL 1 16 P st G) := pm_dn_eq (i := .iload_n 1) (len := 1) rfl
theorem u_73_16 (P : PL) (st : List PV) (G : PW) : pm_dn pm_sC 73 16 P st G = pm_go pm_sC 73 G (pm_oMul 17 P st G) := pm_dn_eq (i := .imul) (len := 1) rfl
theorem u_73_17 (P : PL) (st : List PV) (G : PW) : pm_dn pm_sC 73 17 P st G = pm_go pm_sC 73 G (pm_oSub 18 P st G) := pm_dn_eq (i := .isub) (len := 1) rfl
theorem u_73_18 (P : PL) (st : List PV) (G : PW) : pm_dn pm_sC 73 18 P st G = pm_go pm_sC 73 G (pm_oCv pm_sC 75 2 3 5 21 P st G) := pm_dn_eq (i := .invokevirtual 78) (len := 3) rfl
theorem u_73_21 (P : PL) (st : List PV) (G : PW) : pm_dn pm_sC 73 21 P st G = pm_go pm_sC 73 G (pm_oInc 1 1 24 P st G) := pm_dn_eq (i := .iinc 1 1) (len := 3) rfl
theorem u_73_24 (P : PL) (st : List PV) (G : PW) : pm_dn pm_sC 73 24 P st G = pm_go pm_sC 73 G (pm_oGo (some 2) P st G) := pm_dn_eq (i := .goto (-22)) (len := 3) rfl
theorem u_73_27 (P : PL) (st : List PV) (G : PW) : pm_dn pm_sC 73 27 P st G = pm_go pm_sC 73 G (pm_oRv P st G) := pm_dn_eq (i := .return_) (len := 1) rfl
theorem ue_74 (a0 : Nat) (a1 : Int) (G : PW) : pm_ca pm_sC 74 [.inr (.inr a0), .inl a1] G = pm_dn pm_sC 74 0 [some (.inr (.inr a0)), some (.inl a1)] [] G := rfl
theorem u_74_0 (P : PL) (st : List PV) (G : PW) : pm_dn pm_sC 74 0 P st G = pm_go pm_sC 74 G (pm_oAL 0 1 P st G) := pm_dn_eq (i := .aload_n 0) (len := 1) rfl
theorem u_74_1 (P : PL) (st : List PV) (G : PW) : pm_dn pm_sC 74 1 P st G = pm_go pm_sC 74 G (pm_oGf pm_sC 5 0 4 P st G) := pm_dn_eq (i := .getfield 9) (len := 3) rfl
theorem u_74_4 (P : PL) (st : List PV) (G : PW) : pm_dn pm_sC 74 4 P st G = pm_go pm_sC 74 G (pm_oIL 1 5 P st G) := pm_dn_eq (i := .iload_n 1) (len := 1) rfl
theorem u_74_5 (P : PL) (st : List PV) (G : PW) : pm_dn pm_sC 74 5 P st G = pm_go pm_sC 74 G (pm_oCs 76 2 2 8 P st G) := pm_dn_eq (i := .invokestatic 122) (len := 3) rfl
theorem u_74_8 (P : PL) (st : List PV) (G : PW) : pm_dn pm_sC 74 8 P st G = pm_go pm_sC 74 G (pm_oRi 0 P st G) := pm_dn_eq (i := .ireturn) (len := 1) rfl
theorem ue_75 (a0 : Nat) (a1 : Int) (a2 : Int) (G : PW) : pm_ca pm_sC 75 [.inr (.inr a0), .inl a1, .inl a2] G = pm_dn pm_sC 75 0 [some (.inr (.inr a0)), some (.inl a1), some (.inl a2)] [] G := rfl
theorem u_75_0 (P : PL) (st : List PV) (G : PW) : pm_dn pm_sC 75 0 P st G = pm_go pm_sC 75 G (pm_oAL 0 1 P st G) := pm_dn_eq (i := .aload_n 0) (len := 1) rfl
theorem u_75_1 (P : PL) (st : List PV) (G : PW) : pm_dn pm_sC 75 1 P st G = pm_go pm_sC 75 G (pm_oGf pm_sC 5 0 4 P st G) := pm_dn_eq (i := .getfield 9) (len := 3) rfl
theorem u_75_4 (P : PL) (st : List PV) (G : PW) : pm_dn pm_sC 75 4 P st G = pm_go pm_sC 75 G (pm_oIL 1 5 P st G) := pm_dn_eq (i := .iload_n 1) (len := 1) rfl
theorem u_75_5 (P : PL) (st : List PV) (G : PW) : pm_dn pm_sC 75 5 P st G = pm_go pm_sC 75 G (pm_oIL 2 6 P st G) := pm_dn_eq (i := .iload_n 2) (len := 1) rfl
theorem u_75_6 (P : PL) (st : List PV) (G : PW) : pm_dn pm_sC 75 6 P st G = pm_go pm_sC 75 G (pm_oCs 77 3 3 9 P st G) := pm_dn_eq (i := .invokestatic 296) (len := 3) rfl
theorem u_75_9 (P : PL) (st : List PV) (G : PW) : pm_dn pm_sC 75 9 P st G = pm_go pm_sC 75 G (pm_oRv P st G) := pm_dn_eq (i := .return_) (len := 1) rfl
theorem ue_76 (a0 : Nat) (a1 : Int) (G : PW) : pm_ca pm_sC 76 [.inr (.inr a0), .inl a1] G = pm_dn pm_sC 76 0 [some (.inr (.inr a0)), some (.inl a1)] [] G := rfl
theorem u_76_0 (P : PL) (st : List PV) (G : PW) : pm_dn pm_sC 76 0 P st G = pm_go pm_sC 76 G (pm_oIL 1 1 P st G) := pm_dn_eq (i := .iload_n 1) (len := 1) rfl
theorem u_76_1 (P : PL) (st : List PV) (G : PW) : pm_dn pm_sC 76 1 P st G = pm_go pm_sC 76 G (pm_oIf .lt (some 16) 4 P st G) := pm_dn_eq (i := .ifCond .lt 15) (len := 3) rfl
theorem u_76_4 (P : PL) (st : List PV) (G : PW) : pm_dn pm_sC 76 4 P st G = pm_go pm_sC 76 G (pm_oIL 1 5 P st G) := pm_dn_eq (i := .iload_n 1) (len := 1) rfl
theorem u_76_5 (P : PL) (st : List PV) (G : PW) : pm_dn pm_sC 76 5 P st G = pm_go pm_sC 76 G (pm_oAL 0 6 P st G) := pm_dn_eq (i := .aload_n 0) (len := 1) rfl
theorem u_76_6 (P : PL) (st : List PV) (G : PW) : pm_dn pm_sC 76 6 P st G = pm_go pm_sC 76 G (pm_oLen pm_sC 7 P st G) := pm_dn_eq (i := .arraylength) (len := 1) rfl
theorem u_76_7 (P : PL) (st : List PV) (G : PW) : pm_dn pm_sC 76 7 P st G = pm_go pm_sC 76 G (pm_oIc .ge (some 16) 10 P st G) := pm_dn_eq (i := .if_icmp .ge 9) (len := 3) rfl
theorem u_76_10 (P : PL) (st : List PV) (G : PW) : pm_dn pm_sC 76 10 P st G = pm_go pm_sC 76 G (pm_oAL 0 11 P st G) := pm_dn_eq (i := .aload_n 0) (len := 1) rfl
theorem u_76_11 (P : PL) (st : List PV) (G : PW) : pm_dn pm_sC 76 11 P st G = pm_go pm_sC 76 G (pm_oIL 1 12 P st G) := pm_dn_eq (i := .iload_n 1) (len := 1) rfl
theorem u_76_12 (P : PL) (st : List PV) (G : PW) : pm_dn pm_sC 76 12 P st G = pm_go pm_sC 76 G (pm_oAld pm_sC 0 13 P st G) := pm_dn_eq (i := .iaload) (len := 1) rfl
theorem u_76_13 (P : PL) (st : List PV) (G : PW) : pm_dn pm_sC 76 13 P st G = pm_go pm_sC 76 G (pm_oGo (some 18) P st G) := pm_dn_eq (i := .goto 5) (len := 3) rfl
theorem u_76_16 (P : PL) (st : List PV) (G : PW) : pm_dn pm_sC 76 16 P st G = pm_go pm_sC 76 G (pm_oK (-6) 18 P st G) := pm_dn_eq (i := .bipush (-6)) (len := 2) rfl
theorem u_76_18 (P : PL) (st : List PV) (G : PW) : pm_dn pm_sC 76 18 P st G = pm_go pm_sC 76 G (pm_oRi 0 P st G) := pm_dn_eq (i := .ireturn) (len := 1) rfl
theorem ue_77 (a0 : Nat) (a1 : Int) (a2 : Int) (G : PW) : pm_ca pm_sC 77 [.inr (.inr a0), .inl a1, .inl a2] G = pm_dn pm_sC 77 0 [some (.inr (.inr a0)), some (.inl a1), some (.inl a2)] [] G := rfl
theorem u_77_0 (P : PL) (st : List PV) (G : PW) : pm_dn pm_sC 77 0 P st G = pm_go pm_sC 77 G (pm_oIL 1 1 P st G) := pm_dn_eq (i := .iload_n 1) (len := 1) rfl
theorem u_77_1 (P : PL) (st : List PV) (G : PW) : pm_dn pm_sC 77 1 P st G = pm_go pm_sC 77 G (pm_oIf .lt (some 14) 4 P st G) := pm_dn_eq (i := .ifCond .lt 13) (len := 3) rfl
theorem u_77_4 (P : PL) (st : List PV) (G : PW) : pm_dn pm_sC 77 4 P st G = pm_go pm_sC 77 G (pm_oIL 1 5 P st G) := pm_dn_eq (i := .iload_n 1) (len := 1) rfl
theorem u_77_5 (P : PL) (st : List PV) (G : PW) : pm_dn pm_sC 77 5 P st G = pm_go pm_sC 77 G (pm_oAL 0 6 P st G) := pm_dn_eq (i := .aload_n 0) (len := 1) rfl
theorem u_77_6 (P : PL) (st : List PV) (G : PW) : pm_dn pm_sC 77 6 P st G = pm_go pm_sC 77 G (pm_oLen pm_sC 7 P st G) := pm_dn_eq (i := .arraylength) (len := 1) rfl
theorem u_77_7 (P : PL) (st : List PV) (G : PW) : pm_dn pm_sC 77 7 P st G = pm_go pm_sC 77 G (pm_oIc .ge (some 14) 10 P st G) := pm_dn_eq (i := .if_icmp .ge 7) (len := 3) rfl
theorem u_77_10 (P : PL) (st : List PV) (G : PW) : pm_dn pm_sC 77 10 P st G = pm_go pm_sC 77 G (pm_oAL 0 11 P st G) := pm_dn_eq (i := .aload_n 0) (len := 1) rfl
theorem u_77_11 (P : PL) (st : List PV) (G : PW) : pm_dn pm_sC 77 11 P st G = pm_go pm_sC 77 G (pm_oIL 1 12 P st G) := pm_dn_eq (i := .iload_n 1) (len := 1) rfl
theorem u_77_12 (P : PL) (st : List PV) (G : PW) : pm_dn pm_sC 77 12 P st G = pm_go pm_sC 77 G (pm_oIL 2 13 P st G) := pm_dn_eq (i := .iload_n 2) (len := 1) rfl
theorem u_77_13 (P : PL) (st : List PV) (G : PW) : pm_dn pm_sC 77 13 P st G = pm_go pm_sC 77 G (pm_oAst pm_sC 0 14 P st G) := pm_dn_eq (i := .iastore) (len := 1) rfl
theorem u_77_14 (P : PL) (st : List PV) (G : PW) : pm_dn pm_sC 77 14 P st G = pm_go pm_sC 77 G (pm_oRv P st G) := pm_dn_eq (i := .return_) (len := 1) rfl
theorem ue_78 (a0 : Nat) (a1 : Nat) (G : PW) : pm_ca pm_sC 78 [.inr (.inr a0), .inr (.inr a1)] G = pm_dn pm_sC 78 0 [some (.inr (.inr a0)), some (.inr (.inr a1)), none] [] G := rfl
theorem u_78_0 (P : PL) (st : List PV) (G : PW) : pm_dn pm_sC 78 0 P st G = pm_go pm_sC 78 G (pm_oK 0 1 P st G) := pm_dn_eq (i := .iconst 0) (len := 1) rfl
theorem u_78_1 (P : PL) (st : List PV) (G : PW) : pm_dn pm_sC 78 1 P st G = pm_go pm_sC 78 G (pm_oIS 2 2 P st G) := pm_dn_eq (i := .istore_n 2) (len := 1) rfl
theorem u_78_2 (P : PL) (st : List PV) (G : PW) : pm_dn pm_sC 78 2 P st G = pm_go pm_sC 78 G (pm_oIL 2 3 P st G) := pm_dn_eq (i := .iload_n 2) (len := 1) rfl
theorem u_78_3 (P : PL) (st : List PV) (G : PW) : pm_dn pm_sC 78 3 P st G = pm_go pm_sC 78 G (pm_oAL 0 4 P st G) := pm_dn_eq (i := .aload_n 0) (len := 1) rfl
theorem u_78_4 (P : PL) (st : List PV) (G : PW) : pm_dn pm_sC 78 4 P st G = pm_go pm_sC 78 G (pm_oLen pm_sC 5 P st G) := pm_dn_eq (i := .arraylength) (len := 1) rfl
theorem u_78_5 (P : PL) (st : List PV) (G : PW) : pm_dn pm_sC 78 5 P st G = pm_go pm_sC 78 G (pm_oIc .ge (some 26) 8 P st G) := pm_dn_eq (i := .if_icmp .ge 21) (len := 3) rfl
theorem u_78_8 (P : PL) (st : List PV) (G : PW) : pm_dn pm_sC 78 8 P st G = pm_go pm_sC 78 G (pm_oIL 2 9 P st G) := pm_dn_eq (i := .iload_n 2) (len := 1) rfl
theorem u_78_9 (P : PL) (st : List PV) (G : PW) : pm_dn pm_sC 78 9 P st G = pm_go pm_sC 78 G (pm_oAL 1 10 P st G) := pm_dn_eq (i := .aload_n 1) (len := 1) rfl
theorem u_78_10 (P : PL) (st : List PV) (G : PW) : pm_dn pm_sC 78 10 P st G = pm_go pm_sC 78 G (pm_oLen pm_sC 11 P st G) := pm_dn_eq (i := .arraylength) (len := 1) rfl
theorem u_78_11 (P : PL) (st : List PV) (G : PW) : pm_dn pm_sC 78 11 P st G = pm_go pm_sC 78 G (pm_oIc .ge (some 26) 14 P st G) := pm_dn_eq (i := .if_icmp .ge 15) (len := 3) rfl
theorem u_78_14 (P : PL) (st : List PV) (G : PW) : pm_dn pm_sC 78 14 P st G = pm_go pm_sC 78 G (pm_oAL 1 15 P st G) := pm_dn_eq (i := .aload_n 1) (len := 1) rfl
theorem u_78_15 (P : PL) (st : List PV) (G : PW) : pm_dn pm_sC 78 15 P st G = pm_go pm_sC 78 G (pm_oIL 2 16 P st G) := pm_dn_eq (i := .iload_n 2) (len := 1) rfl
theorem u_78_16 (P : PL) (st : List PV) (G : PW) : pm_dn pm_sC 78 16 P st G = pm_go pm_sC 78 G (pm_oAL 0 17 P st G) := pm_dn_eq (i := .aload_n 0) (len := 1) rfl
theorem u_78_17 (P : PL) (st : List PV) (G : PW) : pm_dn pm_sC 78 17 P st G = pm_go pm_sC 78 G (pm_oIL 2 18 P st G) := pm_dn_eq (i := .iload_n 2) (len := 1) rfl
theorem u_78_18 (P : PL) (st : List PV) (G : PW) : pm_dn pm_sC 78 18 P st G = pm_go pm_sC 78 G (pm_oAld pm_sC 0 19 P st G) := pm_dn_eq (i := .iaload) (len := 1) rfl
theorem u_78_19 (P : PL) (st : List PV) (G : PW) : pm_dn pm_sC 78 19 P st G = pm_go pm_sC 78 G (pm_oAst pm_sC 0 20 P st G) := pm_dn_eq (i := .iastore) (len := 1) rfl
theorem u_78_20 (P : PL) (st : List PV) (G : PW) : pm_dn pm_sC 78 20 P st G = pm_go pm_sC 78 G (pm_oInc 2 1 23 P st G) := pm_dn_eq (i := .iinc 2 1) (len := 3) rfl
theorem u_78_23 (P : PL) (st : List PV) (G : PW) : pm_dn pm_sC 78 23 P st G = pm_go pm_sC 78 G (pm_oGo (some 2) P st G) := pm_dn_eq (i := .goto (-21)) (len := 3) rfl
theorem u_78_26 (P : PL) (st : List PV) (G : PW) : pm_dn pm_sC 78 26 P st G = pm_go pm_sC 78 G (pm_oRv P st G) := pm_dn_eq (i := .return_) (len := 1) rfl
theorem ue_79 (a0 : Int) (a1 : Int) (G : PW) : pm_ca pm_sC 79 [.inl a0, .inl a1] G = pm_dn pm_sC 79 0 [some (.inl a0), some (.inl a1)] [] G := rfl
theorem u_79_0 (P : PL) (st : List PV) (G : PW) : pm_dn pm_sC 79 0 P st G = pm_go pm_sC 79 G (pm_oK 2 1 P st G) := pm_dn_eq (i := .iconst 2) (len := 1) rfl
theorem u_79_1 (P : PL) (st : List PV) (G : PW) : pm_dn pm_sC 79 1 P st G = pm_go pm_sC 79 G (pm_oIL 0 2 P st G) := pm_dn_eq (i := .iload_n 0) (len := 1) rfl
theorem u_79_2 (P : PL) (st : List PV) (G : PW) : pm_dn pm_sC 79 2 P st G = pm_go pm_sC 79 G (pm_oMul 3 P st G) := pm_dn_eq (i := .imul) (len := 1) rfl
theorem u_79_3 (P : PL) (st : List PV) (G : PW) : pm_dn pm_sC 79 3 P st G = pm_go pm_sC 79 G (pm_oIL 1 4 P st G) := pm_dn_eq (i := .iload_n 1) (len := 1) rfl
theorem u_79_4 (P : PL) (st : List PV) (G : PW) : pm_dn pm_sC 79 4 P st G = pm_go pm_sC 79 G (pm_oAdd 5 P st G) := pm_dn_eq (i := .iadd) (len := 1) rfl
theorem u_79_5 (P : PL) (st : List PV) (G : PW) : pm_dn pm_sC 79 5 P st G = pm_go pm_sC 79 G (pm_oRi 0 P st G) := pm_dn_eq (i := .ireturn) (len := 1) rfl
theorem ue_80 (a0 : Int) (G : PW) : pm_ca pm_sC 80 [.inl a0] G = pm_dn pm_sC 80 0 [some (.inl a0)] [] G := rfl
theorem u_80_0 (P : PL) (st : List PV) (G : PW) : pm_dn pm_sC 80 0 P st G = pm_go pm_sC 80 G (pm_oIL 0 1 P st G) := pm_dn_eq (i := .iload_n 0) (len := 1) rfl
theorem u_80_1 (P : PL) (st : List PV) (G : PW) : pm_dn pm_sC 80 1 P st G = pm_go pm_sC 80 G (pm_oIf .ge (some 9) 4 P st G) := pm_dn_eq (i := .ifCond .ge 8) (len := 3) rfl
theorem u_80_4 (P : PL) (st : List PV) (G : PW) : pm_dn pm_sC 80 4 P st G = pm_go pm_sC 80 G (pm_oK (-6) 6 P st G) := pm_dn_eq (i := .bipush (-6)) (len := 2) rfl
theorem u_80_6 (P : PL) (st : List PV) (G : PW) : pm_dn pm_sC 80 6 P st G = pm_go pm_sC 80 G (pm_oGo (some 12) P st G) := pm_dn_eq (i := .goto 6) (len := 3) rfl
theorem u_80_9 (P : PL) (st : List PV) (G : PW) : pm_dn pm_sC 80 9 P st G = pm_go pm_sC 80 G (pm_oIL 0 10 P st G) := pm_dn_eq (i := .iload_n 0) (len := 1) rfl
theorem u_80_10 (P : PL) (st : List PV) (G : PW) : pm_dn pm_sC 80 10 P st G = pm_go pm_sC 80 G (pm_oK 1 11 P st G) := pm_dn_eq (i := .iconst 1) (len := 1) rfl
theorem u_80_11 (P : PL) (st : List PV) (G : PW) : pm_dn pm_sC 80 11 P st G = pm_go pm_sC 80 G (pm_oShr 12 P st G) := pm_dn_eq (i := .ishr) (len := 1) rfl
theorem u_80_12 (P : PL) (st : List PV) (G : PW) : pm_dn pm_sC 80 12 P st G = pm_go pm_sC 80 G (pm_oRi 0 P st G) := pm_dn_eq (i := .ireturn) (len := 1) rfl
theorem ue_81 (a0 : Int) (G : PW) : pm_ca pm_sC 81 [.inl a0] G = pm_dn pm_sC 81 0 [some (.inl a0)] [] G := rfl
theorem u_81_0 (P : PL) (st : List PV) (G : PW) : pm_dn pm_sC 81 0 P st G = pm_go pm_sC 81 G (pm_oIL 0 1 P st G) := pm_dn_eq (i := .iload_n 0) (len := 1) rfl
theorem u_81_1 (P : PL) (st : List PV) (G : PW) : pm_dn pm_sC 81 1 P st G = pm_go pm_sC 81 G (pm_oIf .ge (some 9) 4 P st G) := pm_dn_eq (i := .ifCond .ge 8) (len := 3) rfl
theorem u_81_4 (P : PL) (st : List PV) (G : PW) : pm_dn pm_sC 81 4 P st G = pm_go pm_sC 81 G (pm_oK (-6) 6 P st G) := pm_dn_eq (i := .bipush (-6)) (len := 2) rfl
theorem u_81_6 (P : PL) (st : List PV) (G : PW) : pm_dn pm_sC 81 6 P st G = pm_go pm_sC 81 G (pm_oGo (some 12) P st G) := pm_dn_eq (i := .goto 6) (len := 3) rfl
theorem u_81_9 (P : PL) (st : List PV) (G : PW) : pm_dn pm_sC 81 9 P st G = pm_go pm_sC 81 G (pm_oIL 0 10 P st G) := pm_dn_eq (i := .iload_n 0) (len := 1) rfl
theorem u_81_10 (P : PL) (st : List PV) (G : PW) : pm_dn pm_sC 81 10 P st G = pm_go pm_sC 81 G (pm_oK 1 11 P st G) := pm_dn_eq (i := .iconst 1) (len := 1) rfl
theorem u_81_11 (P : PL) (st : List PV) (G : PW) : pm_dn pm_sC 81 11 P st G = pm_go pm_sC 81 G (pm_oAnd 12 P st G) := pm_dn_eq (i := .iand) (len := 1) rfl
theorem u_81_12 (P : PL) (st : List PV) (G : PW) : pm_dn pm_sC 81 12 P st G = pm_go pm_sC 81 G (pm_oRi 0 P st G) := pm_dn_eq (i := .ireturn) (len := 1) rfl
