/-! printed by gen09.py: what each instruction does, pc by pc -/
theorem ue_80 (a0 : Nat) (a1 : Int) (G : PW) : pm_ca pm_sC 80 [.inr (.inr a0), .inl a1] G = pm_dn pm_sC 80 0 [some (.inr (.inr a0)), some (.inl a1), none] [] G := rfl
theorem u_80_0 (P : PL) (st : List PV) (G : PW) : pm_dn pm_sC 80 0 P st G = pm_go pm_sC 80 G (pm_oIL 1 1 P st G) := pm_dn_eq (i := .iload_n 1) (len := 1) rfl
theorem u_80_1 (P : PL) (st : List PV) (G : PW) : pm_dn pm_sC 80 1 P st G = pm_go pm_sC 80 G (pm_oK 1 2 P st G) := pm_dn_eq (i := .iconst 1) (len := 1) rfl
theorem u_80_2 (P : PL) (st : List PV) (G : PW) : pm_dn pm_sC 80 2 P st G = pm_go pm_sC 80 G (pm_oIc .lt (some 11) 5 P st G) := pm_dn_eq (i := .if_icmp .lt 9) (len := 3) rfl
theorem u_80_5 (P : PL) (st : List PV) (G : PW) : pm_dn pm_sC 80 5 P st G = pm_go pm_sC 80 G (pm_oIL 1 6 P st G) := pm_dn_eq (i := .iload_n 1) (len := 1) rfl
theorem u_80_6 (P : PL) (st : List PV) (G : PW) : pm_dn pm_sC 80 6 P st G = pm_go pm_sC 80 G (pm_oK 8 8 P st G) := pm_dn_eq (i := .bipush 8) (len := 2) rfl
theorem u_80_8 (P : PL) (st : List PV) (G : PW) : pm_dn pm_sC 80 8 P st G = pm_go pm_sC 80 G (pm_oIc .le (some 14) 11 P st G) := pm_dn_eq (i := .if_icmp .le 6) (len := 3) rfl
theorem u_80_11 (P : PL) (st : List PV) (G : PW) : pm_dn pm_sC 80 11 P st G = pm_go pm_sC 80 G (pm_oK (-2) 13 P st G) := pm_dn_eq (i := .bipush (-2)) (len := 2) rfl
theorem u_80_13 (P : PL) (st : List PV) (G : PW) : pm_dn pm_sC 80 13 P st G = pm_go pm_sC 80 G (pm_oRi 0 P st G) := pm_dn_eq (i := .ireturn) (len := 1) rfl
theorem u_80_14 (P : PL) (st : List PV) (G : PW) : pm_dn pm_sC 80 14 P st G = pm_go pm_sC 80 G (pm_oAL 0 15 P st G) := pm_dn_eq (i := .aload_n 0) (len := 1) rfl
theorem u_80_15 (P : PL) (st : List PV) (G : PW) : pm_dn pm_sC 80 15 P st G = pm_go pm_sC 80 G (pm_oGf pm_sC 5 3 18 P st G) := pm_dn_eq (i := .getfield 23) (len := 3) rfl
theorem u_80_18 (P : PL) (st : List PV) (G : PW) : pm_dn pm_sC 80 18 P st G = pm_go pm_sC 80 G (pm_oAL 0 19 P st G) := pm_dn_eq (i := .aload_n 0) (len := 1) rfl
theorem u_80_19 (P : PL) (st : List PV) (G : PW) : pm_dn pm_sC 80 19 P st G = pm_go pm_sC 80 G (pm_oGf pm_sC 5 2 22 P st G) := pm_dn_eq (i := .getfield 19) (len := 3) rfl
theorem u_80_22 (P : PL) (st : List PV) (G : PW) : pm_dn pm_sC 80 22 P st G = pm_go pm_sC 80 G (pm_oCv pm_sC 1 1 2 0 25 P st G) := pm_dn_eq (i := .invokevirtual 198) (len := 3) rfl
theorem u_80_25 (P : PL) (st : List PV) (G : PW) : pm_dn pm_sC 80 25 P st G = pm_go pm_sC 80 G (pm_oK 0 26 P st G) := pm_dn_eq (i := .iconst 0) (len := 1) rfl
theorem u_80_26 (P : PL) (st : List PV) (G : PW) : pm_dn pm_sC 80 26 P st G = pm_go pm_sC 80 G (pm_oIS 2 27 P st G) := pm_dn_eq (i := .istore_n 2) (len := 1) rfl
theorem u_80_27 (P : PL) (st : List PV) (G : PW) : pm_dn pm_sC 80 27 P st G = pm_go pm_sC 80 G (pm_oIL 2 28 P st G) := pm_dn_eq (i := .iload_n 2) (len := 1) rfl
theorem u_80_28 (P : PL) (st : List PV) (G : PW) : pm_dn pm_sC 80 28 P st G = pm_go pm_sC 80 G (pm_oK 31 30 P st G) := pm_dn_eq (i := .bipush 31) (len := 2) rfl
theorem u_80_30 (P : PL) (st : List PV) (G : PW) : pm_dn pm_sC 80 30 P st G = pm_go pm_sC 80 G (pm_oIc .ge (some 47) 33 P st G) := pm_dn_eq (i := .if_icmp .ge 17) (len := 3) rfl
theorem u_80_33 (P : PL) (st : List PV) (G : PW) : pm_dn pm_sC 80 33 P st G = pm_go pm_sC 80 G (pm_oAL 0 34 P st G) := pm_dn_eq (i := .aload_n 0) (len := 1) rfl
theorem u_80_34 (P : PL) (st : List PV) (G : PW) : pm_dn pm_sC 80 34 P st G = pm_go pm_sC 80 G (pm_oIL 1 35 P st G) := pm_dn_eq (i := .iload_n 1) (len := 1) rfl
theorem u_80_35 (P : PL) (st : List PV) (G : PW) : pm_dn pm_sC 80 35 P st G = pm_go pm_sC 80 G (pm_oCv pm_sC 98 1 5 5 38 P st G) := pm_dn_eq (i := .invokevirtual 202) (len := 3) rfl
theorem u_80_38 (P : PL) (st : List PV) (G : PW) : pm_dn pm_sC 80 38 P st G = pm_go pm_sC 80 G (pm_oIf .eq (some 47) 41 P st G) := pm_dn_eq (i := .ifCond .eq 9) (len := 3) rfl
theorem u_80_41 (P : PL) (st : List PV) (G : PW) : pm_dn pm_sC 80 41 P st G = pm_go pm_sC 80 G (pm_oInc 2 1 44 P st G) := pm_dn_eq (i := .iinc 2 1) (len := 3) rfl
theorem u_80_44 (P : PL) (st : List PV) (G : PW) : pm_dn pm_sC 80 44 P st G = pm_go pm_sC 80 G (pm_oGo (some 27) P st G) := pm_dn_eq (i := .goto (-17)) (len := 3) rfl
theorem u_80_47 (P : PL) (st : List PV) (G : PW) : pm_dn pm_sC 80 47 P st G = pm_go pm_sC 80 G (pm_oIL 2 48 P st G) := pm_dn_eq (i := .iload_n 2) (len := 1) rfl
theorem u_80_48 (P : PL) (st : List PV) (G : PW) : pm_dn pm_sC 80 48 P st G = pm_go pm_sC 80 G (pm_oRi 0 P st G) := pm_dn_eq (i := .ireturn) (len := 1) rfl
theorem ue_81 (a0 : Nat) (a1 : Int) (a2 : Int) (G : PW) : pm_ca pm_sC 81 [.inr (.inr a0), .inl a1, .inl a2] G = pm_dn pm_sC 81 0 [some (.inr (.inr a0)), some (.inl a1), some (.inl a2)] [] G := rfl
theorem u_81_0 (P : PL) (st : List PV) (G : PW) : pm_dn pm_sC 81 0 P st G = pm_go pm_sC 81 G (pm_oAL 0 1 P st G) := pm_dn_eq (i := .aload_n 0) (len := 1) rfl
theorem u_81_1 (P : PL) (st : List PV) (G : PW) : pm_dn pm_sC 81 1 P st G = pm_go pm_sC 81 G (pm_oGf pm_sC 5 2 4 P st G) := pm_dn_eq (i := .getfield 19) (len := 3) rfl
theorem u_81_4 (P : PL) (st : List PV) (G : PW) : pm_dn pm_sC 81 4 P st G = pm_go pm_sC 81 G (pm_oGf pm_sC 0 0 7 P st G) := pm_dn_eq (i := .getfield 60) (len := 3) rfl
theorem u_81_7 (P : PL) (st : List PV) (G : PW) : pm_dn pm_sC 81 7 P st G = pm_go pm_sC 81 G (pm_oIL 1 8 P st G) := pm_dn_eq (i := .iload_n 1) (len := 1) rfl
theorem u_81_8 (P : PL) (st : List PV) (G : PW) : pm_dn pm_sC 81 8 P st G = pm_go pm_sC 81 G (pm_oCv pm_sC 49 1 2 3 11 P st G) := pm_dn_eq (i := .invokevirtual 70) (len := 3) rfl
theorem u_81_11 (P : PL) (st : List PV) (G : PW) : pm_dn pm_sC 81 11 P st G = pm_go pm_sC 81 G (pm_oIf .eq (some 28) 14 P st G) := pm_dn_eq (i := .ifCond .eq 17) (len := 3) rfl
theorem u_81_14 (P : PL) (st : List PV) (G : PW) : pm_dn pm_sC 81 14 P st G = pm_go pm_sC 81 G (pm_oAL 0 15 P st G) := pm_dn_eq (i := .aload_n 0) (len := 1) rfl
theorem u_81_15 (P : PL) (st : List PV) (G : PW) : pm_dn pm_sC 81 15 P st G = pm_go pm_sC 81 G (pm_oGf pm_sC 5 2 18 P st G) := pm_dn_eq (i := .getfield 19) (len := 3) rfl
theorem u_81_18 (P : PL) (st : List PV) (G : PW) : pm_dn pm_sC 81 18 P st G = pm_go pm_sC 81 G (pm_oGf pm_sC 0 0 21 P st G) := pm_dn_eq (i := .getfield 60) (len := 3) rfl
theorem u_81_21 (P : PL) (st : List PV) (G : PW) : pm_dn pm_sC 81 21 P st G = pm_go pm_sC 81 G (pm_oIL 2 22 P st G) := pm_dn_eq (i := .iload_n 2) (len := 1) rfl
theorem u_81_22 (P : PL) (st : List PV) (G : PW) : pm_dn pm_sC 81 22 P st G = pm_go pm_sC 81 G (pm_oCv pm_sC 49 1 2 3 25 P st G) := pm_dn_eq (i := .invokevirtual 70) (len := 3) rfl
theorem u_81_25 (P : PL) (st : List PV) (G : PW) : pm_dn pm_sC 81 25 P st G = pm_go pm_sC 81 G (pm_oIf .ne (some 30) 28 P st G) := pm_dn_eq (i := .ifCond .ne 5) (len := 3) rfl
theorem u_81_28 (P : PL) (st : List PV) (G : PW) : pm_dn pm_sC 81 28 P st G = pm_go pm_sC 81 G (pm_oK (-1) 29 P st G) := pm_dn_eq (i := .iconst (-1)) (len := 1) rfl
theorem u_81_29 (P : PL) (st : List PV) (G : PW) : pm_dn pm_sC 81 29 P st G = pm_go pm_sC 81 G (pm_oRi 0 P st G) := pm_dn_eq (i := .ireturn) (len := 1) rfl
theorem u_81_30 (P : PL) (st : List PV) (G : PW) : pm_dn pm_sC 81 30 P st G = pm_go pm_sC 81 G (pm_oIL 1 31 P st G) := pm_dn_eq (i := .iload_n 1) (len := 1) rfl
theorem u_81_31 (P : PL) (st : List PV) (G : PW) : pm_dn pm_sC 81 31 P st G = pm_go pm_sC 81 G (pm_oIL 2 32 P st G) := pm_dn_eq (i := .iload_n 2) (len := 1) rfl
theorem u_81_32 (P : PL) (st : List PV) (G : PW) : pm_dn pm_sC 81 32 P st G = pm_go pm_sC 81 G (pm_oIc .ne (some 38) 35 P st G) := pm_dn_eq (i := .if_icmp .ne 6) (len := 3) rfl
theorem u_81_35 (P : PL) (st : List PV) (G : PW) : pm_dn pm_sC 81 35 P st G = pm_go pm_sC 81 G (pm_oK (-2) 37 P st G) := pm_dn_eq (i := .bipush (-2)) (len := 2) rfl
theorem u_81_37 (P : PL) (st : List PV) (G : PW) : pm_dn pm_sC 81 37 P st G = pm_go pm_sC 81 G (pm_oRi 0 P st G) := pm_dn_eq (i := .ireturn) (len := 1) rfl
theorem u_81_38 (P : PL) (st : List PV) (G : PW) : pm_dn pm_sC 81 38 P st G = pm_go pm_sC 81 G (pm_oAL 0 39 P st G) := pm_dn_eq (i := .aload_n 0) (len := 1) rfl
theorem u_81_39 (P : PL) (st : List PV) (G : PW) : pm_dn pm_sC 81 39 P st G = pm_go pm_sC 81 G (pm_oGf pm_sC 5 2 42 P st G) := pm_dn_eq (i := .getfield 19) (len := 3) rfl
theorem u_81_42 (P : PL) (st : List PV) (G : PW) : pm_dn pm_sC 81 42 P st G = pm_go pm_sC 81 G (pm_oIL 1 43 P st G) := pm_dn_eq (i := .iload_n 1) (len := 1) rfl
theorem u_81_43 (P : PL) (st : List PV) (G : PW) : pm_dn pm_sC 81 43 P st G = pm_go pm_sC 81 G (pm_oCv pm_sC 4 1 2 0 46 P st G) := pm_dn_eq (i := .invokevirtual 101) (len := 3) rfl
theorem u_81_46 (P : PL) (st : List PV) (G : PW) : pm_dn pm_sC 81 46 P st G = pm_go pm_sC 81 G (pm_oIf .ne (some 82) 49 P st G) := pm_dn_eq (i := .ifCond .ne 36) (len := 3) rfl
theorem u_81_49 (P : PL) (st : List PV) (G : PW) : pm_dn pm_sC 81 49 P st G = pm_go pm_sC 81 G (pm_oAL 0 50 P st G) := pm_dn_eq (i := .aload_n 0) (len := 1) rfl
theorem u_81_50 (P : PL) (st : List PV) (G : PW) : pm_dn pm_sC 81 50 P st G = pm_go pm_sC 81 G (pm_oGf pm_sC 5 2 53 P st G) := pm_dn_eq (i := .getfield 19) (len := 3) rfl
theorem u_81_53 (P : PL) (st : List PV) (G : PW) : pm_dn pm_sC 81 53 P st G = pm_go pm_sC 81 G (pm_oIL 2 54 P st G) := pm_dn_eq (i := .iload_n 2) (len := 1) rfl
theorem u_81_54 (P : PL) (st : List PV) (G : PW) : pm_dn pm_sC 81 54 P st G = pm_go pm_sC 81 G (pm_oCv pm_sC 4 1 2 0 57 P st G) := pm_dn_eq (i := .invokevirtual 101) (len := 3) rfl
theorem u_81_57 (P : PL) (st : List PV) (G : PW) : pm_dn pm_sC 81 57 P st G = pm_go pm_sC 81 G (pm_oIf .ne (some 82) 60 P st G) := pm_dn_eq (i := .ifCond .ne 25) (len := 3) rfl
theorem u_81_60 (P : PL) (st : List PV) (G : PW) : pm_dn pm_sC 81 60 P st G = pm_go pm_sC 81 G (pm_oAL 0 61 P st G) := pm_dn_eq (i := .aload_n 0) (len := 1) rfl
theorem u_81_61 (P : PL) (st : List PV) (G : PW) : pm_dn pm_sC 81 61 P st G = pm_go pm_sC 81 G (pm_oGf pm_sC 5 2 64 P st G) := pm_dn_eq (i := .getfield 19) (len := 3) rfl
theorem u_81_64 (P : PL) (st : List PV) (G : PW) : pm_dn pm_sC 81 64 P st G = pm_go pm_sC 81 G (pm_oIL 1 65 P st G) := pm_dn_eq (i := .iload_n 1) (len := 1) rfl
theorem u_81_65 (P : PL) (st : List PV) (G : PW) : pm_dn pm_sC 81 65 P st G = pm_go pm_sC 81 G (pm_oCv pm_sC 14 1 2 0 68 P st G) := pm_dn_eq (i := .invokevirtual 104) (len := 3) rfl
theorem u_81_68 (P : PL) (st : List PV) (G : PW) : pm_dn pm_sC 81 68 P st G = pm_go pm_sC 81 G (pm_oIf .ne (some 82) 71 P st G) := pm_dn_eq (i := .ifCond .ne 14) (len := 3) rfl
theorem u_81_71 (P : PL) (st : List PV) (G : PW) : pm_dn pm_sC 81 71 P st G = pm_go pm_sC 81 G (pm_oAL 0 72 P st G) := pm_dn_eq (i := .aload_n 0) (len := 1) rfl
theorem u_81_72 (P : PL) (st : List PV) (G : PW) : pm_dn pm_sC 81 72 P st G = pm_go pm_sC 81 G (pm_oGf pm_sC 5 2 75 P st G) := pm_dn_eq (i := .getfield 19) (len := 3) rfl
theorem u_81_75 (P : PL) (st : List PV) (G : PW) : pm_dn pm_sC 81 75 P st G = pm_go pm_sC 81 G (pm_oIL 2 76 P st G) := pm_dn_eq (i := .iload_n 2) (len := 1) rfl
theorem u_81_76 (P : PL) (st : List PV) (G : PW) : pm_dn pm_sC 81 76 P st G = pm_go pm_sC 81 G (pm_oCv pm_sC 14 1 2 0 79 P st G) := pm_dn_eq (i := .invokevirtual 104) (len := 3) rfl
theorem u_81_79 (P : PL) (st : List PV) (G : PW) : pm_dn pm_sC 81 79 P st G = pm_go pm_sC 81 G (pm_oIf .eq (some 85) 82 P st G) := pm_dn_eq (i := .ifCond .eq 6) (len := 3) rfl
theorem u_81_82 (P : PL) (st : List PV) (G : PW) : pm_dn pm_sC 81 82 P st G = pm_go pm_sC 81 G (pm_oK (-6) 84 P st G) := pm_dn_eq (i := .bipush (-6)) (len := 2) rfl
theorem u_81_84 (P : PL) (st : List PV) (G : PW) : pm_dn pm_sC 81 84 P st G = pm_go pm_sC 81 G (pm_oRi 0 P st G) := pm_dn_eq (i := .ireturn) (len := 1) rfl
theorem u_81_85 (P : PL) (st : List PV) (G : PW) : pm_dn pm_sC 81 85 P st G = pm_go pm_sC 81 G (pm_oAL 0 86 P st G) := pm_dn_eq (i := .aload_n 0) (len := 1) rfl
theorem u_81_86 (P : PL) (st : List PV) (G : PW) : pm_dn pm_sC 81 86 P st G = pm_go pm_sC 81 G (pm_oGf pm_sC 5 2 89 P st G) := pm_dn_eq (i := .getfield 19) (len := 3) rfl
theorem u_81_89 (P : PL) (st : List PV) (G : PW) : pm_dn pm_sC 81 89 P st G = pm_go pm_sC 81 G (pm_oGf pm_sC 0 0 92 P st G) := pm_dn_eq (i := .getfield 60) (len := 3) rfl
theorem u_81_92 (P : PL) (st : List PV) (G : PW) : pm_dn pm_sC 81 92 P st G = pm_go pm_sC 81 G (pm_oAL 0 93 P st G) := pm_dn_eq (i := .aload_n 0) (len := 1) rfl
theorem u_81_93 (P : PL) (st : List PV) (G : PW) : pm_dn pm_sC 81 93 P st G = pm_go pm_sC 81 G (pm_oGf pm_sC 5 2 96 P st G) := pm_dn_eq (i := .getfield 19) (len := 3) rfl
theorem u_81_96 (P : PL) (st : List PV) (G : PW) : pm_dn pm_sC 81 96 P st G = pm_go pm_sC 81 G (pm_oIL 1 97 P st G) := pm_dn_eq (i := .iload_n 1) (len := 1) rfl
theorem u_81_97 (P : PL) (st : List PV) (G : PW) : pm_dn pm_sC 81 97 P st G = pm_go pm_sC 81 G (pm_oCv pm_sC 13 1 4 0 100 P st G) := pm_dn_eq (i := .invokevirtual 153) (len := 3) rfl
theorem u_81_100 (P : PL) (st : List PV) (G : PW) : pm_dn pm_sC 81 100 P st G = pm_go pm_sC 81 G (pm_oAL 0 101 P st G) := pm_dn_eq (i := .aload_n 0) (len := 1) rfl
theorem u_81_101 (P : PL) (st : List PV) (G : PW) : pm_dn pm_sC 81 101 P st G = pm_go pm_sC 81 G (pm_oGf pm_sC 5 2 104 P st G) := pm_dn_eq (i := .getfield 19) (len := 3) rfl
theorem u_81_104 (P : PL) (st : List PV) (G : PW) : pm_dn pm_sC 81 104 P st G = pm_go pm_sC 81 G (pm_oIL 2 105 P st G) := pm_dn_eq (i := .iload_n 2) (len := 1) rfl
theorem u_81_105 (P : PL) (st : List PV) (G : PW) : pm_dn pm_sC 81 105 P st G = pm_go pm_sC 81 G (pm_oCv pm_sC 13 1 4 0 108 P st G) := pm_dn_eq (i := .invokevirtual 153) (len := 3) rfl
theorem u_81_108 (P : PL) (st : List PV) (G : PW) : pm_dn pm_sC 81 108 P st G = pm_go pm_sC 81 G (pm_oCv pm_sC 53 2 6 3 111 P st G) := pm_dn_eq (i := .invokevirtual 205) (len := 3) rfl
theorem u_81_111 (P : PL) (st : List PV) (G : PW) : pm_dn pm_sC 81 111 P st G = pm_go pm_sC 81 G (pm_oRi 0 P st G) := pm_dn_eq (i := .ireturn) (len := 1) rfl
theorem ue_82 (a0 : Nat) (a1 : Int64) (G : PW) : pm_ca pm_sC 82 [.inr (.inr a0), .inr (.inl a1)] G = pm_dn pm_sC 82 0 [some (.inr (.inr a0)), some (.inr (.inl a1)), none, none] [] G := rfl
theorem u_82_0 (P : PL) (st : List PV) (G : PW) : pm_dn pm_sC 82 0 P st G = pm_go pm_sC 82 G (pm_oLL 1 1 P st G) := pm_dn_eq (i := .lload_n 1) (len := 1) rfl
theorem u_82_1 (P : PL) (st : List PV) (G : PW) : pm_dn pm_sC 82 1 P st G = pm_go pm_sC 82 G (pm_oCs 34 1 7 4 P st G) := pm_dn_eq (i := .invokestatic 208) (len := 3) rfl
theorem u_82_4 (P : PL) (st : List PV) (G : PW) : pm_dn pm_sC 82 4 P st G = pm_go pm_sC 82 G (pm_oIS 3 5 P st G) := pm_dn_eq (i := .istore_n 3) (len := 1) rfl
theorem u_82_5 (P : PL) (st : List PV) (G : PW) : pm_dn pm_sC 82 5 P st G = pm_go pm_sC 82 G (pm_oIL 3 6 P st G) := pm_dn_eq (i := .iload_n 3) (len := 1) rfl
theorem u_82_6 (P : PL) (st : List PV) (G : PW) : pm_dn pm_sC 82 6 P st G = pm_go pm_sC 82 G (pm_oIf .ne (some 12) 9 P st G) := pm_dn_eq (i := .ifCond .ne 6) (len := 3) rfl
theorem u_82_9 (P : PL) (st : List PV) (G : PW) : pm_dn pm_sC 82 9 P st G = pm_go pm_sC 82 G (pm_oK (-2) 11 P st G) := pm_dn_eq (i := .bipush (-2)) (len := 2) rfl
theorem u_82_11 (P : PL) (st : List PV) (G : PW) : pm_dn pm_sC 82 11 P st G = pm_go pm_sC 82 G (pm_oRi 0 P st G) := pm_dn_eq (i := .ireturn) (len := 1) rfl
theorem u_82_12 (P : PL) (st : List PV) (G : PW) : pm_dn pm_sC 82 12 P st G = pm_go pm_sC 82 G (pm_oAL 0 13 P st G) := pm_dn_eq (i := .aload_n 0) (len := 1) rfl
theorem u_82_13 (P : PL) (st : List PV) (G : PW) : pm_dn pm_sC 82 13 P st G = pm_go pm_sC 82 G (pm_oGf pm_sC 5 5 16 P st G) := pm_dn_eq (i := .getfield 36) (len := 3) rfl
theorem u_82_16 (P : PL) (st : List PV) (G : PW) : pm_dn pm_sC 82 16 P st G = pm_go pm_sC 82 G (pm_oGf pm_sC 2 1 19 P st G) := pm_dn_eq (i := .getfield 191) (len := 3) rfl
theorem u_82_19 (P : PL) (st : List PV) (G : PW) : pm_dn pm_sC 82 19 P st G = pm_go pm_sC 82 G (pm_oIL 3 20 P st G) := pm_dn_eq (i := .iload_n 3) (len := 1) rfl
theorem u_82_20 (P : PL) (st : List PV) (G : PW) : pm_dn pm_sC 82 20 P st G = pm_go pm_sC 82 G (pm_oAdd 21 P st G) := pm_dn_eq (i := .iadd) (len := 1) rfl
theorem u_82_21 (P : PL) (st : List PV) (G : PW) : pm_dn pm_sC 82 21 P st G = pm_go pm_sC 82 G (pm_oK 60 23 P st G) := pm_dn_eq (i := .bipush 60) (len := 2) rfl
theorem u_82_23 (P : PL) (st : List PV) (G : PW) : pm_dn pm_sC 82 23 P st G = pm_go pm_sC 82 G (pm_oIc .le (some 29) 26 P st G) := pm_dn_eq (i := .if_icmp .le 6) (len := 3) rfl
theorem u_82_26 (P : PL) (st : List PV) (G : PW) : pm_dn pm_sC 82 26 P st G = pm_go pm_sC 82 G (pm_oK (-4) 28 P st G) := pm_dn_eq (i := .bipush (-4)) (len := 2) rfl
theorem u_82_28 (P : PL) (st : List PV) (G : PW) : pm_dn pm_sC 82 28 P st G = pm_go pm_sC 82 G (pm_oRi 0 P st G) := pm_dn_eq (i := .ireturn) (len := 1) rfl
theorem u_82_29 (P : PL) (st : List PV) (G : PW) : pm_dn pm_sC 82 29 P st G = pm_go pm_sC 82 G (pm_oAL 0 30 P st G) := pm_dn_eq (i := .aload_n 0) (len := 1) rfl
theorem u_82_30 (P : PL) (st : List PV) (G : PW) : pm_dn pm_sC 82 30 P st G = pm_go pm_sC 82 G (pm_oGf pm_sC 5 5 33 P st G) := pm_dn_eq (i := .getfield 36) (len := 3) rfl
theorem u_82_33 (P : PL) (st : List PV) (G : PW) : pm_dn pm_sC 82 33 P st G = pm_go pm_sC 82 G (pm_oLL 1 34 P st G) := pm_dn_eq (i := .lload_n 1) (len := 1) rfl
theorem u_82_34 (P : PL) (st : List PV) (G : PW) : pm_dn pm_sC 82 34 P st G = pm_go pm_sC 82 G (pm_oIL 3 35 P st G) := pm_dn_eq (i := .iload_n 3) (len := 1) rfl
theorem u_82_35 (P : PL) (st : List PV) (G : PW) : pm_dn pm_sC 82 35 P st G = pm_go pm_sC 82 G (pm_oCv pm_sC 35 2 5 2 38 P st G) := pm_dn_eq (i := .invokevirtual 212) (len := 3) rfl
theorem u_82_38 (P : PL) (st : List PV) (G : PW) : pm_dn pm_sC 82 38 P st G = pm_go pm_sC 82 G (pm_oAL 0 39 P st G) := pm_dn_eq (i := .aload_n 0) (len := 1) rfl
theorem u_82_39 (P : PL) (st : List PV) (G : PW) : pm_dn pm_sC 82 39 P st G = pm_go pm_sC 82 G (pm_oGf pm_sC 5 5 42 P st G) := pm_dn_eq (i := .getfield 36) (len := 3) rfl
theorem u_82_42 (P : PL) (st : List PV) (G : PW) : pm_dn pm_sC 82 42 P st G = pm_go pm_sC 82 G (pm_oGf pm_sC 2 1 45 P st G) := pm_dn_eq (i := .getfield 191) (len := 3) rfl
theorem u_82_45 (P : PL) (st : List PV) (G : PW) : pm_dn pm_sC 82 45 P st G = pm_go pm_sC 82 G (pm_oRi 0 P st G) := pm_dn_eq (i := .ireturn) (len := 1) rfl
theorem ue_83 (a0 : Nat) (G : PW) : pm_ca pm_sC 83 [.inr (.inr a0)] G = pm_dn pm_sC 83 0 [some (.inr (.inr a0)), none] [] G := rfl
theorem u_83_0 (P : PL) (st : List PV) (G : PW) : pm_dn pm_sC 83 0 P st G = pm_go pm_sC 83 G (pm_oAL 0 1 P st G) := pm_dn_eq (i := .aload_n 0) (len := 1) rfl
theorem u_83_1 (P : PL) (st : List PV) (G : PW) : pm_dn pm_sC 83 1 P st G = pm_go pm_sC 83 G (pm_oGf pm_sC 5 5 4 P st G) := pm_dn_eq (i := .getfield 36) (len := 3) rfl
theorem u_83_4 (P : PL) (st : List PV) (G : PW) : pm_dn pm_sC 83 4 P st G = pm_go pm_sC 83 G (pm_oGf pm_sC 2 1 7 P st G) := pm_dn_eq (i := .getfield 191) (len := 3) rfl
theorem u_83_7 (P : PL) (st : List PV) (G : PW) : pm_dn pm_sC 83 7 P st G = pm_go pm_sC 83 G (pm_oIS 1 8 P st G) := pm_dn_eq (i := .istore_n 1) (len := 1) rfl
theorem u_83_8 (P : PL) (st : List PV) (G : PW) : pm_dn pm_sC 83 8 P st G = pm_go pm_sC 83 G (pm_oAL 0 9 P st G) := pm_dn_eq (i := .aload_n 0) (len := 1) rfl
theorem u_83_9 (P : PL) (st : List PV) (G : PW) : pm_dn pm_sC 83 9 P st G = pm_go pm_sC 83 G (pm_oGf pm_sC 5 5 12 P st G) := pm_dn_eq (i := .getfield 36) (len := 3) rfl
theorem u_83_12 (P : PL) (st : List PV) (G : PW) : pm_dn pm_sC 83 12 P st G = pm_go pm_sC 83 G (pm_oCv pm_sC 36 0 1 2 15 P st G) := pm_dn_eq (i := .invokevirtual 216) (len := 3) rfl
theorem u_83_15 (P : PL) (st : List PV) (G : PW) : pm_dn pm_sC 83 15 P st G = pm_go pm_sC 83 G (pm_oIL 1 16 P st G) := pm_dn_eq (i := .iload_n 1) (len := 1) rfl
theorem u_83_16 (P : PL) (st : List PV) (G : PW) : pm_dn pm_sC 83 16 P st G = pm_go pm_sC 83 G (pm_oRi 0 P st G) := pm_dn_eq (i := .ireturn) (len := 1) rfl
theorem ue_84 (a0 : Nat) (G : PW) : pm_ca pm_sC 84 [.inr (.inr a0)] G = pm_dn pm_sC 84 0 [some (.inr (.inr a0))] [] G := rfl
theorem u_84_0 (P : PL) (st : List PV) (G : PW) : pm_dn pm_sC 84 0 P st G = pm_go pm_sC 84 G (pm_oAL 0 1 P st G) := pm_dn_eq (i := .aload_n 0) (len := 1) rfl
theorem u_84_1 (P : PL) (st : List PV) (G : PW) : pm_dn pm_sC 84 1 P st G = pm_go pm_sC 84 G (pm_oGf pm_sC 5 5 4 P st G) := pm_dn_eq (i := .getfield 36) (len := 3) rfl
theorem u_84_4 (P : PL) (st : List PV) (G : PW) : pm_dn pm_sC 84 4 P st G = pm_go pm_sC 84 G (pm_oCv pm_sC 38 0 2 2 7 P st G) := pm_dn_eq (i := .invokevirtual 217) (len := 3) rfl
theorem u_84_7 (P : PL) (st : List PV) (G : PW) : pm_dn pm_sC 84 7 P st G = pm_go pm_sC 84 G (pm_oRi 0 P st G) := pm_dn_eq (i := .ireturn) (len := 1) rfl
theorem ue_85 (a0 : Nat) (G : PW) : pm_ca pm_sC 85 [.inr (.inr a0)] G = pm_dn pm_sC 85 0 [some (.inr (.inr a0)), none, none, none, none] [] G := rfl
theorem u_85_0 (P : PL) (st : List PV) (G : PW) : pm_dn pm_sC 85 0 P st G = pm_go pm_sC 85 G (pm_oAL 0 1 P st G) := pm_dn_eq (i := .aload_n 0) (len := 1) rfl
theorem u_85_1 (P : PL) (st : List PV) (G : PW) : pm_dn pm_sC 85 1 P st G = pm_go pm_sC 85 G (pm_oGf pm_sC 5 5 4 P st G) := pm_dn_eq (i := .getfield 36) (len := 3) rfl
theorem u_85_4 (P : PL) (st : List PV) (G : PW) : pm_dn pm_sC 85 4 P st G = pm_go pm_sC 85 G (pm_oCv pm_sC 38 0 2 2 7 P st G) := pm_dn_eq (i := .invokevirtual 217) (len := 3) rfl
theorem u_85_7 (P : PL) (st : List PV) (G : PW) : pm_dn pm_sC 85 7 P st G = pm_go pm_sC 85 G (pm_oK (-6) 9 P st G) := pm_dn_eq (i := .bipush (-6)) (len := 2) rfl
theorem u_85_9 (P : PL) (st : List PV) (G : PW) : pm_dn pm_sC 85 9 P st G = pm_go pm_sC 85 G (pm_oIc .eq (some 15) 12 P st G) := pm_dn_eq (i := .if_icmp .eq 6) (len := 3) rfl
theorem u_85_12 (P : PL) (st : List PV) (G : PW) : pm_dn pm_sC 85 12 P st G = pm_go pm_sC 85 G (pm_oK (-3) 14 P st G) := pm_dn_eq (i := .bipush (-3)) (len := 2) rfl
theorem u_85_14 (P : PL) (st : List PV) (G : PW) : pm_dn pm_sC 85 14 P st G = pm_go pm_sC 85 G (pm_oRi 0 P st G) := pm_dn_eq (i := .ireturn) (len := 1) rfl
theorem u_85_15 (P : PL) (st : List PV) (G : PW) : pm_dn pm_sC 85 15 P st G = pm_go pm_sC 85 G (pm_oK 0 16 P st G) := pm_dn_eq (i := .iconst 0) (len := 1) rfl
theorem u_85_16 (P : PL) (st : List PV) (G : PW) : pm_dn pm_sC 85 16 P st G = pm_go pm_sC 85 G (pm_oIS 1 17 P st G) := pm_dn_eq (i := .istore_n 1) (len := 1) rfl
theorem u_85_17 (P : PL) (st : List PV) (G : PW) : pm_dn pm_sC 85 17 P st G = pm_go pm_sC 85 G (pm_oK 0 18 P st G) := pm_dn_eq (i := .iconst 0) (len := 1) rfl
theorem u_85_18 (P : PL) (st : List PV) (G : PW) : pm_dn pm_sC 85 18 P st G = pm_go pm_sC 85 G (pm_oIS 2 19 P st G) := pm_dn_eq (i := .istore_n 2) (len := 1) rfl
theorem u_85_19 (P : PL) (st : List PV) (G : PW) : pm_dn pm_sC 85 19 P st G = pm_go pm_sC 85 G (pm_oK 0 20 P st G) := pm_dn_eq (i := .iconst 0) (len := 1) rfl
theorem u_85_20 (P : PL) (st : List PV) (G : PW) : pm_dn pm_sC 85 20 P st G = pm_go pm_sC 85 G (pm_oIS 3 21 P st G) := pm_dn_eq (i := .istore_n 3) (len := 1) rfl
theorem u_85_21 (P : PL) (st : List PV) (G : PW) : pm_dn pm_sC 85 21 P st G = pm_go pm_sC 85 G (pm_oIL 3 22 P st G) := pm_dn_eq (i := .iload_n 3) (len := 1) rfl
theorem u_85_22 (P : PL) (st : List PV) (G : PW) : pm_dn pm_sC 85 22 P st G = pm_go pm_sC 85 G (pm_oAL 0 23 P st G) := pm_dn_eq (i := .aload_n 0) (len := 1) rfl
theorem u_85_23 (P : PL) (st : List PV) (G : PW) : pm_dn pm_sC 85 23 P st G = pm_go pm_sC 85 G (pm_oGf pm_sC 5 5 26 P st G) := pm_dn_eq (i := .getfield 36) (len := 3) rfl
theorem u_85_26 (P : PL) (st : List PV) (G : PW) : pm_dn pm_sC 85 26 P st G = pm_go pm_sC 85 G (pm_oGf pm_sC 2 1 29 P st G) := pm_dn_eq (i := .getfield 191) (len := 3) rfl
theorem u_85_29 (P : PL) (st : List PV) (G : PW) : pm_dn pm_sC 85 29 P st G = pm_go pm_sC 85 G (pm_oIc .ge (some 110) 32 P st G) := pm_dn_eq (i := .if_icmp .ge 81) (len := 3) rfl
theorem u_85_32 (P : PL) (st : List PV) (G : PW) : pm_dn pm_sC 85 32 P st G = pm_go pm_sC 85 G (pm_oIL 2 33 P st G) := pm_dn_eq (i := .iload_n 2) (len := 1) rfl
theorem u_85_33 (P : PL) (st : List PV) (G : PW) : pm_dn pm_sC 85 33 P st G = pm_go pm_sC 85 G (pm_oIf .lt (some 110) 36 P st G) := pm_dn_eq (i := .ifCond .lt 77) (len := 3) rfl
theorem u_85_36 (P : PL) (st : List PV) (G : PW) : pm_dn pm_sC 85 36 P st G = pm_go pm_sC 85 G (pm_oAL 0 37 P st G) := pm_dn_eq (i := .aload_n 0) (len := 1) rfl
theorem u_85_37 (P : PL) (st : List PV) (G : PW) : pm_dn pm_sC 85 37 P st G = pm_go pm_sC 85 G (pm_oGf pm_sC 5 5 40 P st G) := pm_dn_eq (i := .getfield 36) (len := 3) rfl
theorem u_85_40 (P : PL) (st : List PV) (G : PW) : pm_dn pm_sC 85 40 P st G = pm_go pm_sC 85 G (pm_oIL 3 41 P st G) := pm_dn_eq (i := .iload_n 3) (len := 1) rfl
theorem u_85_41 (P : PL) (st : List PV) (G : PW) : pm_dn pm_sC 85 41 P st G = pm_go pm_sC 85 G (pm_oCv pm_sC 44 1 2 2 44 P st G) := pm_dn_eq (i := .invokevirtual 220) (len := 3) rfl
theorem u_85_44 (P : PL) (st : List PV) (G : PW) : pm_dn pm_sC 85 44 P st G = pm_go pm_sC 85 G (pm_oIf .eq (some 104) 47 P st G) := pm_dn_eq (i := .ifCond .eq 60) (len := 3) rfl
theorem u_85_47 (P : PL) (st : List PV) (G : PW) : pm_dn pm_sC 85 47 P st G = pm_go pm_sC 85 G (pm_oAL 0 48 P st G) := pm_dn_eq (i := .aload_n 0) (len := 1) rfl
theorem u_85_48 (P : PL) (st : List PV) (G : PW) : pm_dn pm_sC 85 48 P st G = pm_go pm_sC 85 G (pm_oGf pm_sC 5 5 51 P st G) := pm_dn_eq (i := .getfield 36) (len := 3) rfl
theorem u_85_51 (P : PL) (st : List PV) (G : PW) : pm_dn pm_sC 85 51 P st G = pm_go pm_sC 85 G (pm_oIL 3 52 P st G) := pm_dn_eq (i := .iload_n 3) (len := 1) rfl
theorem u_85_52 (P : PL) (st : List PV) (G : PW) : pm_dn pm_sC 85 52 P st G = pm_go pm_sC 85 G (pm_oCv pm_sC 46 1 4 2 55 P st G) := pm_dn_eq (i := .invokevirtual 223) (len := 3) rfl
theorem u_85_55 (P : PL) (st : List PV) (G : PW) : pm_dn pm_sC 85 55 P st G = pm_go pm_sC 85 G (pm_oIS 4 57 P st G) := pm_dn_eq (i := .istore 4) (len := 2) rfl
theorem u_85_57 (P : PL) (st : List PV) (G : PW) : pm_dn pm_sC 85 57 P st G = pm_go pm_sC 85 G (pm_oAL 0 58 P st G) := pm_dn_eq (i := .aload_n 0) (len := 1) rfl
theorem u_85_58 (P : PL) (st : List PV) (G : PW) : pm_dn pm_sC 85 58 P st G = pm_go pm_sC 85 G (pm_oGf pm_sC 5 5 61 P st G) := pm_dn_eq (i := .getfield 36) (len := 3) rfl
theorem u_85_61 (P : PL) (st : List PV) (G : PW) : pm_dn pm_sC 85 61 P st G = pm_go pm_sC 85 G (pm_oIL 3 62 P st G) := pm_dn_eq (i := .iload_n 3) (len := 1) rfl
theorem u_85_62 (P : PL) (st : List PV) (G : PW) : pm_dn pm_sC 85 62 P st G = pm_go pm_sC 85 G (pm_oCv pm_sC 45 1 2 2 65 P st G) := pm_dn_eq (i := .invokevirtual 226) (len := 3) rfl
theorem u_85_65 (P : PL) (st : List PV) (G : PW) : pm_dn pm_sC 85 65 P st G = pm_go pm_sC 85 G (pm_oIf .eq (some 77) 68 P st G) := pm_dn_eq (i := .ifCond .eq 12) (len := 3) rfl
theorem u_85_68 (P : PL) (st : List PV) (G : PW) : pm_dn pm_sC 85 68 P st G = pm_go pm_sC 85 G (pm_oAL 0 69 P st G) := pm_dn_eq (i := .aload_n 0) (len := 1) rfl
theorem u_85_69 (P : PL) (st : List PV) (G : PW) : pm_dn pm_sC 85 69 P st G = pm_go pm_sC 85 G (pm_oIL 4 71 P st G) := pm_dn_eq (i := .iload 4) (len := 2) rfl
theorem u_85_71 (P : PL) (st : List PV) (G : PW) : pm_dn pm_sC 85 71 P st G = pm_go pm_sC 85 G (pm_oCv pm_sC 73 1 3 5 74 P st G) := pm_dn_eq (i := .invokevirtual 229) (len := 3) rfl
theorem u_85_74 (P : PL) (st : List PV) (G : PW) : pm_dn pm_sC 85 74 P st G = pm_go pm_sC 85 G (pm_oGo (some 91) P st G) := pm_dn_eq (i := .goto 17) (len := 3) rfl
theorem u_85_77 (P : PL) (st : List PV) (G : PW) : pm_dn pm_sC 85 77 P st G = pm_go pm_sC 85 G (pm_oAL 0 78 P st G) := pm_dn_eq (i := .aload_n 0) (len := 1) rfl
theorem u_85_78 (P : PL) (st : List PV) (G : PW) : pm_dn pm_sC 85 78 P st G = pm_go pm_sC 85 G (pm_oIL 4 80 P st G) := pm_dn_eq (i := .iload 4) (len := 2) rfl
theorem u_85_80 (P : PL) (st : List PV) (G : PW) : pm_dn pm_sC 85 80 P st G = pm_go pm_sC 85 G (pm_oAL 0 81 P st G) := pm_dn_eq (i := .aload_n 0) (len := 1) rfl
theorem u_85_81 (P : PL) (st : List PV) (G : PW) : pm_dn pm_sC 85 81 P st G = pm_go pm_sC 85 G (pm_oGf pm_sC 5 5 84 P st G) := pm_dn_eq (i := .getfield 36) (len := 3) rfl
theorem u_85_84 (P : PL) (st : List PV) (G : PW) : pm_dn pm_sC 85 84 P st G = pm_go pm_sC 85 G (pm_oIL 3 85 P st G) := pm_dn_eq (i := .iload_n 3) (len := 1) rfl
theorem u_85_85 (P : PL) (st : List PV) (G : PW) : pm_dn pm_sC 85 85 P st G = pm_go pm_sC 85 G (pm_oCv pm_sC 47 1 3 2 88 P st G) := pm_dn_eq (i := .invokevirtual 232) (len := 3) rfl
theorem u_85_88 (P : PL) (st : List PV) (G : PW) : pm_dn pm_sC 85 88 P st G = pm_go pm_sC 85 G (pm_oCv pm_sC 72 2 5 5 91 P st G) := pm_dn_eq (i := .invokevirtual 235) (len := 3) rfl
theorem u_85_91 (P : PL) (st : List PV) (G : PW) : pm_dn pm_sC 85 91 P st G = pm_go pm_sC 85 G (pm_oIS 2 92 P st G) := pm_dn_eq (i := .istore_n 2) (len := 1) rfl
theorem u_85_92 (P : PL) (st : List PV) (G : PW) : pm_dn pm_sC 85 92 P st G = pm_go pm_sC 85 G (pm_oIL 1 93 P st G) := pm_dn_eq (i := .iload_n 1) (len := 1) rfl
theorem u_85_93 (P : PL) (st : List PV) (G : PW) : pm_dn pm_sC 85 93 P st G = pm_go pm_sC 85 G (pm_oIL 2 94 P st G) := pm_dn_eq (i := .iload_n 2) (len := 1) rfl
theorem u_85_94 (P : PL) (st : List PV) (G : PW) : pm_dn pm_sC 85 94 P st G = pm_go pm_sC 85 G (pm_oIf .lt (some 101) 97 P st G) := pm_dn_eq (i := .ifCond .lt 7) (len := 3) rfl
theorem u_85_97 (P : PL) (st : List PV) (G : PW) : pm_dn pm_sC 85 97 P st G = pm_go pm_sC 85 G (pm_oK 1 98 P st G) := pm_dn_eq (i := .iconst 1) (len := 1) rfl
theorem u_85_98 (P : PL) (st : List PV) (G : PW) : pm_dn pm_sC 85 98 P st G = pm_go pm_sC 85 G (pm_oGo (some 102) P st G) := pm_dn_eq (i := .goto 4) (len := 3) rfl
theorem u_85_101 (P : PL) (st : List PV) (G : PW) : pm_dn pm_sC 85 101 P st G = pm_go pm_sC 85 G (pm_oK 0 102 P st G) := pm_dn_eq (i := .iconst 0) (len := 1) rfl
theorem u_85_102 (P : PL) (st : List PV) (G : PW) : pm_dn pm_sC 85 102 P st G = pm_go pm_sC 85 G (pm_oAdd 103 P st G) := pm_dn_eq (i := .iadd) (len := 1) rfl
theorem u_85_103 (P : PL) (st : List PV) (G : PW) : pm_dn pm_sC 85 103 P st G = pm_go pm_sC 85 G (pm_oIS 1 104 P st G) := pm_dn_eq (i := .istore_n 1) (len := 1) rfl
theorem u_85_104 (P : PL) (st : List PV) (G : PW) : pm_dn pm_sC 85 104 P st G = pm_go pm_sC 85 G (pm_oInc 3 1 107 P st G) := pm_dn_eq (i := .iinc 3 1) (len := 3) rfl
theorem u_85_107 (P : PL) (st : List PV) (G : PW) : pm_dn pm_sC 85 107 P st G = pm_go pm_sC 85 G (pm_oGo (some 21) P st G) := pm_dn_eq (i := .goto (-86)) (len := 3) rfl
theorem u_85_110 (P : PL) (st : List PV) (G : PW) : pm_dn pm_sC 85 110 P st G = pm_go pm_sC 85 G (pm_oAL 0 111 P st G) := pm_dn_eq (i := .aload_n 0) (len := 1) rfl
theorem u_85_111 (P : PL) (st : List PV) (G : PW) : pm_dn pm_sC 85 111 P st G = pm_go pm_sC 85 G (pm_oGf pm_sC 5 5 114 P st G) := pm_dn_eq (i := .getfield 36) (len := 3) rfl
theorem u_85_114 (P : PL) (st : List PV) (G : PW) : pm_dn pm_sC 85 114 P st G = pm_go pm_sC 85 G (pm_oCv pm_sC 36 0 1 2 117 P st G) := pm_dn_eq (i := .invokevirtual 216) (len := 3) rfl
theorem u_85_117 (P : PL) (st : List PV) (G : PW) : pm_dn pm_sC 85 117 P st G = pm_go pm_sC 85 G (pm_oIL 1 118 P st G) := pm_dn_eq (i := .iload_n 1) (len := 1) rfl
theorem u_85_118 (P : PL) (st : List PV) (G : PW) : pm_dn pm_sC 85 118 P st G = pm_go pm_sC 85 G (pm_oRi 0 P st G) := pm_dn_eq (i := .ireturn) (len := 1) rfl
theorem ue_86 (a0 : Nat) (G : PW) : pm_ca pm_sC 86 [.inr (.inr a0)] G = pm_dn pm_sC 86 0 [some (.inr (.inr a0))] [] G := rfl
theorem u_86_0 (P : PL) (st : List PV) (G : PW) : pm_dn pm_sC 86 0 P st G = pm_go pm_sC 86 G (pm_oAL 0 1 P st G) := pm_dn_eq (i := .aload_n 0) (len := 1) rfl
theorem u_86_1 (P : PL) (st : List PV) (G : PW) : pm_dn pm_sC 86 1 P st G = pm_go pm_sC 86 G (pm_oGf pm_sC 5 4 4 P st G) := pm_dn_eq (i := .getfield 29) (len := 3) rfl
theorem u_86_4 (P : PL) (st : List PV) (G : PW) : pm_dn pm_sC 86 4 P st G = pm_go pm_sC 86 G (pm_oGf pm_sC 1 1 7 P st G) := pm_dn_eq (i := .getfield 194) (len := 3) rfl
theorem u_86_7 (P : PL) (st : List PV) (G : PW) : pm_dn pm_sC 86 7 P st G = pm_go pm_sC 86 G (pm_oIf .ne (some 13) 10 P st G) := pm_dn_eq (i := .ifCond .ne 6) (len := 3) rfl
theorem u_86_10 (P : PL) (st : List PV) (G : PW) : pm_dn pm_sC 86 10 P st G = pm_go pm_sC 86 G (pm_oK (-5) 12 P st G) := pm_dn_eq (i := .bipush (-5)) (len := 2) rfl
theorem u_86_12 (P : PL) (st : List PV) (G : PW) : pm_dn pm_sC 86 12 P st G = pm_go pm_sC 86 G (pm_oRi 0 P st G) := pm_dn_eq (i := .ireturn) (len := 1) rfl
theorem u_86_13 (P : PL) (st : List PV) (G : PW) : pm_dn pm_sC 86 13 P st G = pm_go pm_sC 86 G (pm_oAL 0 14 P st G) := pm_dn_eq (i := .aload_n 0) (len := 1) rfl
theorem u_86_14 (P : PL) (st : List PV) (G : PW) : pm_dn pm_sC 86 14 P st G = pm_go pm_sC 86 G (pm_oGf pm_sC 5 4 17 P st G) := pm_dn_eq (i := .getfield 29) (len := 3) rfl
theorem u_86_17 (P : PL) (st : List PV) (G : PW) : pm_dn pm_sC 86 17 P st G = pm_go pm_sC 86 G (pm_oCv pm_sC 30 0 1 1 20 P st G) := pm_dn_eq (i := .invokevirtual 238) (len := 3) rfl
theorem u_86_20 (P : PL) (st : List PV) (G : PW) : pm_dn pm_sC 86 20 P st G = pm_go pm_sC 86 G (pm_oAL 0 21 P st G) := pm_dn_eq (i := .aload_n 0) (len := 1) rfl
theorem u_86_21 (P : PL) (st : List PV) (G : PW) : pm_dn pm_sC 86 21 P st G = pm_go pm_sC 86 G (pm_oCv pm_sC 92 0 2 5 24 P st G) := pm_dn_eq (i := .invokevirtual 241) (len := 3) rfl
theorem u_86_24 (P : PL) (st : List PV) (G : PW) : pm_dn pm_sC 86 24 P st G = pm_go pm_sC 86 G (pm_oAL 0 25 P st G) := pm_dn_eq (i := .aload_n 0) (len := 1) rfl
theorem u_86_25 (P : PL) (st : List PV) (G : PW) : pm_dn pm_sC 86 25 P st G = pm_go pm_sC 86 G (pm_oGf pm_sC 5 4 28 P st G) := pm_dn_eq (i := .getfield 29) (len := 3) rfl
theorem u_86_28 (P : PL) (st : List PV) (G : PW) : pm_dn pm_sC 86 28 P st G = pm_go pm_sC 86 G (pm_oGf pm_sC 1 1 31 P st G) := pm_dn_eq (i := .getfield 194) (len := 3) rfl
theorem u_86_31 (P : PL) (st : List PV) (G : PW) : pm_dn pm_sC 86 31 P st G = pm_go pm_sC 86 G (pm_oRi 0 P st G) := pm_dn_eq (i := .ireturn) (len := 1) rfl
theorem ue_87 (a0 : Nat) (a1 : Int) (G : PW) : pm_ca pm_sC 87 [.inr (.inr a0), .inl a1] G = pm_dn pm_sC 87 0 [some (.inr (.inr a0)), some (.inl a1), none] [] G := rfl
theorem u_87_0 (P : PL) (st : List PV) (G : PW) : pm_dn pm_sC 87 0 P st G = pm_go pm_sC 87 G (pm_oIL 1 1 P st G) := pm_dn_eq (i := .iload_n 1) (len := 1) rfl
theorem u_87_1 (P : PL) (st : List PV) (G : PW) : pm_dn pm_sC 87 1 P st G = pm_go pm_sC 87 G (pm_oIf .lt (some 9) 4 P st G) := pm_dn_eq (i := .ifCond .lt 8) (len := 3) rfl
theorem u_87_4 (P : PL) (st : List PV) (G : PW) : pm_dn pm_sC 87 4 P st G = pm_go pm_sC 87 G (pm_oIL 1 5 P st G) := pm_dn_eq (i := .iload_n 1) (len := 1) rfl
theorem u_87_5 (P : PL) (st : List PV) (G : PW) : pm_dn pm_sC 87 5 P st G = pm_go pm_sC 87 G (pm_oK 1 6 P st G) := pm_dn_eq (i := .iconst 1) (len := 1) rfl
theorem u_87_6 (P : PL) (st : List PV) (G : PW) : pm_dn pm_sC 87 6 P st G = pm_go pm_sC 87 G (pm_oIc .le (some 12) 9 P st G) := pm_dn_eq (i := .if_icmp .le 6) (len := 3) rfl
theorem u_87_9 (P : PL) (st : List PV) (G : PW) : pm_dn pm_sC 87 9 P st G = pm_go pm_sC 87 G (pm_oK (-2) 11 P st G) := pm_dn_eq (i := .bipush (-2)) (len := 2) rfl
theorem u_87_11 (P : PL) (st : List PV) (G : PW) : pm_dn pm_sC 87 11 P st G = pm_go pm_sC 87 G (pm_oRi 0 P st G) := pm_dn_eq (i := .ireturn) (len := 1) rfl
theorem u_87_12 (P : PL) (st : List PV) (G : PW) : pm_dn pm_sC 87 12 P st G = pm_go pm_sC 87 G (pm_oIL 1 13 P st G) := pm_dn_eq (i := .iload_n 1) (len := 1) rfl
theorem u_87_13 (P : PL) (st : List PV) (G : PW) : pm_dn pm_sC 87 13 P st G = pm_go pm_sC 87 G (pm_oIf .ne (some 23) 16 P st G) := pm_dn_eq (i := .ifCond .ne 10) (len := 3) rfl
theorem u_87_16 (P : PL) (st : List PV) (G : PW) : pm_dn pm_sC 87 16 P st G = pm_go pm_sC 87 G (pm_oAL 0 17 P st G) := pm_dn_eq (i := .aload_n 0) (len := 1) rfl
theorem u_87_17 (P : PL) (st : List PV) (G : PW) : pm_dn pm_sC 87 17 P st G = pm_go pm_sC 87 G (pm_oGf pm_sC 5 6 20 P st G) := pm_dn_eq (i := .getfield 43) (len := 3) rfl
theorem u_87_20 (P : PL) (st : List PV) (G : PW) : pm_dn pm_sC 87 20 P st G = pm_go pm_sC 87 G (pm_oGo (some 27) P st G) := pm_dn_eq (i := .goto 7) (len := 3) rfl
theorem u_87_23 (P : PL) (st : List PV) (G : PW) : pm_dn pm_sC 87 23 P st G = pm_go pm_sC 87 G (pm_oAL 0 24 P st G) := pm_dn_eq (i := .aload_n 0) (len := 1) rfl
theorem u_87_24 (P : PL) (st : List PV) (G : PW) : pm_dn pm_sC 87 24 P st G = pm_go pm_sC 87 G (pm_oGf pm_sC 5 7 27 P st G) := pm_dn_eq (i := .getfield 47) (len := 3) rfl
theorem u_87_27 (P : PL) (st : List PV) (G : PW) : pm_dn pm_sC 87 27 P st G = pm_go pm_sC 87 G (pm_oAS 2 28 P st G) := pm_dn_eq (i := .astore_n 2) (len := 1) rfl
theorem u_87_28 (P : PL) (st : List PV) (G : PW) : pm_dn pm_sC 87 28 P st G = pm_go pm_sC 87 G (pm_oAL 2 29 P st G) := pm_dn_eq (i := .aload_n 2) (len := 1) rfl
theorem u_87_29 (P : PL) (st : List PV) (G : PW) : pm_dn pm_sC 87 29 P st G = pm_go pm_sC 87 G (pm_oK 1 30 P st G) := pm_dn_eq (i := .iconst 1) (len := 1) rfl
theorem u_87_30 (P : PL) (st : List PV) (G : PW) : pm_dn pm_sC 87 30 P st G = pm_go pm_sC 87 G (pm_oPf pm_sC 4 0 2 33 P st G) := pm_dn_eq (i := .putfield 244) (len := 3) rfl
theorem u_87_33 (P : PL) (st : List PV) (G : PW) : pm_dn pm_sC 87 33 P st G = pm_go pm_sC 87 G (pm_oAL 2 34 P st G) := pm_dn_eq (i := .aload_n 2) (len := 1) rfl
theorem u_87_34 (P : PL) (st : List PV) (G : PW) : pm_dn pm_sC 87 34 P st G = pm_go pm_sC 87 G (pm_oAL 0 35 P st G) := pm_dn_eq (i := .aload_n 0) (len := 1) rfl
theorem u_87_35 (P : PL) (st : List PV) (G : PW) : pm_dn pm_sC 87 35 P st G = pm_go pm_sC 87 G (pm_oGf pm_sC 5 2 38 P st G) := pm_dn_eq (i := .getfield 19) (len := 3) rfl
theorem u_87_38 (P : PL) (st : List PV) (G : PW) : pm_dn pm_sC 87 38 P st G = pm_go pm_sC 87 G (pm_oGf pm_sC 0 0 41 P st G) := pm_dn_eq (i := .getfield 60) (len := 3) rfl
theorem u_87_41 (P : PL) (st : List PV) (G : PW) : pm_dn pm_sC 87 41 P st G = pm_go pm_sC 87 G (pm_oGf pm_sC 3 0 44 P st G) := pm_dn_eq (i := .getfield 165) (len := 3) rfl
theorem u_87_44 (P : PL) (st : List PV) (G : PW) : pm_dn pm_sC 87 44 P st G = pm_go pm_sC 87 G (pm_oPf pm_sC 4 1 0 47 P st G) := pm_dn_eq (i := .putfield 248) (len := 3) rfl
theorem u_87_47 (P : PL) (st : List PV) (G : PW) : pm_dn pm_sC 87 47 P st G = pm_go pm_sC 87 G (pm_oAL 2 48 P st G) := pm_dn_eq (i := .aload_n 2) (len := 1) rfl
theorem u_87_48 (P : PL) (st : List PV) (G : PW) : pm_dn pm_sC 87 48 P st G = pm_go pm_sC 87 G (pm_oAL 0 49 P st G) := pm_dn_eq (i := .aload_n 0) (len := 1) rfl
theorem u_87_49 (P : PL) (st : List PV) (G : PW) : pm_dn pm_sC 87 49 P st G = pm_go pm_sC 87 G (pm_oGf pm_sC 5 2 52 P st G) := pm_dn_eq (i := .getfield 19) (len := 3) rfl
theorem u_87_52 (P : PL) (st : List PV) (G : PW) : pm_dn pm_sC 87 52 P st G = pm_go pm_sC 87 G (pm_oGf pm_sC 0 0 55 P st G) := pm_dn_eq (i := .getfield 60) (len := 3) rfl
theorem u_87_55 (P : PL) (st : List PV) (G : PW) : pm_dn pm_sC 87 55 P st G = pm_go pm_sC 87 G (pm_oGf pm_sC 3 1 58 P st G) := pm_dn_eq (i := .getfield 171) (len := 3) rfl
theorem u_87_58 (P : PL) (st : List PV) (G : PW) : pm_dn pm_sC 87 58 P st G = pm_go pm_sC 87 G (pm_oPf pm_sC 4 2 0 61 P st G) := pm_dn_eq (i := .putfield 249) (len := 3) rfl
theorem u_87_61 (P : PL) (st : List PV) (G : PW) : pm_dn pm_sC 87 61 P st G = pm_go pm_sC 87 G (pm_oAL 0 62 P st G) := pm_dn_eq (i := .aload_n 0) (len := 1) rfl
theorem u_87_62 (P : PL) (st : List PV) (G : PW) : pm_dn pm_sC 87 62 P st G = pm_go pm_sC 87 G (pm_oGf pm_sC 5 0 65 P st G) := pm_dn_eq (i := .getfield 9) (len := 3) rfl
theorem u_87_65 (P : PL) (st : List PV) (G : PW) : pm_dn pm_sC 87 65 P st G = pm_go pm_sC 87 G (pm_oAL 2 66 P st G) := pm_dn_eq (i := .aload_n 2) (len := 1) rfl
theorem u_87_66 (P : PL) (st : List PV) (G : PW) : pm_dn pm_sC 87 66 P st G = pm_go pm_sC 87 G (pm_oGf pm_sC 4 3 69 P st G) := pm_dn_eq (i := .getfield 250) (len := 3) rfl
theorem u_87_69 (P : PL) (st : List PV) (G : PW) : pm_dn pm_sC 87 69 P st G = pm_go pm_sC 87 G (pm_oCs 105 2 3 72 P st G) := pm_dn_eq (i := .invokestatic 251) (len := 3) rfl
theorem u_87_72 (P : PL) (st : List PV) (G : PW) : pm_dn pm_sC 87 72 P st G = pm_go pm_sC 87 G (pm_oAL 2 73 P st G) := pm_dn_eq (i := .aload_n 2) (len := 1) rfl
theorem u_87_73 (P : PL) (st : List PV) (G : PW) : pm_dn pm_sC 87 73 P st G = pm_go pm_sC 87 G (pm_oGf pm_sC 4 4 76 P st G) := pm_dn_eq (i := .getfield 255) (len := 3) rfl
theorem u_87_76 (P : PL) (st : List PV) (G : PW) : pm_dn pm_sC 87 76 P st G = pm_go pm_sC 87 G (pm_oAL 0 77 P st G) := pm_dn_eq (i := .aload_n 0) (len := 1) rfl
theorem u_87_77 (P : PL) (st : List PV) (G : PW) : pm_dn pm_sC 87 77 P st G = pm_go pm_sC 87 G (pm_oGf pm_sC 5 4 80 P st G) := pm_dn_eq (i := .getfield 29) (len := 3) rfl
theorem u_87_80 (P : PL) (st : List PV) (G : PW) : pm_dn pm_sC 87 80 P st G = pm_go pm_sC 87 G (pm_oCv pm_sC 33 1 2 1 83 P st G) := pm_dn_eq (i := .invokevirtual 256) (len := 3) rfl
theorem u_87_83 (P : PL) (st : List PV) (G : PW) : pm_dn pm_sC 87 83 P st G = pm_go pm_sC 87 G (pm_oAL 0 84 P st G) := pm_dn_eq (i := .aload_n 0) (len := 1) rfl
theorem u_87_84 (P : PL) (st : List PV) (G : PW) : pm_dn pm_sC 87 84 P st G = pm_go pm_sC 87 G (pm_oGf pm_sC 5 2 87 P st G) := pm_dn_eq (i := .getfield 19) (len := 3) rfl
theorem u_87_87 (P : PL) (st : List PV) (G : PW) : pm_dn pm_sC 87 87 P st G = pm_go pm_sC 87 G (pm_oK 3 88 P st G) := pm_dn_eq (i := .iconst 3) (len := 1) rfl
theorem u_87_88 (P : PL) (st : List PV) (G : PW) : pm_dn pm_sC 87 88 P st G = pm_go pm_sC 87 G (pm_oCv pm_sC 20 1 4 0 91 P st G) := pm_dn_eq (i := .invokevirtual 174) (len := 3) rfl
theorem u_87_91 (P : PL) (st : List PV) (G : PW) : pm_dn pm_sC 87 91 P st G = pm_go pm_sC 87 G (pm_oRi 0 P st G) := pm_dn_eq (i := .ireturn) (len := 1) rfl
theorem ue_88 (a0 : Nat) (a1 : Int) (G : PW) : pm_ca pm_sC 88 [.inr (.inr a0), .inl a1] G = pm_dn pm_sC 88 0 [some (.inr (.inr a0)), some (.inl a1), none] [] G := rfl
theorem u_88_0 (P : PL) (st : List PV) (G : PW) : pm_dn pm_sC 88 0 P st G = pm_go pm_sC 88 G (pm_oIL 1 1 P st G) := pm_dn_eq (i := .iload_n 1) (len := 1) rfl
theorem u_88_1 (P : PL) (st : List PV) (G : PW) : pm_dn pm_sC 88 1 P st G = pm_go pm_sC 88 G (pm_oIf .lt (some 9) 4 P st G) := pm_dn_eq (i := .ifCond .lt 8) (len := 3) rfl
theorem u_88_4 (P : PL) (st : List PV) (G : PW) : pm_dn pm_sC 88 4 P st G = pm_go pm_sC 88 G (pm_oIL 1 5 P st G) := pm_dn_eq (i := .iload_n 1) (len := 1) rfl
theorem u_88_5 (P : PL) (st : List PV) (G : PW) : pm_dn pm_sC 88 5 P st G = pm_go pm_sC 88 G (pm_oK 1 6 P st G) := pm_dn_eq (i := .iconst 1) (len := 1) rfl
theorem u_88_6 (P : PL) (st : List PV) (G : PW) : pm_dn pm_sC 88 6 P st G = pm_go pm_sC 88 G (pm_oIc .le (some 12) 9 P st G) := pm_dn_eq (i := .if_icmp .le 6) (len := 3) rfl
theorem u_88_9 (P : PL) (st : List PV) (G : PW) : pm_dn pm_sC 88 9 P st G = pm_go pm_sC 88 G (pm_oK (-2) 11 P st G) := pm_dn_eq (i := .bipush (-2)) (len := 2) rfl
theorem u_88_11 (P : PL) (st : List PV) (G : PW) : pm_dn pm_sC 88 11 P st G = pm_go pm_sC 88 G (pm_oRi 0 P st G) := pm_dn_eq (i := .ireturn) (len := 1) rfl
theorem u_88_12 (P : PL) (st : List PV) (G : PW) : pm_dn pm_sC 88 12 P st G = pm_go pm_sC 88 G (pm_oIL 1 13 P st G) := pm_dn_eq (i := .iload_n 1) (len := 1) rfl
theorem u_88_13 (P : PL) (st : List PV) (G : PW) : pm_dn pm_sC 88 13 P st G = pm_go pm_sC 88 G (pm_oIf .ne (some 23) 16 P st G) := pm_dn_eq (i := .ifCond .ne 10) (len := 3) rfl
theorem u_88_16 (P : PL) (st : List PV) (G : PW) : pm_dn pm_sC 88 16 P st G = pm_go pm_sC 88 G (pm_oAL 0 17 P st G) := pm_dn_eq (i := .aload_n 0) (len := 1) rfl
theorem u_88_17 (P : PL) (st : List PV) (G : PW) : pm_dn pm_sC 88 17 P st G = pm_go pm_sC 88 G (pm_oGf pm_sC 5 6 20 P st G) := pm_dn_eq (i := .getfield 43) (len := 3) rfl
theorem u_88_20 (P : PL) (st : List PV) (G : PW) : pm_dn pm_sC 88 20 P st G = pm_go pm_sC 88 G (pm_oGo (some 27) P st G) := pm_dn_eq (i := .goto 7) (len := 3) rfl
theorem u_88_23 (P : PL) (st : List PV) (G : PW) : pm_dn pm_sC 88 23 P st G = pm_go pm_sC 88 G (pm_oAL 0 24 P st G) := pm_dn_eq (i := .aload_n 0) (len := 1) rfl
theorem u_88_24 (P : PL) (st : List PV) (G : PW) : pm_dn pm_sC 88 24 P st G = pm_go pm_sC 88 G (pm_oGf pm_sC 5 7 27 P st G) := pm_dn_eq (i := .getfield 47) (len := 3) rfl
theorem u_88_27 (P : PL) (st : List PV) (G : PW) : pm_dn pm_sC 88 27 P st G = pm_go pm_sC 88 G (pm_oAS 2 28 P st G) := pm_dn_eq (i := .astore_n 2) (len := 1) rfl
theorem u_88_28 (P : PL) (st : List PV) (G : PW) : pm_dn pm_sC 88 28 P st G = pm_go pm_sC 88 G (pm_oAL 2 29 P st G) := pm_dn_eq (i := .aload_n 2) (len := 1) rfl
theorem u_88_29 (P : PL) (st : List PV) (G : PW) : pm_dn pm_sC 88 29 P st G = pm_go pm_sC 88 G (pm_oGf pm_sC 4 0 32 P st G) := pm_dn_eq (i := .getfield 244) (len := 3) rfl
theorem u_88_32 (P : PL) (st : List PV) (G : PW) : pm_dn pm_sC 88 32 P st G = pm_go pm_sC 88 G (pm_oIf .ne (some 38) 35 P st G) := pm_dn_eq (i := .ifCond .ne 6) (len := 3) rfl
theorem u_88_35 (P : PL) (st : List PV) (G : PW) : pm_dn pm_sC 88 35 P st G = pm_go pm_sC 88 G (pm_oK (-5) 37 P st G) := pm_dn_eq (i := .bipush (-5)) (len := 2) rfl
theorem u_88_37 (P : PL) (st : List PV) (G : PW) : pm_dn pm_sC 88 37 P st G = pm_go pm_sC 88 G (pm_oRi 0 P st G) := pm_dn_eq (i := .ireturn) (len := 1) rfl
theorem u_88_38 (P : PL) (st : List PV) (G : PW) : pm_dn pm_sC 88 38 P st G = pm_go pm_sC 88 G (pm_oAL 0 39 P st G) := pm_dn_eq (i := .aload_n 0) (len := 1) rfl
theorem u_88_39 (P : PL) (st : List PV) (G : PW) : pm_dn pm_sC 88 39 P st G = pm_go pm_sC 88 G (pm_oAL 2 40 P st G) := pm_dn_eq (i := .aload_n 2) (len := 1) rfl
theorem u_88_40 (P : PL) (st : List PV) (G : PW) : pm_dn pm_sC 88 40 P st G = pm_go pm_sC 88 G (pm_oGf pm_sC 4 1 43 P st G) := pm_dn_eq (i := .getfield 248) (len := 3) rfl
theorem u_88_43 (P : PL) (st : List PV) (G : PW) : pm_dn pm_sC 88 43 P st G = pm_go pm_sC 88 G (pm_oAL 2 44 P st G) := pm_dn_eq (i := .aload_n 2) (len := 1) rfl
theorem u_88_44 (P : PL) (st : List PV) (G : PW) : pm_dn pm_sC 88 44 P st G = pm_go pm_sC 88 G (pm_oGf pm_sC 4 2 47 P st G) := pm_dn_eq (i := .getfield 249) (len := 3) rfl
theorem u_88_47 (P : PL) (st : List PV) (G : PW) : pm_dn pm_sC 88 47 P st G = pm_go pm_sC 88 G (pm_oCv pm_sC 89 2 3 5 50 P st G) := pm_dn_eq (i := .invokevirtual 50) (len := 3) rfl
theorem u_88_50 (P : PL) (st : List PV) (G : PW) : pm_dn pm_sC 88 50 P st G = pm_go pm_sC 88 G (pm_oAL 2 51 P st G) := pm_dn_eq (i := .aload_n 2) (len := 1) rfl
theorem u_88_51 (P : PL) (st : List PV) (G : PW) : pm_dn pm_sC 88 51 P st G = pm_go pm_sC 88 G (pm_oGf pm_sC 4 3 54 P st G) := pm_dn_eq (i := .getfield 250) (len := 3) rfl
theorem u_88_54 (P : PL) (st : List PV) (G : PW) : pm_dn pm_sC 88 54 P st G = pm_go pm_sC 88 G (pm_oAL 0 55 P st G) := pm_dn_eq (i := .aload_n 0) (len := 1) rfl
theorem u_88_55 (P : PL) (st : List PV) (G : PW) : pm_dn pm_sC 88 55 P st G = pm_go pm_sC 88 G (pm_oGf pm_sC 5 0 58 P st G) := pm_dn_eq (i := .getfield 9) (len := 3) rfl
theorem u_88_58 (P : PL) (st : List PV) (G : PW) : pm_dn pm_sC 88 58 P st G = pm_go pm_sC 88 G (pm_oCs 105 2 3 61 P st G) := pm_dn_eq (i := .invokestatic 251) (len := 3) rfl
theorem u_88_61 (P : PL) (st : List PV) (G : PW) : pm_dn pm_sC 88 61 P st G = pm_go pm_sC 88 G (pm_oAL 0 62 P st G) := pm_dn_eq (i := .aload_n 0) (len := 1) rfl
theorem u_88_62 (P : PL) (st : List PV) (G : PW) : pm_dn pm_sC 88 62 P st G = pm_go pm_sC 88 G (pm_oGf pm_sC 5 4 65 P st G) := pm_dn_eq (i := .getfield 29) (len := 3) rfl
theorem u_88_65 (P : PL) (st : List PV) (G : PW) : pm_dn pm_sC 88 65 P st G = pm_go pm_sC 88 G (pm_oAL 2 66 P st G) := pm_dn_eq (i := .aload_n 2) (len := 1) rfl
theorem u_88_66 (P : PL) (st : List PV) (G : PW) : pm_dn pm_sC 88 66 P st G = pm_go pm_sC 88 G (pm_oGf pm_sC 4 4 69 P st G) := pm_dn_eq (i := .getfield 255) (len := 3) rfl
theorem u_88_69 (P : PL) (st : List PV) (G : PW) : pm_dn pm_sC 88 69 P st G = pm_go pm_sC 88 G (pm_oCv pm_sC 33 1 2 1 72 P st G) := pm_dn_eq (i := .invokevirtual 256) (len := 3) rfl
theorem u_88_72 (P : PL) (st : List PV) (G : PW) : pm_dn pm_sC 88 72 P st G = pm_go pm_sC 88 G (pm_oAL 0 73 P st G) := pm_dn_eq (i := .aload_n 0) (len := 1) rfl
theorem u_88_73 (P : PL) (st : List PV) (G : PW) : pm_dn pm_sC 88 73 P st G = pm_go pm_sC 88 G (pm_oCv pm_sC 92 0 2 5 76 P st G) := pm_dn_eq (i := .invokevirtual 241) (len := 3) rfl
theorem u_88_76 (P : PL) (st : List PV) (G : PW) : pm_dn pm_sC 88 76 P st G = pm_go pm_sC 88 G (pm_oAL 0 77 P st G) := pm_dn_eq (i := .aload_n 0) (len := 1) rfl
theorem u_88_77 (P : PL) (st : List PV) (G : PW) : pm_dn pm_sC 88 77 P st G = pm_go pm_sC 88 G (pm_oGf pm_sC 5 2 80 P st G) := pm_dn_eq (i := .getfield 19) (len := 3) rfl
theorem u_88_80 (P : PL) (st : List PV) (G : PW) : pm_dn pm_sC 88 80 P st G = pm_go pm_sC 88 G (pm_oK 3 81 P st G) := pm_dn_eq (i := .iconst 3) (len := 1) rfl
theorem u_88_81 (P : PL) (st : List PV) (G : PW) : pm_dn pm_sC 88 81 P st G = pm_go pm_sC 88 G (pm_oCv pm_sC 20 1 4 0 84 P st G) := pm_dn_eq (i := .invokevirtual 174) (len := 3) rfl
theorem u_88_84 (P : PL) (st : List PV) (G : PW) : pm_dn pm_sC 88 84 P st G = pm_go pm_sC 88 G (pm_oRi 0 P st G) := pm_dn_eq (i := .ireturn) (len := 1) rfl
theorem ue_89 (a0 : Nat) (a1 : Int) (a2 : Int) (G : PW) : pm_ca pm_sC 89 [.inr (.inr a0), .inl a1, .inl a2] G = pm_dn pm_sC 89 0 [some (.inr (.inr a0)), some (.inl a1), some (.inl a2)] [] G := rfl
theorem u_89_0 (P : PL) (st : List PV) (G : PW) : pm_dn pm_sC 89 0 P st G = pm_go pm_sC 89 G (pm_oAL 0 1 P st G) := pm_dn_eq (i := .aload_n 0) (len := 1) rfl
theorem u_89_1 (P : PL) (st : List PV) (G : PW) : pm_dn pm_sC 89 1 P st G = pm_go pm_sC 89 G (pm_oGf pm_sC 5 2 4 P st G) := pm_dn_eq (i := .getfield 19) (len := 3) rfl
theorem u_89_4 (P : PL) (st : List PV) (G : PW) : pm_dn pm_sC 89 4 P st G = pm_go pm_sC 89 G (pm_oGf pm_sC 0 0 7 P st G) := pm_dn_eq (i := .getfield 60) (len := 3) rfl
theorem u_89_7 (P : PL) (st : List PV) (G : PW) : pm_dn pm_sC 89 7 P st G = pm_go pm_sC 89 G (pm_oIL 1 8 P st G) := pm_dn_eq (i := .iload_n 1) (len := 1) rfl
theorem u_89_8 (P : PL) (st : List PV) (G : PW) : pm_dn pm_sC 89 8 P st G = pm_go pm_sC 89 G (pm_oIL 2 9 P st G) := pm_dn_eq (i := .iload_n 2) (len := 1) rfl
theorem u_89_9 (P : PL) (st : List PV) (G : PW) : pm_dn pm_sC 89 9 P st G = pm_go pm_sC 89 G (pm_oCv pm_sC 48 2 3 3 12 P st G) := pm_dn_eq (i := .invokevirtual 259) (len := 3) rfl
theorem u_89_12 (P : PL) (st : List PV) (G : PW) : pm_dn pm_sC 89 12 P st G = pm_go pm_sC 89 G (pm_oAL 0 13 P st G) := pm_dn_eq (i := .aload_n 0) (len := 1) rfl
theorem u_89_13 (P : PL) (st : List PV) (G : PW) : pm_dn pm_sC 89 13 P st G = pm_go pm_sC 89 G (pm_oGf pm_sC 5 3 16 P st G) := pm_dn_eq (i := .getfield 23) (len := 3) rfl
theorem u_89_16 (P : PL) (st : List PV) (G : PW) : pm_dn pm_sC 89 16 P st G = pm_go pm_sC 89 G (pm_oGf pm_sC 0 0 19 P st G) := pm_dn_eq (i := .getfield 60) (len := 3) rfl
theorem u_89_19 (P : PL) (st : List PV) (G : PW) : pm_dn pm_sC 89 19 P st G = pm_go pm_sC 89 G (pm_oIL 1 20 P st G) := pm_dn_eq (i := .iload_n 1) (len := 1) rfl
theorem u_89_20 (P : PL) (st : List PV) (G : PW) : pm_dn pm_sC 89 20 P st G = pm_go pm_sC 89 G (pm_oIL 2 21 P st G) := pm_dn_eq (i := .iload_n 2) (len := 1) rfl
theorem u_89_21 (P : PL) (st : List PV) (G : PW) : pm_dn pm_sC 89 21 P st G = pm_go pm_sC 89 G (pm_oCv pm_sC 48 2 3 3 24 P st G) := pm_dn_eq (i := .invokevirtual 259) (len := 3) rfl
theorem u_89_24 (P : PL) (st : List PV) (G : PW) : pm_dn pm_sC 89 24 P st G = pm_go pm_sC 89 G (pm_oAL 0 25 P st G) := pm_dn_eq (i := .aload_n 0) (len := 1) rfl
theorem u_89_25 (P : PL) (st : List PV) (G : PW) : pm_dn pm_sC 89 25 P st G = pm_go pm_sC 89 G (pm_oGf pm_sC 5 2 28 P st G) := pm_dn_eq (i := .getfield 19) (len := 3) rfl
theorem u_89_28 (P : PL) (st : List PV) (G : PW) : pm_dn pm_sC 89 28 P st G = pm_go pm_sC 89 G (pm_oCv pm_sC 0 0 2 0 31 P st G) := pm_dn_eq (i := .invokevirtual 262) (len := 3) rfl
theorem u_89_31 (P : PL) (st : List PV) (G : PW) : pm_dn pm_sC 89 31 P st G = pm_go pm_sC 89 G (pm_oRv P st G) := pm_dn_eq (i := .return_) (len := 1) rfl
theorem ue_90 (a0 : Nat) (a1 : Int) (G : PW) : pm_ca pm_sC 90 [.inr (.inr a0), .inl a1] G = pm_dn pm_sC 90 0 [some (.inr (.inr a0)), some (.inl a1), none] [] G := rfl
theorem u_90_0 (P : PL) (st : List PV) (G : PW) : pm_dn pm_sC 90 0 P st G = pm_go pm_sC 90 G (pm_oAL 0 1 P st G) := pm_dn_eq (i := .aload_n 0) (len := 1) rfl
theorem u_90_1 (P : PL) (st : List PV) (G : PW) : pm_dn pm_sC 90 1 P st G = pm_go pm_sC 90 G (pm_oGf pm_sC 5 2 4 P st G) := pm_dn_eq (i := .getfield 19) (len := 3) rfl
theorem u_90_4 (P : PL) (st : List PV) (G : PW) : pm_dn pm_sC 90 4 P st G = pm_go pm_sC 90 G (pm_oCv pm_sC 19 0 1 0 7 P st G) := pm_dn_eq (i := .invokevirtual 263) (len := 3) rfl
theorem u_90_7 (P : PL) (st : List PV) (G : PW) : pm_dn pm_sC 90 7 P st G = pm_go pm_sC 90 G (pm_oIS 2 8 P st G) := pm_dn_eq (i := .istore_n 2) (len := 1) rfl
theorem u_90_8 (P : PL) (st : List PV) (G : PW) : pm_dn pm_sC 90 8 P st G = pm_go pm_sC 90 G (pm_oAL 0 9 P st G) := pm_dn_eq (i := .aload_n 0) (len := 1) rfl
theorem u_90_9 (P : PL) (st : List PV) (G : PW) : pm_dn pm_sC 90 9 P st G = pm_go pm_sC 90 G (pm_oIL 1 10 P st G) := pm_dn_eq (i := .iload_n 1) (len := 1) rfl
theorem u_90_10 (P : PL) (st : List PV) (G : PW) : pm_dn pm_sC 90 10 P st G = pm_go pm_sC 90 G (pm_oCv pm_sC 91 1 3 5 13 P st G) := pm_dn_eq (i := .invokevirtual 266) (len := 3) rfl
theorem u_90_13 (P : PL) (st : List PV) (G : PW) : pm_dn pm_sC 90 13 P st G = pm_go pm_sC 90 G (pm_oAL 0 14 P st G) := pm_dn_eq (i := .aload_n 0) (len := 1) rfl
theorem u_90_14 (P : PL) (st : List PV) (G : PW) : pm_dn pm_sC 90 14 P st G = pm_go pm_sC 90 G (pm_oGf pm_sC 5 2 17 P st G) := pm_dn_eq (i := .getfield 19) (len := 3) rfl
theorem u_90_17 (P : PL) (st : List PV) (G : PW) : pm_dn pm_sC 90 17 P st G = pm_go pm_sC 90 G (pm_oCv pm_sC 10 0 2 0 20 P st G) := pm_dn_eq (i := .invokevirtual 269) (len := 3) rfl
theorem u_90_20 (P : PL) (st : List PV) (G : PW) : pm_dn pm_sC 90 20 P st G = pm_go pm_sC 90 G (pm_oAL 0 21 P st G) := pm_dn_eq (i := .aload_n 0) (len := 1) rfl
theorem u_90_21 (P : PL) (st : List PV) (G : PW) : pm_dn pm_sC 90 21 P st G = pm_go pm_sC 90 G (pm_oGf pm_sC 5 2 24 P st G) := pm_dn_eq (i := .getfield 19) (len := 3) rfl
theorem u_90_24 (P : PL) (st : List PV) (G : PW) : pm_dn pm_sC 90 24 P st G = pm_go pm_sC 90 G (pm_oCv pm_sC 19 0 1 0 27 P st G) := pm_dn_eq (i := .invokevirtual 263) (len := 3) rfl
theorem u_90_27 (P : PL) (st : List PV) (G : PW) : pm_dn pm_sC 90 27 P st G = pm_go pm_sC 90 G (pm_oIL 2 28 P st G) := pm_dn_eq (i := .iload_n 2) (len := 1) rfl
theorem u_90_28 (P : PL) (st : List PV) (G : PW) : pm_dn pm_sC 90 28 P st G = pm_go pm_sC 90 G (pm_oSub 29 P st G) := pm_dn_eq (i := .isub) (len := 1) rfl
theorem u_90_29 (P : PL) (st : List PV) (G : PW) : pm_dn pm_sC 90 29 P st G = pm_go pm_sC 90 G (pm_oRi 0 P st G) := pm_dn_eq (i := .ireturn) (len := 1) rfl
theorem ue_91 (a0 : Nat) (a1 : Int) (G : PW) : pm_ca pm_sC 91 [.inr (.inr a0), .inl a1] G = pm_dn pm_sC 91 0 [some (.inr (.inr a0)), some (.inl a1), none] [] G := rfl
theorem u_91_0 (P : PL) (st : List PV) (G : PW) : pm_dn pm_sC 91 0 P st G = pm_go pm_sC 91 G (pm_oIL 1 1 P st G) := pm_dn_eq (i := .iload_n 1) (len := 1) rfl
theorem u_91_1 (P : PL) (st : List PV) (G : PW) : pm_dn pm_sC 91 1 P st G = pm_go pm_sC 91 G (pm_oCs 26 1 1 4 P st G) := pm_dn_eq (i := .invokestatic 272) (len := 3) rfl
theorem u_91_4 (P : PL) (st : List PV) (G : PW) : pm_dn pm_sC 91 4 P st G = pm_go pm_sC 91 G (pm_oIf .eq (some 30) 7 P st G) := pm_dn_eq (i := .ifCond .eq 26) (len := 3) rfl
theorem u_91_7 (P : PL) (st : List PV) (G : PW) : pm_dn pm_sC 91 7 P st G = pm_go pm_sC 91 G (pm_oIL 1 8 P st G) := pm_dn_eq (i := .iload_n 1) (len := 1) rfl
theorem u_91_8 (P : PL) (st : List PV) (G : PW) : pm_dn pm_sC 91 8 P st G = pm_go pm_sC 91 G (pm_oCs 27 1 1 11 P st G) := pm_dn_eq (i := .invokestatic 275) (len := 3) rfl
theorem u_91_11 (P : PL) (st : List PV) (G : PW) : pm_dn pm_sC 91 11 P st G = pm_go pm_sC 91 G (pm_oIS 2 12 P st G) := pm_dn_eq (i := .istore_n 2) (len := 1) rfl
theorem u_91_12 (P : PL) (st : List PV) (G : PW) : pm_dn pm_sC 91 12 P st G = pm_go pm_sC 91 G (pm_oAL 0 13 P st G) := pm_dn_eq (i := .aload_n 0) (len := 1) rfl
theorem u_91_13 (P : PL) (st : List PV) (G : PW) : pm_dn pm_sC 91 13 P st G = pm_go pm_sC 91 G (pm_oGf pm_sC 5 2 16 P st G) := pm_dn_eq (i := .getfield 19) (len := 3) rfl
theorem u_91_16 (P : PL) (st : List PV) (G : PW) : pm_dn pm_sC 91 16 P st G = pm_go pm_sC 91 G (pm_oIL 2 17 P st G) := pm_dn_eq (i := .iload_n 2) (len := 1) rfl
theorem u_91_17 (P : PL) (st : List PV) (G : PW) : pm_dn pm_sC 91 17 P st G = pm_go pm_sC 91 G (pm_oCs 107 1 1 20 P st G) := pm_dn_eq (i := .invokestatic 135) (len := 3) rfl
theorem u_91_20 (P : PL) (st : List PV) (G : PW) : pm_dn pm_sC 91 20 P st G = pm_go pm_sC 91 G (pm_oIL 2 21 P st G) := pm_dn_eq (i := .iload_n 2) (len := 1) rfl
theorem u_91_21 (P : PL) (st : List PV) (G : PW) : pm_dn pm_sC 91 21 P st G = pm_go pm_sC 91 G (pm_oCs 108 1 1 24 P st G) := pm_dn_eq (i := .invokestatic 141) (len := 3) rfl
theorem u_91_24 (P : PL) (st : List PV) (G : PW) : pm_dn pm_sC 91 24 P st G = pm_go pm_sC 91 G (pm_oCv pm_sC 2 2 3 0 27 P st G) := pm_dn_eq (i := .invokevirtual 278) (len := 3) rfl
theorem u_91_27 (P : PL) (st : List PV) (G : PW) : pm_dn pm_sC 91 27 P st G = pm_go pm_sC 91 G (pm_oGo (some 41) P st G) := pm_dn_eq (i := .goto 14) (len := 3) rfl
theorem u_91_30 (P : PL) (st : List PV) (G : PW) : pm_dn pm_sC 91 30 P st G = pm_go pm_sC 91 G (pm_oAL 0 31 P st G) := pm_dn_eq (i := .aload_n 0) (len := 1) rfl
theorem u_91_31 (P : PL) (st : List PV) (G : PW) : pm_dn pm_sC 91 31 P st G = pm_go pm_sC 91 G (pm_oGf pm_sC 5 2 34 P st G) := pm_dn_eq (i := .getfield 19) (len := 3) rfl
theorem u_91_34 (P : PL) (st : List PV) (G : PW) : pm_dn pm_sC 91 34 P st G = pm_go pm_sC 91 G (pm_oIL 1 35 P st G) := pm_dn_eq (i := .iload_n 1) (len := 1) rfl
theorem u_91_35 (P : PL) (st : List PV) (G : PW) : pm_dn pm_sC 91 35 P st G = pm_go pm_sC 91 G (pm_oCs 28 1 1 38 P st G) := pm_dn_eq (i := .invokestatic 281) (len := 3) rfl
theorem u_91_38 (P : PL) (st : List PV) (G : PW) : pm_dn pm_sC 91 38 P st G = pm_go pm_sC 91 G (pm_oCv pm_sC 3 1 2 0 41 P st G) := pm_dn_eq (i := .invokevirtual 284) (len := 3) rfl
theorem u_91_41 (P : PL) (st : List PV) (G : PW) : pm_dn pm_sC 91 41 P st G = pm_go pm_sC 91 G (pm_oRv P st G) := pm_dn_eq (i := .return_) (len := 1) rfl
theorem ue_92 (a0 : Nat) (G : PW) : pm_ca pm_sC 92 [.inr (.inr a0)] G = pm_dn pm_sC 92 0 [some (.inr (.inr a0)), none] [] G := rfl
theorem u_92_0 (P : PL) (st : List PV) (G : PW) : pm_dn pm_sC 92 0 P st G = pm_go pm_sC 92 G (pm_oAL 0 1 P st G) := pm_dn_eq (i := .aload_n 0) (len := 1) rfl
theorem u_92_1 (P : PL) (st : List PV) (G : PW) : pm_dn pm_sC 92 1 P st G = pm_go pm_sC 92 G (pm_oGf pm_sC 5 2 4 P st G) := pm_dn_eq (i := .getfield 19) (len := 3) rfl
theorem u_92_4 (P : PL) (st : List PV) (G : PW) : pm_dn pm_sC 92 4 P st G = pm_go pm_sC 92 G (pm_oCv pm_sC 0 0 2 0 7 P st G) := pm_dn_eq (i := .invokevirtual 262) (len := 3) rfl
theorem u_92_7 (P : PL) (st : List PV) (G : PW) : pm_dn pm_sC 92 7 P st G = pm_go pm_sC 92 G (pm_oK 0 8 P st G) := pm_dn_eq (i := .iconst 0) (len := 1) rfl
theorem u_92_8 (P : PL) (st : List PV) (G : PW) : pm_dn pm_sC 92 8 P st G = pm_go pm_sC 92 G (pm_oIS 1 9 P st G) := pm_dn_eq (i := .istore_n 1) (len := 1) rfl
theorem u_92_9 (P : PL) (st : List PV) (G : PW) : pm_dn pm_sC 92 9 P st G = pm_go pm_sC 92 G (pm_oIL 1 10 P st G) := pm_dn_eq (i := .iload_n 1) (len := 1) rfl
theorem u_92_10 (P : PL) (st : List PV) (G : PW) : pm_dn pm_sC 92 10 P st G = pm_go pm_sC 92 G (pm_oAL 0 11 P st G) := pm_dn_eq (i := .aload_n 0) (len := 1) rfl
theorem u_92_11 (P : PL) (st : List PV) (G : PW) : pm_dn pm_sC 92 11 P st G = pm_go pm_sC 92 G (pm_oGf pm_sC 5 4 14 P st G) := pm_dn_eq (i := .getfield 29) (len := 3) rfl
theorem u_92_14 (P : PL) (st : List PV) (G : PW) : pm_dn pm_sC 92 14 P st G = pm_go pm_sC 92 G (pm_oGf pm_sC 1 1 17 P st G) := pm_dn_eq (i := .getfield 194) (len := 3) rfl
theorem u_92_17 (P : PL) (st : List PV) (G : PW) : pm_dn pm_sC 92 17 P st G = pm_go pm_sC 92 G (pm_oIc .ge (some 38) 20 P st G) := pm_dn_eq (i := .if_icmp .ge 21) (len := 3) rfl
theorem u_92_20 (P : PL) (st : List PV) (G : PW) : pm_dn pm_sC 92 20 P st G = pm_go pm_sC 92 G (pm_oAL 0 21 P st G) := pm_dn_eq (i := .aload_n 0) (len := 1) rfl
theorem u_92_21 (P : PL) (st : List PV) (G : PW) : pm_dn pm_sC 92 21 P st G = pm_go pm_sC 92 G (pm_oAL 0 22 P st G) := pm_dn_eq (i := .aload_n 0) (len := 1) rfl
theorem u_92_22 (P : PL) (st : List PV) (G : PW) : pm_dn pm_sC 92 22 P st G = pm_go pm_sC 92 G (pm_oGf pm_sC 5 4 25 P st G) := pm_dn_eq (i := .getfield 29) (len := 3) rfl
theorem u_92_25 (P : PL) (st : List PV) (G : PW) : pm_dn pm_sC 92 25 P st G = pm_go pm_sC 92 G (pm_oIL 1 26 P st G) := pm_dn_eq (i := .iload_n 1) (len := 1) rfl
theorem u_92_26 (P : PL) (st : List PV) (G : PW) : pm_dn pm_sC 92 26 P st G = pm_go pm_sC 92 G (pm_oCv pm_sC 32 1 2 1 29 P st G) := pm_dn_eq (i := .invokevirtual 287) (len := 3) rfl
theorem u_92_29 (P : PL) (st : List PV) (G : PW) : pm_dn pm_sC 92 29 P st G = pm_go pm_sC 92 G (pm_oCv pm_sC 91 1 3 5 32 P st G) := pm_dn_eq (i := .invokevirtual 266) (len := 3) rfl
theorem u_92_32 (P : PL) (st : List PV) (G : PW) : pm_dn pm_sC 92 32 P st G = pm_go pm_sC 92 G (pm_oInc 1 1 35 P st G) := pm_dn_eq (i := .iinc 1 1) (len := 3) rfl
theorem u_92_35 (P : PL) (st : List PV) (G : PW) : pm_dn pm_sC 92 35 P st G = pm_go pm_sC 92 G (pm_oGo (some 9) P st G) := pm_dn_eq (i := .goto (-26)) (len := 3) rfl
theorem u_92_38 (P : PL) (st : List PV) (G : PW) : pm_dn pm_sC 92 38 P st G = pm_go pm_sC 92 G (pm_oAL 0 39 P st G) := pm_dn_eq (i := .aload_n 0) (len := 1) rfl
theorem u_92_39 (P : PL) (st : List PV) (G : PW) : pm_dn pm_sC 92 39 P st G = pm_go pm_sC 92 G (pm_oGf pm_sC 5 2 42 P st G) := pm_dn_eq (i := .getfield 19) (len := 3) rfl
theorem u_92_42 (P : PL) (st : List PV) (G : PW) : pm_dn pm_sC 92 42 P st G = pm_go pm_sC 92 G (pm_oCv pm_sC 10 0 2 0 45 P st G) := pm_dn_eq (i := .invokevirtual 269) (len := 3) rfl
theorem u_92_45 (P : PL) (st : List PV) (G : PW) : pm_dn pm_sC 92 45 P st G = pm_go pm_sC 92 G (pm_oRv P st G) := pm_dn_eq (i := .return_) (len := 1) rfl
theorem ue_93 (a0 : Nat) (a1 : Int) (G : PW) : pm_ca pm_sC 93 [.inr (.inr a0), .inl a1] G = pm_dn pm_sC 93 0 [some (.inr (.inr a0)), some (.inl a1), none] [] G := rfl
theorem u_93_0 (P : PL) (st : List PV) (G : PW) : pm_dn pm_sC 93 0 P st G = pm_go pm_sC 93 G (pm_oAL 0 1 P st G) := pm_dn_eq (i := .aload_n 0) (len := 1) rfl
theorem u_93_1 (P : PL) (st : List PV) (G : PW) : pm_dn pm_sC 93 1 P st G = pm_go pm_sC 93 G (pm_oGf pm_sC 5 2 4 P st G) := pm_dn_eq (i := .getfield 19) (len := 3) rfl
theorem u_93_4 (P : PL) (st : List PV) (G : PW) : pm_dn pm_sC 93 4 P st G = pm_go pm_sC 93 G (pm_oIL 1 5 P st G) := pm_dn_eq (i := .iload_n 1) (len := 1) rfl
theorem u_93_5 (P : PL) (st : List PV) (G : PW) : pm_dn pm_sC 93 5 P st G = pm_go pm_sC 93 G (pm_oCv pm_sC 13 1 4 0 8 P st G) := pm_dn_eq (i := .invokevirtual 153) (len := 3) rfl
theorem u_93_8 (P : PL) (st : List PV) (G : PW) : pm_dn pm_sC 93 8 P st G = pm_go pm_sC 93 G (pm_oIS 2 9 P st G) := pm_dn_eq (i := .istore_n 2) (len := 1) rfl
theorem u_93_9 (P : PL) (st : List PV) (G : PW) : pm_dn pm_sC 93 9 P st G = pm_go pm_sC 93 G (pm_oIL 2 10 P st G) := pm_dn_eq (i := .iload_n 2) (len := 1) rfl
theorem u_93_10 (P : PL) (st : List PV) (G : PW) : pm_dn pm_sC 93 10 P st G = pm_go pm_sC 93 G (pm_oK (-6) 12 P st G) := pm_dn_eq (i := .bipush (-6)) (len := 2) rfl
theorem u_93_12 (P : PL) (st : List PV) (G : PW) : pm_dn pm_sC 93 12 P st G = pm_go pm_sC 93 G (pm_oIc .ne (some 19) 15 P st G) := pm_dn_eq (i := .if_icmp .ne 7) (len := 3) rfl
theorem u_93_15 (P : PL) (st : List PV) (G : PW) : pm_dn pm_sC 93 15 P st G = pm_go pm_sC 93 G (pm_oK 3 16 P st G) := pm_dn_eq (i := .iconst 3) (len := 1) rfl
theorem u_93_16 (P : PL) (st : List PV) (G : PW) : pm_dn pm_sC 93 16 P st G = pm_go pm_sC 93 G (pm_oGo (some 33) P st G) := pm_dn_eq (i := .goto 17) (len := 3) rfl
theorem u_93_19 (P : PL) (st : List PV) (G : PW) : pm_dn pm_sC 93 19 P st G = pm_go pm_sC 93 G (pm_oAL 0 20 P st G) := pm_dn_eq (i := .aload_n 0) (len := 1) rfl
theorem u_93_20 (P : PL) (st : List PV) (G : PW) : pm_dn pm_sC 93 20 P st G = pm_go pm_sC 93 G (pm_oGf pm_sC 5 2 23 P st G) := pm_dn_eq (i := .getfield 19) (len := 3) rfl
theorem u_93_23 (P : PL) (st : List PV) (G : PW) : pm_dn pm_sC 93 23 P st G = pm_go pm_sC 93 G (pm_oGf pm_sC 0 0 26 P st G) := pm_dn_eq (i := .getfield 60) (len := 3) rfl
theorem u_93_26 (P : PL) (st : List PV) (G : PW) : pm_dn pm_sC 93 26 P st G = pm_go pm_sC 93 G (pm_oGf pm_sC 3 5 29 P st G) := pm_dn_eq (i := .getfield 119) (len := 3) rfl
theorem u_93_29 (P : PL) (st : List PV) (G : PW) : pm_dn pm_sC 93 29 P st G = pm_go pm_sC 93 G (pm_oIL 2 30 P st G) := pm_dn_eq (i := .iload_n 2) (len := 1) rfl
theorem u_93_30 (P : PL) (st : List PV) (G : PW) : pm_dn pm_sC 93 30 P st G = pm_go pm_sC 93 G (pm_oCs 103 2 2 33 P st G) := pm_dn_eq (i := .invokestatic 122) (len := 3) rfl
theorem u_93_33 (P : PL) (st : List PV) (G : PW) : pm_dn pm_sC 93 33 P st G = pm_go pm_sC 93 G (pm_oRi 0 P st G) := pm_dn_eq (i := .ireturn) (len := 1) rfl
theorem ue_94 (a0 : Nat) (G : PW) : pm_ca pm_sC 94 [.inr (.inr a0)] G = pm_dn pm_sC 94 0 [some (.inr (.inr a0)), none, none] [] G := rfl
theorem u_94_0 (P : PL) (st : List PV) (G : PW) : pm_dn pm_sC 94 0 P st G = pm_go pm_sC 94 G (pm_oK 0 1 P st G) := pm_dn_eq (i := .iconst 0) (len := 1) rfl
theorem u_94_1 (P : PL) (st : List PV) (G : PW) : pm_dn pm_sC 94 1 P st G = pm_go pm_sC 94 G (pm_oIS 1 2 P st G) := pm_dn_eq (i := .istore_n 1) (len := 1) rfl
theorem u_94_2 (P : PL) (st : List PV) (G : PW) : pm_dn pm_sC 94 2 P st G = pm_go pm_sC 94 G (pm_oK 0 3 P st G) := pm_dn_eq (i := .iconst 0) (len := 1) rfl
theorem u_94_3 (P : PL) (st : List PV) (G : PW) : pm_dn pm_sC 94 3 P st G = pm_go pm_sC 94 G (pm_oIS 2 4 P st G) := pm_dn_eq (i := .istore_n 2) (len := 1) rfl
theorem u_94_4 (P : PL) (st : List PV) (G : PW) : pm_dn pm_sC 94 4 P st G = pm_go pm_sC 94 G (pm_oIL 2 5 P st G) := pm_dn_eq (i := .iload_n 2) (len := 1) rfl
theorem u_94_5 (P : PL) (st : List PV) (G : PW) : pm_dn pm_sC 94 5 P st G = pm_go pm_sC 94 G (pm_oAL 0 6 P st G) := pm_dn_eq (i := .aload_n 0) (len := 1) rfl
theorem u_94_6 (P : PL) (st : List PV) (G : PW) : pm_dn pm_sC 94 6 P st G = pm_go pm_sC 94 G (pm_oGf pm_sC 5 2 9 P st G) := pm_dn_eq (i := .getfield 19) (len := 3) rfl
theorem u_94_9 (P : PL) (st : List PV) (G : PW) : pm_dn pm_sC 94 9 P st G = pm_go pm_sC 94 G (pm_oGf pm_sC 0 0 12 P st G) := pm_dn_eq (i := .getfield 60) (len := 3) rfl
theorem u_94_12 (P : PL) (st : List PV) (G : PW) : pm_dn pm_sC 94 12 P st G = pm_go pm_sC 94 G (pm_oGf pm_sC 3 4 15 P st G) := pm_dn_eq (i := .getfield 64) (len := 3) rfl
theorem u_94_15 (P : PL) (st : List PV) (G : PW) : pm_dn pm_sC 94 15 P st G = pm_go pm_sC 94 G (pm_oIc .ge (some 38) 18 P st G) := pm_dn_eq (i := .if_icmp .ge 23) (len := 3) rfl
theorem u_94_18 (P : PL) (st : List PV) (G : PW) : pm_dn pm_sC 94 18 P st G = pm_go pm_sC 94 G (pm_oAL 0 19 P st G) := pm_dn_eq (i := .aload_n 0) (len := 1) rfl
theorem u_94_19 (P : PL) (st : List PV) (G : PW) : pm_dn pm_sC 94 19 P st G = pm_go pm_sC 94 G (pm_oGf pm_sC 5 2 22 P st G) := pm_dn_eq (i := .getfield 19) (len := 3) rfl
theorem u_94_22 (P : PL) (st : List PV) (G : PW) : pm_dn pm_sC 94 22 P st G = pm_go pm_sC 94 G (pm_oIL 2 23 P st G) := pm_dn_eq (i := .iload_n 2) (len := 1) rfl
theorem u_94_23 (P : PL) (st : List PV) (G : PW) : pm_dn pm_sC 94 23 P st G = pm_go pm_sC 94 G (pm_oCv pm_sC 9 1 2 0 26 P st G) := pm_dn_eq (i := .invokevirtual 84) (len := 3) rfl
theorem u_94_26 (P : PL) (st : List PV) (G : PW) : pm_dn pm_sC 94 26 P st G = pm_go pm_sC 94 G (pm_oIf .eq (some 32) 29 P st G) := pm_dn_eq (i := .ifCond .eq 6) (len := 3) rfl
theorem u_94_29 (P : PL) (st : List PV) (G : PW) : pm_dn pm_sC 94 29 P st G = pm_go pm_sC 94 G (pm_oInc 1 1 32 P st G) := pm_dn_eq (i := .iinc 1 1) (len := 3) rfl
theorem u_94_32 (P : PL) (st : List PV) (G : PW) : pm_dn pm_sC 94 32 P st G = pm_go pm_sC 94 G (pm_oInc 2 1 35 P st G) := pm_dn_eq (i := .iinc 2 1) (len := 3) rfl
theorem u_94_35 (P : PL) (st : List PV) (G : PW) : pm_dn pm_sC 94 35 P st G = pm_go pm_sC 94 G (pm_oGo (some 4) P st G) := pm_dn_eq (i := .goto (-31)) (len := 3) rfl
theorem u_94_38 (P : PL) (st : List PV) (G : PW) : pm_dn pm_sC 94 38 P st G = pm_go pm_sC 94 G (pm_oIL 1 39 P st G) := pm_dn_eq (i := .iload_n 1) (len := 1) rfl
theorem u_94_39 (P : PL) (st : List PV) (G : PW) : pm_dn pm_sC 94 39 P st G = pm_go pm_sC 94 G (pm_oRi 0 P st G) := pm_dn_eq (i := .ireturn) (len := 1) rfl
theorem ue_95 (a0 : Nat) (G : PW) : pm_ca pm_sC 95 [.inr (.inr a0)] G = pm_dn pm_sC 95 0 [some (.inr (.inr a0)), none, none] [] G := rfl
theorem u_95_0 (P : PL) (st : List PV) (G : PW) : pm_dn pm_sC 95 0 P st G = pm_go pm_sC 95 G (pm_oK 0 1 P st G) := pm_dn_eq (i := .iconst 0) (len := 1) rfl
theorem u_95_1 (P : PL) (st : List PV) (G : PW) : pm_dn pm_sC 95 1 P st G = pm_go pm_sC 95 G (pm_oIS 1 2 P st G) := pm_dn_eq (i := .istore_n 1) (len := 1) rfl
theorem u_95_2 (P : PL) (st : List PV) (G : PW) : pm_dn pm_sC 95 2 P st G = pm_go pm_sC 95 G (pm_oK 0 3 P st G) := pm_dn_eq (i := .iconst 0) (len := 1) rfl
theorem u_95_3 (P : PL) (st : List PV) (G : PW) : pm_dn pm_sC 95 3 P st G = pm_go pm_sC 95 G (pm_oIS 2 4 P st G) := pm_dn_eq (i := .istore_n 2) (len := 1) rfl
theorem u_95_4 (P : PL) (st : List PV) (G : PW) : pm_dn pm_sC 95 4 P st G = pm_go pm_sC 95 G (pm_oIL 2 5 P st G) := pm_dn_eq (i := .iload_n 2) (len := 1) rfl
theorem u_95_5 (P : PL) (st : List PV) (G : PW) : pm_dn pm_sC 95 5 P st G = pm_go pm_sC 95 G (pm_oAL 0 6 P st G) := pm_dn_eq (i := .aload_n 0) (len := 1) rfl
theorem u_95_6 (P : PL) (st : List PV) (G : PW) : pm_dn pm_sC 95 6 P st G = pm_go pm_sC 95 G (pm_oGf pm_sC 5 2 9 P st G) := pm_dn_eq (i := .getfield 19) (len := 3) rfl
theorem u_95_9 (P : PL) (st : List PV) (G : PW) : pm_dn pm_sC 95 9 P st G = pm_go pm_sC 95 G (pm_oGf pm_sC 0 0 12 P st G) := pm_dn_eq (i := .getfield 60) (len := 3) rfl
theorem u_95_12 (P : PL) (st : List PV) (G : PW) : pm_dn pm_sC 95 12 P st G = pm_go pm_sC 95 G (pm_oGf pm_sC 3 0 15 P st G) := pm_dn_eq (i := .getfield 165) (len := 3) rfl
theorem u_95_15 (P : PL) (st : List PV) (G : PW) : pm_dn pm_sC 95 15 P st G = pm_go pm_sC 95 G (pm_oIc .ge (some 38) 18 P st G) := pm_dn_eq (i := .if_icmp .ge 23) (len := 3) rfl
theorem u_95_18 (P : PL) (st : List PV) (G : PW) : pm_dn pm_sC 95 18 P st G = pm_go pm_sC 95 G (pm_oAL 0 19 P st G) := pm_dn_eq (i := .aload_n 0) (len := 1) rfl
theorem u_95_19 (P : PL) (st : List PV) (G : PW) : pm_dn pm_sC 95 19 P st G = pm_go pm_sC 95 G (pm_oGf pm_sC 5 2 22 P st G) := pm_dn_eq (i := .getfield 19) (len := 3) rfl
theorem u_95_22 (P : PL) (st : List PV) (G : PW) : pm_dn pm_sC 95 22 P st G = pm_go pm_sC 95 G (pm_oIL 2 23 P st G) := pm_dn_eq (i := .iload_n 2) (len := 1) rfl
theorem u_95_23 (P : PL) (st : List PV) (G : PW) : pm_dn pm_sC 95 23 P st G = pm_go pm_sC 95 G (pm_oCv pm_sC 14 1 2 0 26 P st G) := pm_dn_eq (i := .invokevirtual 104) (len := 3) rfl
theorem u_95_26 (P : PL) (st : List PV) (G : PW) : pm_dn pm_sC 95 26 P st G = pm_go pm_sC 95 G (pm_oIf .eq (some 32) 29 P st G) := pm_dn_eq (i := .ifCond .eq 6) (len := 3) rfl
theorem u_95_29 (P : PL) (st : List PV) (G : PW) : pm_dn pm_sC 95 29 P st G = pm_go pm_sC 95 G (pm_oInc 1 1 32 P st G) := pm_dn_eq (i := .iinc 1 1) (len := 3) rfl
theorem u_95_32 (P : PL) (st : List PV) (G : PW) : pm_dn pm_sC 95 32 P st G = pm_go pm_sC 95 G (pm_oInc 2 1 35 P st G) := pm_dn_eq (i := .iinc 2 1) (len := 3) rfl
theorem u_95_35 (P : PL) (st : List PV) (G : PW) : pm_dn pm_sC 95 35 P st G = pm_go pm_sC 95 G (pm_oGo (some 4) P st G) := pm_dn_eq (i := .goto (-31)) (len := 3) rfl
theorem u_95_38 (P : PL) (st : List PV) (G : PW) : pm_dn pm_sC 95 38 P st G = pm_go pm_sC 95 G (pm_oIL 1 39 P st G) := pm_dn_eq (i := .iload_n 1) (len := 1) rfl
theorem u_95_39 (P : PL) (st : List PV) (G : PW) : pm_dn pm_sC 95 39 P st G = pm_go pm_sC 95 G (pm_oRi 0 P st G) := pm_dn_eq (i := .ireturn) (len := 1) rfl
theorem ue_96 (a0 : Nat) (a1 : Int) (G : PW) : pm_ca pm_sC 96 [.inr (.inr a0), .inl a1] G = pm_dn pm_sC 96 0 [some (.inr (.inr a0)), some (.inl a1), none, none, none, none, none] [] G := rfl
theorem u_96_0 (P : PL) (st : List PV) (G : PW) : pm_dn pm_sC 96 0 P st G = pm_go pm_sC 96 G (pm_oK 0 1 P st G) := pm_dn_eq (i := .iconst 0) (len := 1) rfl
theorem u_96_1 (P : PL) (st : List PV) (G : PW) : pm_dn pm_sC 96 1 P st G = pm_go pm_sC 96 G (pm_oIS 2 2 P st G) := pm_dn_eq (i := .istore_n 2) (len := 1) rfl
theorem u_96_2 (P : PL) (st : List PV) (G : PW) : pm_dn pm_sC 96 2 P st G = pm_go pm_sC 96 G (pm_oK 0 3 P st G) := pm_dn_eq (i := .iconst 0) (len := 1) rfl
theorem u_96_3 (P : PL) (st : List PV) (G : PW) : pm_dn pm_sC 96 3 P st G = pm_go pm_sC 96 G (pm_oIS 3 4 P st G) := pm_dn_eq (i := .istore_n 3) (len := 1) rfl
theorem u_96_4 (P : PL) (st : List PV) (G : PW) : pm_dn pm_sC 96 4 P st G = pm_go pm_sC 96 G (pm_oK 0 5 P st G) := pm_dn_eq (i := .iconst 0) (len := 1) rfl
theorem u_96_5 (P : PL) (st : List PV) (G : PW) : pm_dn pm_sC 96 5 P st G = pm_go pm_sC 96 G (pm_oIS 4 7 P st G) := pm_dn_eq (i := .istore 4) (len := 2) rfl
theorem u_96_7 (P : PL) (st : List PV) (G : PW) : pm_dn pm_sC 96 7 P st G = pm_go pm_sC 96 G (pm_oK 0 8 P st G) := pm_dn_eq (i := .iconst 0) (len := 1) rfl
theorem u_96_8 (P : PL) (st : List PV) (G : PW) : pm_dn pm_sC 96 8 P st G = pm_go pm_sC 96 G (pm_oIS 5 10 P st G) := pm_dn_eq (i := .istore 5) (len := 2) rfl
theorem u_96_10 (P : PL) (st : List PV) (G : PW) : pm_dn pm_sC 96 10 P st G = pm_go pm_sC 96 G (pm_oIL 5 12 P st G) := pm_dn_eq (i := .iload 5) (len := 2) rfl
theorem u_96_12 (P : PL) (st : List PV) (G : PW) : pm_dn pm_sC 96 12 P st G = pm_go pm_sC 96 G (pm_oAL 0 13 P st G) := pm_dn_eq (i := .aload_n 0) (len := 1) rfl
theorem u_96_13 (P : PL) (st : List PV) (G : PW) : pm_dn pm_sC 96 13 P st G = pm_go pm_sC 96 G (pm_oGf pm_sC 5 2 16 P st G) := pm_dn_eq (i := .getfield 19) (len := 3) rfl
theorem u_96_16 (P : PL) (st : List PV) (G : PW) : pm_dn pm_sC 96 16 P st G = pm_go pm_sC 96 G (pm_oGf pm_sC 0 0 19 P st G) := pm_dn_eq (i := .getfield 60) (len := 3) rfl
theorem u_96_19 (P : PL) (st : List PV) (G : PW) : pm_dn pm_sC 96 19 P st G = pm_go pm_sC 96 G (pm_oGf pm_sC 3 0 22 P st G) := pm_dn_eq (i := .getfield 165) (len := 3) rfl
theorem u_96_22 (P : PL) (st : List PV) (G : PW) : pm_dn pm_sC 96 22 P st G = pm_go pm_sC 96 G (pm_oIc .ge (some 93) 25 P st G) := pm_dn_eq (i := .if_icmp .ge 71) (len := 3) rfl
theorem u_96_25 (P : PL) (st : List PV) (G : PW) : pm_dn pm_sC 96 25 P st G = pm_go pm_sC 96 G (pm_oAL 0 26 P st G) := pm_dn_eq (i := .aload_n 0) (len := 1) rfl
theorem u_96_26 (P : PL) (st : List PV) (G : PW) : pm_dn pm_sC 96 26 P st G = pm_go pm_sC 96 G (pm_oGf pm_sC 5 2 29 P st G) := pm_dn_eq (i := .getfield 19) (len := 3) rfl
theorem u_96_29 (P : PL) (st : List PV) (G : PW) : pm_dn pm_sC 96 29 P st G = pm_go pm_sC 96 G (pm_oIL 5 31 P st G) := pm_dn_eq (i := .iload 5) (len := 2) rfl
theorem u_96_31 (P : PL) (st : List PV) (G : PW) : pm_dn pm_sC 96 31 P st G = pm_go pm_sC 96 G (pm_oCv pm_sC 4 1 2 0 34 P st G) := pm_dn_eq (i := .invokevirtual 101) (len := 3) rfl
theorem u_96_34 (P : PL) (st : List PV) (G : PW) : pm_dn pm_sC 96 34 P st G = pm_go pm_sC 96 G (pm_oIf .ne (some 87) 37 P st G) := pm_dn_eq (i := .ifCond .ne 53) (len := 3) rfl
theorem u_96_37 (P : PL) (st : List PV) (G : PW) : pm_dn pm_sC 96 37 P st G = pm_go pm_sC 96 G (pm_oAL 0 38 P st G) := pm_dn_eq (i := .aload_n 0) (len := 1) rfl
theorem u_96_38 (P : PL) (st : List PV) (G : PW) : pm_dn pm_sC 96 38 P st G = pm_go pm_sC 96 G (pm_oGf pm_sC 5 2 41 P st G) := pm_dn_eq (i := .getfield 19) (len := 3) rfl
theorem u_96_41 (P : PL) (st : List PV) (G : PW) : pm_dn pm_sC 96 41 P st G = pm_go pm_sC 96 G (pm_oIL 5 43 P st G) := pm_dn_eq (i := .iload 5) (len := 2) rfl
theorem u_96_43 (P : PL) (st : List PV) (G : PW) : pm_dn pm_sC 96 43 P st G = pm_go pm_sC 96 G (pm_oCv pm_sC 14 1 2 0 46 P st G) := pm_dn_eq (i := .invokevirtual 104) (len := 3) rfl
theorem u_96_46 (P : PL) (st : List PV) (G : PW) : pm_dn pm_sC 96 46 P st G = pm_go pm_sC 96 G (pm_oIf .ne (some 87) 49 P st G) := pm_dn_eq (i := .ifCond .ne 41) (len := 3) rfl
theorem u_96_49 (P : PL) (st : List PV) (G : PW) : pm_dn pm_sC 96 49 P st G = pm_go pm_sC 96 G (pm_oAL 0 50 P st G) := pm_dn_eq (i := .aload_n 0) (len := 1) rfl
theorem u_96_50 (P : PL) (st : List PV) (G : PW) : pm_dn pm_sC 96 50 P st G = pm_go pm_sC 96 G (pm_oGf pm_sC 5 2 53 P st G) := pm_dn_eq (i := .getfield 19) (len := 3) rfl
theorem u_96_53 (P : PL) (st : List PV) (G : PW) : pm_dn pm_sC 96 53 P st G = pm_go pm_sC 96 G (pm_oIL 5 55 P st G) := pm_dn_eq (i := .iload 5) (len := 2) rfl
theorem u_96_55 (P : PL) (st : List PV) (G : PW) : pm_dn pm_sC 96 55 P st G = pm_go pm_sC 96 G (pm_oCv pm_sC 22 1 4 0 58 P st G) := pm_dn_eq (i := .invokevirtual 147) (len := 3) rfl
theorem u_96_58 (P : PL) (st : List PV) (G : PW) : pm_dn pm_sC 96 58 P st G = pm_go pm_sC 96 G (pm_oIS 6 60 P st G) := pm_dn_eq (i := .istore 6) (len := 2) rfl
theorem u_96_60 (P : PL) (st : List PV) (G : PW) : pm_dn pm_sC 96 60 P st G = pm_go pm_sC 96 G (pm_oInc 2 1 63 P st G) := pm_dn_eq (i := .iinc 2 1) (len := 3) rfl
theorem u_96_63 (P : PL) (st : List PV) (G : PW) : pm_dn pm_sC 96 63 P st G = pm_go pm_sC 96 G (pm_oIL 3 64 P st G) := pm_dn_eq (i := .iload_n 3) (len := 1) rfl
theorem u_96_64 (P : PL) (st : List PV) (G : PW) : pm_dn pm_sC 96 64 P st G = pm_go pm_sC 96 G (pm_oK 2 65 P st G) := pm_dn_eq (i := .iconst 2) (len := 1) rfl
theorem u_96_65 (P : PL) (st : List PV) (G : PW) : pm_dn pm_sC 96 65 P st G = pm_go pm_sC 96 G (pm_oIL 6 67 P st G) := pm_dn_eq (i := .iload 6) (len := 2) rfl
theorem u_96_67 (P : PL) (st : List PV) (G : PW) : pm_dn pm_sC 96 67 P st G = pm_go pm_sC 96 G (pm_oSub 68 P st G) := pm_dn_eq (i := .isub) (len := 1) rfl
theorem u_96_68 (P : PL) (st : List PV) (G : PW) : pm_dn pm_sC 96 68 P st G = pm_go pm_sC 96 G (pm_oAdd 69 P st G) := pm_dn_eq (i := .iadd) (len := 1) rfl
theorem u_96_69 (P : PL) (st : List PV) (G : PW) : pm_dn pm_sC 96 69 P st G = pm_go pm_sC 96 G (pm_oIS 3 70 P st G) := pm_dn_eq (i := .istore_n 3) (len := 1) rfl
theorem u_96_70 (P : PL) (st : List PV) (G : PW) : pm_dn pm_sC 96 70 P st G = pm_go pm_sC 96 G (pm_oIL 4 72 P st G) := pm_dn_eq (i := .iload 4) (len := 2) rfl
theorem u_96_72 (P : PL) (st : List PV) (G : PW) : pm_dn pm_sC 96 72 P st G = pm_go pm_sC 96 G (pm_oIf .ne (some 80) 75 P st G) := pm_dn_eq (i := .ifCond .ne 8) (len := 3) rfl
theorem u_96_75 (P : PL) (st : List PV) (G : PW) : pm_dn pm_sC 96 75 P st G = pm_go pm_sC 96 G (pm_oIL 6 77 P st G) := pm_dn_eq (i := .iload 6) (len := 2) rfl
theorem u_96_77 (P : PL) (st : List PV) (G : PW) : pm_dn pm_sC 96 77 P st G = pm_go pm_sC 96 G (pm_oIf .ne (some 84) 80 P st G) := pm_dn_eq (i := .ifCond .ne 7) (len := 3) rfl
theorem u_96_80 (P : PL) (st : List PV) (G : PW) : pm_dn pm_sC 96 80 P st G = pm_go pm_sC 96 G (pm_oK 1 81 P st G) := pm_dn_eq (i := .iconst 1) (len := 1) rfl
theorem u_96_81 (P : PL) (st : List PV) (G : PW) : pm_dn pm_sC 96 81 P st G = pm_go pm_sC 96 G (pm_oGo (some 85) P st G) := pm_dn_eq (i := .goto 4) (len := 3) rfl
theorem u_96_84 (P : PL) (st : List PV) (G : PW) : pm_dn pm_sC 96 84 P st G = pm_go pm_sC 96 G (pm_oK 0 85 P st G) := pm_dn_eq (i := .iconst 0) (len := 1) rfl
theorem u_96_85 (P : PL) (st : List PV) (G : PW) : pm_dn pm_sC 96 85 P st G = pm_go pm_sC 96 G (pm_oIS 4 87 P st G) := pm_dn_eq (i := .istore 4) (len := 2) rfl
theorem u_96_87 (P : PL) (st : List PV) (G : PW) : pm_dn pm_sC 96 87 P st G = pm_go pm_sC 96 G (pm_oInc 5 1 90 P st G) := pm_dn_eq (i := .iinc 5 1) (len := 3) rfl
theorem u_96_90 (P : PL) (st : List PV) (G : PW) : pm_dn pm_sC 96 90 P st G = pm_go pm_sC 96 G (pm_oGo (some 10) P st G) := pm_dn_eq (i := .goto (-80)) (len := 3) rfl
theorem u_96_93 (P : PL) (st : List PV) (G : PW) : pm_dn pm_sC 96 93 P st G = pm_go pm_sC 96 G (pm_oIL 2 94 P st G) := pm_dn_eq (i := .iload_n 2) (len := 1) rfl
theorem u_96_94 (P : PL) (st : List PV) (G : PW) : pm_dn pm_sC 96 94 P st G = pm_go pm_sC 96 G (pm_oK 2 95 P st G) := pm_dn_eq (i := .iconst 2) (len := 1) rfl
theorem u_96_95 (P : PL) (st : List PV) (G : PW) : pm_dn pm_sC 96 95 P st G = pm_go pm_sC 96 G (pm_oIc .ge (some 100) 98 P st G) := pm_dn_eq (i := .if_icmp .ge 5) (len := 3) rfl
theorem u_96_98 (P : PL) (st : List PV) (G : PW) : pm_dn pm_sC 96 98 P st G = pm_go pm_sC 96 G (pm_oK 0 99 P st G) := pm_dn_eq (i := .iconst 0) (len := 1) rfl
theorem u_96_99 (P : PL) (st : List PV) (G : PW) : pm_dn pm_sC 96 99 P st G = pm_go pm_sC 96 G (pm_oRi 0 P st G) := pm_dn_eq (i := .ireturn) (len := 1) rfl
theorem u_96_100 (P : PL) (st : List PV) (G : PW) : pm_dn pm_sC 96 100 P st G = pm_go pm_sC 96 G (pm_oIL 3 101 P st G) := pm_dn_eq (i := .iload_n 3) (len := 1) rfl
theorem u_96_101 (P : PL) (st : List PV) (G : PW) : pm_dn pm_sC 96 101 P st G = pm_go pm_sC 96 G (pm_oIL 4 103 P st G) := pm_dn_eq (i := .iload 4) (len := 2) rfl
theorem u_96_103 (P : PL) (st : List PV) (G : PW) : pm_dn pm_sC 96 103 P st G = pm_go pm_sC 96 G (pm_oIf .eq (some 114) 106 P st G) := pm_dn_eq (i := .ifCond .eq 11) (len := 3) rfl
theorem u_96_106 (P : PL) (st : List PV) (G : PW) : pm_dn pm_sC 96 106 P st G = pm_go pm_sC 96 G (pm_oIL 1 107 P st G) := pm_dn_eq (i := .iload_n 1) (len := 1) rfl
theorem u_96_107 (P : PL) (st : List PV) (G : PW) : pm_dn pm_sC 96 107 P st G = pm_go pm_sC 96 G (pm_oIf .ne (some 114) 110 P st G) := pm_dn_eq (i := .ifCond .ne 7) (len := 3) rfl
theorem u_96_110 (P : PL) (st : List PV) (G : PW) : pm_dn pm_sC 96 110 P st G = pm_go pm_sC 96 G (pm_oK 2 111 P st G) := pm_dn_eq (i := .iconst 2) (len := 1) rfl
theorem u_96_111 (P : PL) (st : List PV) (G : PW) : pm_dn pm_sC 96 111 P st G = pm_go pm_sC 96 G (pm_oGo (some 115) P st G) := pm_dn_eq (i := .goto 4) (len := 3) rfl
theorem u_96_114 (P : PL) (st : List PV) (G : PW) : pm_dn pm_sC 96 114 P st G = pm_go pm_sC 96 G (pm_oK 1 115 P st G) := pm_dn_eq (i := .iconst 1) (len := 1) rfl
theorem u_96_115 (P : PL) (st : List PV) (G : PW) : pm_dn pm_sC 96 115 P st G = pm_go pm_sC 96 G (pm_oSub 116 P st G) := pm_dn_eq (i := .isub) (len := 1) rfl
theorem u_96_116 (P : PL) (st : List PV) (G : PW) : pm_dn pm_sC 96 116 P st G = pm_go pm_sC 96 G (pm_oRi 0 P st G) := pm_dn_eq (i := .ireturn) (len := 1) rfl
theorem ue_97 (a0 : Nat) (a1 : Int) (G : PW) : pm_ca pm_sC 97 [.inr (.inr a0), .inl a1] G = pm_dn pm_sC 97 0 [some (.inr (.inr a0)), some (.inl a1), none, none, none, none] [] G := rfl
theorem u_97_0 (P : PL) (st : List PV) (G : PW) : pm_dn pm_sC 97 0 P st G = pm_go pm_sC 97 G (pm_oAL 0 1 P st G) := pm_dn_eq (i := .aload_n 0) (len := 1) rfl
theorem u_97_1 (P : PL) (st : List PV) (G : PW) : pm_dn pm_sC 97 1 P st G = pm_go pm_sC 97 G (pm_oGf pm_sC 5 3 4 P st G) := pm_dn_eq (i := .getfield 23) (len := 3) rfl
theorem u_97_4 (P : PL) (st : List PV) (G : PW) : pm_dn pm_sC 97 4 P st G = pm_go pm_sC 97 G (pm_oAL 0 5 P st G) := pm_dn_eq (i := .aload_n 0) (len := 1) rfl
theorem u_97_5 (P : PL) (st : List PV) (G : PW) : pm_dn pm_sC 97 5 P st G = pm_go pm_sC 97 G (pm_oGf pm_sC 5 2 8 P st G) := pm_dn_eq (i := .getfield 19) (len := 3) rfl
theorem u_97_8 (P : PL) (st : List PV) (G : PW) : pm_dn pm_sC 97 8 P st G = pm_go pm_sC 97 G (pm_oCv pm_sC 1 1 2 0 11 P st G) := pm_dn_eq (i := .invokevirtual 198) (len := 3) rfl
theorem u_97_11 (P : PL) (st : List PV) (G : PW) : pm_dn pm_sC 97 11 P st G = pm_go pm_sC 97 G (pm_oK 0 12 P st G) := pm_dn_eq (i := .iconst 0) (len := 1) rfl
theorem u_97_12 (P : PL) (st : List PV) (G : PW) : pm_dn pm_sC 97 12 P st G = pm_go pm_sC 97 G (pm_oIS 2 13 P st G) := pm_dn_eq (i := .istore_n 2) (len := 1) rfl
theorem u_97_13 (P : PL) (st : List PV) (G : PW) : pm_dn pm_sC 97 13 P st G = pm_go pm_sC 97 G (pm_oK 0 14 P st G) := pm_dn_eq (i := .iconst 0) (len := 1) rfl
theorem u_97_14 (P : PL) (st : List PV) (G : PW) : pm_dn pm_sC 97 14 P st G = pm_go pm_sC 97 G (pm_oIS 3 15 P st G) := pm_dn_eq (i := .istore_n 3) (len := 1) rfl
theorem u_97_15 (P : PL) (st : List PV) (G : PW) : pm_dn pm_sC 97 15 P st G = pm_go pm_sC 97 G (pm_oIL 3 16 P st G) := pm_dn_eq (i := .iload_n 3) (len := 1) rfl
theorem u_97_16 (P : PL) (st : List PV) (G : PW) : pm_dn pm_sC 97 16 P st G = pm_go pm_sC 97 G (pm_oAL 0 17 P st G) := pm_dn_eq (i := .aload_n 0) (len := 1) rfl
theorem u_97_17 (P : PL) (st : List PV) (G : PW) : pm_dn pm_sC 97 17 P st G = pm_go pm_sC 97 G (pm_oGf pm_sC 5 3 20 P st G) := pm_dn_eq (i := .getfield 23) (len := 3) rfl
theorem u_97_20 (P : PL) (st : List PV) (G : PW) : pm_dn pm_sC 97 20 P st G = pm_go pm_sC 97 G (pm_oGf pm_sC 0 0 23 P st G) := pm_dn_eq (i := .getfield 60) (len := 3) rfl
theorem u_97_23 (P : PL) (st : List PV) (G : PW) : pm_dn pm_sC 97 23 P st G = pm_go pm_sC 97 G (pm_oGf pm_sC 3 4 26 P st G) := pm_dn_eq (i := .getfield 64) (len := 3) rfl
theorem u_97_26 (P : PL) (st : List PV) (G : PW) : pm_dn pm_sC 97 26 P st G = pm_go pm_sC 97 G (pm_oIc .ge (some 116) 29 P st G) := pm_dn_eq (i := .if_icmp .ge 90) (len := 3) rfl
theorem u_97_29 (P : PL) (st : List PV) (G : PW) : pm_dn pm_sC 97 29 P st G = pm_go pm_sC 97 G (pm_oAL 0 30 P st G) := pm_dn_eq (i := .aload_n 0) (len := 1) rfl
theorem u_97_30 (P : PL) (st : List PV) (G : PW) : pm_dn pm_sC 97 30 P st G = pm_go pm_sC 97 G (pm_oGf pm_sC 5 3 33 P st G) := pm_dn_eq (i := .getfield 23) (len := 3) rfl
theorem u_97_33 (P : PL) (st : List PV) (G : PW) : pm_dn pm_sC 97 33 P st G = pm_go pm_sC 97 G (pm_oIL 3 34 P st G) := pm_dn_eq (i := .iload_n 3) (len := 1) rfl
theorem u_97_34 (P : PL) (st : List PV) (G : PW) : pm_dn pm_sC 97 34 P st G = pm_go pm_sC 97 G (pm_oCv pm_sC 11 1 5 0 37 P st G) := pm_dn_eq (i := .invokevirtual 290) (len := 3) rfl
theorem u_97_37 (P : PL) (st : List PV) (G : PW) : pm_dn pm_sC 97 37 P st G = pm_go pm_sC 97 G (pm_oAL 0 38 P st G) := pm_dn_eq (i := .aload_n 0) (len := 1) rfl
theorem u_97_38 (P : PL) (st : List PV) (G : PW) : pm_dn pm_sC 97 38 P st G = pm_go pm_sC 97 G (pm_oGf pm_sC 5 3 41 P st G) := pm_dn_eq (i := .getfield 23) (len := 3) rfl
theorem u_97_41 (P : PL) (st : List PV) (G : PW) : pm_dn pm_sC 97 41 P st G = pm_go pm_sC 97 G (pm_oIL 3 42 P st G) := pm_dn_eq (i := .iload_n 3) (len := 1) rfl
theorem u_97_42 (P : PL) (st : List PV) (G : PW) : pm_dn pm_sC 97 42 P st G = pm_go pm_sC 97 G (pm_oCv pm_sC 9 1 2 0 45 P st G) := pm_dn_eq (i := .invokevirtual 84) (len := 3) rfl
theorem u_97_45 (P : PL) (st : List PV) (G : PW) : pm_dn pm_sC 97 45 P st G = pm_go pm_sC 97 G (pm_oIf .eq (some 110) 48 P st G) := pm_dn_eq (i := .ifCond .eq 65) (len := 3) rfl
theorem u_97_48 (P : PL) (st : List PV) (G : PW) : pm_dn pm_sC 97 48 P st G = pm_go pm_sC 97 G (pm_oAL 0 49 P st G) := pm_dn_eq (i := .aload_n 0) (len := 1) rfl
theorem u_97_49 (P : PL) (st : List PV) (G : PW) : pm_dn pm_sC 97 49 P st G = pm_go pm_sC 97 G (pm_oIL 3 50 P st G) := pm_dn_eq (i := .iload_n 3) (len := 1) rfl
theorem u_97_50 (P : PL) (st : List PV) (G : PW) : pm_dn pm_sC 97 50 P st G = pm_go pm_sC 97 G (pm_oCv pm_sC 99 1 5 5 53 P st G) := pm_dn_eq (i := .invokevirtual 293) (len := 3) rfl
theorem u_97_53 (P : PL) (st : List PV) (G : PW) : pm_dn pm_sC 97 53 P st G = pm_go pm_sC 97 G (pm_oIS 4 55 P st G) := pm_dn_eq (i := .istore 4) (len := 2) rfl
theorem u_97_55 (P : PL) (st : List PV) (G : PW) : pm_dn pm_sC 97 55 P st G = pm_go pm_sC 97 G (pm_oIL 1 56 P st G) := pm_dn_eq (i := .iload_n 1) (len := 1) rfl
theorem u_97_56 (P : PL) (st : List PV) (G : PW) : pm_dn pm_sC 97 56 P st G = pm_go pm_sC 97 G (pm_oAL 0 57 P st G) := pm_dn_eq (i := .aload_n 0) (len := 1) rfl
theorem u_97_57 (P : PL) (st : List PV) (G : PW) : pm_dn pm_sC 97 57 P st G = pm_go pm_sC 97 G (pm_oGf pm_sC 5 3 60 P st G) := pm_dn_eq (i := .getfield 23) (len := 3) rfl
theorem u_97_60 (P : PL) (st : List PV) (G : PW) : pm_dn pm_sC 97 60 P st G = pm_go pm_sC 97 G (pm_oIL 3 61 P st G) := pm_dn_eq (i := .iload_n 3) (len := 1) rfl
theorem u_97_61 (P : PL) (st : List PV) (G : PW) : pm_dn pm_sC 97 61 P st G = pm_go pm_sC 97 G (pm_oK 1 62 P st G) := pm_dn_eq (i := .iconst 1) (len := 1) rfl
theorem u_97_62 (P : PL) (st : List PV) (G : PW) : pm_dn pm_sC 97 62 P st G = pm_go pm_sC 97 G (pm_oIL 4 64 P st G) := pm_dn_eq (i := .iload 4) (len := 2) rfl
theorem u_97_64 (P : PL) (st : List PV) (G : PW) : pm_dn pm_sC 97 64 P st G = pm_go pm_sC 97 G (pm_oSub 65 P st G) := pm_dn_eq (i := .isub) (len := 1) rfl
theorem u_97_65 (P : PL) (st : List PV) (G : PW) : pm_dn pm_sC 97 65 P st G = pm_go pm_sC 97 G (pm_oCv pm_sC 5 2 3 0 68 P st G) := pm_dn_eq (i := .invokevirtual 87) (len := 3) rfl
theorem u_97_68 (P : PL) (st : List PV) (G : PW) : pm_dn pm_sC 97 68 P st G = pm_go pm_sC 97 G (pm_oIc .ne (some 78) 71 P st G) := pm_dn_eq (i := .if_icmp .ne 10) (len := 3) rfl
theorem u_97_71 (P : PL) (st : List PV) (G : PW) : pm_dn pm_sC 97 71 P st G = pm_go pm_sC 97 G (pm_oK 1 72 P st G) := pm_dn_eq (i := .iconst 1) (len := 1) rfl
theorem u_97_72 (P : PL) (st : List PV) (G : PW) : pm_dn pm_sC 97 72 P st G = pm_go pm_sC 97 G (pm_oIL 4 74 P st G) := pm_dn_eq (i := .iload 4) (len := 2) rfl
theorem u_97_74 (P : PL) (st : List PV) (G : PW) : pm_dn pm_sC 97 74 P st G = pm_go pm_sC 97 G (pm_oSub 75 P st G) := pm_dn_eq (i := .isub) (len := 1) rfl
theorem u_97_75 (P : PL) (st : List PV) (G : PW) : pm_dn pm_sC 97 75 P st G = pm_go pm_sC 97 G (pm_oGo (some 80) P st G) := pm_dn_eq (i := .goto 5) (len := 3) rfl
theorem u_97_78 (P : PL) (st : List PV) (G : PW) : pm_dn pm_sC 97 78 P st G = pm_go pm_sC 97 G (pm_oIL 4 80 P st G) := pm_dn_eq (i := .iload 4) (len := 2) rfl
theorem u_97_80 (P : PL) (st : List PV) (G : PW) : pm_dn pm_sC 97 80 P st G = pm_go pm_sC 97 G (pm_oIS 5 82 P st G) := pm_dn_eq (i := .istore 5) (len := 2) rfl
theorem u_97_82 (P : PL) (st : List PV) (G : PW) : pm_dn pm_sC 97 82 P st G = pm_go pm_sC 97 G (pm_oIL 5 84 P st G) := pm_dn_eq (i := .iload 5) (len := 2) rfl
theorem u_97_84 (P : PL) (st : List PV) (G : PW) : pm_dn pm_sC 97 84 P st G = pm_go pm_sC 97 G (pm_oIL 4 86 P st G) := pm_dn_eq (i := .iload 4) (len := 2) rfl
theorem u_97_86 (P : PL) (st : List PV) (G : PW) : pm_dn pm_sC 97 86 P st G = pm_go pm_sC 97 G (pm_oIc .eq (some 92) 89 P st G) := pm_dn_eq (i := .if_icmp .eq 6) (len := 3) rfl
theorem u_97_89 (P : PL) (st : List PV) (G : PW) : pm_dn pm_sC 97 89 P st G = pm_go pm_sC 97 G (pm_oInc 2 1 92 P st G) := pm_dn_eq (i := .iinc 2 1) (len := 3) rfl
theorem u_97_92 (P : PL) (st : List PV) (G : PW) : pm_dn pm_sC 97 92 P st G = pm_go pm_sC 97 G (pm_oAL 0 93 P st G) := pm_dn_eq (i := .aload_n 0) (len := 1) rfl
theorem u_97_93 (P : PL) (st : List PV) (G : PW) : pm_dn pm_sC 97 93 P st G = pm_go pm_sC 97 G (pm_oGf pm_sC 5 3 96 P st G) := pm_dn_eq (i := .getfield 23) (len := 3) rfl
theorem u_97_96 (P : PL) (st : List PV) (G : PW) : pm_dn pm_sC 97 96 P st G = pm_go pm_sC 97 G (pm_oIL 3 97 P st G) := pm_dn_eq (i := .iload_n 3) (len := 1) rfl
theorem u_97_97 (P : PL) (st : List PV) (G : PW) : pm_dn pm_sC 97 97 P st G = pm_go pm_sC 97 G (pm_oIL 5 99 P st G) := pm_dn_eq (i := .iload 5) (len := 2) rfl
theorem u_97_99 (P : PL) (st : List PV) (G : PW) : pm_dn pm_sC 97 99 P st G = pm_go pm_sC 97 G (pm_oCv pm_sC 2 2 3 0 102 P st G) := pm_dn_eq (i := .invokevirtual 278) (len := 3) rfl
theorem u_97_102 (P : PL) (st : List PV) (G : PW) : pm_dn pm_sC 97 102 P st G = pm_go pm_sC 97 G (pm_oAL 0 103 P st G) := pm_dn_eq (i := .aload_n 0) (len := 1) rfl
theorem u_97_103 (P : PL) (st : List PV) (G : PW) : pm_dn pm_sC 97 103 P st G = pm_go pm_sC 97 G (pm_oGf pm_sC 5 3 106 P st G) := pm_dn_eq (i := .getfield 23) (len := 3) rfl
theorem u_97_106 (P : PL) (st : List PV) (G : PW) : pm_dn pm_sC 97 106 P st G = pm_go pm_sC 97 G (pm_oIL 3 107 P st G) := pm_dn_eq (i := .iload_n 3) (len := 1) rfl
theorem u_97_107 (P : PL) (st : List PV) (G : PW) : pm_dn pm_sC 97 107 P st G = pm_go pm_sC 97 G (pm_oCv pm_sC 11 1 5 0 110 P st G) := pm_dn_eq (i := .invokevirtual 290) (len := 3) rfl
theorem u_97_110 (P : PL) (st : List PV) (G : PW) : pm_dn pm_sC 97 110 P st G = pm_go pm_sC 97 G (pm_oInc 3 1 113 P st G) := pm_dn_eq (i := .iinc 3 1) (len := 3) rfl
theorem u_97_113 (P : PL) (st : List PV) (G : PW) : pm_dn pm_sC 97 113 P st G = pm_go pm_sC 97 G (pm_oGo (some 15) P st G) := pm_dn_eq (i := .goto (-98)) (len := 3) rfl
theorem u_97_116 (P : PL) (st : List PV) (G : PW) : pm_dn pm_sC 97 116 P st G = pm_go pm_sC 97 G (pm_oIL 2 117 P st G) := pm_dn_eq (i := .iload_n 2) (len := 1) rfl
theorem u_97_117 (P : PL) (st : List PV) (G : PW) : pm_dn pm_sC 97 117 P st G = pm_go pm_sC 97 G (pm_oRi 0 P st G) := pm_dn_eq (i := .ireturn) (len := 1) rfl
theorem ue_98 (a0 : Nat) (a1 : Int) (G : PW) : pm_ca pm_sC 98 [.inr (.inr a0), .inl a1] G = pm_dn pm_sC 98 0 [some (.inr (.inr a0)), some (.inl a1), none, none, none] [] G := rfl
theorem u_98_0 (P : PL) (st : List PV) (G : PW) : pm_dn pm_sC 98 0 P st G = pm_go pm_sC 98 G (pm_oK 0 1 P st G) := pm_dn_eq (i := .iconst 0) (len := 1) rfl
theorem u_98_1 (P : PL) (st : List PV) (G : PW) : pm_dn pm_sC 98 1 P st G = pm_go pm_sC 98 G (pm_oIS 2 2 P st G) := pm_dn_eq (i := .istore_n 2) (len := 1) rfl
theorem u_98_2 (P : PL) (st : List PV) (G : PW) : pm_dn pm_sC 98 2 P st G = pm_go pm_sC 98 G (pm_oK 0 3 P st G) := pm_dn_eq (i := .iconst 0) (len := 1) rfl
theorem u_98_3 (P : PL) (st : List PV) (G : PW) : pm_dn pm_sC 98 3 P st G = pm_go pm_sC 98 G (pm_oIS 3 4 P st G) := pm_dn_eq (i := .istore_n 3) (len := 1) rfl
theorem u_98_4 (P : PL) (st : List PV) (G : PW) : pm_dn pm_sC 98 4 P st G = pm_go pm_sC 98 G (pm_oIL 3 5 P st G) := pm_dn_eq (i := .iload_n 3) (len := 1) rfl
theorem u_98_5 (P : PL) (st : List PV) (G : PW) : pm_dn pm_sC 98 5 P st G = pm_go pm_sC 98 G (pm_oAL 0 6 P st G) := pm_dn_eq (i := .aload_n 0) (len := 1) rfl
theorem u_98_6 (P : PL) (st : List PV) (G : PW) : pm_dn pm_sC 98 6 P st G = pm_go pm_sC 98 G (pm_oGf pm_sC 5 3 9 P st G) := pm_dn_eq (i := .getfield 23) (len := 3) rfl
theorem u_98_9 (P : PL) (st : List PV) (G : PW) : pm_dn pm_sC 98 9 P st G = pm_go pm_sC 98 G (pm_oGf pm_sC 0 0 12 P st G) := pm_dn_eq (i := .getfield 60) (len := 3) rfl
theorem u_98_12 (P : PL) (st : List PV) (G : PW) : pm_dn pm_sC 98 12 P st G = pm_go pm_sC 98 G (pm_oGf pm_sC 3 4 15 P st G) := pm_dn_eq (i := .getfield 64) (len := 3) rfl
theorem u_98_15 (P : PL) (st : List PV) (G : PW) : pm_dn pm_sC 98 15 P st G = pm_go pm_sC 98 G (pm_oIc .ge (some 52) 18 P st G) := pm_dn_eq (i := .if_icmp .ge 37) (len := 3) rfl
theorem u_98_18 (P : PL) (st : List PV) (G : PW) : pm_dn pm_sC 98 18 P st G = pm_go pm_sC 98 G (pm_oIL 2 19 P st G) := pm_dn_eq (i := .iload_n 2) (len := 1) rfl
theorem u_98_19 (P : PL) (st : List PV) (G : PW) : pm_dn pm_sC 98 19 P st G = pm_go pm_sC 98 G (pm_oIL 1 20 P st G) := pm_dn_eq (i := .iload_n 1) (len := 1) rfl
theorem u_98_20 (P : PL) (st : List PV) (G : PW) : pm_dn pm_sC 98 20 P st G = pm_go pm_sC 98 G (pm_oIc .ge (some 52) 23 P st G) := pm_dn_eq (i := .if_icmp .ge 32) (len := 3) rfl
theorem u_98_23 (P : PL) (st : List PV) (G : PW) : pm_dn pm_sC 98 23 P st G = pm_go pm_sC 98 G (pm_oAL 0 24 P st G) := pm_dn_eq (i := .aload_n 0) (len := 1) rfl
theorem u_98_24 (P : PL) (st : List PV) (G : PW) : pm_dn pm_sC 98 24 P st G = pm_go pm_sC 98 G (pm_oGf pm_sC 5 3 27 P st G) := pm_dn_eq (i := .getfield 23) (len := 3) rfl
theorem u_98_27 (P : PL) (st : List PV) (G : PW) : pm_dn pm_sC 98 27 P st G = pm_go pm_sC 98 G (pm_oIL 3 28 P st G) := pm_dn_eq (i := .iload_n 3) (len := 1) rfl
theorem u_98_28 (P : PL) (st : List PV) (G : PW) : pm_dn pm_sC 98 28 P st G = pm_go pm_sC 98 G (pm_oCv pm_sC 9 1 2 0 31 P st G) := pm_dn_eq (i := .invokevirtual 84) (len := 3) rfl
theorem u_98_31 (P : PL) (st : List PV) (G : PW) : pm_dn pm_sC 98 31 P st G = pm_go pm_sC 98 G (pm_oIf .eq (some 46) 34 P st G) := pm_dn_eq (i := .ifCond .eq 15) (len := 3) rfl
theorem u_98_34 (P : PL) (st : List PV) (G : PW) : pm_dn pm_sC 98 34 P st G = pm_go pm_sC 98 G (pm_oAL 0 35 P st G) := pm_dn_eq (i := .aload_n 0) (len := 1) rfl
theorem u_98_35 (P : PL) (st : List PV) (G : PW) : pm_dn pm_sC 98 35 P st G = pm_go pm_sC 98 G (pm_oGf pm_sC 5 1 38 P st G) := pm_dn_eq (i := .getfield 13) (len := 3) rfl
theorem u_98_38 (P : PL) (st : List PV) (G : PW) : pm_dn pm_sC 98 38 P st G = pm_go pm_sC 98 G (pm_oIL 2 39 P st G) := pm_dn_eq (i := .iload_n 2) (len := 1) rfl
theorem u_98_39 (P : PL) (st : List PV) (G : PW) : pm_dn pm_sC 98 39 P st G = pm_go pm_sC 98 G (pm_oIL 3 40 P st G) := pm_dn_eq (i := .iload_n 3) (len := 1) rfl
theorem u_98_40 (P : PL) (st : List PV) (G : PW) : pm_dn pm_sC 98 40 P st G = pm_go pm_sC 98 G (pm_oCs 104 3 3 43 P st G) := pm_dn_eq (i := .invokestatic 296) (len := 3) rfl
theorem u_98_43 (P : PL) (st : List PV) (G : PW) : pm_dn pm_sC 98 43 P st G = pm_go pm_sC 98 G (pm_oInc 2 1 46 P st G) := pm_dn_eq (i := .iinc 2 1) (len := 3) rfl
theorem u_98_46 (P : PL) (st : List PV) (G : PW) : pm_dn pm_sC 98 46 P st G = pm_go pm_sC 98 G (pm_oInc 3 1 49 P st G) := pm_dn_eq (i := .iinc 3 1) (len := 3) rfl
theorem u_98_49 (P : PL) (st : List PV) (G : PW) : pm_dn pm_sC 98 49 P st G = pm_go pm_sC 98 G (pm_oGo (some 4) P st G) := pm_dn_eq (i := .goto (-45)) (len := 3) rfl
theorem u_98_52 (P : PL) (st : List PV) (G : PW) : pm_dn pm_sC 98 52 P st G = pm_go pm_sC 98 G (pm_oK 0 53 P st G) := pm_dn_eq (i := .iconst 0) (len := 1) rfl
theorem u_98_53 (P : PL) (st : List PV) (G : PW) : pm_dn pm_sC 98 53 P st G = pm_go pm_sC 98 G (pm_oIS 3 54 P st G) := pm_dn_eq (i := .istore_n 3) (len := 1) rfl
theorem u_98_54 (P : PL) (st : List PV) (G : PW) : pm_dn pm_sC 98 54 P st G = pm_go pm_sC 98 G (pm_oIL 3 55 P st G) := pm_dn_eq (i := .iload_n 3) (len := 1) rfl
theorem u_98_55 (P : PL) (st : List PV) (G : PW) : pm_dn pm_sC 98 55 P st G = pm_go pm_sC 98 G (pm_oIL 2 56 P st G) := pm_dn_eq (i := .iload_n 2) (len := 1) rfl
theorem u_98_56 (P : PL) (st : List PV) (G : PW) : pm_dn pm_sC 98 56 P st G = pm_go pm_sC 98 G (pm_oIc .ge (some 90) 59 P st G) := pm_dn_eq (i := .if_icmp .ge 34) (len := 3) rfl
theorem u_98_59 (P : PL) (st : List PV) (G : PW) : pm_dn pm_sC 98 59 P st G = pm_go pm_sC 98 G (pm_oAL 0 60 P st G) := pm_dn_eq (i := .aload_n 0) (len := 1) rfl
theorem u_98_60 (P : PL) (st : List PV) (G : PW) : pm_dn pm_sC 98 60 P st G = pm_go pm_sC 98 G (pm_oGf pm_sC 5 1 63 P st G) := pm_dn_eq (i := .getfield 13) (len := 3) rfl
theorem u_98_63 (P : PL) (st : List PV) (G : PW) : pm_dn pm_sC 98 63 P st G = pm_go pm_sC 98 G (pm_oIL 3 64 P st G) := pm_dn_eq (i := .iload_n 3) (len := 1) rfl
theorem u_98_64 (P : PL) (st : List PV) (G : PW) : pm_dn pm_sC 98 64 P st G = pm_go pm_sC 98 G (pm_oCs 103 2 2 67 P st G) := pm_dn_eq (i := .invokestatic 122) (len := 3) rfl
theorem u_98_67 (P : PL) (st : List PV) (G : PW) : pm_dn pm_sC 98 67 P st G = pm_go pm_sC 98 G (pm_oIS 4 69 P st G) := pm_dn_eq (i := .istore 4) (len := 2) rfl
theorem u_98_69 (P : PL) (st : List PV) (G : PW) : pm_dn pm_sC 98 69 P st G = pm_go pm_sC 98 G (pm_oAL 0 70 P st G) := pm_dn_eq (i := .aload_n 0) (len := 1) rfl
theorem u_98_70 (P : PL) (st : List PV) (G : PW) : pm_dn pm_sC 98 70 P st G = pm_go pm_sC 98 G (pm_oGf pm_sC 5 3 73 P st G) := pm_dn_eq (i := .getfield 23) (len := 3) rfl
theorem u_98_73 (P : PL) (st : List PV) (G : PW) : pm_dn pm_sC 98 73 P st G = pm_go pm_sC 98 G (pm_oIL 4 75 P st G) := pm_dn_eq (i := .iload 4) (len := 2) rfl
theorem u_98_75 (P : PL) (st : List PV) (G : PW) : pm_dn pm_sC 98 75 P st G = pm_go pm_sC 98 G (pm_oAL 0 76 P st G) := pm_dn_eq (i := .aload_n 0) (len := 1) rfl
theorem u_98_76 (P : PL) (st : List PV) (G : PW) : pm_dn pm_sC 98 76 P st G = pm_go pm_sC 98 G (pm_oIL 4 78 P st G) := pm_dn_eq (i := .iload 4) (len := 2) rfl
theorem u_98_78 (P : PL) (st : List PV) (G : PW) : pm_dn pm_sC 98 78 P st G = pm_go pm_sC 98 G (pm_oCv pm_sC 99 1 5 5 81 P st G) := pm_dn_eq (i := .invokevirtual 293) (len := 3) rfl
theorem u_98_81 (P : PL) (st : List PV) (G : PW) : pm_dn pm_sC 98 81 P st G = pm_go pm_sC 98 G (pm_oCv pm_sC 2 2 3 0 84 P st G) := pm_dn_eq (i := .invokevirtual 278) (len := 3) rfl
theorem u_98_84 (P : PL) (st : List PV) (G : PW) : pm_dn pm_sC 98 84 P st G = pm_go pm_sC 98 G (pm_oInc 3 1 87 P st G) := pm_dn_eq (i := .iinc 3 1) (len := 3) rfl
theorem u_98_87 (P : PL) (st : List PV) (G : PW) : pm_dn pm_sC 98 87 P st G = pm_go pm_sC 98 G (pm_oGo (some 54) P st G) := pm_dn_eq (i := .goto (-33)) (len := 3) rfl
theorem u_98_90 (P : PL) (st : List PV) (G : PW) : pm_dn pm_sC 98 90 P st G = pm_go pm_sC 98 G (pm_oAL 0 91 P st G) := pm_dn_eq (i := .aload_n 0) (len := 1) rfl
theorem u_98_91 (P : PL) (st : List PV) (G : PW) : pm_dn pm_sC 98 91 P st G = pm_go pm_sC 98 G (pm_oGf pm_sC 5 3 94 P st G) := pm_dn_eq (i := .getfield 23) (len := 3) rfl
theorem u_98_94 (P : PL) (st : List PV) (G : PW) : pm_dn pm_sC 98 94 P st G = pm_go pm_sC 98 G (pm_oCv pm_sC 10 0 2 0 97 P st G) := pm_dn_eq (i := .invokevirtual 269) (len := 3) rfl
theorem u_98_97 (P : PL) (st : List PV) (G : PW) : pm_dn pm_sC 98 97 P st G = pm_go pm_sC 98 G (pm_oIL 2 98 P st G) := pm_dn_eq (i := .iload_n 2) (len := 1) rfl
theorem u_98_98 (P : PL) (st : List PV) (G : PW) : pm_dn pm_sC 98 98 P st G = pm_go pm_sC 98 G (pm_oIf .le (some 105) 101 P st G) := pm_dn_eq (i := .ifCond .le 7) (len := 3) rfl
theorem u_98_101 (P : PL) (st : List PV) (G : PW) : pm_dn pm_sC 98 101 P st G = pm_go pm_sC 98 G (pm_oK 1 102 P st G) := pm_dn_eq (i := .iconst 1) (len := 1) rfl
theorem u_98_102 (P : PL) (st : List PV) (G : PW) : pm_dn pm_sC 98 102 P st G = pm_go pm_sC 98 G (pm_oGo (some 106) P st G) := pm_dn_eq (i := .goto 4) (len := 3) rfl
theorem u_98_105 (P : PL) (st : List PV) (G : PW) : pm_dn pm_sC 98 105 P st G = pm_go pm_sC 98 G (pm_oK 0 106 P st G) := pm_dn_eq (i := .iconst 0) (len := 1) rfl
theorem u_98_106 (P : PL) (st : List PV) (G : PW) : pm_dn pm_sC 98 106 P st G = pm_go pm_sC 98 G (pm_oRi 2 P st G) := pm_dn_eq (i := .ireturn) (len := 1) rfl
theorem ue_99 (a0 : Nat) (a1 : Int) (G : PW) : pm_ca pm_sC 99 [.inr (.inr a0), .inl a1] G = pm_dn pm_sC 99 0 [some (.inr (.inr a0)), some (.inl a1), none, none, none] [] G := rfl
theorem u_99_0 (P : PL) (st : List PV) (G : PW) : pm_dn pm_sC 99 0 P st G = pm_go pm_sC 99 G (pm_oAL 0 1 P st G) := pm_dn_eq (i := .aload_n 0) (len := 1) rfl
theorem u_99_1 (P : PL) (st : List PV) (G : PW) : pm_dn pm_sC 99 1 P st G = pm_go pm_sC 99 G (pm_oGf pm_sC 5 3 4 P st G) := pm_dn_eq (i := .getfield 23) (len := 3) rfl
theorem u_99_4 (P : PL) (st : List PV) (G : PW) : pm_dn pm_sC 99 4 P st G = pm_go pm_sC 99 G (pm_oIL 1 5 P st G) := pm_dn_eq (i := .iload_n 1) (len := 1) rfl
theorem u_99_5 (P : PL) (st : List PV) (G : PW) : pm_dn pm_sC 99 5 P st G = pm_go pm_sC 99 G (pm_oK 0 6 P st G) := pm_dn_eq (i := .iconst 0) (len := 1) rfl
theorem u_99_6 (P : PL) (st : List PV) (G : PW) : pm_dn pm_sC 99 6 P st G = pm_go pm_sC 99 G (pm_oCv pm_sC 5 2 3 0 9 P st G) := pm_dn_eq (i := .invokevirtual 87) (len := 3) rfl
theorem u_99_9 (P : PL) (st : List PV) (G : PW) : pm_dn pm_sC 99 9 P st G = pm_go pm_sC 99 G (pm_oIS 2 10 P st G) := pm_dn_eq (i := .istore_n 2) (len := 1) rfl
theorem u_99_10 (P : PL) (st : List PV) (G : PW) : pm_dn pm_sC 99 10 P st G = pm_go pm_sC 99 G (pm_oAL 0 11 P st G) := pm_dn_eq (i := .aload_n 0) (len := 1) rfl
theorem u_99_11 (P : PL) (st : List PV) (G : PW) : pm_dn pm_sC 99 11 P st G = pm_go pm_sC 99 G (pm_oGf pm_sC 5 3 14 P st G) := pm_dn_eq (i := .getfield 23) (len := 3) rfl
theorem u_99_14 (P : PL) (st : List PV) (G : PW) : pm_dn pm_sC 99 14 P st G = pm_go pm_sC 99 G (pm_oIL 1 15 P st G) := pm_dn_eq (i := .iload_n 1) (len := 1) rfl
theorem u_99_15 (P : PL) (st : List PV) (G : PW) : pm_dn pm_sC 99 15 P st G = pm_go pm_sC 99 G (pm_oK 1 16 P st G) := pm_dn_eq (i := .iconst 1) (len := 1) rfl
theorem u_99_16 (P : PL) (st : List PV) (G : PW) : pm_dn pm_sC 99 16 P st G = pm_go pm_sC 99 G (pm_oCv pm_sC 5 2 3 0 19 P st G) := pm_dn_eq (i := .invokevirtual 87) (len := 3) rfl
theorem u_99_19 (P : PL) (st : List PV) (G : PW) : pm_dn pm_sC 99 19 P st G = pm_go pm_sC 99 G (pm_oIS 3 20 P st G) := pm_dn_eq (i := .istore_n 3) (len := 1) rfl
theorem u_99_20 (P : PL) (st : List PV) (G : PW) : pm_dn pm_sC 99 20 P st G = pm_go pm_sC 99 G (pm_oAL 0 21 P st G) := pm_dn_eq (i := .aload_n 0) (len := 1) rfl
theorem u_99_21 (P : PL) (st : List PV) (G : PW) : pm_dn pm_sC 99 21 P st G = pm_go pm_sC 99 G (pm_oIL 2 22 P st G) := pm_dn_eq (i := .iload_n 2) (len := 1) rfl
theorem u_99_22 (P : PL) (st : List PV) (G : PW) : pm_dn pm_sC 99 22 P st G = pm_go pm_sC 99 G (pm_oCv pm_sC 101 1 2 5 25 P st G) := pm_dn_eq (i := .invokevirtual 74) (len := 3) rfl
theorem u_99_25 (P : PL) (st : List PV) (G : PW) : pm_dn pm_sC 99 25 P st G = pm_go pm_sC 99 G (pm_oAL 0 26 P st G) := pm_dn_eq (i := .aload_n 0) (len := 1) rfl
theorem u_99_26 (P : PL) (st : List PV) (G : PW) : pm_dn pm_sC 99 26 P st G = pm_go pm_sC 99 G (pm_oIL 3 27 P st G) := pm_dn_eq (i := .iload_n 3) (len := 1) rfl
theorem u_99_27 (P : PL) (st : List PV) (G : PW) : pm_dn pm_sC 99 27 P st G = pm_go pm_sC 99 G (pm_oCv pm_sC 101 1 2 5 30 P st G) := pm_dn_eq (i := .invokevirtual 74) (len := 3) rfl
theorem u_99_30 (P : PL) (st : List PV) (G : PW) : pm_dn pm_sC 99 30 P st G = pm_go pm_sC 99 G (pm_oSub 31 P st G) := pm_dn_eq (i := .isub) (len := 1) rfl
theorem u_99_31 (P : PL) (st : List PV) (G : PW) : pm_dn pm_sC 99 31 P st G = pm_go pm_sC 99 G (pm_oIS 4 33 P st G) := pm_dn_eq (i := .istore 4) (len := 2) rfl
theorem u_99_33 (P : PL) (st : List PV) (G : PW) : pm_dn pm_sC 99 33 P st G = pm_go pm_sC 99 G (pm_oIL 4 35 P st G) := pm_dn_eq (i := .iload 4) (len := 2) rfl
theorem u_99_35 (P : PL) (st : List PV) (G : PW) : pm_dn pm_sC 99 35 P st G = pm_go pm_sC 99 G (pm_oIf .eq (some 49) 38 P st G) := pm_dn_eq (i := .ifCond .eq 14) (len := 3) rfl
theorem u_99_38 (P : PL) (st : List PV) (G : PW) : pm_dn pm_sC 99 38 P st G = pm_go pm_sC 99 G (pm_oIL 4 40 P st G) := pm_dn_eq (i := .iload 4) (len := 2) rfl
theorem u_99_40 (P : PL) (st : List PV) (G : PW) : pm_dn pm_sC 99 40 P st G = pm_go pm_sC 99 G (pm_oIf .le (some 47) 43 P st G) := pm_dn_eq (i := .ifCond .le 7) (len := 3) rfl
theorem u_99_43 (P : PL) (st : List PV) (G : PW) : pm_dn pm_sC 99 43 P st G = pm_go pm_sC 99 G (pm_oK 0 44 P st G) := pm_dn_eq (i := .iconst 0) (len := 1) rfl
theorem u_99_44 (P : PL) (st : List PV) (G : PW) : pm_dn pm_sC 99 44 P st G = pm_go pm_sC 99 G (pm_oGo (some 48) P st G) := pm_dn_eq (i := .goto 4) (len := 3) rfl
theorem u_99_47 (P : PL) (st : List PV) (G : PW) : pm_dn pm_sC 99 47 P st G = pm_go pm_sC 99 G (pm_oK 1 48 P st G) := pm_dn_eq (i := .iconst 1) (len := 1) rfl
theorem u_99_48 (P : PL) (st : List PV) (G : PW) : pm_dn pm_sC 99 48 P st G = pm_go pm_sC 99 G (pm_oRi 0 P st G) := pm_dn_eq (i := .ireturn) (len := 1) rfl
theorem u_99_49 (P : PL) (st : List PV) (G : PW) : pm_dn pm_sC 99 49 P st G = pm_go pm_sC 99 G (pm_oIL 2 50 P st G) := pm_dn_eq (i := .iload_n 2) (len := 1) rfl
theorem u_99_50 (P : PL) (st : List PV) (G : PW) : pm_dn pm_sC 99 50 P st G = pm_go pm_sC 99 G (pm_oIL 3 51 P st G) := pm_dn_eq (i := .iload_n 3) (len := 1) rfl
theorem u_99_51 (P : PL) (st : List PV) (G : PW) : pm_dn pm_sC 99 51 P st G = pm_go pm_sC 99 G (pm_oIc .ge (some 58) 54 P st G) := pm_dn_eq (i := .if_icmp .ge 7) (len := 3) rfl
theorem u_99_54 (P : PL) (st : List PV) (G : PW) : pm_dn pm_sC 99 54 P st G = pm_go pm_sC 99 G (pm_oK 0 55 P st G) := pm_dn_eq (i := .iconst 0) (len := 1) rfl
theorem u_99_55 (P : PL) (st : List PV) (G : PW) : pm_dn pm_sC 99 55 P st G = pm_go pm_sC 99 G (pm_oGo (some 59) P st G) := pm_dn_eq (i := .goto 4) (len := 3) rfl
theorem u_99_58 (P : PL) (st : List PV) (G : PW) : pm_dn pm_sC 99 58 P st G = pm_go pm_sC 99 G (pm_oK 1 59 P st G) := pm_dn_eq (i := .iconst 1) (len := 1) rfl
theorem u_99_59 (P : PL) (st : List PV) (G : PW) : pm_dn pm_sC 99 59 P st G = pm_go pm_sC 99 G (pm_oRi 0 P st G) := pm_dn_eq (i := .ireturn) (len := 1) rfl
theorem ue_100 (a0 : Nat) (G : PW) : pm_ca pm_sC 100 [.inr (.inr a0)] G = pm_dn pm_sC 100 0 [some (.inr (.inr a0)), none] [] G := rfl
theorem u_100_0 (P : PL) (st : List PV) (G : PW) : pm_dn pm_sC 100 0 P st G = pm_go pm_sC 100 G (pm_oK 0 1 P st G) := pm_dn_eq (i := .iconst 0) (len := 1) rfl
theorem u_100_1 (P : PL) (st : List PV) (G : PW) : pm_dn pm_sC 100 1 P st G = pm_go pm_sC 100 G (pm_oIS 1 2 P st G) := pm_dn_eq (i := .istore_n 1) (len := 1) rfl
theorem u_100_2 (P : PL) (st : List PV) (G : PW) : pm_dn pm_sC 100 2 P st G = pm_go pm_sC 100 G (pm_oIL 1 3 P st G) := pm_dn_eq (i := .iload_n 1) (len := 1) rfl
theorem u_100_3 (P : PL) (st : List PV) (G : PW) : pm_dn pm_sC 100 3 P st G = pm_go pm_sC 100 G (pm_oK 16 5 P st G) := pm_dn_eq (i := .bipush 16) (len := 2) rfl
theorem u_100_5 (P : PL) (st : List PV) (G : PW) : pm_dn pm_sC 100 5 P st G = pm_go pm_sC 100 G (pm_oIc .ge (some 27) 8 P st G) := pm_dn_eq (i := .if_icmp .ge 22) (len := 3) rfl
theorem u_100_8 (P : PL) (st : List PV) (G : PW) : pm_dn pm_sC 100 8 P st G = pm_go pm_sC 100 G (pm_oAL 0 9 P st G) := pm_dn_eq (i := .aload_n 0) (len := 1) rfl
theorem u_100_9 (P : PL) (st : List PV) (G : PW) : pm_dn pm_sC 100 9 P st G = pm_go pm_sC 100 G (pm_oIL 1 10 P st G) := pm_dn_eq (i := .iload_n 1) (len := 1) rfl
theorem u_100_10 (P : PL) (st : List PV) (G : PW) : pm_dn pm_sC 100 10 P st G = pm_go pm_sC 100 G (pm_oK 1500 13 P st G) := pm_dn_eq (i := .sipush 1500) (len := 3) rfl
theorem u_100_13 (P : PL) (st : List PV) (G : PW) : pm_dn pm_sC 100 13 P st G = pm_go pm_sC 100 G (pm_oK 10 15 P st G) := pm_dn_eq (i := .bipush 10) (len := 2) rfl
theorem u_100_15 (P : PL) (st : List PV) (G : PW) : pm_dn pm_sC 100 15 P st G = pm_go pm_sC 100 G (pm_oIL 1 16 P st G) := pm_dn_eq (i := .iload_n 1) (len := 1) rfl
theorem u_100_16 (P : PL) (st : List PV) (G : PW) : pm_dn pm_sC 100 16 P st G = pm_go pm_sC 100 G (pm_oMul 17 P st G) := pm_dn_eq (i := .imul) (len := 1) rfl
theorem u_100_17 (P : PL) (st : List PV) (G : PW) : pm_dn pm_sC 100 17 P st G = pm_go pm_sC 100 G (pm_oSub 18 P st G) := pm_dn_eq (i := .isub) (len := 1) rfl
theorem u_100_18 (P : PL) (st : List PV) (G : PW) : pm_dn pm_sC 100 18 P st G = pm_go pm_sC 100 G (pm_oCv pm_sC 102 2 3 5 21 P st G) := pm_dn_eq (i := .invokevirtual 78) (len := 3) rfl
theorem u_100_21 (P : PL) (st : List PV) (G : PW) : pm_dn pm_sC 100 21 P st G = pm_go pm_sC 100 G (pm_oInc 1 1 24 P st G) := pm_dn_eq (i := .iinc 1 1) (len := 3) rfl
theorem u_100_24 (P : PL) (st : List PV) (G : PW) : pm_dn pm_sC 100 24 P st G = pm_go pm_sC 100 G (pm_oGo (some 2) P st G) := pm_dn_eq (i := .goto (-22)) (len := 3) rfl
theorem u_100_27 (P : PL) (st : List PV) (G : PW) : pm_dn pm_sC 100 27 P st G = pm_go pm_sC 100 G (pm_oRv P st G) := pm_dn_eq (i := .return_) (len := 1) rfl
theorem ue_101 (a0 : Nat) (a1 : Int) (G : PW) : pm_ca pm_sC 101 [.inr (.inr a0), .inl a1] G = pm_dn pm_sC 101 0 [some (.inr (.inr a0)), some (.inl a1)] [] G := rfl
theorem u_101_0 (P : PL) (st : List PV) (G : PW) : pm_dn pm_sC 101 0 P st G = pm_go pm_sC 101 G (pm_oAL 0 1 P st G) := pm_dn_eq (i := .aload_n 0) (len := 1) rfl
theorem u_101_1 (P : PL) (st : List PV) (G : PW) : pm_dn pm_sC 101 1 P st G = pm_go pm_sC 101 G (pm_oGf pm_sC 5 0 4 P st G) := pm_dn_eq (i := .getfield 9) (len := 3) rfl
theorem u_101_4 (P : PL) (st : List PV) (G : PW) : pm_dn pm_sC 101 4 P st G = pm_go pm_sC 101 G (pm_oIL 1 5 P st G) := pm_dn_eq (i := .iload_n 1) (len := 1) rfl
theorem u_101_5 (P : PL) (st : List PV) (G : PW) : pm_dn pm_sC 101 5 P st G = pm_go pm_sC 101 G (pm_oCs 103 2 2 8 P st G) := pm_dn_eq (i := .invokestatic 122) (len := 3) rfl
theorem u_101_8 (P : PL) (st : List PV) (G : PW) : pm_dn pm_sC 101 8 P st G = pm_go pm_sC 101 G (pm_oRi 0 P st G) := pm_dn_eq (i := .ireturn) (len := 1) rfl
theorem ue_102 (a0 : Nat) (a1 : Int) (a2 : Int) (G : PW) : pm_ca pm_sC 102 [.inr (.inr a0), .inl a1, .inl a2] G = pm_dn pm_sC 102 0 [some (.inr (.inr a0)), some (.inl a1), some (.inl a2)] [] G := rfl
theorem u_102_0 (P : PL) (st : List PV) (G : PW) : pm_dn pm_sC 102 0 P st G = pm_go pm_sC 102 G (pm_oAL 0 1 P st G) := pm_dn_eq (i := .aload_n 0) (len := 1) rfl
theorem u_102_1 (P : PL) (st : List PV) (G : PW) : pm_dn pm_sC 102 1 P st G = pm_go pm_sC 102 G (pm_oGf pm_sC 5 0 4 P st G) := pm_dn_eq (i := .getfield 9) (len := 3) rfl
theorem u_102_4 (P : PL) (st : List PV) (G : PW) : pm_dn pm_sC 102 4 P st G = pm_go pm_sC 102 G (pm_oIL 1 5 P st G) := pm_dn_eq (i := .iload_n 1) (len := 1) rfl
theorem u_102_5 (P : PL) (st : List PV) (G : PW) : pm_dn pm_sC 102 5 P st G = pm_go pm_sC 102 G (pm_oIL 2 6 P st G) := pm_dn_eq (i := .iload_n 2) (len := 1) rfl
theorem u_102_6 (P : PL) (st : List PV) (G : PW) : pm_dn pm_sC 102 6 P st G = pm_go pm_sC 102 G (pm_oCs 104 3 3 9 P st G) := pm_dn_eq (i := .invokestatic 296) (len := 3) rfl
theorem u_102_9 (P : PL) (st : List PV) (G : PW) : pm_dn pm_sC 102 9 P st G = pm_go pm_sC 102 G (pm_oRv P st G) := pm_dn_eq (i := .return_) (len := 1) rfl
theorem ue_103 (a0 : Nat) (a1 : Int) (G : PW) : pm_ca pm_sC 103 [.inr (.inr a0), .inl a1] G = pm_dn pm_sC 103 0 [some (.inr (.inr a0)), some (.inl a1)] [] G := rfl
theorem u_103_0 (P : PL) (st : List PV) (G : PW) : pm_dn pm_sC 103 0 P st G = pm_go pm_sC 103 G (pm_oIL 1 1 P st G) := pm_dn_eq (i := .iload_n 1) (len := 1) rfl
theorem u_103_1 (P : PL) (st : List PV) (G : PW) : pm_dn pm_sC 103 1 P st G = pm_go pm_sC 103 G (pm_oIf .lt (some 16) 4 P st G) := pm_dn_eq (i := .ifCond .lt 15) (len := 3) rfl
theorem u_103_4 (P : PL) (st : List PV) (G : PW) : pm_dn pm_sC 103 4 P st G = pm_go pm_sC 103 G (pm_oIL 1 5 P st G) := pm_dn_eq (i := .iload_n 1) (len := 1) rfl
theorem u_103_5 (P : PL) (st : List PV) (G : PW) : pm_dn pm_sC 103 5 P st G = pm_go pm_sC 103 G (pm_oAL 0 6 P st G) := pm_dn_eq (i := .aload_n 0) (len := 1) rfl
theorem u_103_6 (P : PL) (st : List PV) (G : PW) : pm_dn pm_sC 103 6 P st G = pm_go pm_sC 103 G (pm_oLen pm_sC 7 P st G) := pm_dn_eq (i := .arraylength) (len := 1) rfl
theorem u_103_7 (P : PL) (st : List PV) (G : PW) : pm_dn pm_sC 103 7 P st G = pm_go pm_sC 103 G (pm_oIc .ge (some 16) 10 P st G) := pm_dn_eq (i := .if_icmp .ge 9) (len := 3) rfl
theorem u_103_10 (P : PL) (st : List PV) (G : PW) : pm_dn pm_sC 103 10 P st G = pm_go pm_sC 103 G (pm_oAL 0 11 P st G) := pm_dn_eq (i := .aload_n 0) (len := 1) rfl
theorem u_103_11 (P : PL) (st : List PV) (G : PW) : pm_dn pm_sC 103 11 P st G = pm_go pm_sC 103 G (pm_oIL 1 12 P st G) := pm_dn_eq (i := .iload_n 1) (len := 1) rfl
theorem u_103_12 (P : PL) (st : List PV) (G : PW) : pm_dn pm_sC 103 12 P st G = pm_go pm_sC 103 G (pm_oAld pm_sC 0 13 P st G) := pm_dn_eq (i := .iaload) (len := 1) rfl
theorem u_103_13 (P : PL) (st : List PV) (G : PW) : pm_dn pm_sC 103 13 P st G = pm_go pm_sC 103 G (pm_oGo (some 18) P st G) := pm_dn_eq (i := .goto 5) (len := 3) rfl
theorem u_103_16 (P : PL) (st : List PV) (G : PW) : pm_dn pm_sC 103 16 P st G = pm_go pm_sC 103 G (pm_oK (-6) 18 P st G) := pm_dn_eq (i := .bipush (-6)) (len := 2) rfl
theorem u_103_18 (P : PL) (st : List PV) (G : PW) : pm_dn pm_sC 103 18 P st G = pm_go pm_sC 103 G (pm_oRi 0 P st G) := pm_dn_eq (i := .ireturn) (len := 1) rfl
theorem ue_104 (a0 : Nat) (a1 : Int) (a2 : Int) (G : PW) : pm_ca pm_sC 104 [.inr (.inr a0), .inl a1, .inl a2] G = pm_dn pm_sC 104 0 [some (.inr (.inr a0)), some (.inl a1), some (.inl a2)] [] G := rfl
theorem u_104_0 (P : PL) (st : List PV) (G : PW) : pm_dn pm_sC 104 0 P st G = pm_go pm_sC 104 G (pm_oIL 1 1 P st G) := pm_dn_eq (i := .iload_n 1) (len := 1) rfl
theorem u_104_1 (P : PL) (st : List PV) (G : PW) : pm_dn pm_sC 104 1 P st G = pm_go pm_sC 104 G (pm_oIf .lt (some 14) 4 P st G) := pm_dn_eq (i := .ifCond .lt 13) (len := 3) rfl
theorem u_104_4 (P : PL) (st : List PV) (G : PW) : pm_dn pm_sC 104 4 P st G = pm_go pm_sC 104 G (pm_oIL 1 5 P st G) := pm_dn_eq (i := .iload_n 1) (len := 1) rfl
theorem u_104_5 (P : PL) (st : List PV) (G : PW) : pm_dn pm_sC 104 5 P st G = pm_go pm_sC 104 G (pm_oAL 0 6 P st G) := pm_dn_eq (i := .aload_n 0) (len := 1) rfl
theorem u_104_6 (P : PL) (st : List PV) (G : PW) : pm_dn pm_sC 104 6 P st G = pm_go pm_sC 104 G (pm_oLen pm_sC 7 P st G) := pm_dn_eq (i := .arraylength) (len := 1) rfl
theorem u_104_7 (P : PL) (st : List PV) (G : PW) : pm_dn pm_sC 104 7 P st G = pm_go pm_sC 104 G (pm_oIc .ge (some 14) 10 P st G) := pm_dn_eq (i := .if_icmp .ge 7) (len := 3) rfl
theorem u_104_10 (P : PL) (st : List PV) (G : PW) : pm_dn pm_sC 104 10 P st G = pm_go pm_sC 104 G (pm_oAL 0 11 P st G) := pm_dn_eq (i := .aload_n 0) (len := 1) rfl
theorem u_104_11 (P : PL) (st : List PV) (G : PW) : pm_dn pm_sC 104 11 P st G = pm_go pm_sC 104 G (pm_oIL 1 12 P st G) := pm_dn_eq (i := .iload_n 1) (len := 1) rfl
theorem u_104_12 (P : PL) (st : List PV) (G : PW) : pm_dn pm_sC 104 12 P st G = pm_go pm_sC 104 G (pm_oIL 2 13 P st G) := pm_dn_eq (i := .iload_n 2) (len := 1) rfl
theorem u_104_13 (P : PL) (st : List PV) (G : PW) : pm_dn pm_sC 104 13 P st G = pm_go pm_sC 104 G (pm_oAst pm_sC 0 14 P st G) := pm_dn_eq (i := .iastore) (len := 1) rfl
theorem u_104_14 (P : PL) (st : List PV) (G : PW) : pm_dn pm_sC 104 14 P st G = pm_go pm_sC 104 G (pm_oRv P st G) := pm_dn_eq (i := .return_) (len := 1) rfl
theorem ue_105 (a0 : Nat) (a1 : Nat) (G : PW) : pm_ca pm_sC 105 [.inr (.inr a0), .inr (.inr a1)] G = pm_dn pm_sC 105 0 [some (.inr (.inr a0)), some (.inr (.inr a1)), none] [] G := rfl
theorem u_105_0 (P : PL) (st : List PV) (G : PW) : pm_dn pm_sC 105 0 P st G = pm_go pm_sC 105 G (pm_oK 0 1 P st G) := pm_dn_eq (i := .iconst 0) (len := 1) rfl
theorem u_105_1 (P : PL) (st : List PV) (G : PW) : pm_dn pm_sC 105 1 P st G = pm_go pm_sC 105 G (pm_oIS 2 2 P st G) := pm_dn_eq (i := .istore_n 2) (len := 1) rfl
theorem u_105_2 (P : PL) (st : List PV) (G : PW) : pm_dn pm_sC 105 2 P st G = pm_go pm_sC 105 G (pm_oIL 2 3 P st G) := pm_dn_eq (i := .iload_n 2) (len := 1) rfl
theorem u_105_3 (P : PL) (st : List PV) (G : PW) : pm_dn pm_sC 105 3 P st G = pm_go pm_sC 105 G (pm_oAL 0 4 P st G) := pm_dn_eq (i := .aload_n 0) (len := 1) rfl
theorem u_105_4 (P : PL) (st : List PV) (G : PW) : pm_dn pm_sC 105 4 P st G = pm_go pm_sC 105 G (pm_oLen pm_sC 5 P st G) := pm_dn_eq (i := .arraylength) (len := 1) rfl
theorem u_105_5 (P : PL) (st : List PV) (G : PW) : pm_dn pm_sC 105 5 P st G = pm_go pm_sC 105 G (pm_oIc .ge (some 26) 8 P st G) := pm_dn_eq (i := .if_icmp .ge 21) (len := 3) rfl
theorem u_105_8 (P : PL) (st : List PV) (G : PW) : pm_dn pm_sC 105 8 P st G = pm_go pm_sC 105 G (pm_oIL 2 9 P st G) := pm_dn_eq (i := .iload_n 2) (len := 1) rfl
theorem u_105_9 (P : PL) (st : List PV) (G : PW) : pm_dn pm_sC 105 9 P st G = pm_go pm_sC 105 G (pm_oAL 1 10 P st G) := pm_dn_eq (i := .aload_n 1) (len := 1) rfl
theorem u_105_10 (P : PL) (st : List PV) (G : PW) : pm_dn pm_sC 105 10 P st G = pm_go pm_sC 105 G (pm_oLen pm_sC 11 P st G) := pm_dn_eq (i := .arraylength) (len := 1) rfl
theorem u_105_11 (P : PL) (st : List PV) (G : PW) : pm_dn pm_sC 105 11 P st G = pm_go pm_sC 105 G (pm_oIc .ge (some 26) 14 P st G) := pm_dn_eq (i := .if_icmp .ge 15) (len := 3) rfl
theorem u_105_14 (P : PL) (st : List PV) (G : PW) : pm_dn pm_sC 105 14 P st G = pm_go pm_sC 105 G (pm_oAL 1 15 P st G) := pm_dn_eq (i := .aload_n 1) (len := 1) rfl
theorem u_105_15 (P : PL) (st : List PV) (G : PW) : pm_dn pm_sC 105 15 P st G = pm_go pm_sC 105 G (pm_oIL 2 16 P st G) := pm_dn_eq (i := .iload_n 2) (len := 1) rfl
theorem u_105_16 (P : PL) (st : List PV) (G : PW) : pm_dn pm_sC 105 16 P st G = pm_go pm_sC 105 G (pm_oAL 0 17 P st G) := pm_dn_eq (i := .aload_n 0) (len := 1) rfl
theorem u_105_17 (P : PL) (st : List PV) (G : PW) : pm_dn pm_sC 105 17 P st G = pm_go pm_sC 105 G (pm_oIL 2 18 P st G) := pm_dn_eq (i := .iload_n 2) (len := 1) rfl
theorem u_105_18 (P : PL) (st : List PV) (G : PW) : pm_dn pm_sC 105 18 P st G = pm_go pm_sC 105 G (pm_oAld pm_sC 0 19 P st G) := pm_dn_eq (i := .iaload) (len := 1) rfl
theorem u_105_19 (P : PL) (st : List PV) (G : PW) : pm_dn pm_sC 105 19 P st G = pm_go pm_sC 105 G (pm_oAst pm_sC 0 20 P st G) := pm_dn_eq (i := .iastore) (len := 1) rfl
theorem u_105_20 (P : PL) (st : List PV) (G : PW) : pm_dn pm_sC 105 20 P st G = pm_go pm_sC 105 G (pm_oInc 2 1 23 P st G) := pm_dn_eq (i := .iinc 2 1) (len := 3) rfl
theorem u_105_23 (P : PL) (st : List PV) (G : PW) : pm_dn pm_sC 105 23 P st G = pm_go pm_sC 105 G (pm_oGo (some 2) P st G) := pm_dn_eq (i := .goto (-21)) (len := 3) rfl
theorem u_105_26 (P : PL) (st : List PV) (G : PW) : pm_dn pm_sC 105 26 P st G = pm_go pm_sC 105 G (pm_oRv P st G) := pm_dn_eq (i := .return_) (len := 1) rfl
theorem ue_106 (a0 : Int) (a1 : Int) (G : PW) : pm_ca pm_sC 106 [.inl a0, .inl a1] G = pm_dn pm_sC 106 0 [some (.inl a0), some (.inl a1)] [] G := rfl
theorem u_106_0 (P : PL) (st : List PV) (G : PW) : pm_dn pm_sC 106 0 P st G = pm_go pm_sC 106 G (pm_oK 2 1 P st G) := pm_dn_eq (i := .iconst 2) (len := 1) rfl
theorem u_106_1 (P : PL) (st : List PV) (G : PW) : pm_dn pm_sC 106 1 P st G = pm_go pm_sC 106 G (pm_oIL 0 2 P st G) := pm_dn_eq (i := .iload_n 0) (len := 1) rfl
theorem u_106_2 (P : PL) (st : List PV) (G : PW) : pm_dn pm_sC 106 2 P st G = pm_go pm_sC 106 G (pm_oMul 3 P st G) := pm_dn_eq (i := .imul) (len := 1) rfl
theorem u_106_3 (P : PL) (st : List PV) (G : PW) : pm_dn pm_sC 106 3 P st G = pm_go pm_sC 106 G (pm_oIL 1 4 P st G) := pm_dn_eq (i := .iload_n 1) (len := 1) rfl
theorem u_106_4 (P : PL) (st : List PV) (G : PW) : pm_dn pm_sC 106 4 P st G = pm_go pm_sC 106 G (pm_oAdd 5 P st G) := pm_dn_eq (i := .iadd) (len := 1) rfl
theorem u_106_5 (P : PL) (st : List PV) (G : PW) : pm_dn pm_sC 106 5 P st G = pm_go pm_sC 106 G (pm_oRi 0 P st G) := pm_dn_eq (i := .ireturn) (len := 1) rfl
theorem ue_107 (a0 : Int) (G : PW) : pm_ca pm_sC 107 [.inl a0] G = pm_dn pm_sC 107 0 [some (.inl a0)] [] G := rfl
theorem u_107_0 (P : PL) (st : List PV) (G : PW) : pm_dn pm_sC 107 0 P st G = pm_go pm_sC 107 G (pm_oIL 0 1 P st G) := pm_dn_eq (i := .iload_n 0) (len := 1) rfl
theorem u_107_1 (P : PL) (st : List PV) (G : PW) : pm_dn pm_sC 107 1 P st G = pm_go pm_sC 107 G (pm_oIf .ge (some 9) 4 P st G) := pm_dn_eq (i := .ifCond .ge 8) (len := 3) rfl
theorem u_107_4 (P : PL) (st : List PV) (G : PW) : pm_dn pm_sC 107 4 P st G = pm_go pm_sC 107 G (pm_oK (-6) 6 P st G) := pm_dn_eq (i := .bipush (-6)) (len := 2) rfl
theorem u_107_6 (P : PL) (st : List PV) (G : PW) : pm_dn pm_sC 107 6 P st G = pm_go pm_sC 107 G (pm_oGo (some 12) P st G) := pm_dn_eq (i := .goto 6) (len := 3) rfl
theorem u_107_9 (P : PL) (st : List PV) (G : PW) : pm_dn pm_sC 107 9 P st G = pm_go pm_sC 107 G (pm_oIL 0 10 P st G) := pm_dn_eq (i := .iload_n 0) (len := 1) rfl
theorem u_107_10 (P : PL) (st : List PV) (G : PW) : pm_dn pm_sC 107 10 P st G = pm_go pm_sC 107 G (pm_oK 1 11 P st G) := pm_dn_eq (i := .iconst 1) (len := 1) rfl
theorem u_107_11 (P : PL) (st : List PV) (G : PW) : pm_dn pm_sC 107 11 P st G = pm_go pm_sC 107 G (pm_oShr 12 P st G) := pm_dn_eq (i := .ishr) (len := 1) rfl
theorem u_107_12 (P : PL) (st : List PV) (G : PW) : pm_dn pm_sC 107 12 P st G = pm_go pm_sC 107 G (pm_oRi 0 P st G) := pm_dn_eq (i := .ireturn) (len := 1) rfl
