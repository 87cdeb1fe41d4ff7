/-! printed by gen09.py: what each instruction does, pc by pc -/
theorem ue_108 (a0 : Int) (G : PW) : pm_ca pm_sC 108 [.inl a0] G = pm_dn pm_sC 108 0 [some (.inl a0)] [] G := rfl
theorem u_108_0 (P : PL) (st : List PV) (G : PW) : pm_dn pm_sC 108 0 P st G = pm_go pm_sC 108 G (pm_oIL 0 1 P st G) := pm_dn_eq (i := .iload_n 0) (len := 1) rfl
theorem u_108_1 (P : PL) (st : List PV) (G : PW) : pm_dn pm_sC 108 1 P st G = pm_go pm_sC 108 G (pm_oIf .ge (some 9) 4 P st G) := pm_dn_eq (i := .ifCond .ge 8) (len := 3) rfl
theorem u_108_4 (P : PL) (st : List PV) (G : PW) : pm_dn pm_sC 108 4 P st G = pm_go pm_sC 108 G (pm_oK (-6) 6 P st G) := pm_dn_eq (i := .bipush (-6)) (len := 2) rfl
theorem u_108_6 (P : PL) (st : List PV) (G : PW) : pm_dn pm_sC 108 6 P st G = pm_go pm_sC 108 G (pm_oGo (some 12) P st G) := pm_dn_eq (i := .goto 6) (len := 3) rfl
theorem u_108_9 (P : PL) (st : List PV) (G : PW) : pm_dn pm_sC 108 9 P st G = pm_go pm_sC 108 G (pm_oIL 0 10 P st G) := pm_dn_eq (i := .iload_n 0) (len := 1) rfl
theorem u_108_10 (P : PL) (st : List PV) (G : PW) : pm_dn pm_sC 108 10 P st G = pm_go pm_sC 108 G (pm_oK 1 11 P st G) := pm_dn_eq (i := .iconst 1) (len := 1) rfl
theorem u_108_11 (P : PL) (st : List PV) (G : PW) : pm_dn pm_sC 108 11 P st G = pm_go pm_sC 108 G (pm_oAnd 12 P st G) := pm_dn_eq (i := .iand) (len := 1) rfl
theorem u_108_12 (P : PL) (st : List PV) (G : PW) : pm_dn pm_sC 108 12 P st G = pm_go pm_sC 108 G (pm_oRi 0 P st G) := pm_dn_eq (i := .ireturn) (len := 1) rfl
theorem ue_109 (a0 : Int) (a1 : Int) (a2 : Int) (G : PW) : pm_ca pm_sM 109 [.inl a0, .inl a1, .inl a2] G = pm_dn pm_sM 109 0 [some (.inl a0), some (.inl a1), some (.inl a2)] [] G := rfl
theorem u_109_0 (P : PL) (st : List PV) (G : PW) : pm_dn pm_sM 109 0 P st G = pm_go pm_sM 109 G (pm_oIL 0 1 P st G) := pm_dn_eq (i := .iload_n 0) (len := 1) rfl
theorem u_109_1 (P : PL) (st : List PV) (G : PW) : pm_dn pm_sM 109 1 P st G = pm_go pm_sM 109 G (pm_oIL 1 2 P st G) := pm_dn_eq (i := .iload_n 1) (len := 1) rfl
theorem u_109_2 (P : PL) (st : List PV) (G : PW) : pm_dn pm_sM 109 2 P st G = pm_go pm_sM 109 G (pm_oIc .lt (some 14) 5 P st G) := pm_dn_eq (i := .if_icmp .lt 12) (len := 3) rfl
theorem u_109_5 (P : PL) (st : List PV) (G : PW) : pm_dn pm_sM 109 5 P st G = pm_go pm_sM 109 G (pm_oIL 0 6 P st G) := pm_dn_eq (i := .iload_n 0) (len := 1) rfl
theorem u_109_6 (P : PL) (st : List PV) (G : PW) : pm_dn pm_sM 109 6 P st G = pm_go pm_sM 109 G (pm_oIL 2 7 P st G) := pm_dn_eq (i := .iload_n 2) (len := 1) rfl
theorem u_109_7 (P : PL) (st : List PV) (G : PW) : pm_dn pm_sM 109 7 P st G = pm_go pm_sM 109 G (pm_oIc .gt (some 14) 10 P st G) := pm_dn_eq (i := .if_icmp .gt 7) (len := 3) rfl
theorem u_109_10 (P : PL) (st : List PV) (G : PW) : pm_dn pm_sM 109 10 P st G = pm_go pm_sM 109 G (pm_oK 1 11 P st G) := pm_dn_eq (i := .iconst 1) (len := 1) rfl
theorem u_109_11 (P : PL) (st : List PV) (G : PW) : pm_dn pm_sM 109 11 P st G = pm_go pm_sM 109 G (pm_oGo (some 15) P st G) := pm_dn_eq (i := .goto 4) (len := 3) rfl
theorem u_109_14 (P : PL) (st : List PV) (G : PW) : pm_dn pm_sM 109 14 P st G = pm_go pm_sM 109 G (pm_oK 0 15 P st G) := pm_dn_eq (i := .iconst 0) (len := 1) rfl
theorem u_109_15 (P : PL) (st : List PV) (G : PW) : pm_dn pm_sM 109 15 P st G = pm_go pm_sM 109 G (pm_oRi 2 P st G) := pm_dn_eq (i := .ireturn) (len := 1) rfl
theorem ue_110 (a0 : Nat) (a1 : Int) (a2 : Int) (G : PW) : pm_ca pm_sM 110 [.inr (.inr a0), .inl a1, .inl a2] G = pm_dn pm_sM 110 0 [some (.inr (.inr a0)), some (.inl a1), some (.inl a2), none] [] G := rfl
theorem u_110_0 (P : PL) (st : List PV) (G : PW) : pm_dn pm_sM 110 0 P st G = pm_go pm_sM 110 G (pm_oAL 0 1 P st G) := pm_dn_eq (i := .aload_n 0) (len := 1) rfl
theorem u_110_1 (P : PL) (st : List PV) (G : PW) : pm_dn pm_sM 110 1 P st G = pm_go pm_sM 110 G (pm_oGf pm_sM 6 0 4 P st G) := pm_dn_eq (i := .getfield 7) (len := 3) rfl
theorem u_110_4 (P : PL) (st : List PV) (G : PW) : pm_dn pm_sM 110 4 P st G = pm_go pm_sM 110 G (pm_oK 0 5 P st G) := pm_dn_eq (i := .iconst 0) (len := 1) rfl
theorem u_110_5 (P : PL) (st : List PV) (G : PW) : pm_dn pm_sM 110 5 P st G = pm_go pm_sM 110 G (pm_oIL 1 6 P st G) := pm_dn_eq (i := .iload_n 1) (len := 1) rfl
theorem u_110_6 (P : PL) (st : List PV) (G : PW) : pm_dn pm_sM 110 6 P st G = pm_go pm_sM 110 G (pm_oAst pm_sM 0 7 P st G) := pm_dn_eq (i := .iastore) (len := 1) rfl
theorem u_110_7 (P : PL) (st : List PV) (G : PW) : pm_dn pm_sM 110 7 P st G = pm_go pm_sM 110 G (pm_oAL 0 8 P st G) := pm_dn_eq (i := .aload_n 0) (len := 1) rfl
theorem u_110_8 (P : PL) (st : List PV) (G : PW) : pm_dn pm_sM 110 8 P st G = pm_go pm_sM 110 G (pm_oGf pm_sM 6 0 11 P st G) := pm_dn_eq (i := .getfield 7) (len := 3) rfl
theorem u_110_11 (P : PL) (st : List PV) (G : PW) : pm_dn pm_sM 110 11 P st G = pm_go pm_sM 110 G (pm_oK 1 12 P st G) := pm_dn_eq (i := .iconst 1) (len := 1) rfl
theorem u_110_12 (P : PL) (st : List PV) (G : PW) : pm_dn pm_sM 110 12 P st G = pm_go pm_sM 110 G (pm_oIL 2 13 P st G) := pm_dn_eq (i := .iload_n 2) (len := 1) rfl
theorem u_110_13 (P : PL) (st : List PV) (G : PW) : pm_dn pm_sM 110 13 P st G = pm_go pm_sM 110 G (pm_oAst pm_sM 0 14 P st G) := pm_dn_eq (i := .iastore) (len := 1) rfl
theorem u_110_14 (P : PL) (st : List PV) (G : PW) : pm_dn pm_sM 110 14 P st G = pm_go pm_sM 110 G (pm_oAL 0 15 P st G) := pm_dn_eq (i := .aload_n 0) (len := 1) rfl
theorem u_110_15 (P : PL) (st : List PV) (G : PW) : pm_dn pm_sM 110 15 P st G = pm_go pm_sM 110 G (pm_oGf pm_sM 6 0 18 P st G) := pm_dn_eq (i := .getfield 7) (len := 3) rfl
theorem u_110_18 (P : PL) (st : List PV) (G : PW) : pm_dn pm_sM 110 18 P st G = pm_go pm_sM 110 G (pm_oK 2 19 P st G) := pm_dn_eq (i := .iconst 2) (len := 1) rfl
theorem u_110_19 (P : PL) (st : List PV) (G : PW) : pm_dn pm_sM 110 19 P st G = pm_go pm_sM 110 G (pm_oK 0 20 P st G) := pm_dn_eq (i := .iconst 0) (len := 1) rfl
theorem u_110_20 (P : PL) (st : List PV) (G : PW) : pm_dn pm_sM 110 20 P st G = pm_go pm_sM 110 G (pm_oAst pm_sM 0 21 P st G) := pm_dn_eq (i := .iastore) (len := 1) rfl
theorem u_110_21 (P : PL) (st : List PV) (G : PW) : pm_dn pm_sM 110 21 P st G = pm_go pm_sM 110 G (pm_oK 0 22 P st G) := pm_dn_eq (i := .iconst 0) (len := 1) rfl
theorem u_110_22 (P : PL) (st : List PV) (G : PW) : pm_dn pm_sM 110 22 P st G = pm_go pm_sM 110 G (pm_oIS 3 23 P st G) := pm_dn_eq (i := .istore_n 3) (len := 1) rfl
theorem u_110_23 (P : PL) (st : List PV) (G : PW) : pm_dn pm_sM 110 23 P st G = pm_go pm_sM 110 G (pm_oIL 3 24 P st G) := pm_dn_eq (i := .iload_n 3) (len := 1) rfl
theorem u_110_24 (P : PL) (st : List PV) (G : PW) : pm_dn pm_sM 110 24 P st G = pm_go pm_sM 110 G (pm_oK 16 26 P st G) := pm_dn_eq (i := .bipush 16) (len := 2) rfl
theorem u_110_26 (P : PL) (st : List PV) (G : PW) : pm_dn pm_sM 110 26 P st G = pm_go pm_sM 110 G (pm_oIc .ge (some 61) 29 P st G) := pm_dn_eq (i := .if_icmp .ge 35) (len := 3) rfl
theorem u_110_29 (P : PL) (st : List PV) (G : PW) : pm_dn pm_sM 110 29 P st G = pm_go pm_sM 110 G (pm_oAL 0 30 P st G) := pm_dn_eq (i := .aload_n 0) (len := 1) rfl
theorem u_110_30 (P : PL) (st : List PV) (G : PW) : pm_dn pm_sM 110 30 P st G = pm_go pm_sM 110 G (pm_oGf pm_sM 6 0 33 P st G) := pm_dn_eq (i := .getfield 7) (len := 3) rfl
theorem u_110_33 (P : PL) (st : List PV) (G : PW) : pm_dn pm_sM 110 33 P st G = pm_go pm_sM 110 G (pm_oK 3 34 P st G) := pm_dn_eq (i := .iconst 3) (len := 1) rfl
theorem u_110_34 (P : PL) (st : List PV) (G : PW) : pm_dn pm_sM 110 34 P st G = pm_go pm_sM 110 G (pm_oIL 3 35 P st G) := pm_dn_eq (i := .iload_n 3) (len := 1) rfl
theorem u_110_35 (P : PL) (st : List PV) (G : PW) : pm_dn pm_sM 110 35 P st G = pm_go pm_sM 110 G (pm_oAdd 36 P st G) := pm_dn_eq (i := .iadd) (len := 1) rfl
theorem u_110_36 (P : PL) (st : List PV) (G : PW) : pm_dn pm_sM 110 36 P st G = pm_go pm_sM 110 G (pm_oK 1500 39 P st G) := pm_dn_eq (i := .sipush 1500) (len := 3) rfl
theorem u_110_39 (P : PL) (st : List PV) (G : PW) : pm_dn pm_sM 110 39 P st G = pm_go pm_sM 110 G (pm_oK 10 41 P st G) := pm_dn_eq (i := .bipush 10) (len := 2) rfl
theorem u_110_41 (P : PL) (st : List PV) (G : PW) : pm_dn pm_sM 110 41 P st G = pm_go pm_sM 110 G (pm_oIL 3 42 P st G) := pm_dn_eq (i := .iload_n 3) (len := 1) rfl
theorem u_110_42 (P : PL) (st : List PV) (G : PW) : pm_dn pm_sM 110 42 P st G = pm_go pm_sM 110 G (pm_oMul 43 P st G) := pm_dn_eq (i := .imul) (len := 1) rfl
theorem u_110_43 (P : PL) (st : List PV) (G : PW) : pm_dn pm_sM 110 43 P st G = pm_go pm_sM 110 G (pm_oSub 44 P st G) := pm_dn_eq (i := .isub) (len := 1) rfl
theorem u_110_44 (P : PL) (st : List PV) (G : PW) : pm_dn pm_sM 110 44 P st G = pm_go pm_sM 110 G (pm_oAst pm_sM 0 45 P st G) := pm_dn_eq (i := .iastore) (len := 1) rfl
theorem u_110_45 (P : PL) (st : List PV) (G : PW) : pm_dn pm_sM 110 45 P st G = pm_go pm_sM 110 G (pm_oAL 0 46 P st G) := pm_dn_eq (i := .aload_n 0) (len := 1) rfl
theorem u_110_46 (P : PL) (st : List PV) (G : PW) : pm_dn pm_sM 110 46 P st G = pm_go pm_sM 110 G (pm_oGf pm_sM 6 0 49 P st G) := pm_dn_eq (i := .getfield 7) (len := 3) rfl
theorem u_110_49 (P : PL) (st : List PV) (G : PW) : pm_dn pm_sM 110 49 P st G = pm_go pm_sM 110 G (pm_oK 50 51 P st G) := pm_dn_eq (i := .bipush 50) (len := 2) rfl
theorem u_110_51 (P : PL) (st : List PV) (G : PW) : pm_dn pm_sM 110 51 P st G = pm_go pm_sM 110 G (pm_oIL 3 52 P st G) := pm_dn_eq (i := .iload_n 3) (len := 1) rfl
theorem u_110_52 (P : PL) (st : List PV) (G : PW) : pm_dn pm_sM 110 52 P st G = pm_go pm_sM 110 G (pm_oAdd 53 P st G) := pm_dn_eq (i := .iadd) (len := 1) rfl
theorem u_110_53 (P : PL) (st : List PV) (G : PW) : pm_dn pm_sM 110 53 P st G = pm_go pm_sM 110 G (pm_oK 0 54 P st G) := pm_dn_eq (i := .iconst 0) (len := 1) rfl
theorem u_110_54 (P : PL) (st : List PV) (G : PW) : pm_dn pm_sM 110 54 P st G = pm_go pm_sM 110 G (pm_oAst pm_sM 0 55 P st G) := pm_dn_eq (i := .iastore) (len := 1) rfl
theorem u_110_55 (P : PL) (st : List PV) (G : PW) : pm_dn pm_sM 110 55 P st G = pm_go pm_sM 110 G (pm_oInc 3 1 58 P st G) := pm_dn_eq (i := .iinc 3 1) (len := 3) rfl
theorem u_110_58 (P : PL) (st : List PV) (G : PW) : pm_dn pm_sM 110 58 P st G = pm_go pm_sM 110 G (pm_oGo (some 23) P st G) := pm_dn_eq (i := .goto (-35)) (len := 3) rfl
theorem u_110_61 (P : PL) (st : List PV) (G : PW) : pm_dn pm_sM 110 61 P st G = pm_go pm_sM 110 G (pm_oK 0 62 P st G) := pm_dn_eq (i := .iconst 0) (len := 1) rfl
theorem u_110_62 (P : PL) (st : List PV) (G : PW) : pm_dn pm_sM 110 62 P st G = pm_go pm_sM 110 G (pm_oIS 3 63 P st G) := pm_dn_eq (i := .istore_n 3) (len := 1) rfl
theorem u_110_63 (P : PL) (st : List PV) (G : PW) : pm_dn pm_sM 110 63 P st G = pm_go pm_sM 110 G (pm_oIL 3 64 P st G) := pm_dn_eq (i := .iload_n 3) (len := 1) rfl
theorem u_110_64 (P : PL) (st : List PV) (G : PW) : pm_dn pm_sM 110 64 P st G = pm_go pm_sM 110 G (pm_oK 31 66 P st G) := pm_dn_eq (i := .bipush 31) (len := 2) rfl
theorem u_110_66 (P : PL) (st : List PV) (G : PW) : pm_dn pm_sM 110 66 P st G = pm_go pm_sM 110 G (pm_oIc .ge (some 86) 69 P st G) := pm_dn_eq (i := .if_icmp .ge 20) (len := 3) rfl
theorem u_110_69 (P : PL) (st : List PV) (G : PW) : pm_dn pm_sM 110 69 P st G = pm_go pm_sM 110 G (pm_oAL 0 70 P st G) := pm_dn_eq (i := .aload_n 0) (len := 1) rfl
theorem u_110_70 (P : PL) (st : List PV) (G : PW) : pm_dn pm_sM 110 70 P st G = pm_go pm_sM 110 G (pm_oGf pm_sM 6 0 73 P st G) := pm_dn_eq (i := .getfield 7) (len := 3) rfl
theorem u_110_73 (P : PL) (st : List PV) (G : PW) : pm_dn pm_sM 110 73 P st G = pm_go pm_sM 110 G (pm_oK 19 75 P st G) := pm_dn_eq (i := .bipush 19) (len := 2) rfl
theorem u_110_75 (P : PL) (st : List PV) (G : PW) : pm_dn pm_sM 110 75 P st G = pm_go pm_sM 110 G (pm_oIL 3 76 P st G) := pm_dn_eq (i := .iload_n 3) (len := 1) rfl
theorem u_110_76 (P : PL) (st : List PV) (G : PW) : pm_dn pm_sM 110 76 P st G = pm_go pm_sM 110 G (pm_oAdd 77 P st G) := pm_dn_eq (i := .iadd) (len := 1) rfl
theorem u_110_77 (P : PL) (st : List PV) (G : PW) : pm_dn pm_sM 110 77 P st G = pm_go pm_sM 110 G (pm_oK (-6) 79 P st G) := pm_dn_eq (i := .bipush (-6)) (len := 2) rfl
theorem u_110_79 (P : PL) (st : List PV) (G : PW) : pm_dn pm_sM 110 79 P st G = pm_go pm_sM 110 G (pm_oAst pm_sM 0 80 P st G) := pm_dn_eq (i := .iastore) (len := 1) rfl
theorem u_110_80 (P : PL) (st : List PV) (G : PW) : pm_dn pm_sM 110 80 P st G = pm_go pm_sM 110 G (pm_oInc 3 1 83 P st G) := pm_dn_eq (i := .iinc 3 1) (len := 3) rfl
theorem u_110_83 (P : PL) (st : List PV) (G : PW) : pm_dn pm_sM 110 83 P st G = pm_go pm_sM 110 G (pm_oGo (some 63) P st G) := pm_dn_eq (i := .goto (-20)) (len := 3) rfl
theorem u_110_86 (P : PL) (st : List PV) (G : PW) : pm_dn pm_sM 110 86 P st G = pm_go pm_sM 110 G (pm_oRv P st G) := pm_dn_eq (i := .return_) (len := 1) rfl
theorem ue_111 (a0 : Nat) (G : PW) : pm_ca pm_sM 111 [.inr (.inr a0)] G = pm_dn pm_sM 111 0 [some (.inr (.inr a0)), none, none] [] G := rfl
theorem u_111_0 (P : PL) (st : List PV) (G : PW) : pm_dn pm_sM 111 0 P st G = pm_go pm_sM 111 G (pm_oAL 0 1 P st G) := pm_dn_eq (i := .aload_n 0) (len := 1) rfl
theorem u_111_1 (P : PL) (st : List PV) (G : PW) : pm_dn pm_sM 111 1 P st G = pm_go pm_sM 111 G (pm_oAL 0 2 P st G) := pm_dn_eq (i := .aload_n 0) (len := 1) rfl
theorem u_111_2 (P : PL) (st : List PV) (G : PW) : pm_dn pm_sM 111 2 P st G = pm_go pm_sM 111 G (pm_oGf pm_sM 6 0 5 P st G) := pm_dn_eq (i := .getfield 7) (len := 3) rfl
theorem u_111_5 (P : PL) (st : List PV) (G : PW) : pm_dn pm_sM 111 5 P st G = pm_go pm_sM 111 G (pm_oK 0 6 P st G) := pm_dn_eq (i := .iconst 0) (len := 1) rfl
theorem u_111_6 (P : PL) (st : List PV) (G : PW) : pm_dn pm_sM 111 6 P st G = pm_go pm_sM 111 G (pm_oAld pm_sM 0 7 P st G) := pm_dn_eq (i := .iaload) (len := 1) rfl
theorem u_111_7 (P : PL) (st : List PV) (G : PW) : pm_dn pm_sM 111 7 P st G = pm_go pm_sM 111 G (pm_oK 4 8 P st G) := pm_dn_eq (i := .iconst 4) (len := 1) rfl
theorem u_111_8 (P : PL) (st : List PV) (G : PW) : pm_dn pm_sM 111 8 P st G = pm_go pm_sM 111 G (pm_oIc .gt (some 15) 11 P st G) := pm_dn_eq (i := .if_icmp .gt 7) (len := 3) rfl
theorem u_111_11 (P : PL) (st : List PV) (G : PW) : pm_dn pm_sM 111 11 P st G = pm_go pm_sM 111 G (pm_oK 4 12 P st G) := pm_dn_eq (i := .iconst 4) (len := 1) rfl
theorem u_111_12 (P : PL) (st : List PV) (G : PW) : pm_dn pm_sM 111 12 P st G = pm_go pm_sM 111 G (pm_oGo (some 33) P st G) := pm_dn_eq (i := .goto 21) (len := 3) rfl
theorem u_111_15 (P : PL) (st : List PV) (G : PW) : pm_dn pm_sM 111 15 P st G = pm_go pm_sM 111 G (pm_oAL 0 16 P st G) := pm_dn_eq (i := .aload_n 0) (len := 1) rfl
theorem u_111_16 (P : PL) (st : List PV) (G : PW) : pm_dn pm_sM 111 16 P st G = pm_go pm_sM 111 G (pm_oGf pm_sM 6 0 19 P st G) := pm_dn_eq (i := .getfield 7) (len := 3) rfl
theorem u_111_19 (P : PL) (st : List PV) (G : PW) : pm_dn pm_sM 111 19 P st G = pm_go pm_sM 111 G (pm_oK 0 20 P st G) := pm_dn_eq (i := .iconst 0) (len := 1) rfl
theorem u_111_20 (P : PL) (st : List PV) (G : PW) : pm_dn pm_sM 111 20 P st G = pm_go pm_sM 111 G (pm_oAld pm_sM 0 21 P st G) := pm_dn_eq (i := .iaload) (len := 1) rfl
theorem u_111_21 (P : PL) (st : List PV) (G : PW) : pm_dn pm_sM 111 21 P st G = pm_go pm_sM 111 G (pm_oK 8 23 P st G) := pm_dn_eq (i := .bipush 8) (len := 2) rfl
theorem u_111_23 (P : PL) (st : List PV) (G : PW) : pm_dn pm_sM 111 23 P st G = pm_go pm_sM 111 G (pm_oIc .gt (some 31) 26 P st G) := pm_dn_eq (i := .if_icmp .gt 8) (len := 3) rfl
theorem u_111_26 (P : PL) (st : List PV) (G : PW) : pm_dn pm_sM 111 26 P st G = pm_go pm_sM 111 G (pm_oK 8 28 P st G) := pm_dn_eq (i := .bipush 8) (len := 2) rfl
theorem u_111_28 (P : PL) (st : List PV) (G : PW) : pm_dn pm_sM 111 28 P st G = pm_go pm_sM 111 G (pm_oGo (some 33) P st G) := pm_dn_eq (i := .goto 5) (len := 3) rfl
theorem u_111_31 (P : PL) (st : List PV) (G : PW) : pm_dn pm_sM 111 31 P st G = pm_go pm_sM 111 G (pm_oK 16 33 P st G) := pm_dn_eq (i := .bipush 16) (len := 2) rfl
theorem u_111_33 (P : PL) (st : List PV) (G : PW) : pm_dn pm_sM 111 33 P st G = pm_go pm_sM 111 G (pm_oPf pm_sM 6 5 0 36 P st G) := pm_dn_eq (i := .putfield 90) (len := 3) rfl
theorem u_111_36 (P : PL) (st : List PV) (G : PW) : pm_dn pm_sM 111 36 P st G = pm_go pm_sM 111 G (pm_oAL 0 37 P st G) := pm_dn_eq (i := .aload_n 0) (len := 1) rfl
theorem u_111_37 (P : PL) (st : List PV) (G : PW) : pm_dn pm_sM 111 37 P st G = pm_go pm_sM 111 G (pm_oAL 0 38 P st G) := pm_dn_eq (i := .aload_n 0) (len := 1) rfl
theorem u_111_38 (P : PL) (st : List PV) (G : PW) : pm_dn pm_sM 111 38 P st G = pm_go pm_sM 111 G (pm_oGf pm_sM 6 5 41 P st G) := pm_dn_eq (i := .getfield 90) (len := 3) rfl
theorem u_111_41 (P : PL) (st : List PV) (G : PW) : pm_dn pm_sM 111 41 P st G = pm_go pm_sM 111 G (pm_oK 4 42 P st G) := pm_dn_eq (i := .iconst 4) (len := 1) rfl
theorem u_111_42 (P : PL) (st : List PV) (G : PW) : pm_dn pm_sM 111 42 P st G = pm_go pm_sM 111 G (pm_oIc .ne (some 49) 45 P st G) := pm_dn_eq (i := .if_icmp .ne 7) (len := 3) rfl
theorem u_111_45 (P : PL) (st : List PV) (G : PW) : pm_dn pm_sM 111 45 P st G = pm_go pm_sM 111 G (pm_oK 2 46 P st G) := pm_dn_eq (i := .iconst 2) (len := 1) rfl
theorem u_111_46 (P : PL) (st : List PV) (G : PW) : pm_dn pm_sM 111 46 P st G = pm_go pm_sM 111 G (pm_oGo (some 63) P st G) := pm_dn_eq (i := .goto 17) (len := 3) rfl
theorem u_111_49 (P : PL) (st : List PV) (G : PW) : pm_dn pm_sM 111 49 P st G = pm_go pm_sM 111 G (pm_oAL 0 50 P st G) := pm_dn_eq (i := .aload_n 0) (len := 1) rfl
theorem u_111_50 (P : PL) (st : List PV) (G : PW) : pm_dn pm_sM 111 50 P st G = pm_go pm_sM 111 G (pm_oGf pm_sM 6 5 53 P st G) := pm_dn_eq (i := .getfield 90) (len := 3) rfl
theorem u_111_53 (P : PL) (st : List PV) (G : PW) : pm_dn pm_sM 111 53 P st G = pm_go pm_sM 111 G (pm_oK 8 55 P st G) := pm_dn_eq (i := .bipush 8) (len := 2) rfl
theorem u_111_55 (P : PL) (st : List PV) (G : PW) : pm_dn pm_sM 111 55 P st G = pm_go pm_sM 111 G (pm_oIc .ne (some 62) 58 P st G) := pm_dn_eq (i := .if_icmp .ne 7) (len := 3) rfl
theorem u_111_58 (P : PL) (st : List PV) (G : PW) : pm_dn pm_sM 111 58 P st G = pm_go pm_sM 111 G (pm_oK 3 59 P st G) := pm_dn_eq (i := .iconst 3) (len := 1) rfl
theorem u_111_59 (P : PL) (st : List PV) (G : PW) : pm_dn pm_sM 111 59 P st G = pm_go pm_sM 111 G (pm_oGo (some 63) P st G) := pm_dn_eq (i := .goto 4) (len := 3) rfl
theorem u_111_62 (P : PL) (st : List PV) (G : PW) : pm_dn pm_sM 111 62 P st G = pm_go pm_sM 111 G (pm_oK 4 63 P st G) := pm_dn_eq (i := .iconst 4) (len := 1) rfl
theorem u_111_63 (P : PL) (st : List PV) (G : PW) : pm_dn pm_sM 111 63 P st G = pm_go pm_sM 111 G (pm_oPf pm_sM 6 6 0 66 P st G) := pm_dn_eq (i := .putfield 94) (len := 3) rfl
theorem u_111_66 (P : PL) (st : List PV) (G : PW) : pm_dn pm_sM 111 66 P st G = pm_go pm_sM 111 G (pm_oAL 0 67 P st G) := pm_dn_eq (i := .aload_n 0) (len := 1) rfl
theorem u_111_67 (P : PL) (st : List PV) (G : PW) : pm_dn pm_sM 111 67 P st G = pm_go pm_sM 111 G (pm_oK 2 68 P st G) := pm_dn_eq (i := .iconst 2) (len := 1) rfl
theorem u_111_68 (P : PL) (st : List PV) (G : PW) : pm_dn pm_sM 111 68 P st G = pm_go pm_sM 111 G (pm_oAL 0 69 P st G) := pm_dn_eq (i := .aload_n 0) (len := 1) rfl
theorem u_111_69 (P : PL) (st : List PV) (G : PW) : pm_dn pm_sM 111 69 P st G = pm_go pm_sM 111 G (pm_oGf pm_sM 6 5 72 P st G) := pm_dn_eq (i := .getfield 90) (len := 3) rfl
theorem u_111_72 (P : PL) (st : List PV) (G : PW) : pm_dn pm_sM 111 72 P st G = pm_go pm_sM 111 G (pm_oMul 73 P st G) := pm_dn_eq (i := .imul) (len := 1) rfl
theorem u_111_73 (P : PL) (st : List PV) (G : PW) : pm_dn pm_sM 111 73 P st G = pm_go pm_sM 111 G (pm_oK 1 74 P st G) := pm_dn_eq (i := .iconst 1) (len := 1) rfl
theorem u_111_74 (P : PL) (st : List PV) (G : PW) : pm_dn pm_sM 111 74 P st G = pm_go pm_sM 111 G (pm_oSub 75 P st G) := pm_dn_eq (i := .isub) (len := 1) rfl
theorem u_111_75 (P : PL) (st : List PV) (G : PW) : pm_dn pm_sM 111 75 P st G = pm_go pm_sM 111 G (pm_oPf pm_sM 6 7 0 78 P st G) := pm_dn_eq (i := .putfield 97) (len := 3) rfl
theorem u_111_78 (P : PL) (st : List PV) (G : PW) : pm_dn pm_sM 111 78 P st G = pm_go pm_sM 111 G (pm_oK 0 79 P st G) := pm_dn_eq (i := .iconst 0) (len := 1) rfl
theorem u_111_79 (P : PL) (st : List PV) (G : PW) : pm_dn pm_sM 111 79 P st G = pm_go pm_sM 111 G (pm_oIS 1 80 P st G) := pm_dn_eq (i := .istore_n 1) (len := 1) rfl
theorem u_111_80 (P : PL) (st : List PV) (G : PW) : pm_dn pm_sM 111 80 P st G = pm_go pm_sM 111 G (pm_oK 1 81 P st G) := pm_dn_eq (i := .iconst 1) (len := 1) rfl
theorem u_111_81 (P : PL) (st : List PV) (G : PW) : pm_dn pm_sM 111 81 P st G = pm_go pm_sM 111 G (pm_oIS 2 82 P st G) := pm_dn_eq (i := .istore_n 2) (len := 1) rfl
theorem u_111_82 (P : PL) (st : List PV) (G : PW) : pm_dn pm_sM 111 82 P st G = pm_go pm_sM 111 G (pm_oIL 2 83 P st G) := pm_dn_eq (i := .iload_n 2) (len := 1) rfl
theorem u_111_83 (P : PL) (st : List PV) (G : PW) : pm_dn pm_sM 111 83 P st G = pm_go pm_sM 111 G (pm_oAL 0 84 P st G) := pm_dn_eq (i := .aload_n 0) (len := 1) rfl
theorem u_111_84 (P : PL) (st : List PV) (G : PW) : pm_dn pm_sM 111 84 P st G = pm_go pm_sM 111 G (pm_oGf pm_sM 6 6 87 P st G) := pm_dn_eq (i := .getfield 94) (len := 3) rfl
theorem u_111_87 (P : PL) (st : List PV) (G : PW) : pm_dn pm_sM 111 87 P st G = pm_go pm_sM 111 G (pm_oIc .gt (some 112) 90 P st G) := pm_dn_eq (i := .if_icmp .gt 25) (len := 3) rfl
theorem u_111_90 (P : PL) (st : List PV) (G : PW) : pm_dn pm_sM 111 90 P st G = pm_go pm_sM 111 G (pm_oAL 0 91 P st G) := pm_dn_eq (i := .aload_n 0) (len := 1) rfl
theorem u_111_91 (P : PL) (st : List PV) (G : PW) : pm_dn pm_sM 111 91 P st G = pm_go pm_sM 111 G (pm_oGf pm_sM 6 15 94 P st G) := pm_dn_eq (i := .getfield 44) (len := 3) rfl
theorem u_111_94 (P : PL) (st : List PV) (G : PW) : pm_dn pm_sM 111 94 P st G = pm_go pm_sM 111 G (pm_oIL 2 95 P st G) := pm_dn_eq (i := .iload_n 2) (len := 1) rfl
theorem u_111_95 (P : PL) (st : List PV) (G : PW) : pm_dn pm_sM 111 95 P st G = pm_go pm_sM 111 G (pm_oIL 1 96 P st G) := pm_dn_eq (i := .iload_n 1) (len := 1) rfl
theorem u_111_96 (P : PL) (st : List PV) (G : PW) : pm_dn pm_sM 111 96 P st G = pm_go pm_sM 111 G (pm_oAst pm_sM 0 97 P st G) := pm_dn_eq (i := .iastore) (len := 1) rfl
theorem u_111_97 (P : PL) (st : List PV) (G : PW) : pm_dn pm_sM 111 97 P st G = pm_go pm_sM 111 G (pm_oIL 1 98 P st G) := pm_dn_eq (i := .iload_n 1) (len := 1) rfl
theorem u_111_98 (P : PL) (st : List PV) (G : PW) : pm_dn pm_sM 111 98 P st G = pm_go pm_sM 111 G (pm_oAL 0 99 P st G) := pm_dn_eq (i := .aload_n 0) (len := 1) rfl
theorem u_111_99 (P : PL) (st : List PV) (G : PW) : pm_dn pm_sM 111 99 P st G = pm_go pm_sM 111 G (pm_oGf pm_sM 6 5 102 P st G) := pm_dn_eq (i := .getfield 90) (len := 3) rfl
theorem u_111_102 (P : PL) (st : List PV) (G : PW) : pm_dn pm_sM 111 102 P st G = pm_go pm_sM 111 G (pm_oIL 2 103 P st G) := pm_dn_eq (i := .iload_n 2) (len := 1) rfl
theorem u_111_103 (P : PL) (st : List PV) (G : PW) : pm_dn pm_sM 111 103 P st G = pm_go pm_sM 111 G (pm_oShr 104 P st G) := pm_dn_eq (i := .ishr) (len := 1) rfl
theorem u_111_104 (P : PL) (st : List PV) (G : PW) : pm_dn pm_sM 111 104 P st G = pm_go pm_sM 111 G (pm_oAdd 105 P st G) := pm_dn_eq (i := .iadd) (len := 1) rfl
theorem u_111_105 (P : PL) (st : List PV) (G : PW) : pm_dn pm_sM 111 105 P st G = pm_go pm_sM 111 G (pm_oIS 1 106 P st G) := pm_dn_eq (i := .istore_n 1) (len := 1) rfl
theorem u_111_106 (P : PL) (st : List PV) (G : PW) : pm_dn pm_sM 111 106 P st G = pm_go pm_sM 111 G (pm_oInc 2 1 109 P st G) := pm_dn_eq (i := .iinc 2 1) (len := 3) rfl
theorem u_111_109 (P : PL) (st : List PV) (G : PW) : pm_dn pm_sM 111 109 P st G = pm_go pm_sM 111 G (pm_oGo (some 82) P st G) := pm_dn_eq (i := .goto (-27)) (len := 3) rfl
theorem u_111_112 (P : PL) (st : List PV) (G : PW) : pm_dn pm_sM 111 112 P st G = pm_go pm_sM 111 G (pm_oK 1 113 P st G) := pm_dn_eq (i := .iconst 1) (len := 1) rfl
theorem u_111_113 (P : PL) (st : List PV) (G : PW) : pm_dn pm_sM 111 113 P st G = pm_go pm_sM 111 G (pm_oIS 2 114 P st G) := pm_dn_eq (i := .istore_n 2) (len := 1) rfl
theorem u_111_114 (P : PL) (st : List PV) (G : PW) : pm_dn pm_sM 111 114 P st G = pm_go pm_sM 111 G (pm_oIL 2 115 P st G) := pm_dn_eq (i := .iload_n 2) (len := 1) rfl
theorem u_111_115 (P : PL) (st : List PV) (G : PW) : pm_dn pm_sM 111 115 P st G = pm_go pm_sM 111 G (pm_oK 2 116 P st G) := pm_dn_eq (i := .iconst 2) (len := 1) rfl
theorem u_111_116 (P : PL) (st : List PV) (G : PW) : pm_dn pm_sM 111 116 P st G = pm_go pm_sM 111 G (pm_oAL 0 117 P st G) := pm_dn_eq (i := .aload_n 0) (len := 1) rfl
theorem u_111_117 (P : PL) (st : List PV) (G : PW) : pm_dn pm_sM 111 117 P st G = pm_go pm_sM 111 G (pm_oGf pm_sM 6 6 120 P st G) := pm_dn_eq (i := .getfield 94) (len := 3) rfl
theorem u_111_120 (P : PL) (st : List PV) (G : PW) : pm_dn pm_sM 111 120 P st G = pm_go pm_sM 111 G (pm_oMul 121 P st G) := pm_dn_eq (i := .imul) (len := 1) rfl
theorem u_111_121 (P : PL) (st : List PV) (G : PW) : pm_dn pm_sM 111 121 P st G = pm_go pm_sM 111 G (pm_oK 2 122 P st G) := pm_dn_eq (i := .iconst 2) (len := 1) rfl
theorem u_111_122 (P : PL) (st : List PV) (G : PW) : pm_dn pm_sM 111 122 P st G = pm_go pm_sM 111 G (pm_oSub 123 P st G) := pm_dn_eq (i := .isub) (len := 1) rfl
theorem u_111_123 (P : PL) (st : List PV) (G : PW) : pm_dn pm_sM 111 123 P st G = pm_go pm_sM 111 G (pm_oIc .gt (some 166) 126 P st G) := pm_dn_eq (i := .if_icmp .gt 43) (len := 3) rfl
theorem u_111_126 (P : PL) (st : List PV) (G : PW) : pm_dn pm_sM 111 126 P st G = pm_go pm_sM 111 G (pm_oAL 0 127 P st G) := pm_dn_eq (i := .aload_n 0) (len := 1) rfl
theorem u_111_127 (P : PL) (st : List PV) (G : PW) : pm_dn pm_sM 111 127 P st G = pm_go pm_sM 111 G (pm_oGf pm_sM 6 16 130 P st G) := pm_dn_eq (i := .getfield 47) (len := 3) rfl
theorem u_111_130 (P : PL) (st : List PV) (G : PW) : pm_dn pm_sM 111 130 P st G = pm_go pm_sM 111 G (pm_oIL 2 131 P st G) := pm_dn_eq (i := .iload_n 2) (len := 1) rfl
theorem u_111_131 (P : PL) (st : List PV) (G : PW) : pm_dn pm_sM 111 131 P st G = pm_go pm_sM 111 G (pm_oIL 1 132 P st G) := pm_dn_eq (i := .iload_n 1) (len := 1) rfl
theorem u_111_132 (P : PL) (st : List PV) (G : PW) : pm_dn pm_sM 111 132 P st G = pm_go pm_sM 111 G (pm_oAst pm_sM 0 133 P st G) := pm_dn_eq (i := .iastore) (len := 1) rfl
theorem u_111_133 (P : PL) (st : List PV) (G : PW) : pm_dn pm_sM 111 133 P st G = pm_go pm_sM 111 G (pm_oAL 0 134 P st G) := pm_dn_eq (i := .aload_n 0) (len := 1) rfl
theorem u_111_134 (P : PL) (st : List PV) (G : PW) : pm_dn pm_sM 111 134 P st G = pm_go pm_sM 111 G (pm_oGf pm_sM 6 17 137 P st G) := pm_dn_eq (i := .getfield 50) (len := 3) rfl
theorem u_111_137 (P : PL) (st : List PV) (G : PW) : pm_dn pm_sM 111 137 P st G = pm_go pm_sM 111 G (pm_oIL 2 138 P st G) := pm_dn_eq (i := .iload_n 2) (len := 1) rfl
theorem u_111_138 (P : PL) (st : List PV) (G : PW) : pm_dn pm_sM 111 138 P st G = pm_go pm_sM 111 G (pm_oAL 0 139 P st G) := pm_dn_eq (i := .aload_n 0) (len := 1) rfl
theorem u_111_139 (P : PL) (st : List PV) (G : PW) : pm_dn pm_sM 111 139 P st G = pm_go pm_sM 111 G (pm_oGf pm_sM 6 5 142 P st G) := pm_dn_eq (i := .getfield 90) (len := 3) rfl
theorem u_111_142 (P : PL) (st : List PV) (G : PW) : pm_dn pm_sM 111 142 P st G = pm_go pm_sM 111 G (pm_oIL 2 143 P st G) := pm_dn_eq (i := .iload_n 2) (len := 1) rfl
theorem u_111_143 (P : PL) (st : List PV) (G : PW) : pm_dn pm_sM 111 143 P st G = pm_go pm_sM 111 G (pm_oK 1 144 P st G) := pm_dn_eq (i := .iconst 1) (len := 1) rfl
theorem u_111_144 (P : PL) (st : List PV) (G : PW) : pm_dn pm_sM 111 144 P st G = pm_go pm_sM 111 G (pm_oAdd 145 P st G) := pm_dn_eq (i := .iadd) (len := 1) rfl
theorem u_111_145 (P : PL) (st : List PV) (G : PW) : pm_dn pm_sM 111 145 P st G = pm_go pm_sM 111 G (pm_oK 2 146 P st G) := pm_dn_eq (i := .iconst 2) (len := 1) rfl
theorem u_111_146 (P : PL) (st : List PV) (G : PW) : pm_dn pm_sM 111 146 P st G = pm_go pm_sM 111 G (pm_oDiv 147 P st G) := pm_dn_eq (i := .idiv) (len := 1) rfl
theorem u_111_147 (P : PL) (st : List PV) (G : PW) : pm_dn pm_sM 111 147 P st G = pm_go pm_sM 111 G (pm_oK 1 148 P st G) := pm_dn_eq (i := .iconst 1) (len := 1) rfl
theorem u_111_148 (P : PL) (st : List PV) (G : PW) : pm_dn pm_sM 111 148 P st G = pm_go pm_sM 111 G (pm_oAdd 149 P st G) := pm_dn_eq (i := .iadd) (len := 1) rfl
theorem u_111_149 (P : PL) (st : List PV) (G : PW) : pm_dn pm_sM 111 149 P st G = pm_go pm_sM 111 G (pm_oShr 150 P st G) := pm_dn_eq (i := .ishr) (len := 1) rfl
theorem u_111_150 (P : PL) (st : List PV) (G : PW) : pm_dn pm_sM 111 150 P st G = pm_go pm_sM 111 G (pm_oAst pm_sM 0 151 P st G) := pm_dn_eq (i := .iastore) (len := 1) rfl
theorem u_111_151 (P : PL) (st : List PV) (G : PW) : pm_dn pm_sM 111 151 P st G = pm_go pm_sM 111 G (pm_oIL 1 152 P st G) := pm_dn_eq (i := .iload_n 1) (len := 1) rfl
theorem u_111_152 (P : PL) (st : List PV) (G : PW) : pm_dn pm_sM 111 152 P st G = pm_go pm_sM 111 G (pm_oAL 0 153 P st G) := pm_dn_eq (i := .aload_n 0) (len := 1) rfl
theorem u_111_153 (P : PL) (st : List PV) (G : PW) : pm_dn pm_sM 111 153 P st G = pm_go pm_sM 111 G (pm_oGf pm_sM 6 17 156 P st G) := pm_dn_eq (i := .getfield 50) (len := 3) rfl
theorem u_111_156 (P : PL) (st : List PV) (G : PW) : pm_dn pm_sM 111 156 P st G = pm_go pm_sM 111 G (pm_oIL 2 157 P st G) := pm_dn_eq (i := .iload_n 2) (len := 1) rfl
theorem u_111_157 (P : PL) (st : List PV) (G : PW) : pm_dn pm_sM 111 157 P st G = pm_go pm_sM 111 G (pm_oAld pm_sM 0 158 P st G) := pm_dn_eq (i := .iaload) (len := 1) rfl
theorem u_111_158 (P : PL) (st : List PV) (G : PW) : pm_dn pm_sM 111 158 P st G = pm_go pm_sM 111 G (pm_oAdd 159 P st G) := pm_dn_eq (i := .iadd) (len := 1) rfl
theorem u_111_159 (P : PL) (st : List PV) (G : PW) : pm_dn pm_sM 111 159 P st G = pm_go pm_sM 111 G (pm_oIS 1 160 P st G) := pm_dn_eq (i := .istore_n 1) (len := 1) rfl
theorem u_111_160 (P : PL) (st : List PV) (G : PW) : pm_dn pm_sM 111 160 P st G = pm_go pm_sM 111 G (pm_oInc 2 1 163 P st G) := pm_dn_eq (i := .iinc 2 1) (len := 3) rfl
theorem u_111_163 (P : PL) (st : List PV) (G : PW) : pm_dn pm_sM 111 163 P st G = pm_go pm_sM 111 G (pm_oGo (some 114) P st G) := pm_dn_eq (i := .goto (-49)) (len := 3) rfl
theorem u_111_166 (P : PL) (st : List PV) (G : PW) : pm_dn pm_sM 111 166 P st G = pm_go pm_sM 111 G (pm_oRv P st G) := pm_dn_eq (i := .return_) (len := 1) rfl
theorem ue_112 (a0 : Nat) (G : PW) : pm_ca pm_sM 112 [.inr (.inr a0)] G = pm_dn pm_sM 112 0 [some (.inr (.inr a0)), none, none] [] G := rfl
theorem u_112_0 (P : PL) (st : List PV) (G : PW) : pm_dn pm_sM 112 0 P st G = pm_go pm_sM 112 G (pm_oAL 0 1 P st G) := pm_dn_eq (i := .aload_n 0) (len := 1) rfl
theorem u_112_1 (P : PL) (st : List PV) (G : PW) : pm_dn pm_sM 112 1 P st G = pm_go pm_sM 112 G (pm_oGf pm_sM 6 18 4 P st G) := pm_dn_eq (i := .getfield 53) (len := 3) rfl
theorem u_112_4 (P : PL) (st : List PV) (G : PW) : pm_dn pm_sM 112 4 P st G = pm_go pm_sM 112 G (pm_oK 0 5 P st G) := pm_dn_eq (i := .iconst 0) (len := 1) rfl
theorem u_112_5 (P : PL) (st : List PV) (G : PW) : pm_dn pm_sM 112 5 P st G = pm_go pm_sM 112 G (pm_oK 0 6 P st G) := pm_dn_eq (i := .iconst 0) (len := 1) rfl
theorem u_112_6 (P : PL) (st : List PV) (G : PW) : pm_dn pm_sM 112 6 P st G = pm_go pm_sM 112 G (pm_oAst pm_sM 0 7 P st G) := pm_dn_eq (i := .iastore) (len := 1) rfl
theorem u_112_7 (P : PL) (st : List PV) (G : PW) : pm_dn pm_sM 112 7 P st G = pm_go pm_sM 112 G (pm_oK 1 8 P st G) := pm_dn_eq (i := .iconst 1) (len := 1) rfl
theorem u_112_8 (P : PL) (st : List PV) (G : PW) : pm_dn pm_sM 112 8 P st G = pm_go pm_sM 112 G (pm_oIS 1 9 P st G) := pm_dn_eq (i := .istore_n 1) (len := 1) rfl
theorem u_112_9 (P : PL) (st : List PV) (G : PW) : pm_dn pm_sM 112 9 P st G = pm_go pm_sM 112 G (pm_oIL 1 10 P st G) := pm_dn_eq (i := .iload_n 1) (len := 1) rfl
theorem u_112_10 (P : PL) (st : List PV) (G : PW) : pm_dn pm_sM 112 10 P st G = pm_go pm_sM 112 G (pm_oAL 0 11 P st G) := pm_dn_eq (i := .aload_n 0) (len := 1) rfl
theorem u_112_11 (P : PL) (st : List PV) (G : PW) : pm_dn pm_sM 112 11 P st G = pm_go pm_sM 112 G (pm_oGf pm_sM 6 5 14 P st G) := pm_dn_eq (i := .getfield 90) (len := 3) rfl
theorem u_112_14 (P : PL) (st : List PV) (G : PW) : pm_dn pm_sM 112 14 P st G = pm_go pm_sM 112 G (pm_oIc .ge (some 100) 17 P st G) := pm_dn_eq (i := .if_icmp .ge 86) (len := 3) rfl
theorem u_112_17 (P : PL) (st : List PV) (G : PW) : pm_dn pm_sM 112 17 P st G = pm_go pm_sM 112 G (pm_oK 0 18 P st G) := pm_dn_eq (i := .iconst 0) (len := 1) rfl
theorem u_112_18 (P : PL) (st : List PV) (G : PW) : pm_dn pm_sM 112 18 P st G = pm_go pm_sM 112 G (pm_oIS 2 19 P st G) := pm_dn_eq (i := .istore_n 2) (len := 1) rfl
theorem u_112_19 (P : PL) (st : List PV) (G : PW) : pm_dn pm_sM 112 19 P st G = pm_go pm_sM 112 G (pm_oIL 2 20 P st G) := pm_dn_eq (i := .iload_n 2) (len := 1) rfl
theorem u_112_20 (P : PL) (st : List PV) (G : PW) : pm_dn pm_sM 112 20 P st G = pm_go pm_sM 112 G (pm_oIL 1 21 P st G) := pm_dn_eq (i := .iload_n 1) (len := 1) rfl
theorem u_112_21 (P : PL) (st : List PV) (G : PW) : pm_dn pm_sM 112 21 P st G = pm_go pm_sM 112 G (pm_oIc .ge (some 66) 24 P st G) := pm_dn_eq (i := .if_icmp .ge 45) (len := 3) rfl
theorem u_112_24 (P : PL) (st : List PV) (G : PW) : pm_dn pm_sM 112 24 P st G = pm_go pm_sM 112 G (pm_oAL 0 25 P st G) := pm_dn_eq (i := .aload_n 0) (len := 1) rfl
theorem u_112_25 (P : PL) (st : List PV) (G : PW) : pm_dn pm_sM 112 25 P st G = pm_go pm_sM 112 G (pm_oGf pm_sM 6 19 28 P st G) := pm_dn_eq (i := .getfield 56) (len := 3) rfl
theorem u_112_28 (P : PL) (st : List PV) (G : PW) : pm_dn pm_sM 112 28 P st G = pm_go pm_sM 112 G (pm_oK 2 29 P st G) := pm_dn_eq (i := .iconst 2) (len := 1) rfl
theorem u_112_29 (P : PL) (st : List PV) (G : PW) : pm_dn pm_sM 112 29 P st G = pm_go pm_sM 112 G (pm_oIL 2 30 P st G) := pm_dn_eq (i := .iload_n 2) (len := 1) rfl
theorem u_112_30 (P : PL) (st : List PV) (G : PW) : pm_dn pm_sM 112 30 P st G = pm_go pm_sM 112 G (pm_oMul 31 P st G) := pm_dn_eq (i := .imul) (len := 1) rfl
theorem u_112_31 (P : PL) (st : List PV) (G : PW) : pm_dn pm_sM 112 31 P st G = pm_go pm_sM 112 G (pm_oAL 0 32 P st G) := pm_dn_eq (i := .aload_n 0) (len := 1) rfl
theorem u_112_32 (P : PL) (st : List PV) (G : PW) : pm_dn pm_sM 112 32 P st G = pm_go pm_sM 112 G (pm_oGf pm_sM 6 18 35 P st G) := pm_dn_eq (i := .getfield 53) (len := 3) rfl
theorem u_112_35 (P : PL) (st : List PV) (G : PW) : pm_dn pm_sM 112 35 P st G = pm_go pm_sM 112 G (pm_oIL 2 36 P st G) := pm_dn_eq (i := .iload_n 2) (len := 1) rfl
theorem u_112_36 (P : PL) (st : List PV) (G : PW) : pm_dn pm_sM 112 36 P st G = pm_go pm_sM 112 G (pm_oAld pm_sM 0 37 P st G) := pm_dn_eq (i := .iaload) (len := 1) rfl
theorem u_112_37 (P : PL) (st : List PV) (G : PW) : pm_dn pm_sM 112 37 P st G = pm_go pm_sM 112 G (pm_oAst pm_sM 0 38 P st G) := pm_dn_eq (i := .iastore) (len := 1) rfl
theorem u_112_38 (P : PL) (st : List PV) (G : PW) : pm_dn pm_sM 112 38 P st G = pm_go pm_sM 112 G (pm_oAL 0 39 P st G) := pm_dn_eq (i := .aload_n 0) (len := 1) rfl
theorem u_112_39 (P : PL) (st : List PV) (G : PW) : pm_dn pm_sM 112 39 P st G = pm_go pm_sM 112 G (pm_oGf pm_sM 6 19 42 P st G) := pm_dn_eq (i := .getfield 56) (len := 3) rfl
theorem u_112_42 (P : PL) (st : List PV) (G : PW) : pm_dn pm_sM 112 42 P st G = pm_go pm_sM 112 G (pm_oK 2 43 P st G) := pm_dn_eq (i := .iconst 2) (len := 1) rfl
theorem u_112_43 (P : PL) (st : List PV) (G : PW) : pm_dn pm_sM 112 43 P st G = pm_go pm_sM 112 G (pm_oIL 2 44 P st G) := pm_dn_eq (i := .iload_n 2) (len := 1) rfl
theorem u_112_44 (P : PL) (st : List PV) (G : PW) : pm_dn pm_sM 112 44 P st G = pm_go pm_sM 112 G (pm_oMul 45 P st G) := pm_dn_eq (i := .imul) (len := 1) rfl
theorem u_112_45 (P : PL) (st : List PV) (G : PW) : pm_dn pm_sM 112 45 P st G = pm_go pm_sM 112 G (pm_oK 1 46 P st G) := pm_dn_eq (i := .iconst 1) (len := 1) rfl
theorem u_112_46 (P : PL) (st : List PV) (G : PW) : pm_dn pm_sM 112 46 P st G = pm_go pm_sM 112 G (pm_oAdd 47 P st G) := pm_dn_eq (i := .iadd) (len := 1) rfl
theorem u_112_47 (P : PL) (st : List PV) (G : PW) : pm_dn pm_sM 112 47 P st G = pm_go pm_sM 112 G (pm_oK 2 48 P st G) := pm_dn_eq (i := .iconst 2) (len := 1) rfl
theorem u_112_48 (P : PL) (st : List PV) (G : PW) : pm_dn pm_sM 112 48 P st G = pm_go pm_sM 112 G (pm_oIL 1 49 P st G) := pm_dn_eq (i := .iload_n 1) (len := 1) rfl
theorem u_112_49 (P : PL) (st : List PV) (G : PW) : pm_dn pm_sM 112 49 P st G = pm_go pm_sM 112 G (pm_oMul 50 P st G) := pm_dn_eq (i := .imul) (len := 1) rfl
theorem u_112_50 (P : PL) (st : List PV) (G : PW) : pm_dn pm_sM 112 50 P st G = pm_go pm_sM 112 G (pm_oK 1 51 P st G) := pm_dn_eq (i := .iconst 1) (len := 1) rfl
theorem u_112_51 (P : PL) (st : List PV) (G : PW) : pm_dn pm_sM 112 51 P st G = pm_go pm_sM 112 G (pm_oSub 52 P st G) := pm_dn_eq (i := .isub) (len := 1) rfl
theorem u_112_52 (P : PL) (st : List PV) (G : PW) : pm_dn pm_sM 112 52 P st G = pm_go pm_sM 112 G (pm_oAL 0 53 P st G) := pm_dn_eq (i := .aload_n 0) (len := 1) rfl
theorem u_112_53 (P : PL) (st : List PV) (G : PW) : pm_dn pm_sM 112 53 P st G = pm_go pm_sM 112 G (pm_oGf pm_sM 6 18 56 P st G) := pm_dn_eq (i := .getfield 53) (len := 3) rfl
theorem u_112_56 (P : PL) (st : List PV) (G : PW) : pm_dn pm_sM 112 56 P st G = pm_go pm_sM 112 G (pm_oIL 2 57 P st G) := pm_dn_eq (i := .iload_n 2) (len := 1) rfl
theorem u_112_57 (P : PL) (st : List PV) (G : PW) : pm_dn pm_sM 112 57 P st G = pm_go pm_sM 112 G (pm_oAld pm_sM 0 58 P st G) := pm_dn_eq (i := .iaload) (len := 1) rfl
theorem u_112_58 (P : PL) (st : List PV) (G : PW) : pm_dn pm_sM 112 58 P st G = pm_go pm_sM 112 G (pm_oSub 59 P st G) := pm_dn_eq (i := .isub) (len := 1) rfl
theorem u_112_59 (P : PL) (st : List PV) (G : PW) : pm_dn pm_sM 112 59 P st G = pm_go pm_sM 112 G (pm_oAst pm_sM 0 60 P st G) := pm_dn_eq (i := .iastore) (len := 1) rfl
theorem u_112_60 (P : PL) (st : List PV) (G : PW) : pm_dn pm_sM 112 60 P st G = pm_go pm_sM 112 G (pm_oInc 2 1 63 P st G) := pm_dn_eq (i := .iinc 2 1) (len := 3) rfl
theorem u_112_63 (P : PL) (st : List PV) (G : PW) : pm_dn pm_sM 112 63 P st G = pm_go pm_sM 112 G (pm_oGo (some 19) P st G) := pm_dn_eq (i := .goto (-44)) (len := 3) rfl
theorem u_112_66 (P : PL) (st : List PV) (G : PW) : pm_dn pm_sM 112 66 P st G = pm_go pm_sM 112 G (pm_oK 0 67 P st G) := pm_dn_eq (i := .iconst 0) (len := 1) rfl
theorem u_112_67 (P : PL) (st : List PV) (G : PW) : pm_dn pm_sM 112 67 P st G = pm_go pm_sM 112 G (pm_oIS 2 68 P st G) := pm_dn_eq (i := .istore_n 2) (len := 1) rfl
theorem u_112_68 (P : PL) (st : List PV) (G : PW) : pm_dn pm_sM 112 68 P st G = pm_go pm_sM 112 G (pm_oIL 2 69 P st G) := pm_dn_eq (i := .iload_n 2) (len := 1) rfl
theorem u_112_69 (P : PL) (st : List PV) (G : PW) : pm_dn pm_sM 112 69 P st G = pm_go pm_sM 112 G (pm_oK 2 70 P st G) := pm_dn_eq (i := .iconst 2) (len := 1) rfl
theorem u_112_70 (P : PL) (st : List PV) (G : PW) : pm_dn pm_sM 112 70 P st G = pm_go pm_sM 112 G (pm_oIL 1 71 P st G) := pm_dn_eq (i := .iload_n 1) (len := 1) rfl
theorem u_112_71 (P : PL) (st : List PV) (G : PW) : pm_dn pm_sM 112 71 P st G = pm_go pm_sM 112 G (pm_oMul 72 P st G) := pm_dn_eq (i := .imul) (len := 1) rfl
theorem u_112_72 (P : PL) (st : List PV) (G : PW) : pm_dn pm_sM 112 72 P st G = pm_go pm_sM 112 G (pm_oIc .ge (some 93) 75 P st G) := pm_dn_eq (i := .if_icmp .ge 21) (len := 3) rfl
theorem u_112_75 (P : PL) (st : List PV) (G : PW) : pm_dn pm_sM 112 75 P st G = pm_go pm_sM 112 G (pm_oAL 0 76 P st G) := pm_dn_eq (i := .aload_n 0) (len := 1) rfl
theorem u_112_76 (P : PL) (st : List PV) (G : PW) : pm_dn pm_sM 112 76 P st G = pm_go pm_sM 112 G (pm_oGf pm_sM 6 18 79 P st G) := pm_dn_eq (i := .getfield 53) (len := 3) rfl
theorem u_112_79 (P : PL) (st : List PV) (G : PW) : pm_dn pm_sM 112 79 P st G = pm_go pm_sM 112 G (pm_oIL 2 80 P st G) := pm_dn_eq (i := .iload_n 2) (len := 1) rfl
theorem u_112_80 (P : PL) (st : List PV) (G : PW) : pm_dn pm_sM 112 80 P st G = pm_go pm_sM 112 G (pm_oAL 0 81 P st G) := pm_dn_eq (i := .aload_n 0) (len := 1) rfl
theorem u_112_81 (P : PL) (st : List PV) (G : PW) : pm_dn pm_sM 112 81 P st G = pm_go pm_sM 112 G (pm_oGf pm_sM 6 19 84 P st G) := pm_dn_eq (i := .getfield 56) (len := 3) rfl
theorem u_112_84 (P : PL) (st : List PV) (G : PW) : pm_dn pm_sM 112 84 P st G = pm_go pm_sM 112 G (pm_oIL 2 85 P st G) := pm_dn_eq (i := .iload_n 2) (len := 1) rfl
theorem u_112_85 (P : PL) (st : List PV) (G : PW) : pm_dn pm_sM 112 85 P st G = pm_go pm_sM 112 G (pm_oAld pm_sM 0 86 P st G) := pm_dn_eq (i := .iaload) (len := 1) rfl
theorem u_112_86 (P : PL) (st : List PV) (G : PW) : pm_dn pm_sM 112 86 P st G = pm_go pm_sM 112 G (pm_oAst pm_sM 0 87 P st G) := pm_dn_eq (i := .iastore) (len := 1) rfl
theorem u_112_87 (P : PL) (st : List PV) (G : PW) : pm_dn pm_sM 112 87 P st G = pm_go pm_sM 112 G (pm_oInc 2 1 90 P st G) := pm_dn_eq (i := .iinc 2 1) (len := 3) rfl
theorem u_112_90 (P : PL) (st : List PV) (G : PW) : pm_dn pm_sM 112 90 P st G = pm_go pm_sM 112 G (pm_oGo (some 68) P st G) := pm_dn_eq (i := .goto (-22)) (len := 3) rfl
theorem u_112_93 (P : PL) (st : List PV) (G : PW) : pm_dn pm_sM 112 93 P st G = pm_go pm_sM 112 G (pm_oIL 1 94 P st G) := pm_dn_eq (i := .iload_n 1) (len := 1) rfl
theorem u_112_94 (P : PL) (st : List PV) (G : PW) : pm_dn pm_sM 112 94 P st G = pm_go pm_sM 112 G (pm_oK 2 95 P st G) := pm_dn_eq (i := .iconst 2) (len := 1) rfl
theorem u_112_95 (P : PL) (st : List PV) (G : PW) : pm_dn pm_sM 112 95 P st G = pm_go pm_sM 112 G (pm_oMul 96 P st G) := pm_dn_eq (i := .imul) (len := 1) rfl
theorem u_112_96 (P : PL) (st : List PV) (G : PW) : pm_dn pm_sM 112 96 P st G = pm_go pm_sM 112 G (pm_oIS 1 97 P st G) := pm_dn_eq (i := .istore_n 1) (len := 1) rfl
theorem u_112_97 (P : PL) (st : List PV) (G : PW) : pm_dn pm_sM 112 97 P st G = pm_go pm_sM 112 G (pm_oGo (some 9) P st G) := pm_dn_eq (i := .goto (-88)) (len := 3) rfl
theorem u_112_100 (P : PL) (st : List PV) (G : PW) : pm_dn pm_sM 112 100 P st G = pm_go pm_sM 112 G (pm_oRv P st G) := pm_dn_eq (i := .return_) (len := 1) rfl
theorem ue_113 (a0 : Nat) (a1 : Int) (a2 : Int) (a3 : Int) (a4 : Int) (G : PW) : pm_ca pm_sM 113 [.inr (.inr a0), .inl a1, .inl a2, .inl a3, .inl a4] G = pm_dn pm_sM 113 0 [some (.inr (.inr a0)), some (.inl a1), some (.inl a2), some (.inl a3), some (.inl a4)] [] G := rfl
theorem u_113_0 (P : PL) (st : List PV) (G : PW) : pm_dn pm_sM 113 0 P st G = pm_go pm_sM 113 G (pm_oAL 0 1 P st G) := pm_dn_eq (i := .aload_n 0) (len := 1) rfl
theorem u_113_1 (P : PL) (st : List PV) (G : PW) : pm_dn pm_sM 113 1 P st G = pm_go pm_sM 113 G (pm_oGf pm_sM 6 8 4 P st G) := pm_dn_eq (i := .getfield 23) (len := 3) rfl
theorem u_113_4 (P : PL) (st : List PV) (G : PW) : pm_dn pm_sM 113 4 P st G = pm_go pm_sM 113 G (pm_oIL 1 5 P st G) := pm_dn_eq (i := .iload_n 1) (len := 1) rfl
theorem u_113_5 (P : PL) (st : List PV) (G : PW) : pm_dn pm_sM 113 5 P st G = pm_go pm_sM 113 G (pm_oIL 2 6 P st G) := pm_dn_eq (i := .iload_n 2) (len := 1) rfl
theorem u_113_6 (P : PL) (st : List PV) (G : PW) : pm_dn pm_sM 113 6 P st G = pm_go pm_sM 113 G (pm_oAst pm_sM 0 7 P st G) := pm_dn_eq (i := .iastore) (len := 1) rfl
theorem u_113_7 (P : PL) (st : List PV) (G : PW) : pm_dn pm_sM 113 7 P st G = pm_go pm_sM 113 G (pm_oAL 0 8 P st G) := pm_dn_eq (i := .aload_n 0) (len := 1) rfl
theorem u_113_8 (P : PL) (st : List PV) (G : PW) : pm_dn pm_sM 113 8 P st G = pm_go pm_sM 113 G (pm_oGf pm_sM 6 9 11 P st G) := pm_dn_eq (i := .getfield 26) (len := 3) rfl
theorem u_113_11 (P : PL) (st : List PV) (G : PW) : pm_dn pm_sM 113 11 P st G = pm_go pm_sM 113 G (pm_oIL 1 12 P st G) := pm_dn_eq (i := .iload_n 1) (len := 1) rfl
theorem u_113_12 (P : PL) (st : List PV) (G : PW) : pm_dn pm_sM 113 12 P st G = pm_go pm_sM 113 G (pm_oIL 3 13 P st G) := pm_dn_eq (i := .iload_n 3) (len := 1) rfl
theorem u_113_13 (P : PL) (st : List PV) (G : PW) : pm_dn pm_sM 113 13 P st G = pm_go pm_sM 113 G (pm_oAst pm_sM 0 14 P st G) := pm_dn_eq (i := .iastore) (len := 1) rfl
theorem u_113_14 (P : PL) (st : List PV) (G : PW) : pm_dn pm_sM 113 14 P st G = pm_go pm_sM 113 G (pm_oAL 0 15 P st G) := pm_dn_eq (i := .aload_n 0) (len := 1) rfl
theorem u_113_15 (P : PL) (st : List PV) (G : PW) : pm_dn pm_sM 113 15 P st G = pm_go pm_sM 113 G (pm_oGf pm_sM 6 10 18 P st G) := pm_dn_eq (i := .getfield 29) (len := 3) rfl
theorem u_113_18 (P : PL) (st : List PV) (G : PW) : pm_dn pm_sM 113 18 P st G = pm_go pm_sM 113 G (pm_oIL 1 19 P st G) := pm_dn_eq (i := .iload_n 1) (len := 1) rfl
theorem u_113_19 (P : PL) (st : List PV) (G : PW) : pm_dn pm_sM 113 19 P st G = pm_go pm_sM 113 G (pm_oIL 4 21 P st G) := pm_dn_eq (i := .iload 4) (len := 2) rfl
theorem u_113_21 (P : PL) (st : List PV) (G : PW) : pm_dn pm_sM 113 21 P st G = pm_go pm_sM 113 G (pm_oAst pm_sM 0 22 P st G) := pm_dn_eq (i := .iastore) (len := 1) rfl
theorem u_113_22 (P : PL) (st : List PV) (G : PW) : pm_dn pm_sM 113 22 P st G = pm_go pm_sM 113 G (pm_oAL 0 23 P st G) := pm_dn_eq (i := .aload_n 0) (len := 1) rfl
theorem u_113_23 (P : PL) (st : List PV) (G : PW) : pm_dn pm_sM 113 23 P st G = pm_go pm_sM 113 G (pm_oGf pm_sM 6 11 26 P st G) := pm_dn_eq (i := .getfield 32) (len := 3) rfl
theorem u_113_26 (P : PL) (st : List PV) (G : PW) : pm_dn pm_sM 113 26 P st G = pm_go pm_sM 113 G (pm_oIL 1 27 P st G) := pm_dn_eq (i := .iload_n 1) (len := 1) rfl
theorem u_113_27 (P : PL) (st : List PV) (G : PW) : pm_dn pm_sM 113 27 P st G = pm_go pm_sM 113 G (pm_oK (-6) 29 P st G) := pm_dn_eq (i := .bipush (-6)) (len := 2) rfl
theorem u_113_29 (P : PL) (st : List PV) (G : PW) : pm_dn pm_sM 113 29 P st G = pm_go pm_sM 113 G (pm_oAst pm_sM 0 30 P st G) := pm_dn_eq (i := .iastore) (len := 1) rfl
theorem u_113_30 (P : PL) (st : List PV) (G : PW) : pm_dn pm_sM 113 30 P st G = pm_go pm_sM 113 G (pm_oAL 0 31 P st G) := pm_dn_eq (i := .aload_n 0) (len := 1) rfl
theorem u_113_31 (P : PL) (st : List PV) (G : PW) : pm_dn pm_sM 113 31 P st G = pm_go pm_sM 113 G (pm_oGf pm_sM 6 12 34 P st G) := pm_dn_eq (i := .getfield 35) (len := 3) rfl
theorem u_113_34 (P : PL) (st : List PV) (G : PW) : pm_dn pm_sM 113 34 P st G = pm_go pm_sM 113 G (pm_oIL 1 35 P st G) := pm_dn_eq (i := .iload_n 1) (len := 1) rfl
theorem u_113_35 (P : PL) (st : List PV) (G : PW) : pm_dn pm_sM 113 35 P st G = pm_go pm_sM 113 G (pm_oK (-6) 37 P st G) := pm_dn_eq (i := .bipush (-6)) (len := 2) rfl
theorem u_113_37 (P : PL) (st : List PV) (G : PW) : pm_dn pm_sM 113 37 P st G = pm_go pm_sM 113 G (pm_oAst pm_sM 0 38 P st G) := pm_dn_eq (i := .iastore) (len := 1) rfl
theorem u_113_38 (P : PL) (st : List PV) (G : PW) : pm_dn pm_sM 113 38 P st G = pm_go pm_sM 113 G (pm_oAL 0 39 P st G) := pm_dn_eq (i := .aload_n 0) (len := 1) rfl
theorem u_113_39 (P : PL) (st : List PV) (G : PW) : pm_dn pm_sM 113 39 P st G = pm_go pm_sM 113 G (pm_oGf pm_sM 6 13 42 P st G) := pm_dn_eq (i := .getfield 38) (len := 3) rfl
theorem u_113_42 (P : PL) (st : List PV) (G : PW) : pm_dn pm_sM 113 42 P st G = pm_go pm_sM 113 G (pm_oIL 1 43 P st G) := pm_dn_eq (i := .iload_n 1) (len := 1) rfl
theorem u_113_43 (P : PL) (st : List PV) (G : PW) : pm_dn pm_sM 113 43 P st G = pm_go pm_sM 113 G (pm_oK (-6) 45 P st G) := pm_dn_eq (i := .bipush (-6)) (len := 2) rfl
theorem u_113_45 (P : PL) (st : List PV) (G : PW) : pm_dn pm_sM 113 45 P st G = pm_go pm_sM 113 G (pm_oAst pm_sM 0 46 P st G) := pm_dn_eq (i := .iastore) (len := 1) rfl
theorem u_113_46 (P : PL) (st : List PV) (G : PW) : pm_dn pm_sM 113 46 P st G = pm_go pm_sM 113 G (pm_oAL 0 47 P st G) := pm_dn_eq (i := .aload_n 0) (len := 1) rfl
theorem u_113_47 (P : PL) (st : List PV) (G : PW) : pm_dn pm_sM 113 47 P st G = pm_go pm_sM 113 G (pm_oGf pm_sM 6 14 50 P st G) := pm_dn_eq (i := .getfield 41) (len := 3) rfl
theorem u_113_50 (P : PL) (st : List PV) (G : PW) : pm_dn pm_sM 113 50 P st G = pm_go pm_sM 113 G (pm_oIL 1 51 P st G) := pm_dn_eq (i := .iload_n 1) (len := 1) rfl
theorem u_113_51 (P : PL) (st : List PV) (G : PW) : pm_dn pm_sM 113 51 P st G = pm_go pm_sM 113 G (pm_oK (-6) 53 P st G) := pm_dn_eq (i := .bipush (-6)) (len := 2) rfl
theorem u_113_53 (P : PL) (st : List PV) (G : PW) : pm_dn pm_sM 113 53 P st G = pm_go pm_sM 113 G (pm_oAst pm_sM 0 54 P st G) := pm_dn_eq (i := .iastore) (len := 1) rfl
theorem u_113_54 (P : PL) (st : List PV) (G : PW) : pm_dn pm_sM 113 54 P st G = pm_go pm_sM 113 G (pm_oRv P st G) := pm_dn_eq (i := .return_) (len := 1) rfl
theorem ue_114 (a0 : Nat) (a1 : Int) (a2 : Int) (G : PW) : pm_ca pm_sM 114 [.inr (.inr a0), .inl a1, .inl a2] G = pm_dn pm_sM 114 0 [some (.inr (.inr a0)), some (.inl a1), some (.inl a2), none, none, none] [] G := rfl
theorem u_114_0 (P : PL) (st : List PV) (G : PW) : pm_dn pm_sM 114 0 P st G = pm_go pm_sM 114 G (pm_oAL 0 1 P st G) := pm_dn_eq (i := .aload_n 0) (len := 1) rfl
theorem u_114_1 (P : PL) (st : List PV) (G : PW) : pm_dn pm_sM 114 1 P st G = pm_go pm_sM 114 G (pm_oGf pm_sM 6 15 4 P st G) := pm_dn_eq (i := .getfield 44) (len := 3) rfl
theorem u_114_4 (P : PL) (st : List PV) (G : PW) : pm_dn pm_sM 114 4 P st G = pm_go pm_sM 114 G (pm_oIL 1 5 P st G) := pm_dn_eq (i := .iload_n 1) (len := 1) rfl
theorem u_114_5 (P : PL) (st : List PV) (G : PW) : pm_dn pm_sM 114 5 P st G = pm_go pm_sM 114 G (pm_oAld pm_sM 0 6 P st G) := pm_dn_eq (i := .iaload) (len := 1) rfl
theorem u_114_6 (P : PL) (st : List PV) (G : PW) : pm_dn pm_sM 114 6 P st G = pm_go pm_sM 114 G (pm_oIL 2 7 P st G) := pm_dn_eq (i := .iload_n 2) (len := 1) rfl
theorem u_114_7 (P : PL) (st : List PV) (G : PW) : pm_dn pm_sM 114 7 P st G = pm_go pm_sM 114 G (pm_oAdd 8 P st G) := pm_dn_eq (i := .iadd) (len := 1) rfl
theorem u_114_8 (P : PL) (st : List PV) (G : PW) : pm_dn pm_sM 114 8 P st G = pm_go pm_sM 114 G (pm_oIS 3 9 P st G) := pm_dn_eq (i := .istore_n 3) (len := 1) rfl
theorem u_114_9 (P : PL) (st : List PV) (G : PW) : pm_dn pm_sM 114 9 P st G = pm_go pm_sM 114 G (pm_oAL 0 10 P st G) := pm_dn_eq (i := .aload_n 0) (len := 1) rfl
theorem u_114_10 (P : PL) (st : List PV) (G : PW) : pm_dn pm_sM 114 10 P st G = pm_go pm_sM 114 G (pm_oIL 3 11 P st G) := pm_dn_eq (i := .iload_n 3) (len := 1) rfl
theorem u_114_11 (P : PL) (st : List PV) (G : PW) : pm_dn pm_sM 114 11 P st G = pm_go pm_sM 114 G (pm_oK 0 12 P st G) := pm_dn_eq (i := .iconst 0) (len := 1) rfl
theorem u_114_12 (P : PL) (st : List PV) (G : PW) : pm_dn pm_sM 114 12 P st G = pm_go pm_sM 114 G (pm_oIL 1 13 P st G) := pm_dn_eq (i := .iload_n 1) (len := 1) rfl
theorem u_114_13 (P : PL) (st : List PV) (G : PW) : pm_dn pm_sM 114 13 P st G = pm_go pm_sM 114 G (pm_oIL 2 14 P st G) := pm_dn_eq (i := .iload_n 2) (len := 1) rfl
theorem u_114_14 (P : PL) (st : List PV) (G : PW) : pm_dn pm_sM 114 14 P st G = pm_go pm_sM 114 G (pm_oCv pm_sM 113 4 5 6 17 P st G) := pm_dn_eq (i := .invokevirtual 100) (len := 3) rfl
theorem u_114_17 (P : PL) (st : List PV) (G : PW) : pm_dn pm_sM 114 17 P st G = pm_go pm_sM 114 G (pm_oAL 0 18 P st G) := pm_dn_eq (i := .aload_n 0) (len := 1) rfl
theorem u_114_18 (P : PL) (st : List PV) (G : PW) : pm_dn pm_sM 114 18 P st G = pm_go pm_sM 114 G (pm_oGf pm_sM 6 11 21 P st G) := pm_dn_eq (i := .getfield 32) (len := 3) rfl
theorem u_114_21 (P : PL) (st : List PV) (G : PW) : pm_dn pm_sM 114 21 P st G = pm_go pm_sM 114 G (pm_oIL 3 22 P st G) := pm_dn_eq (i := .iload_n 3) (len := 1) rfl
theorem u_114_22 (P : PL) (st : List PV) (G : PW) : pm_dn pm_sM 114 22 P st G = pm_go pm_sM 114 G (pm_oIL 1 23 P st G) := pm_dn_eq (i := .iload_n 1) (len := 1) rfl
theorem u_114_23 (P : PL) (st : List PV) (G : PW) : pm_dn pm_sM 114 23 P st G = pm_go pm_sM 114 G (pm_oAL 0 24 P st G) := pm_dn_eq (i := .aload_n 0) (len := 1) rfl
theorem u_114_24 (P : PL) (st : List PV) (G : PW) : pm_dn pm_sM 114 24 P st G = pm_go pm_sM 114 G (pm_oGf pm_sM 6 6 27 P st G) := pm_dn_eq (i := .getfield 94) (len := 3) rfl
theorem u_114_27 (P : PL) (st : List PV) (G : PW) : pm_dn pm_sM 114 27 P st G = pm_go pm_sM 114 G (pm_oIc .ge (some 45) 30 P st G) := pm_dn_eq (i := .if_icmp .ge 18) (len := 3) rfl
theorem u_114_30 (P : PL) (st : List PV) (G : PW) : pm_dn pm_sM 114 30 P st G = pm_go pm_sM 114 G (pm_oAL 0 31 P st G) := pm_dn_eq (i := .aload_n 0) (len := 1) rfl
theorem u_114_31 (P : PL) (st : List PV) (G : PW) : pm_dn pm_sM 114 31 P st G = pm_go pm_sM 114 G (pm_oGf pm_sM 6 15 34 P st G) := pm_dn_eq (i := .getfield 44) (len := 3) rfl
theorem u_114_34 (P : PL) (st : List PV) (G : PW) : pm_dn pm_sM 114 34 P st G = pm_go pm_sM 114 G (pm_oIL 1 35 P st G) := pm_dn_eq (i := .iload_n 1) (len := 1) rfl
theorem u_114_35 (P : PL) (st : List PV) (G : PW) : pm_dn pm_sM 114 35 P st G = pm_go pm_sM 114 G (pm_oK 1 36 P st G) := pm_dn_eq (i := .iconst 1) (len := 1) rfl
theorem u_114_36 (P : PL) (st : List PV) (G : PW) : pm_dn pm_sM 114 36 P st G = pm_go pm_sM 114 G (pm_oAdd 37 P st G) := pm_dn_eq (i := .iadd) (len := 1) rfl
theorem u_114_37 (P : PL) (st : List PV) (G : PW) : pm_dn pm_sM 114 37 P st G = pm_go pm_sM 114 G (pm_oAld pm_sM 0 38 P st G) := pm_dn_eq (i := .iaload) (len := 1) rfl
theorem u_114_38 (P : PL) (st : List PV) (G : PW) : pm_dn pm_sM 114 38 P st G = pm_go pm_sM 114 G (pm_oIL 2 39 P st G) := pm_dn_eq (i := .iload_n 2) (len := 1) rfl
theorem u_114_39 (P : PL) (st : List PV) (G : PW) : pm_dn pm_sM 114 39 P st G = pm_go pm_sM 114 G (pm_oK 2 40 P st G) := pm_dn_eq (i := .iconst 2) (len := 1) rfl
theorem u_114_40 (P : PL) (st : List PV) (G : PW) : pm_dn pm_sM 114 40 P st G = pm_go pm_sM 114 G (pm_oDiv 41 P st G) := pm_dn_eq (i := .idiv) (len := 1) rfl
theorem u_114_41 (P : PL) (st : List PV) (G : PW) : pm_dn pm_sM 114 41 P st G = pm_go pm_sM 114 G (pm_oAdd 42 P st G) := pm_dn_eq (i := .iadd) (len := 1) rfl
theorem u_114_42 (P : PL) (st : List PV) (G : PW) : pm_dn pm_sM 114 42 P st G = pm_go pm_sM 114 G (pm_oGo (some 51) P st G) := pm_dn_eq (i := .goto 9) (len := 3) rfl
theorem u_114_45 (P : PL) (st : List PV) (G : PW) : pm_dn pm_sM 114 45 P st G = pm_go pm_sM 114 G (pm_oAL 0 46 P st G) := pm_dn_eq (i := .aload_n 0) (len := 1) rfl
theorem u_114_46 (P : PL) (st : List PV) (G : PW) : pm_dn pm_sM 114 46 P st G = pm_go pm_sM 114 G (pm_oGf pm_sM 6 7 49 P st G) := pm_dn_eq (i := .getfield 97) (len := 3) rfl
theorem u_114_49 (P : PL) (st : List PV) (G : PW) : pm_dn pm_sM 114 49 P st G = pm_go pm_sM 114 G (pm_oK 2 50 P st G) := pm_dn_eq (i := .iconst 2) (len := 1) rfl
theorem u_114_50 (P : PL) (st : List PV) (G : PW) : pm_dn pm_sM 114 50 P st G = pm_go pm_sM 114 G (pm_oSub 51 P st G) := pm_dn_eq (i := .isub) (len := 1) rfl
theorem u_114_51 (P : PL) (st : List PV) (G : PW) : pm_dn pm_sM 114 51 P st G = pm_go pm_sM 114 G (pm_oAst pm_sM 0 52 P st G) := pm_dn_eq (i := .iastore) (len := 1) rfl
theorem u_114_52 (P : PL) (st : List PV) (G : PW) : pm_dn pm_sM 114 52 P st G = pm_go pm_sM 114 G (pm_oAL 0 53 P st G) := pm_dn_eq (i := .aload_n 0) (len := 1) rfl
theorem u_114_53 (P : PL) (st : List PV) (G : PW) : pm_dn pm_sM 114 53 P st G = pm_go pm_sM 114 G (pm_oGf pm_sM 6 12 56 P st G) := pm_dn_eq (i := .getfield 35) (len := 3) rfl
theorem u_114_56 (P : PL) (st : List PV) (G : PW) : pm_dn pm_sM 114 56 P st G = pm_go pm_sM 114 G (pm_oIL 3 57 P st G) := pm_dn_eq (i := .iload_n 3) (len := 1) rfl
theorem u_114_57 (P : PL) (st : List PV) (G : PW) : pm_dn pm_sM 114 57 P st G = pm_go pm_sM 114 G (pm_oIL 1 58 P st G) := pm_dn_eq (i := .iload_n 1) (len := 1) rfl
theorem u_114_58 (P : PL) (st : List PV) (G : PW) : pm_dn pm_sM 114 58 P st G = pm_go pm_sM 114 G (pm_oAL 0 59 P st G) := pm_dn_eq (i := .aload_n 0) (len := 1) rfl
theorem u_114_59 (P : PL) (st : List PV) (G : PW) : pm_dn pm_sM 114 59 P st G = pm_go pm_sM 114 G (pm_oGf pm_sM 6 6 62 P st G) := pm_dn_eq (i := .getfield 94) (len := 3) rfl
theorem u_114_62 (P : PL) (st : List PV) (G : PW) : pm_dn pm_sM 114 62 P st G = pm_go pm_sM 114 G (pm_oIc .ge (some 71) 65 P st G) := pm_dn_eq (i := .if_icmp .ge 9) (len := 3) rfl
theorem u_114_65 (P : PL) (st : List PV) (G : PW) : pm_dn pm_sM 114 65 P st G = pm_go pm_sM 114 G (pm_oIL 2 66 P st G) := pm_dn_eq (i := .iload_n 2) (len := 1) rfl
theorem u_114_66 (P : PL) (st : List PV) (G : PW) : pm_dn pm_sM 114 66 P st G = pm_go pm_sM 114 G (pm_oK 2 67 P st G) := pm_dn_eq (i := .iconst 2) (len := 1) rfl
theorem u_114_67 (P : PL) (st : List PV) (G : PW) : pm_dn pm_sM 114 67 P st G = pm_go pm_sM 114 G (pm_oRem 68 P st G) := pm_dn_eq (i := .irem) (len := 1) rfl
theorem u_114_68 (P : PL) (st : List PV) (G : PW) : pm_dn pm_sM 114 68 P st G = pm_go pm_sM 114 G (pm_oGo (some 72) P st G) := pm_dn_eq (i := .goto 4) (len := 3) rfl
theorem u_114_71 (P : PL) (st : List PV) (G : PW) : pm_dn pm_sM 114 71 P st G = pm_go pm_sM 114 G (pm_oK 0 72 P st G) := pm_dn_eq (i := .iconst 0) (len := 1) rfl
theorem u_114_72 (P : PL) (st : List PV) (G : PW) : pm_dn pm_sM 114 72 P st G = pm_go pm_sM 114 G (pm_oAst pm_sM 0 73 P st G) := pm_dn_eq (i := .iastore) (len := 1) rfl
theorem u_114_73 (P : PL) (st : List PV) (G : PW) : pm_dn pm_sM 114 73 P st G = pm_go pm_sM 114 G (pm_oIL 1 74 P st G) := pm_dn_eq (i := .iload_n 1) (len := 1) rfl
theorem u_114_74 (P : PL) (st : List PV) (G : PW) : pm_dn pm_sM 114 74 P st G = pm_go pm_sM 114 G (pm_oK 1 75 P st G) := pm_dn_eq (i := .iconst 1) (len := 1) rfl
theorem u_114_75 (P : PL) (st : List PV) (G : PW) : pm_dn pm_sM 114 75 P st G = pm_go pm_sM 114 G (pm_oIc .ne (some 106) 78 P st G) := pm_dn_eq (i := .if_icmp .ne 31) (len := 3) rfl
theorem u_114_78 (P : PL) (st : List PV) (G : PW) : pm_dn pm_sM 114 78 P st G = pm_go pm_sM 114 G (pm_oAL 0 79 P st G) := pm_dn_eq (i := .aload_n 0) (len := 1) rfl
theorem u_114_79 (P : PL) (st : List PV) (G : PW) : pm_dn pm_sM 114 79 P st G = pm_go pm_sM 114 G (pm_oGf pm_sM 6 13 82 P st G) := pm_dn_eq (i := .getfield 38) (len := 3) rfl
theorem u_114_82 (P : PL) (st : List PV) (G : PW) : pm_dn pm_sM 114 82 P st G = pm_go pm_sM 114 G (pm_oIL 3 83 P st G) := pm_dn_eq (i := .iload_n 3) (len := 1) rfl
theorem u_114_83 (P : PL) (st : List PV) (G : PW) : pm_dn pm_sM 114 83 P st G = pm_go pm_sM 114 G (pm_oAL 0 84 P st G) := pm_dn_eq (i := .aload_n 0) (len := 1) rfl
theorem u_114_84 (P : PL) (st : List PV) (G : PW) : pm_dn pm_sM 114 84 P st G = pm_go pm_sM 114 G (pm_oGf pm_sM 6 16 87 P st G) := pm_dn_eq (i := .getfield 47) (len := 3) rfl
theorem u_114_87 (P : PL) (st : List PV) (G : PW) : pm_dn pm_sM 114 87 P st G = pm_go pm_sM 114 G (pm_oK 1 88 P st G) := pm_dn_eq (i := .iconst 1) (len := 1) rfl
theorem u_114_88 (P : PL) (st : List PV) (G : PW) : pm_dn pm_sM 114 88 P st G = pm_go pm_sM 114 G (pm_oAld pm_sM 0 89 P st G) := pm_dn_eq (i := .iaload) (len := 1) rfl
theorem u_114_89 (P : PL) (st : List PV) (G : PW) : pm_dn pm_sM 114 89 P st G = pm_go pm_sM 114 G (pm_oIL 2 90 P st G) := pm_dn_eq (i := .iload_n 2) (len := 1) rfl
theorem u_114_90 (P : PL) (st : List PV) (G : PW) : pm_dn pm_sM 114 90 P st G = pm_go pm_sM 114 G (pm_oK 2 91 P st G) := pm_dn_eq (i := .iconst 2) (len := 1) rfl
theorem u_114_91 (P : PL) (st : List PV) (G : PW) : pm_dn pm_sM 114 91 P st G = pm_go pm_sM 114 G (pm_oDiv 92 P st G) := pm_dn_eq (i := .idiv) (len := 1) rfl
theorem u_114_92 (P : PL) (st : List PV) (G : PW) : pm_dn pm_sM 114 92 P st G = pm_go pm_sM 114 G (pm_oAdd 93 P st G) := pm_dn_eq (i := .iadd) (len := 1) rfl
theorem u_114_93 (P : PL) (st : List PV) (G : PW) : pm_dn pm_sM 114 93 P st G = pm_go pm_sM 114 G (pm_oAst pm_sM 0 94 P st G) := pm_dn_eq (i := .iastore) (len := 1) rfl
theorem u_114_94 (P : PL) (st : List PV) (G : PW) : pm_dn pm_sM 114 94 P st G = pm_go pm_sM 114 G (pm_oAL 0 95 P st G) := pm_dn_eq (i := .aload_n 0) (len := 1) rfl
theorem u_114_95 (P : PL) (st : List PV) (G : PW) : pm_dn pm_sM 114 95 P st G = pm_go pm_sM 114 G (pm_oGf pm_sM 6 14 98 P st G) := pm_dn_eq (i := .getfield 41) (len := 3) rfl
theorem u_114_98 (P : PL) (st : List PV) (G : PW) : pm_dn pm_sM 114 98 P st G = pm_go pm_sM 114 G (pm_oIL 3 99 P st G) := pm_dn_eq (i := .iload_n 3) (len := 1) rfl
theorem u_114_99 (P : PL) (st : List PV) (G : PW) : pm_dn pm_sM 114 99 P st G = pm_go pm_sM 114 G (pm_oIL 2 100 P st G) := pm_dn_eq (i := .iload_n 2) (len := 1) rfl
theorem u_114_100 (P : PL) (st : List PV) (G : PW) : pm_dn pm_sM 114 100 P st G = pm_go pm_sM 114 G (pm_oK 2 101 P st G) := pm_dn_eq (i := .iconst 2) (len := 1) rfl
theorem u_114_101 (P : PL) (st : List PV) (G : PW) : pm_dn pm_sM 114 101 P st G = pm_go pm_sM 114 G (pm_oRem 102 P st G) := pm_dn_eq (i := .irem) (len := 1) rfl
theorem u_114_102 (P : PL) (st : List PV) (G : PW) : pm_dn pm_sM 114 102 P st G = pm_go pm_sM 114 G (pm_oAst pm_sM 0 103 P st G) := pm_dn_eq (i := .iastore) (len := 1) rfl
theorem u_114_103 (P : PL) (st : List PV) (G : PW) : pm_dn pm_sM 114 103 P st G = pm_go pm_sM 114 G (pm_oGo (some 177) P st G) := pm_dn_eq (i := .goto 74) (len := 3) rfl
theorem u_114_106 (P : PL) (st : List PV) (G : PW) : pm_dn pm_sM 114 106 P st G = pm_go pm_sM 114 G (pm_oK 2 107 P st G) := pm_dn_eq (i := .iconst 2) (len := 1) rfl
theorem u_114_107 (P : PL) (st : List PV) (G : PW) : pm_dn pm_sM 114 107 P st G = pm_go pm_sM 114 G (pm_oIL 1 108 P st G) := pm_dn_eq (i := .iload_n 1) (len := 1) rfl
theorem u_114_108 (P : PL) (st : List PV) (G : PW) : pm_dn pm_sM 114 108 P st G = pm_go pm_sM 114 G (pm_oK 1 109 P st G) := pm_dn_eq (i := .iconst 1) (len := 1) rfl
theorem u_114_109 (P : PL) (st : List PV) (G : PW) : pm_dn pm_sM 114 109 P st G = pm_go pm_sM 114 G (pm_oSub 110 P st G) := pm_dn_eq (i := .isub) (len := 1) rfl
theorem u_114_110 (P : PL) (st : List PV) (G : PW) : pm_dn pm_sM 114 110 P st G = pm_go pm_sM 114 G (pm_oMul 111 P st G) := pm_dn_eq (i := .imul) (len := 1) rfl
theorem u_114_111 (P : PL) (st : List PV) (G : PW) : pm_dn pm_sM 114 111 P st G = pm_go pm_sM 114 G (pm_oIS 4 113 P st G) := pm_dn_eq (i := .istore 4) (len := 2) rfl
theorem u_114_113 (P : PL) (st : List PV) (G : PW) : pm_dn pm_sM 114 113 P st G = pm_go pm_sM 114 G (pm_oAL 0 114 P st G) := pm_dn_eq (i := .aload_n 0) (len := 1) rfl
theorem u_114_114 (P : PL) (st : List PV) (G : PW) : pm_dn pm_sM 114 114 P st G = pm_go pm_sM 114 G (pm_oGf pm_sM 6 0 117 P st G) := pm_dn_eq (i := .getfield 7) (len := 3) rfl
theorem u_114_117 (P : PL) (st : List PV) (G : PW) : pm_dn pm_sM 114 117 P st G = pm_go pm_sM 114 G (pm_oK 1 118 P st G) := pm_dn_eq (i := .iconst 1) (len := 1) rfl
theorem u_114_118 (P : PL) (st : List PV) (G : PW) : pm_dn pm_sM 114 118 P st G = pm_go pm_sM 114 G (pm_oAld pm_sM 0 119 P st G) := pm_dn_eq (i := .iaload) (len := 1) rfl
theorem u_114_119 (P : PL) (st : List PV) (G : PW) : pm_dn pm_sM 114 119 P st G = pm_go pm_sM 114 G (pm_oK 1 120 P st G) := pm_dn_eq (i := .iconst 1) (len := 1) rfl
theorem u_114_120 (P : PL) (st : List PV) (G : PW) : pm_dn pm_sM 114 120 P st G = pm_go pm_sM 114 G (pm_oIc .ne (some 133) 123 P st G) := pm_dn_eq (i := .if_icmp .ne 13) (len := 3) rfl
theorem u_114_123 (P : PL) (st : List PV) (G : PW) : pm_dn pm_sM 114 123 P st G = pm_go pm_sM 114 G (pm_oIL 1 124 P st G) := pm_dn_eq (i := .iload_n 1) (len := 1) rfl
theorem u_114_124 (P : PL) (st : List PV) (G : PW) : pm_dn pm_sM 114 124 P st G = pm_go pm_sM 114 G (pm_oK 2 125 P st G) := pm_dn_eq (i := .iconst 2) (len := 1) rfl
theorem u_114_125 (P : PL) (st : List PV) (G : PW) : pm_dn pm_sM 114 125 P st G = pm_go pm_sM 114 G (pm_oRem 126 P st G) := pm_dn_eq (i := .irem) (len := 1) rfl
theorem u_114_126 (P : PL) (st : List PV) (G : PW) : pm_dn pm_sM 114 126 P st G = pm_go pm_sM 114 G (pm_oIf .ne (some 133) 129 P st G) := pm_dn_eq (i := .ifCond .ne 7) (len := 3) rfl
theorem u_114_129 (P : PL) (st : List PV) (G : PW) : pm_dn pm_sM 114 129 P st G = pm_go pm_sM 114 G (pm_oK 1 130 P st G) := pm_dn_eq (i := .iconst 1) (len := 1) rfl
theorem u_114_130 (P : PL) (st : List PV) (G : PW) : pm_dn pm_sM 114 130 P st G = pm_go pm_sM 114 G (pm_oGo (some 134) P st G) := pm_dn_eq (i := .goto 4) (len := 3) rfl
theorem u_114_133 (P : PL) (st : List PV) (G : PW) : pm_dn pm_sM 114 133 P st G = pm_go pm_sM 114 G (pm_oK 0 134 P st G) := pm_dn_eq (i := .iconst 0) (len := 1) rfl
theorem u_114_134 (P : PL) (st : List PV) (G : PW) : pm_dn pm_sM 114 134 P st G = pm_go pm_sM 114 G (pm_oIS 5 136 P st G) := pm_dn_eq (i := .istore 5) (len := 2) rfl
theorem u_114_136 (P : PL) (st : List PV) (G : PW) : pm_dn pm_sM 114 136 P st G = pm_go pm_sM 114 G (pm_oAL 0 137 P st G) := pm_dn_eq (i := .aload_n 0) (len := 1) rfl
theorem u_114_137 (P : PL) (st : List PV) (G : PW) : pm_dn pm_sM 114 137 P st G = pm_go pm_sM 114 G (pm_oGf pm_sM 6 13 140 P st G) := pm_dn_eq (i := .getfield 38) (len := 3) rfl
theorem u_114_140 (P : PL) (st : List PV) (G : PW) : pm_dn pm_sM 114 140 P st G = pm_go pm_sM 114 G (pm_oIL 3 141 P st G) := pm_dn_eq (i := .iload_n 3) (len := 1) rfl
theorem u_114_141 (P : PL) (st : List PV) (G : PW) : pm_dn pm_sM 114 141 P st G = pm_go pm_sM 114 G (pm_oAL 0 142 P st G) := pm_dn_eq (i := .aload_n 0) (len := 1) rfl
theorem u_114_142 (P : PL) (st : List PV) (G : PW) : pm_dn pm_sM 114 142 P st G = pm_go pm_sM 114 G (pm_oGf pm_sM 6 16 145 P st G) := pm_dn_eq (i := .getfield 47) (len := 3) rfl
theorem u_114_145 (P : PL) (st : List PV) (G : PW) : pm_dn pm_sM 114 145 P st G = pm_go pm_sM 114 G (pm_oIL 4 147 P st G) := pm_dn_eq (i := .iload 4) (len := 2) rfl
theorem u_114_147 (P : PL) (st : List PV) (G : PW) : pm_dn pm_sM 114 147 P st G = pm_go pm_sM 114 G (pm_oAld pm_sM 0 148 P st G) := pm_dn_eq (i := .iaload) (len := 1) rfl
theorem u_114_148 (P : PL) (st : List PV) (G : PW) : pm_dn pm_sM 114 148 P st G = pm_go pm_sM 114 G (pm_oIL 5 150 P st G) := pm_dn_eq (i := .iload 5) (len := 2) rfl
theorem u_114_150 (P : PL) (st : List PV) (G : PW) : pm_dn pm_sM 114 150 P st G = pm_go pm_sM 114 G (pm_oIf .eq (some 167) 153 P st G) := pm_dn_eq (i := .ifCond .eq 17) (len := 3) rfl
theorem u_114_153 (P : PL) (st : List PV) (G : PW) : pm_dn pm_sM 114 153 P st G = pm_go pm_sM 114 G (pm_oAL 0 154 P st G) := pm_dn_eq (i := .aload_n 0) (len := 1) rfl
theorem u_114_154 (P : PL) (st : List PV) (G : PW) : pm_dn pm_sM 114 154 P st G = pm_go pm_sM 114 G (pm_oGf pm_sM 6 17 157 P st G) := pm_dn_eq (i := .getfield 50) (len := 3) rfl
theorem u_114_157 (P : PL) (st : List PV) (G : PW) : pm_dn pm_sM 114 157 P st G = pm_go pm_sM 114 G (pm_oIL 4 159 P st G) := pm_dn_eq (i := .iload 4) (len := 2) rfl
theorem u_114_159 (P : PL) (st : List PV) (G : PW) : pm_dn pm_sM 114 159 P st G = pm_go pm_sM 114 G (pm_oAld pm_sM 0 160 P st G) := pm_dn_eq (i := .iaload) (len := 1) rfl
theorem u_114_160 (P : PL) (st : List PV) (G : PW) : pm_dn pm_sM 114 160 P st G = pm_go pm_sM 114 G (pm_oK 1 161 P st G) := pm_dn_eq (i := .iconst 1) (len := 1) rfl
theorem u_114_161 (P : PL) (st : List PV) (G : PW) : pm_dn pm_sM 114 161 P st G = pm_go pm_sM 114 G (pm_oSub 162 P st G) := pm_dn_eq (i := .isub) (len := 1) rfl
theorem u_114_162 (P : PL) (st : List PV) (G : PW) : pm_dn pm_sM 114 162 P st G = pm_go pm_sM 114 G (pm_oIL 2 163 P st G) := pm_dn_eq (i := .iload_n 2) (len := 1) rfl
theorem u_114_163 (P : PL) (st : List PV) (G : PW) : pm_dn pm_sM 114 163 P st G = pm_go pm_sM 114 G (pm_oSub 164 P st G) := pm_dn_eq (i := .isub) (len := 1) rfl
theorem u_114_164 (P : PL) (st : List PV) (G : PW) : pm_dn pm_sM 114 164 P st G = pm_go pm_sM 114 G (pm_oGo (some 168) P st G) := pm_dn_eq (i := .goto 4) (len := 3) rfl
theorem u_114_167 (P : PL) (st : List PV) (G : PW) : pm_dn pm_sM 114 167 P st G = pm_go pm_sM 114 G (pm_oIL 2 168 P st G) := pm_dn_eq (i := .iload_n 2) (len := 1) rfl
theorem u_114_168 (P : PL) (st : List PV) (G : PW) : pm_dn pm_sM 114 168 P st G = pm_go pm_sM 114 G (pm_oAdd 169 P st G) := pm_dn_eq (i := .iadd) (len := 1) rfl
theorem u_114_169 (P : PL) (st : List PV) (G : PW) : pm_dn pm_sM 114 169 P st G = pm_go pm_sM 114 G (pm_oAst pm_sM 0 170 P st G) := pm_dn_eq (i := .iastore) (len := 1) rfl
theorem u_114_170 (P : PL) (st : List PV) (G : PW) : pm_dn pm_sM 114 170 P st G = pm_go pm_sM 114 G (pm_oAL 0 171 P st G) := pm_dn_eq (i := .aload_n 0) (len := 1) rfl
theorem u_114_171 (P : PL) (st : List PV) (G : PW) : pm_dn pm_sM 114 171 P st G = pm_go pm_sM 114 G (pm_oGf pm_sM 6 14 174 P st G) := pm_dn_eq (i := .getfield 41) (len := 3) rfl
theorem u_114_174 (P : PL) (st : List PV) (G : PW) : pm_dn pm_sM 114 174 P st G = pm_go pm_sM 114 G (pm_oIL 3 175 P st G) := pm_dn_eq (i := .iload_n 3) (len := 1) rfl
theorem u_114_175 (P : PL) (st : List PV) (G : PW) : pm_dn pm_sM 114 175 P st G = pm_go pm_sM 114 G (pm_oK 1 176 P st G) := pm_dn_eq (i := .iconst 1) (len := 1) rfl
theorem u_114_176 (P : PL) (st : List PV) (G : PW) : pm_dn pm_sM 114 176 P st G = pm_go pm_sM 114 G (pm_oAst pm_sM 0 177 P st G) := pm_dn_eq (i := .iastore) (len := 1) rfl
theorem u_114_177 (P : PL) (st : List PV) (G : PW) : pm_dn pm_sM 114 177 P st G = pm_go pm_sM 114 G (pm_oRv P st G) := pm_dn_eq (i := .return_) (len := 1) rfl
theorem ue_115 (a0 : Nat) (a1 : Int) (a2 : Int) (G : PW) : pm_ca pm_sM 115 [.inr (.inr a0), .inl a1, .inl a2] G = pm_dn pm_sM 115 0 [some (.inr (.inr a0)), some (.inl a1), some (.inl a2), none] [] G := rfl
theorem u_115_0 (P : PL) (st : List PV) (G : PW) : pm_dn pm_sM 115 0 P st G = pm_go pm_sM 115 G (pm_oAL 0 1 P st G) := pm_dn_eq (i := .aload_n 0) (len := 1) rfl
theorem u_115_1 (P : PL) (st : List PV) (G : PW) : pm_dn pm_sM 115 1 P st G = pm_go pm_sM 115 G (pm_oGf pm_sM 6 16 4 P st G) := pm_dn_eq (i := .getfield 47) (len := 3) rfl
theorem u_115_4 (P : PL) (st : List PV) (G : PW) : pm_dn pm_sM 115 4 P st G = pm_go pm_sM 115 G (pm_oIL 1 5 P st G) := pm_dn_eq (i := .iload_n 1) (len := 1) rfl
theorem u_115_5 (P : PL) (st : List PV) (G : PW) : pm_dn pm_sM 115 5 P st G = pm_go pm_sM 115 G (pm_oAld pm_sM 0 6 P st G) := pm_dn_eq (i := .iaload) (len := 1) rfl
theorem u_115_6 (P : PL) (st : List PV) (G : PW) : pm_dn pm_sM 115 6 P st G = pm_go pm_sM 115 G (pm_oIL 2 7 P st G) := pm_dn_eq (i := .iload_n 2) (len := 1) rfl
theorem u_115_7 (P : PL) (st : List PV) (G : PW) : pm_dn pm_sM 115 7 P st G = pm_go pm_sM 115 G (pm_oAdd 8 P st G) := pm_dn_eq (i := .iadd) (len := 1) rfl
theorem u_115_8 (P : PL) (st : List PV) (G : PW) : pm_dn pm_sM 115 8 P st G = pm_go pm_sM 115 G (pm_oIS 3 9 P st G) := pm_dn_eq (i := .istore_n 3) (len := 1) rfl
theorem u_115_9 (P : PL) (st : List PV) (G : PW) : pm_dn pm_sM 115 9 P st G = pm_go pm_sM 115 G (pm_oAL 0 10 P st G) := pm_dn_eq (i := .aload_n 0) (len := 1) rfl
theorem u_115_10 (P : PL) (st : List PV) (G : PW) : pm_dn pm_sM 115 10 P st G = pm_go pm_sM 115 G (pm_oIL 3 11 P st G) := pm_dn_eq (i := .iload_n 3) (len := 1) rfl
theorem u_115_11 (P : PL) (st : List PV) (G : PW) : pm_dn pm_sM 115 11 P st G = pm_go pm_sM 115 G (pm_oK 1 12 P st G) := pm_dn_eq (i := .iconst 1) (len := 1) rfl
theorem u_115_12 (P : PL) (st : List PV) (G : PW) : pm_dn pm_sM 115 12 P st G = pm_go pm_sM 115 G (pm_oIL 1 13 P st G) := pm_dn_eq (i := .iload_n 1) (len := 1) rfl
theorem u_115_13 (P : PL) (st : List PV) (G : PW) : pm_dn pm_sM 115 13 P st G = pm_go pm_sM 115 G (pm_oIL 2 14 P st G) := pm_dn_eq (i := .iload_n 2) (len := 1) rfl
theorem u_115_14 (P : PL) (st : List PV) (G : PW) : pm_dn pm_sM 115 14 P st G = pm_go pm_sM 115 G (pm_oCv pm_sM 113 4 5 6 17 P st G) := pm_dn_eq (i := .invokevirtual 100) (len := 3) rfl
theorem u_115_17 (P : PL) (st : List PV) (G : PW) : pm_dn pm_sM 115 17 P st G = pm_go pm_sM 115 G (pm_oIL 1 18 P st G) := pm_dn_eq (i := .iload_n 1) (len := 1) rfl
theorem u_115_18 (P : PL) (st : List PV) (G : PW) : pm_dn pm_sM 115 18 P st G = pm_go pm_sM 115 G (pm_oK 2 19 P st G) := pm_dn_eq (i := .iconst 2) (len := 1) rfl
theorem u_115_19 (P : PL) (st : List PV) (G : PW) : pm_dn pm_sM 115 19 P st G = pm_go pm_sM 115 G (pm_oAL 0 20 P st G) := pm_dn_eq (i := .aload_n 0) (len := 1) rfl
theorem u_115_20 (P : PL) (st : List PV) (G : PW) : pm_dn pm_sM 115 20 P st G = pm_go pm_sM 115 G (pm_oGf pm_sM 6 6 23 P st G) := pm_dn_eq (i := .getfield 94) (len := 3) rfl
theorem u_115_23 (P : PL) (st : List PV) (G : PW) : pm_dn pm_sM 115 23 P st G = pm_go pm_sM 115 G (pm_oMul 24 P st G) := pm_dn_eq (i := .imul) (len := 1) rfl
theorem u_115_24 (P : PL) (st : List PV) (G : PW) : pm_dn pm_sM 115 24 P st G = pm_go pm_sM 115 G (pm_oK 2 25 P st G) := pm_dn_eq (i := .iconst 2) (len := 1) rfl
theorem u_115_25 (P : PL) (st : List PV) (G : PW) : pm_dn pm_sM 115 25 P st G = pm_go pm_sM 115 G (pm_oSub 26 P st G) := pm_dn_eq (i := .isub) (len := 1) rfl
theorem u_115_26 (P : PL) (st : List PV) (G : PW) : pm_dn pm_sM 115 26 P st G = pm_go pm_sM 115 G (pm_oIc .ne (some 51) 29 P st G) := pm_dn_eq (i := .if_icmp .ne 25) (len := 3) rfl
theorem u_115_29 (P : PL) (st : List PV) (G : PW) : pm_dn pm_sM 115 29 P st G = pm_go pm_sM 115 G (pm_oAL 0 30 P st G) := pm_dn_eq (i := .aload_n 0) (len := 1) rfl
theorem u_115_30 (P : PL) (st : List PV) (G : PW) : pm_dn pm_sM 115 30 P st G = pm_go pm_sM 115 G (pm_oGf pm_sM 6 11 33 P st G) := pm_dn_eq (i := .getfield 32) (len := 3) rfl
theorem u_115_33 (P : PL) (st : List PV) (G : PW) : pm_dn pm_sM 115 33 P st G = pm_go pm_sM 115 G (pm_oIL 3 34 P st G) := pm_dn_eq (i := .iload_n 3) (len := 1) rfl
theorem u_115_34 (P : PL) (st : List PV) (G : PW) : pm_dn pm_sM 115 34 P st G = pm_go pm_sM 115 G (pm_oAL 0 35 P st G) := pm_dn_eq (i := .aload_n 0) (len := 1) rfl
theorem u_115_35 (P : PL) (st : List PV) (G : PW) : pm_dn pm_sM 115 35 P st G = pm_go pm_sM 115 G (pm_oGf pm_sM 6 7 38 P st G) := pm_dn_eq (i := .getfield 97) (len := 3) rfl
theorem u_115_38 (P : PL) (st : List PV) (G : PW) : pm_dn pm_sM 115 38 P st G = pm_go pm_sM 115 G (pm_oK 2 39 P st G) := pm_dn_eq (i := .iconst 2) (len := 1) rfl
theorem u_115_39 (P : PL) (st : List PV) (G : PW) : pm_dn pm_sM 115 39 P st G = pm_go pm_sM 115 G (pm_oSub 40 P st G) := pm_dn_eq (i := .isub) (len := 1) rfl
theorem u_115_40 (P : PL) (st : List PV) (G : PW) : pm_dn pm_sM 115 40 P st G = pm_go pm_sM 115 G (pm_oAst pm_sM 0 41 P st G) := pm_dn_eq (i := .iastore) (len := 1) rfl
theorem u_115_41 (P : PL) (st : List PV) (G : PW) : pm_dn pm_sM 115 41 P st G = pm_go pm_sM 115 G (pm_oAL 0 42 P st G) := pm_dn_eq (i := .aload_n 0) (len := 1) rfl
theorem u_115_42 (P : PL) (st : List PV) (G : PW) : pm_dn pm_sM 115 42 P st G = pm_go pm_sM 115 G (pm_oGf pm_sM 6 12 45 P st G) := pm_dn_eq (i := .getfield 35) (len := 3) rfl
theorem u_115_45 (P : PL) (st : List PV) (G : PW) : pm_dn pm_sM 115 45 P st G = pm_go pm_sM 115 G (pm_oIL 3 46 P st G) := pm_dn_eq (i := .iload_n 3) (len := 1) rfl
theorem u_115_46 (P : PL) (st : List PV) (G : PW) : pm_dn pm_sM 115 46 P st G = pm_go pm_sM 115 G (pm_oK 1 47 P st G) := pm_dn_eq (i := .iconst 1) (len := 1) rfl
theorem u_115_47 (P : PL) (st : List PV) (G : PW) : pm_dn pm_sM 115 47 P st G = pm_go pm_sM 115 G (pm_oAst pm_sM 0 48 P st G) := pm_dn_eq (i := .iastore) (len := 1) rfl
theorem u_115_48 (P : PL) (st : List PV) (G : PW) : pm_dn pm_sM 115 48 P st G = pm_go pm_sM 115 G (pm_oGo (some 100) P st G) := pm_dn_eq (i := .goto 52) (len := 3) rfl
theorem u_115_51 (P : PL) (st : List PV) (G : PW) : pm_dn pm_sM 115 51 P st G = pm_go pm_sM 115 G (pm_oAL 0 52 P st G) := pm_dn_eq (i := .aload_n 0) (len := 1) rfl
theorem u_115_52 (P : PL) (st : List PV) (G : PW) : pm_dn pm_sM 115 52 P st G = pm_go pm_sM 115 G (pm_oGf pm_sM 6 11 55 P st G) := pm_dn_eq (i := .getfield 32) (len := 3) rfl
theorem u_115_55 (P : PL) (st : List PV) (G : PW) : pm_dn pm_sM 115 55 P st G = pm_go pm_sM 115 G (pm_oIL 3 56 P st G) := pm_dn_eq (i := .iload_n 3) (len := 1) rfl
theorem u_115_56 (P : PL) (st : List PV) (G : PW) : pm_dn pm_sM 115 56 P st G = pm_go pm_sM 115 G (pm_oAL 0 57 P st G) := pm_dn_eq (i := .aload_n 0) (len := 1) rfl
theorem u_115_57 (P : PL) (st : List PV) (G : PW) : pm_dn pm_sM 115 57 P st G = pm_go pm_sM 115 G (pm_oGf pm_sM 6 16 60 P st G) := pm_dn_eq (i := .getfield 47) (len := 3) rfl
theorem u_115_60 (P : PL) (st : List PV) (G : PW) : pm_dn pm_sM 115 60 P st G = pm_go pm_sM 115 G (pm_oIL 1 61 P st G) := pm_dn_eq (i := .iload_n 1) (len := 1) rfl
theorem u_115_61 (P : PL) (st : List PV) (G : PW) : pm_dn pm_sM 115 61 P st G = pm_go pm_sM 115 G (pm_oK 1 62 P st G) := pm_dn_eq (i := .iconst 1) (len := 1) rfl
theorem u_115_62 (P : PL) (st : List PV) (G : PW) : pm_dn pm_sM 115 62 P st G = pm_go pm_sM 115 G (pm_oAdd 63 P st G) := pm_dn_eq (i := .iadd) (len := 1) rfl
theorem u_115_63 (P : PL) (st : List PV) (G : PW) : pm_dn pm_sM 115 63 P st G = pm_go pm_sM 115 G (pm_oAld pm_sM 0 64 P st G) := pm_dn_eq (i := .iaload) (len := 1) rfl
theorem u_115_64 (P : PL) (st : List PV) (G : PW) : pm_dn pm_sM 115 64 P st G = pm_go pm_sM 115 G (pm_oIL 1 65 P st G) := pm_dn_eq (i := .iload_n 1) (len := 1) rfl
theorem u_115_65 (P : PL) (st : List PV) (G : PW) : pm_dn pm_sM 115 65 P st G = pm_go pm_sM 115 G (pm_oK 2 66 P st G) := pm_dn_eq (i := .iconst 2) (len := 1) rfl
theorem u_115_66 (P : PL) (st : List PV) (G : PW) : pm_dn pm_sM 115 66 P st G = pm_go pm_sM 115 G (pm_oRem 67 P st G) := pm_dn_eq (i := .irem) (len := 1) rfl
theorem u_115_67 (P : PL) (st : List PV) (G : PW) : pm_dn pm_sM 115 67 P st G = pm_go pm_sM 115 G (pm_oK 1 68 P st G) := pm_dn_eq (i := .iconst 1) (len := 1) rfl
theorem u_115_68 (P : PL) (st : List PV) (G : PW) : pm_dn pm_sM 115 68 P st G = pm_go pm_sM 115 G (pm_oIc .ne (some 75) 71 P st G) := pm_dn_eq (i := .if_icmp .ne 7) (len := 3) rfl
theorem u_115_71 (P : PL) (st : List PV) (G : PW) : pm_dn pm_sM 115 71 P st G = pm_go pm_sM 115 G (pm_oIL 2 72 P st G) := pm_dn_eq (i := .iload_n 2) (len := 1) rfl
theorem u_115_72 (P : PL) (st : List PV) (G : PW) : pm_dn pm_sM 115 72 P st G = pm_go pm_sM 115 G (pm_oGo (some 78) P st G) := pm_dn_eq (i := .goto 6) (len := 3) rfl
theorem u_115_75 (P : PL) (st : List PV) (G : PW) : pm_dn pm_sM 115 75 P st G = pm_go pm_sM 115 G (pm_oIL 2 76 P st G) := pm_dn_eq (i := .iload_n 2) (len := 1) rfl
theorem u_115_76 (P : PL) (st : List PV) (G : PW) : pm_dn pm_sM 115 76 P st G = pm_go pm_sM 115 G (pm_oK 2 77 P st G) := pm_dn_eq (i := .iconst 2) (len := 1) rfl
theorem u_115_77 (P : PL) (st : List PV) (G : PW) : pm_dn pm_sM 115 77 P st G = pm_go pm_sM 115 G (pm_oDiv 78 P st G) := pm_dn_eq (i := .idiv) (len := 1) rfl
theorem u_115_78 (P : PL) (st : List PV) (G : PW) : pm_dn pm_sM 115 78 P st G = pm_go pm_sM 115 G (pm_oAdd 79 P st G) := pm_dn_eq (i := .iadd) (len := 1) rfl
theorem u_115_79 (P : PL) (st : List PV) (G : PW) : pm_dn pm_sM 115 79 P st G = pm_go pm_sM 115 G (pm_oAst pm_sM 0 80 P st G) := pm_dn_eq (i := .iastore) (len := 1) rfl
theorem u_115_80 (P : PL) (st : List PV) (G : PW) : pm_dn pm_sM 115 80 P st G = pm_go pm_sM 115 G (pm_oAL 0 81 P st G) := pm_dn_eq (i := .aload_n 0) (len := 1) rfl
theorem u_115_81 (P : PL) (st : List PV) (G : PW) : pm_dn pm_sM 115 81 P st G = pm_go pm_sM 115 G (pm_oGf pm_sM 6 12 84 P st G) := pm_dn_eq (i := .getfield 35) (len := 3) rfl
theorem u_115_84 (P : PL) (st : List PV) (G : PW) : pm_dn pm_sM 115 84 P st G = pm_go pm_sM 115 G (pm_oIL 3 85 P st G) := pm_dn_eq (i := .iload_n 3) (len := 1) rfl
theorem u_115_85 (P : PL) (st : List PV) (G : PW) : pm_dn pm_sM 115 85 P st G = pm_go pm_sM 115 G (pm_oIL 1 86 P st G) := pm_dn_eq (i := .iload_n 1) (len := 1) rfl
theorem u_115_86 (P : PL) (st : List PV) (G : PW) : pm_dn pm_sM 115 86 P st G = pm_go pm_sM 115 G (pm_oK 2 87 P st G) := pm_dn_eq (i := .iconst 2) (len := 1) rfl
theorem u_115_87 (P : PL) (st : List PV) (G : PW) : pm_dn pm_sM 115 87 P st G = pm_go pm_sM 115 G (pm_oRem 88 P st G) := pm_dn_eq (i := .irem) (len := 1) rfl
theorem u_115_88 (P : PL) (st : List PV) (G : PW) : pm_dn pm_sM 115 88 P st G = pm_go pm_sM 115 G (pm_oK 1 89 P st G) := pm_dn_eq (i := .iconst 1) (len := 1) rfl
theorem u_115_89 (P : PL) (st : List PV) (G : PW) : pm_dn pm_sM 115 89 P st G = pm_go pm_sM 115 G (pm_oIc .ne (some 96) 92 P st G) := pm_dn_eq (i := .if_icmp .ne 7) (len := 3) rfl
theorem u_115_92 (P : PL) (st : List PV) (G : PW) : pm_dn pm_sM 115 92 P st G = pm_go pm_sM 115 G (pm_oK 0 93 P st G) := pm_dn_eq (i := .iconst 0) (len := 1) rfl
theorem u_115_93 (P : PL) (st : List PV) (G : PW) : pm_dn pm_sM 115 93 P st G = pm_go pm_sM 115 G (pm_oGo (some 99) P st G) := pm_dn_eq (i := .goto 6) (len := 3) rfl
theorem u_115_96 (P : PL) (st : List PV) (G : PW) : pm_dn pm_sM 115 96 P st G = pm_go pm_sM 115 G (pm_oIL 2 97 P st G) := pm_dn_eq (i := .iload_n 2) (len := 1) rfl
theorem u_115_97 (P : PL) (st : List PV) (G : PW) : pm_dn pm_sM 115 97 P st G = pm_go pm_sM 115 G (pm_oK 2 98 P st G) := pm_dn_eq (i := .iconst 2) (len := 1) rfl
theorem u_115_98 (P : PL) (st : List PV) (G : PW) : pm_dn pm_sM 115 98 P st G = pm_go pm_sM 115 G (pm_oRem 99 P st G) := pm_dn_eq (i := .irem) (len := 1) rfl
theorem u_115_99 (P : PL) (st : List PV) (G : PW) : pm_dn pm_sM 115 99 P st G = pm_go pm_sM 115 G (pm_oAst pm_sM 0 100 P st G) := pm_dn_eq (i := .iastore) (len := 1) rfl
theorem u_115_100 (P : PL) (st : List PV) (G : PW) : pm_dn pm_sM 115 100 P st G = pm_go pm_sM 115 G (pm_oRv P st G) := pm_dn_eq (i := .return_) (len := 1) rfl
theorem ue_116 (a0 : Nat) (G : PW) : pm_ca pm_sM 116 [.inr (.inr a0)] G = pm_dn pm_sM 116 0 [some (.inr (.inr a0)), none, none] [] G := rfl
theorem u_116_0 (P : PL) (st : List PV) (G : PW) : pm_dn pm_sM 116 0 P st G = pm_go pm_sM 116 G (pm_oAL 0 1 P st G) := pm_dn_eq (i := .aload_n 0) (len := 1) rfl
theorem u_116_1 (P : PL) (st : List PV) (G : PW) : pm_dn pm_sM 116 1 P st G = pm_go pm_sM 116 G (pm_oCv pm_sM 111 0 3 6 4 P st G) := pm_dn_eq (i := .invokevirtual 104) (len := 3) rfl
theorem u_116_4 (P : PL) (st : List PV) (G : PW) : pm_dn pm_sM 116 4 P st G = pm_go pm_sM 116 G (pm_oAL 0 5 P st G) := pm_dn_eq (i := .aload_n 0) (len := 1) rfl
theorem u_116_5 (P : PL) (st : List PV) (G : PW) : pm_dn pm_sM 116 5 P st G = pm_go pm_sM 116 G (pm_oCv pm_sM 112 0 3 6 8 P st G) := pm_dn_eq (i := .invokevirtual 107) (len := 3) rfl
theorem u_116_8 (P : PL) (st : List PV) (G : PW) : pm_dn pm_sM 116 8 P st G = pm_go pm_sM 116 G (pm_oK 1 9 P st G) := pm_dn_eq (i := .iconst 1) (len := 1) rfl
theorem u_116_9 (P : PL) (st : List PV) (G : PW) : pm_dn pm_sM 116 9 P st G = pm_go pm_sM 116 G (pm_oIS 1 10 P st G) := pm_dn_eq (i := .istore_n 1) (len := 1) rfl
theorem u_116_10 (P : PL) (st : List PV) (G : PW) : pm_dn pm_sM 116 10 P st G = pm_go pm_sM 116 G (pm_oIL 1 11 P st G) := pm_dn_eq (i := .iload_n 1) (len := 1) rfl
theorem u_116_11 (P : PL) (st : List PV) (G : PW) : pm_dn pm_sM 116 11 P st G = pm_go pm_sM 116 G (pm_oAL 0 12 P st G) := pm_dn_eq (i := .aload_n 0) (len := 1) rfl
theorem u_116_12 (P : PL) (st : List PV) (G : PW) : pm_dn pm_sM 116 12 P st G = pm_go pm_sM 116 G (pm_oGf pm_sM 6 6 15 P st G) := pm_dn_eq (i := .getfield 94) (len := 3) rfl
theorem u_116_15 (P : PL) (st : List PV) (G : PW) : pm_dn pm_sM 116 15 P st G = pm_go pm_sM 116 G (pm_oIc .gt (some 48) 18 P st G) := pm_dn_eq (i := .if_icmp .gt 33) (len := 3) rfl
theorem u_116_18 (P : PL) (st : List PV) (G : PW) : pm_dn pm_sM 116 18 P st G = pm_go pm_sM 116 G (pm_oK 0 19 P st G) := pm_dn_eq (i := .iconst 0) (len := 1) rfl
theorem u_116_19 (P : PL) (st : List PV) (G : PW) : pm_dn pm_sM 116 19 P st G = pm_go pm_sM 116 G (pm_oIS 2 20 P st G) := pm_dn_eq (i := .istore_n 2) (len := 1) rfl
theorem u_116_20 (P : PL) (st : List PV) (G : PW) : pm_dn pm_sM 116 20 P st G = pm_go pm_sM 116 G (pm_oIL 2 21 P st G) := pm_dn_eq (i := .iload_n 2) (len := 1) rfl
theorem u_116_21 (P : PL) (st : List PV) (G : PW) : pm_dn pm_sM 116 21 P st G = pm_go pm_sM 116 G (pm_oAL 0 22 P st G) := pm_dn_eq (i := .aload_n 0) (len := 1) rfl
theorem u_116_22 (P : PL) (st : List PV) (G : PW) : pm_dn pm_sM 116 22 P st G = pm_go pm_sM 116 G (pm_oGf pm_sM 6 5 25 P st G) := pm_dn_eq (i := .getfield 90) (len := 3) rfl
theorem u_116_25 (P : PL) (st : List PV) (G : PW) : pm_dn pm_sM 116 25 P st G = pm_go pm_sM 116 G (pm_oIL 1 26 P st G) := pm_dn_eq (i := .iload_n 1) (len := 1) rfl
theorem u_116_26 (P : PL) (st : List PV) (G : PW) : pm_dn pm_sM 116 26 P st G = pm_go pm_sM 116 G (pm_oShr 27 P st G) := pm_dn_eq (i := .ishr) (len := 1) rfl
theorem u_116_27 (P : PL) (st : List PV) (G : PW) : pm_dn pm_sM 116 27 P st G = pm_go pm_sM 116 G (pm_oIc .ge (some 42) 30 P st G) := pm_dn_eq (i := .if_icmp .ge 15) (len := 3) rfl
theorem u_116_30 (P : PL) (st : List PV) (G : PW) : pm_dn pm_sM 116 30 P st G = pm_go pm_sM 116 G (pm_oAL 0 31 P st G) := pm_dn_eq (i := .aload_n 0) (len := 1) rfl
theorem u_116_31 (P : PL) (st : List PV) (G : PW) : pm_dn pm_sM 116 31 P st G = pm_go pm_sM 116 G (pm_oIL 1 32 P st G) := pm_dn_eq (i := .iload_n 1) (len := 1) rfl
theorem u_116_32 (P : PL) (st : List PV) (G : PW) : pm_dn pm_sM 116 32 P st G = pm_go pm_sM 116 G (pm_oIL 2 33 P st G) := pm_dn_eq (i := .iload_n 2) (len := 1) rfl
theorem u_116_33 (P : PL) (st : List PV) (G : PW) : pm_dn pm_sM 116 33 P st G = pm_go pm_sM 116 G (pm_oCv pm_sM 114 2 6 6 36 P st G) := pm_dn_eq (i := .invokevirtual 110) (len := 3) rfl
theorem u_116_36 (P : PL) (st : List PV) (G : PW) : pm_dn pm_sM 116 36 P st G = pm_go pm_sM 116 G (pm_oInc 2 1 39 P st G) := pm_dn_eq (i := .iinc 2 1) (len := 3) rfl
theorem u_116_39 (P : PL) (st : List PV) (G : PW) : pm_dn pm_sM 116 39 P st G = pm_go pm_sM 116 G (pm_oGo (some 20) P st G) := pm_dn_eq (i := .goto (-19)) (len := 3) rfl
theorem u_116_42 (P : PL) (st : List PV) (G : PW) : pm_dn pm_sM 116 42 P st G = pm_go pm_sM 116 G (pm_oInc 1 1 45 P st G) := pm_dn_eq (i := .iinc 1 1) (len := 3) rfl
theorem u_116_45 (P : PL) (st : List PV) (G : PW) : pm_dn pm_sM 116 45 P st G = pm_go pm_sM 116 G (pm_oGo (some 10) P st G) := pm_dn_eq (i := .goto (-35)) (len := 3) rfl
theorem u_116_48 (P : PL) (st : List PV) (G : PW) : pm_dn pm_sM 116 48 P st G = pm_go pm_sM 116 G (pm_oK 1 49 P st G) := pm_dn_eq (i := .iconst 1) (len := 1) rfl
theorem u_116_49 (P : PL) (st : List PV) (G : PW) : pm_dn pm_sM 116 49 P st G = pm_go pm_sM 116 G (pm_oIS 1 50 P st G) := pm_dn_eq (i := .istore_n 1) (len := 1) rfl
theorem u_116_50 (P : PL) (st : List PV) (G : PW) : pm_dn pm_sM 116 50 P st G = pm_go pm_sM 116 G (pm_oIL 1 51 P st G) := pm_dn_eq (i := .iload_n 1) (len := 1) rfl
theorem u_116_51 (P : PL) (st : List PV) (G : PW) : pm_dn pm_sM 116 51 P st G = pm_go pm_sM 116 G (pm_oK 2 52 P st G) := pm_dn_eq (i := .iconst 2) (len := 1) rfl
theorem u_116_52 (P : PL) (st : List PV) (G : PW) : pm_dn pm_sM 116 52 P st G = pm_go pm_sM 116 G (pm_oAL 0 53 P st G) := pm_dn_eq (i := .aload_n 0) (len := 1) rfl
theorem u_116_53 (P : PL) (st : List PV) (G : PW) : pm_dn pm_sM 116 53 P st G = pm_go pm_sM 116 G (pm_oGf pm_sM 6 6 56 P st G) := pm_dn_eq (i := .getfield 94) (len := 3) rfl
theorem u_116_56 (P : PL) (st : List PV) (G : PW) : pm_dn pm_sM 116 56 P st G = pm_go pm_sM 116 G (pm_oMul 57 P st G) := pm_dn_eq (i := .imul) (len := 1) rfl
theorem u_116_57 (P : PL) (st : List PV) (G : PW) : pm_dn pm_sM 116 57 P st G = pm_go pm_sM 116 G (pm_oK 2 58 P st G) := pm_dn_eq (i := .iconst 2) (len := 1) rfl
theorem u_116_58 (P : PL) (st : List PV) (G : PW) : pm_dn pm_sM 116 58 P st G = pm_go pm_sM 116 G (pm_oSub 59 P st G) := pm_dn_eq (i := .isub) (len := 1) rfl
theorem u_116_59 (P : PL) (st : List PV) (G : PW) : pm_dn pm_sM 116 59 P st G = pm_go pm_sM 116 G (pm_oIc .gt (some 92) 62 P st G) := pm_dn_eq (i := .if_icmp .gt 33) (len := 3) rfl
theorem u_116_62 (P : PL) (st : List PV) (G : PW) : pm_dn pm_sM 116 62 P st G = pm_go pm_sM 116 G (pm_oK 0 63 P st G) := pm_dn_eq (i := .iconst 0) (len := 1) rfl
theorem u_116_63 (P : PL) (st : List PV) (G : PW) : pm_dn pm_sM 116 63 P st G = pm_go pm_sM 116 G (pm_oIS 2 64 P st G) := pm_dn_eq (i := .istore_n 2) (len := 1) rfl
theorem u_116_64 (P : PL) (st : List PV) (G : PW) : pm_dn pm_sM 116 64 P st G = pm_go pm_sM 116 G (pm_oIL 2 65 P st G) := pm_dn_eq (i := .iload_n 2) (len := 1) rfl
theorem u_116_65 (P : PL) (st : List PV) (G : PW) : pm_dn pm_sM 116 65 P st G = pm_go pm_sM 116 G (pm_oAL 0 66 P st G) := pm_dn_eq (i := .aload_n 0) (len := 1) rfl
theorem u_116_66 (P : PL) (st : List PV) (G : PW) : pm_dn pm_sM 116 66 P st G = pm_go pm_sM 116 G (pm_oGf pm_sM 6 17 69 P st G) := pm_dn_eq (i := .getfield 50) (len := 3) rfl
theorem u_116_69 (P : PL) (st : List PV) (G : PW) : pm_dn pm_sM 116 69 P st G = pm_go pm_sM 116 G (pm_oIL 1 70 P st G) := pm_dn_eq (i := .iload_n 1) (len := 1) rfl
theorem u_116_70 (P : PL) (st : List PV) (G : PW) : pm_dn pm_sM 116 70 P st G = pm_go pm_sM 116 G (pm_oAld pm_sM 0 71 P st G) := pm_dn_eq (i := .iaload) (len := 1) rfl
theorem u_116_71 (P : PL) (st : List PV) (G : PW) : pm_dn pm_sM 116 71 P st G = pm_go pm_sM 116 G (pm_oIc .ge (some 86) 74 P st G) := pm_dn_eq (i := .if_icmp .ge 15) (len := 3) rfl
theorem u_116_74 (P : PL) (st : List PV) (G : PW) : pm_dn pm_sM 116 74 P st G = pm_go pm_sM 116 G (pm_oAL 0 75 P st G) := pm_dn_eq (i := .aload_n 0) (len := 1) rfl
theorem u_116_75 (P : PL) (st : List PV) (G : PW) : pm_dn pm_sM 116 75 P st G = pm_go pm_sM 116 G (pm_oIL 1 76 P st G) := pm_dn_eq (i := .iload_n 1) (len := 1) rfl
theorem u_116_76 (P : PL) (st : List PV) (G : PW) : pm_dn pm_sM 116 76 P st G = pm_go pm_sM 116 G (pm_oIL 2 77 P st G) := pm_dn_eq (i := .iload_n 2) (len := 1) rfl
theorem u_116_77 (P : PL) (st : List PV) (G : PW) : pm_dn pm_sM 116 77 P st G = pm_go pm_sM 116 G (pm_oCv pm_sM 115 2 4 6 80 P st G) := pm_dn_eq (i := .invokevirtual 113) (len := 3) rfl
theorem u_116_80 (P : PL) (st : List PV) (G : PW) : pm_dn pm_sM 116 80 P st G = pm_go pm_sM 116 G (pm_oInc 2 1 83 P st G) := pm_dn_eq (i := .iinc 2 1) (len := 3) rfl
theorem u_116_83 (P : PL) (st : List PV) (G : PW) : pm_dn pm_sM 116 83 P st G = pm_go pm_sM 116 G (pm_oGo (some 64) P st G) := pm_dn_eq (i := .goto (-19)) (len := 3) rfl
theorem u_116_86 (P : PL) (st : List PV) (G : PW) : pm_dn pm_sM 116 86 P st G = pm_go pm_sM 116 G (pm_oInc 1 1 89 P st G) := pm_dn_eq (i := .iinc 1 1) (len := 3) rfl
theorem u_116_89 (P : PL) (st : List PV) (G : PW) : pm_dn pm_sM 116 89 P st G = pm_go pm_sM 116 G (pm_oGo (some 50) P st G) := pm_dn_eq (i := .goto (-39)) (len := 3) rfl
theorem u_116_92 (P : PL) (st : List PV) (G : PW) : pm_dn pm_sM 116 92 P st G = pm_go pm_sM 116 G (pm_oAL 0 93 P st G) := pm_dn_eq (i := .aload_n 0) (len := 1) rfl
theorem u_116_93 (P : PL) (st : List PV) (G : PW) : pm_dn pm_sM 116 93 P st G = pm_go pm_sM 116 G (pm_oAL 0 94 P st G) := pm_dn_eq (i := .aload_n 0) (len := 1) rfl
theorem u_116_94 (P : PL) (st : List PV) (G : PW) : pm_dn pm_sM 116 94 P st G = pm_go pm_sM 116 G (pm_oGf pm_sM 6 7 97 P st G) := pm_dn_eq (i := .getfield 97) (len := 3) rfl
theorem u_116_97 (P : PL) (st : List PV) (G : PW) : pm_dn pm_sM 116 97 P st G = pm_go pm_sM 116 G (pm_oK 2 98 P st G) := pm_dn_eq (i := .iconst 2) (len := 1) rfl
theorem u_116_98 (P : PL) (st : List PV) (G : PW) : pm_dn pm_sM 116 98 P st G = pm_go pm_sM 116 G (pm_oSub 99 P st G) := pm_dn_eq (i := .isub) (len := 1) rfl
theorem u_116_99 (P : PL) (st : List PV) (G : PW) : pm_dn pm_sM 116 99 P st G = pm_go pm_sM 116 G (pm_oK 2 100 P st G) := pm_dn_eq (i := .iconst 2) (len := 1) rfl
theorem u_116_100 (P : PL) (st : List PV) (G : PW) : pm_dn pm_sM 116 100 P st G = pm_go pm_sM 116 G (pm_oK 1 101 P st G) := pm_dn_eq (i := .iconst 1) (len := 1) rfl
theorem u_116_101 (P : PL) (st : List PV) (G : PW) : pm_dn pm_sM 116 101 P st G = pm_go pm_sM 116 G (pm_oK 0 102 P st G) := pm_dn_eq (i := .iconst 0) (len := 1) rfl
theorem u_116_102 (P : PL) (st : List PV) (G : PW) : pm_dn pm_sM 116 102 P st G = pm_go pm_sM 116 G (pm_oCv pm_sM 113 4 5 6 105 P st G) := pm_dn_eq (i := .invokevirtual 100) (len := 3) rfl
theorem u_116_105 (P : PL) (st : List PV) (G : PW) : pm_dn pm_sM 116 105 P st G = pm_go pm_sM 116 G (pm_oAL 0 106 P st G) := pm_dn_eq (i := .aload_n 0) (len := 1) rfl
theorem u_116_106 (P : PL) (st : List PV) (G : PW) : pm_dn pm_sM 116 106 P st G = pm_go pm_sM 116 G (pm_oAL 0 107 P st G) := pm_dn_eq (i := .aload_n 0) (len := 1) rfl
theorem u_116_107 (P : PL) (st : List PV) (G : PW) : pm_dn pm_sM 116 107 P st G = pm_go pm_sM 116 G (pm_oGf pm_sM 6 7 110 P st G) := pm_dn_eq (i := .getfield 97) (len := 3) rfl
theorem u_116_110 (P : PL) (st : List PV) (G : PW) : pm_dn pm_sM 116 110 P st G = pm_go pm_sM 116 G (pm_oK 1 111 P st G) := pm_dn_eq (i := .iconst 1) (len := 1) rfl
theorem u_116_111 (P : PL) (st : List PV) (G : PW) : pm_dn pm_sM 116 111 P st G = pm_go pm_sM 116 G (pm_oSub 112 P st G) := pm_dn_eq (i := .isub) (len := 1) rfl
theorem u_116_112 (P : PL) (st : List PV) (G : PW) : pm_dn pm_sM 116 112 P st G = pm_go pm_sM 116 G (pm_oK 2 113 P st G) := pm_dn_eq (i := .iconst 2) (len := 1) rfl
theorem u_116_113 (P : PL) (st : List PV) (G : PW) : pm_dn pm_sM 116 113 P st G = pm_go pm_sM 116 G (pm_oK 2 114 P st G) := pm_dn_eq (i := .iconst 2) (len := 1) rfl
theorem u_116_114 (P : PL) (st : List PV) (G : PW) : pm_dn pm_sM 116 114 P st G = pm_go pm_sM 116 G (pm_oK 0 115 P st G) := pm_dn_eq (i := .iconst 0) (len := 1) rfl
theorem u_116_115 (P : PL) (st : List PV) (G : PW) : pm_dn pm_sM 116 115 P st G = pm_go pm_sM 116 G (pm_oCv pm_sM 113 4 5 6 118 P st G) := pm_dn_eq (i := .invokevirtual 100) (len := 3) rfl
theorem u_116_118 (P : PL) (st : List PV) (G : PW) : pm_dn pm_sM 116 118 P st G = pm_go pm_sM 116 G (pm_oRv P st G) := pm_dn_eq (i := .return_) (len := 1) rfl
theorem ue_117 (a0 : Nat) (a1 : Int) (a2 : Int) (G : PW) : pm_ca pm_sM 117 [.inr (.inr a0), .inl a1, .inl a2] G = pm_dn pm_sM 117 0 [some (.inr (.inr a0)), some (.inl a1), some (.inl a2), none, none] [] G := rfl
theorem u_117_0 (P : PL) (st : List PV) (G : PW) : pm_dn pm_sM 117 0 P st G = pm_go pm_sM 117 G (pm_oAL 0 1 P st G) := pm_dn_eq (i := .aload_n 0) (len := 1) rfl
theorem u_117_1 (P : PL) (st : List PV) (G : PW) : pm_dn pm_sM 117 1 P st G = pm_go pm_sM 117 G (pm_oGf pm_sM 6 0 4 P st G) := pm_dn_eq (i := .getfield 7) (len := 3) rfl
theorem u_117_4 (P : PL) (st : List PV) (G : PW) : pm_dn pm_sM 117 4 P st G = pm_go pm_sM 117 G (pm_oK 3 5 P st G) := pm_dn_eq (i := .iconst 3) (len := 1) rfl
theorem u_117_5 (P : PL) (st : List PV) (G : PW) : pm_dn pm_sM 117 5 P st G = pm_go pm_sM 117 G (pm_oIL 1 6 P st G) := pm_dn_eq (i := .iload_n 1) (len := 1) rfl
theorem u_117_6 (P : PL) (st : List PV) (G : PW) : pm_dn pm_sM 117 6 P st G = pm_go pm_sM 117 G (pm_oAdd 7 P st G) := pm_dn_eq (i := .iadd) (len := 1) rfl
theorem u_117_7 (P : PL) (st : List PV) (G : PW) : pm_dn pm_sM 117 7 P st G = pm_go pm_sM 117 G (pm_oAld pm_sM 0 8 P st G) := pm_dn_eq (i := .iaload) (len := 1) rfl
theorem u_117_8 (P : PL) (st : List PV) (G : PW) : pm_dn pm_sM 117 8 P st G = pm_go pm_sM 117 G (pm_oIS 3 9 P st G) := pm_dn_eq (i := .istore_n 3) (len := 1) rfl
theorem u_117_9 (P : PL) (st : List PV) (G : PW) : pm_dn pm_sM 117 9 P st G = pm_go pm_sM 117 G (pm_oAL 0 10 P st G) := pm_dn_eq (i := .aload_n 0) (len := 1) rfl
theorem u_117_10 (P : PL) (st : List PV) (G : PW) : pm_dn pm_sM 117 10 P st G = pm_go pm_sM 117 G (pm_oGf pm_sM 6 0 13 P st G) := pm_dn_eq (i := .getfield 7) (len := 3) rfl
theorem u_117_13 (P : PL) (st : List PV) (G : PW) : pm_dn pm_sM 117 13 P st G = pm_go pm_sM 117 G (pm_oK 3 14 P st G) := pm_dn_eq (i := .iconst 3) (len := 1) rfl
theorem u_117_14 (P : PL) (st : List PV) (G : PW) : pm_dn pm_sM 117 14 P st G = pm_go pm_sM 117 G (pm_oIL 2 15 P st G) := pm_dn_eq (i := .iload_n 2) (len := 1) rfl
theorem u_117_15 (P : PL) (st : List PV) (G : PW) : pm_dn pm_sM 117 15 P st G = pm_go pm_sM 117 G (pm_oAdd 16 P st G) := pm_dn_eq (i := .iadd) (len := 1) rfl
theorem u_117_16 (P : PL) (st : List PV) (G : PW) : pm_dn pm_sM 117 16 P st G = pm_go pm_sM 117 G (pm_oAld pm_sM 0 17 P st G) := pm_dn_eq (i := .iaload) (len := 1) rfl
theorem u_117_17 (P : PL) (st : List PV) (G : PW) : pm_dn pm_sM 117 17 P st G = pm_go pm_sM 117 G (pm_oIS 4 19 P st G) := pm_dn_eq (i := .istore 4) (len := 2) rfl
theorem u_117_19 (P : PL) (st : List PV) (G : PW) : pm_dn pm_sM 117 19 P st G = pm_go pm_sM 117 G (pm_oIL 3 20 P st G) := pm_dn_eq (i := .iload_n 3) (len := 1) rfl
theorem u_117_20 (P : PL) (st : List PV) (G : PW) : pm_dn pm_sM 117 20 P st G = pm_go pm_sM 117 G (pm_oIL 4 22 P st G) := pm_dn_eq (i := .iload 4) (len := 2) rfl
theorem u_117_22 (P : PL) (st : List PV) (G : PW) : pm_dn pm_sM 117 22 P st G = pm_go pm_sM 117 G (pm_oIc .gt (some 36) 25 P st G) := pm_dn_eq (i := .if_icmp .gt 14) (len := 3) rfl
theorem u_117_25 (P : PL) (st : List PV) (G : PW) : pm_dn pm_sM 117 25 P st G = pm_go pm_sM 117 G (pm_oIL 3 26 P st G) := pm_dn_eq (i := .iload_n 3) (len := 1) rfl
theorem u_117_26 (P : PL) (st : List PV) (G : PW) : pm_dn pm_sM 117 26 P st G = pm_go pm_sM 117 G (pm_oIL 4 28 P st G) := pm_dn_eq (i := .iload 4) (len := 2) rfl
theorem u_117_28 (P : PL) (st : List PV) (G : PW) : pm_dn pm_sM 117 28 P st G = pm_go pm_sM 117 G (pm_oIc .ne (some 40) 31 P st G) := pm_dn_eq (i := .if_icmp .ne 12) (len := 3) rfl
theorem u_117_31 (P : PL) (st : List PV) (G : PW) : pm_dn pm_sM 117 31 P st G = pm_go pm_sM 117 G (pm_oIL 1 32 P st G) := pm_dn_eq (i := .iload_n 1) (len := 1) rfl
theorem u_117_32 (P : PL) (st : List PV) (G : PW) : pm_dn pm_sM 117 32 P st G = pm_go pm_sM 117 G (pm_oIL 2 33 P st G) := pm_dn_eq (i := .iload_n 2) (len := 1) rfl
theorem u_117_33 (P : PL) (st : List PV) (G : PW) : pm_dn pm_sM 117 33 P st G = pm_go pm_sM 117 G (pm_oIc .ge (some 40) 36 P st G) := pm_dn_eq (i := .if_icmp .ge 7) (len := 3) rfl
theorem u_117_36 (P : PL) (st : List PV) (G : PW) : pm_dn pm_sM 117 36 P st G = pm_go pm_sM 117 G (pm_oK 1 37 P st G) := pm_dn_eq (i := .iconst 1) (len := 1) rfl
theorem u_117_37 (P : PL) (st : List PV) (G : PW) : pm_dn pm_sM 117 37 P st G = pm_go pm_sM 117 G (pm_oGo (some 41) P st G) := pm_dn_eq (i := .goto 4) (len := 3) rfl
theorem u_117_40 (P : PL) (st : List PV) (G : PW) : pm_dn pm_sM 117 40 P st G = pm_go pm_sM 117 G (pm_oK 0 41 P st G) := pm_dn_eq (i := .iconst 0) (len := 1) rfl
theorem u_117_41 (P : PL) (st : List PV) (G : PW) : pm_dn pm_sM 117 41 P st G = pm_go pm_sM 117 G (pm_oRi 2 P st G) := pm_dn_eq (i := .ireturn) (len := 1) rfl
theorem ue_118 (a0 : Nat) (a1 : Int) (a2 : Int) (a3 : Int) (G : PW) : pm_ca pm_sM 118 [.inr (.inr a0), .inl a1, .inl a2, .inl a3] G = pm_dn pm_sM 118 0 [some (.inr (.inr a0)), some (.inl a1), some (.inl a2), some (.inl a3)] [] G := rfl
theorem u_118_0 (P : PL) (st : List PV) (G : PW) : pm_dn pm_sM 118 0 P st G = pm_go pm_sM 118 G (pm_oAL 0 1 P st G) := pm_dn_eq (i := .aload_n 0) (len := 1) rfl
theorem u_118_1 (P : PL) (st : List PV) (G : PW) : pm_dn pm_sM 118 1 P st G = pm_go pm_sM 118 G (pm_oGf pm_sM 6 23 4 P st G) := pm_dn_eq (i := .getfield 68) (len := 3) rfl
theorem u_118_4 (P : PL) (st : List PV) (G : PW) : pm_dn pm_sM 118 4 P st G = pm_go pm_sM 118 G (pm_oIL 1 5 P st G) := pm_dn_eq (i := .iload_n 1) (len := 1) rfl
theorem u_118_5 (P : PL) (st : List PV) (G : PW) : pm_dn pm_sM 118 5 P st G = pm_go pm_sM 118 G (pm_oIL 2 6 P st G) := pm_dn_eq (i := .iload_n 2) (len := 1) rfl
theorem u_118_6 (P : PL) (st : List PV) (G : PW) : pm_dn pm_sM 118 6 P st G = pm_go pm_sM 118 G (pm_oAst pm_sM 0 7 P st G) := pm_dn_eq (i := .iastore) (len := 1) rfl
theorem u_118_7 (P : PL) (st : List PV) (G : PW) : pm_dn pm_sM 118 7 P st G = pm_go pm_sM 118 G (pm_oAL 0 8 P st G) := pm_dn_eq (i := .aload_n 0) (len := 1) rfl
theorem u_118_8 (P : PL) (st : List PV) (G : PW) : pm_dn pm_sM 118 8 P st G = pm_go pm_sM 118 G (pm_oGf pm_sM 6 21 11 P st G) := pm_dn_eq (i := .getfield 62) (len := 3) rfl
theorem u_118_11 (P : PL) (st : List PV) (G : PW) : pm_dn pm_sM 118 11 P st G = pm_go pm_sM 118 G (pm_oIL 1 12 P st G) := pm_dn_eq (i := .iload_n 1) (len := 1) rfl
theorem u_118_12 (P : PL) (st : List PV) (G : PW) : pm_dn pm_sM 118 12 P st G = pm_go pm_sM 118 G (pm_oAL 0 13 P st G) := pm_dn_eq (i := .aload_n 0) (len := 1) rfl
theorem u_118_13 (P : PL) (st : List PV) (G : PW) : pm_dn pm_sM 118 13 P st G = pm_go pm_sM 118 G (pm_oGf pm_sM 6 20 16 P st G) := pm_dn_eq (i := .getfield 59) (len := 3) rfl
theorem u_118_16 (P : PL) (st : List PV) (G : PW) : pm_dn pm_sM 118 16 P st G = pm_go pm_sM 118 G (pm_oK 2 17 P st G) := pm_dn_eq (i := .iconst 2) (len := 1) rfl
theorem u_118_17 (P : PL) (st : List PV) (G : PW) : pm_dn pm_sM 118 17 P st G = pm_go pm_sM 118 G (pm_oIL 1 18 P st G) := pm_dn_eq (i := .iload_n 1) (len := 1) rfl
theorem u_118_18 (P : PL) (st : List PV) (G : PW) : pm_dn pm_sM 118 18 P st G = pm_go pm_sM 118 G (pm_oMul 19 P st G) := pm_dn_eq (i := .imul) (len := 1) rfl
theorem u_118_19 (P : PL) (st : List PV) (G : PW) : pm_dn pm_sM 118 19 P st G = pm_go pm_sM 118 G (pm_oIL 3 20 P st G) := pm_dn_eq (i := .iload_n 3) (len := 1) rfl
theorem u_118_20 (P : PL) (st : List PV) (G : PW) : pm_dn pm_sM 118 20 P st G = pm_go pm_sM 118 G (pm_oAdd 21 P st G) := pm_dn_eq (i := .iadd) (len := 1) rfl
theorem u_118_21 (P : PL) (st : List PV) (G : PW) : pm_dn pm_sM 118 21 P st G = pm_go pm_sM 118 G (pm_oAld pm_sM 0 22 P st G) := pm_dn_eq (i := .iaload) (len := 1) rfl
theorem u_118_22 (P : PL) (st : List PV) (G : PW) : pm_dn pm_sM 118 22 P st G = pm_go pm_sM 118 G (pm_oAst pm_sM 0 23 P st G) := pm_dn_eq (i := .iastore) (len := 1) rfl
theorem u_118_23 (P : PL) (st : List PV) (G : PW) : pm_dn pm_sM 118 23 P st G = pm_go pm_sM 118 G (pm_oAL 0 24 P st G) := pm_dn_eq (i := .aload_n 0) (len := 1) rfl
theorem u_118_24 (P : PL) (st : List PV) (G : PW) : pm_dn pm_sM 118 24 P st G = pm_go pm_sM 118 G (pm_oGf pm_sM 6 22 27 P st G) := pm_dn_eq (i := .getfield 65) (len := 3) rfl
theorem u_118_27 (P : PL) (st : List PV) (G : PW) : pm_dn pm_sM 118 27 P st G = pm_go pm_sM 118 G (pm_oIL 1 28 P st G) := pm_dn_eq (i := .iload_n 1) (len := 1) rfl
theorem u_118_28 (P : PL) (st : List PV) (G : PW) : pm_dn pm_sM 118 28 P st G = pm_go pm_sM 118 G (pm_oAL 0 29 P st G) := pm_dn_eq (i := .aload_n 0) (len := 1) rfl
theorem u_118_29 (P : PL) (st : List PV) (G : PW) : pm_dn pm_sM 118 29 P st G = pm_go pm_sM 118 G (pm_oGf pm_sM 6 20 32 P st G) := pm_dn_eq (i := .getfield 59) (len := 3) rfl
theorem u_118_32 (P : PL) (st : List PV) (G : PW) : pm_dn pm_sM 118 32 P st G = pm_go pm_sM 118 G (pm_oK 2 33 P st G) := pm_dn_eq (i := .iconst 2) (len := 1) rfl
theorem u_118_33 (P : PL) (st : List PV) (G : PW) : pm_dn pm_sM 118 33 P st G = pm_go pm_sM 118 G (pm_oIL 1 34 P st G) := pm_dn_eq (i := .iload_n 1) (len := 1) rfl
theorem u_118_34 (P : PL) (st : List PV) (G : PW) : pm_dn pm_sM 118 34 P st G = pm_go pm_sM 118 G (pm_oMul 35 P st G) := pm_dn_eq (i := .imul) (len := 1) rfl
theorem u_118_35 (P : PL) (st : List PV) (G : PW) : pm_dn pm_sM 118 35 P st G = pm_go pm_sM 118 G (pm_oK 1 36 P st G) := pm_dn_eq (i := .iconst 1) (len := 1) rfl
theorem u_118_36 (P : PL) (st : List PV) (G : PW) : pm_dn pm_sM 118 36 P st G = pm_go pm_sM 118 G (pm_oAdd 37 P st G) := pm_dn_eq (i := .iadd) (len := 1) rfl
theorem u_118_37 (P : PL) (st : List PV) (G : PW) : pm_dn pm_sM 118 37 P st G = pm_go pm_sM 118 G (pm_oIL 3 38 P st G) := pm_dn_eq (i := .iload_n 3) (len := 1) rfl
theorem u_118_38 (P : PL) (st : List PV) (G : PW) : pm_dn pm_sM 118 38 P st G = pm_go pm_sM 118 G (pm_oSub 39 P st G) := pm_dn_eq (i := .isub) (len := 1) rfl
theorem u_118_39 (P : PL) (st : List PV) (G : PW) : pm_dn pm_sM 118 39 P st G = pm_go pm_sM 118 G (pm_oAld pm_sM 0 40 P st G) := pm_dn_eq (i := .iaload) (len := 1) rfl
theorem u_118_40 (P : PL) (st : List PV) (G : PW) : pm_dn pm_sM 118 40 P st G = pm_go pm_sM 118 G (pm_oAst pm_sM 0 41 P st G) := pm_dn_eq (i := .iastore) (len := 1) rfl
theorem u_118_41 (P : PL) (st : List PV) (G : PW) : pm_dn pm_sM 118 41 P st G = pm_go pm_sM 118 G (pm_oRv P st G) := pm_dn_eq (i := .return_) (len := 1) rfl
theorem ue_119 (a0 : Nat) (a1 : Int) (G : PW) : pm_ca pm_sM 119 [.inr (.inr a0), .inl a1] G = pm_dn pm_sM 119 0 [some (.inr (.inr a0)), some (.inl a1)] [] G := rfl
theorem u_119_0 (P : PL) (st : List PV) (G : PW) : pm_dn pm_sM 119 0 P st G = pm_go pm_sM 119 G (pm_oAL 0 1 P st G) := pm_dn_eq (i := .aload_n 0) (len := 1) rfl
theorem u_119_1 (P : PL) (st : List PV) (G : PW) : pm_dn pm_sM 119 1 P st G = pm_go pm_sM 119 G (pm_oGf pm_sM 6 0 4 P st G) := pm_dn_eq (i := .getfield 7) (len := 3) rfl
theorem u_119_4 (P : PL) (st : List PV) (G : PW) : pm_dn pm_sM 119 4 P st G = pm_go pm_sM 119 G (pm_oK 50 6 P st G) := pm_dn_eq (i := .bipush 50) (len := 2) rfl
theorem u_119_6 (P : PL) (st : List PV) (G : PW) : pm_dn pm_sM 119 6 P st G = pm_go pm_sM 119 G (pm_oIL 1 7 P st G) := pm_dn_eq (i := .iload_n 1) (len := 1) rfl
theorem u_119_7 (P : PL) (st : List PV) (G : PW) : pm_dn pm_sM 119 7 P st G = pm_go pm_sM 119 G (pm_oAdd 8 P st G) := pm_dn_eq (i := .iadd) (len := 1) rfl
theorem u_119_8 (P : PL) (st : List PV) (G : PW) : pm_dn pm_sM 119 8 P st G = pm_go pm_sM 119 G (pm_oAld pm_sM 0 9 P st G) := pm_dn_eq (i := .iaload) (len := 1) rfl
theorem u_119_9 (P : PL) (st : List PV) (G : PW) : pm_dn pm_sM 119 9 P st G = pm_go pm_sM 119 G (pm_oK 1 10 P st G) := pm_dn_eq (i := .iconst 1) (len := 1) rfl
theorem u_119_10 (P : PL) (st : List PV) (G : PW) : pm_dn pm_sM 119 10 P st G = pm_go pm_sM 119 G (pm_oIc .ne (some 17) 13 P st G) := pm_dn_eq (i := .if_icmp .ne 7) (len := 3) rfl
theorem u_119_13 (P : PL) (st : List PV) (G : PW) : pm_dn pm_sM 119 13 P st G = pm_go pm_sM 119 G (pm_oK 1 14 P st G) := pm_dn_eq (i := .iconst 1) (len := 1) rfl
theorem u_119_14 (P : PL) (st : List PV) (G : PW) : pm_dn pm_sM 119 14 P st G = pm_go pm_sM 119 G (pm_oGo (some 18) P st G) := pm_dn_eq (i := .goto 4) (len := 3) rfl
theorem u_119_17 (P : PL) (st : List PV) (G : PW) : pm_dn pm_sM 119 17 P st G = pm_go pm_sM 119 G (pm_oK 0 18 P st G) := pm_dn_eq (i := .iconst 0) (len := 1) rfl
theorem u_119_18 (P : PL) (st : List PV) (G : PW) : pm_dn pm_sM 119 18 P st G = pm_go pm_sM 119 G (pm_oRi 2 P st G) := pm_dn_eq (i := .ireturn) (len := 1) rfl
theorem ue_120 (a0 : Nat) (a1 : Int) (a2 : Int) (a3 : Int) (G : PW) : pm_ca pm_sM 120 [.inr (.inr a0), .inl a1, .inl a2, .inl a3] G = pm_dn pm_sM 120 0 [some (.inr (.inr a0)), some (.inl a1), some (.inl a2), some (.inl a3), none] [] G := rfl
theorem u_120_0 (P : PL) (st : List PV) (G : PW) : pm_dn pm_sM 120 0 P st G = pm_go pm_sM 120 G (pm_oAL 0 1 P st G) := pm_dn_eq (i := .aload_n 0) (len := 1) rfl
theorem u_120_1 (P : PL) (st : List PV) (G : PW) : pm_dn pm_sM 120 1 P st G = pm_go pm_sM 120 G (pm_oGf pm_sM 6 24 4 P st G) := pm_dn_eq (i := .getfield 71) (len := 3) rfl
theorem u_120_4 (P : PL) (st : List PV) (G : PW) : pm_dn pm_sM 120 4 P st G = pm_go pm_sM 120 G (pm_oIL 1 5 P st G) := pm_dn_eq (i := .iload_n 1) (len := 1) rfl
theorem u_120_5 (P : PL) (st : List PV) (G : PW) : pm_dn pm_sM 120 5 P st G = pm_go pm_sM 120 G (pm_oAld pm_sM 0 6 P st G) := pm_dn_eq (i := .iaload) (len := 1) rfl
theorem u_120_6 (P : PL) (st : List PV) (G : PW) : pm_dn pm_sM 120 6 P st G = pm_go pm_sM 120 G (pm_oK (-6) 8 P st G) := pm_dn_eq (i := .bipush (-6)) (len := 2) rfl
theorem u_120_8 (P : PL) (st : List PV) (G : PW) : pm_dn pm_sM 120 8 P st G = pm_go pm_sM 120 G (pm_oIc .eq (some 26) 11 P st G) := pm_dn_eq (i := .if_icmp .eq 18) (len := 3) rfl
theorem u_120_11 (P : PL) (st : List PV) (G : PW) : pm_dn pm_sM 120 11 P st G = pm_go pm_sM 120 G (pm_oAL 0 12 P st G) := pm_dn_eq (i := .aload_n 0) (len := 1) rfl
theorem u_120_12 (P : PL) (st : List PV) (G : PW) : pm_dn pm_sM 120 12 P st G = pm_go pm_sM 120 G (pm_oIL 1 13 P st G) := pm_dn_eq (i := .iload_n 1) (len := 1) rfl
theorem u_120_13 (P : PL) (st : List PV) (G : PW) : pm_dn pm_sM 120 13 P st G = pm_go pm_sM 120 G (pm_oK 3 14 P st G) := pm_dn_eq (i := .iconst 3) (len := 1) rfl
theorem u_120_14 (P : PL) (st : List PV) (G : PW) : pm_dn pm_sM 120 14 P st G = pm_go pm_sM 120 G (pm_oAL 0 15 P st G) := pm_dn_eq (i := .aload_n 0) (len := 1) rfl
theorem u_120_15 (P : PL) (st : List PV) (G : PW) : pm_dn pm_sM 120 15 P st G = pm_go pm_sM 120 G (pm_oGf pm_sM 6 24 18 P st G) := pm_dn_eq (i := .getfield 71) (len := 3) rfl
theorem u_120_18 (P : PL) (st : List PV) (G : PW) : pm_dn pm_sM 120 18 P st G = pm_go pm_sM 120 G (pm_oIL 1 19 P st G) := pm_dn_eq (i := .iload_n 1) (len := 1) rfl
theorem u_120_19 (P : PL) (st : List PV) (G : PW) : pm_dn pm_sM 120 19 P st G = pm_go pm_sM 120 G (pm_oAld pm_sM 0 20 P st G) := pm_dn_eq (i := .iaload) (len := 1) rfl
theorem u_120_20 (P : PL) (st : List PV) (G : PW) : pm_dn pm_sM 120 20 P st G = pm_go pm_sM 120 G (pm_oCv pm_sM 118 3 4 6 23 P st G) := pm_dn_eq (i := .invokevirtual 116) (len := 3) rfl
theorem u_120_23 (P : PL) (st : List PV) (G : PW) : pm_dn pm_sM 120 23 P st G = pm_go pm_sM 120 G (pm_oGo (some 128) P st G) := pm_dn_eq (i := .goto 105) (len := 3) rfl
theorem u_120_26 (P : PL) (st : List PV) (G : PW) : pm_dn pm_sM 120 26 P st G = pm_go pm_sM 120 G (pm_oAL 0 27 P st G) := pm_dn_eq (i := .aload_n 0) (len := 1) rfl
theorem u_120_27 (P : PL) (st : List PV) (G : PW) : pm_dn pm_sM 120 27 P st G = pm_go pm_sM 120 G (pm_oIL 2 28 P st G) := pm_dn_eq (i := .iload_n 2) (len := 1) rfl
theorem u_120_28 (P : PL) (st : List PV) (G : PW) : pm_dn pm_sM 120 28 P st G = pm_go pm_sM 120 G (pm_oCv pm_sM 119 1 2 6 31 P st G) := pm_dn_eq (i := .invokevirtual 120) (len := 3) rfl
theorem u_120_31 (P : PL) (st : List PV) (G : PW) : pm_dn pm_sM 120 31 P st G = pm_go pm_sM 120 G (pm_oIf .ne (some 42) 34 P st G) := pm_dn_eq (i := .ifCond .ne 11) (len := 3) rfl
theorem u_120_34 (P : PL) (st : List PV) (G : PW) : pm_dn pm_sM 120 34 P st G = pm_go pm_sM 120 G (pm_oAL 0 35 P st G) := pm_dn_eq (i := .aload_n 0) (len := 1) rfl
theorem u_120_35 (P : PL) (st : List PV) (G : PW) : pm_dn pm_sM 120 35 P st G = pm_go pm_sM 120 G (pm_oIL 3 36 P st G) := pm_dn_eq (i := .iload_n 3) (len := 1) rfl
theorem u_120_36 (P : PL) (st : List PV) (G : PW) : pm_dn pm_sM 120 36 P st G = pm_go pm_sM 120 G (pm_oCv pm_sM 119 1 2 6 39 P st G) := pm_dn_eq (i := .invokevirtual 120) (len := 3) rfl
theorem u_120_39 (P : PL) (st : List PV) (G : PW) : pm_dn pm_sM 120 39 P st G = pm_go pm_sM 120 G (pm_oIf .eq (some 72) 42 P st G) := pm_dn_eq (i := .ifCond .eq 33) (len := 3) rfl
theorem u_120_42 (P : PL) (st : List PV) (G : PW) : pm_dn pm_sM 120 42 P st G = pm_go pm_sM 120 G (pm_oAL 0 43 P st G) := pm_dn_eq (i := .aload_n 0) (len := 1) rfl
theorem u_120_43 (P : PL) (st : List PV) (G : PW) : pm_dn pm_sM 120 43 P st G = pm_go pm_sM 120 G (pm_oIL 1 44 P st G) := pm_dn_eq (i := .iload_n 1) (len := 1) rfl
theorem u_120_44 (P : PL) (st : List PV) (G : PW) : pm_dn pm_sM 120 44 P st G = pm_go pm_sM 120 G (pm_oK 2 45 P st G) := pm_dn_eq (i := .iconst 2) (len := 1) rfl
theorem u_120_45 (P : PL) (st : List PV) (G : PW) : pm_dn pm_sM 120 45 P st G = pm_go pm_sM 120 G (pm_oAL 0 46 P st G) := pm_dn_eq (i := .aload_n 0) (len := 1) rfl
theorem u_120_46 (P : PL) (st : List PV) (G : PW) : pm_dn pm_sM 120 46 P st G = pm_go pm_sM 120 G (pm_oIL 2 47 P st G) := pm_dn_eq (i := .iload_n 2) (len := 1) rfl
theorem u_120_47 (P : PL) (st : List PV) (G : PW) : pm_dn pm_sM 120 47 P st G = pm_go pm_sM 120 G (pm_oCv pm_sM 119 1 2 6 50 P st G) := pm_dn_eq (i := .invokevirtual 120) (len := 3) rfl
theorem u_120_50 (P : PL) (st : List PV) (G : PW) : pm_dn pm_sM 120 50 P st G = pm_go pm_sM 120 G (pm_oIf .eq (some 65) 53 P st G) := pm_dn_eq (i := .ifCond .eq 15) (len := 3) rfl
theorem u_120_53 (P : PL) (st : List PV) (G : PW) : pm_dn pm_sM 120 53 P st G = pm_go pm_sM 120 G (pm_oAL 0 54 P st G) := pm_dn_eq (i := .aload_n 0) (len := 1) rfl
theorem u_120_54 (P : PL) (st : List PV) (G : PW) : pm_dn pm_sM 120 54 P st G = pm_go pm_sM 120 G (pm_oIL 3 55 P st G) := pm_dn_eq (i := .iload_n 3) (len := 1) rfl
theorem u_120_55 (P : PL) (st : List PV) (G : PW) : pm_dn pm_sM 120 55 P st G = pm_go pm_sM 120 G (pm_oCv pm_sM 119 1 2 6 58 P st G) := pm_dn_eq (i := .invokevirtual 120) (len := 3) rfl
theorem u_120_58 (P : PL) (st : List PV) (G : PW) : pm_dn pm_sM 120 58 P st G = pm_go pm_sM 120 G (pm_oIf .ne (some 65) 61 P st G) := pm_dn_eq (i := .ifCond .ne 7) (len := 3) rfl
theorem u_120_61 (P : PL) (st : List PV) (G : PW) : pm_dn pm_sM 120 61 P st G = pm_go pm_sM 120 G (pm_oK 1 62 P st G) := pm_dn_eq (i := .iconst 1) (len := 1) rfl
theorem u_120_62 (P : PL) (st : List PV) (G : PW) : pm_dn pm_sM 120 62 P st G = pm_go pm_sM 120 G (pm_oGo (some 66) P st G) := pm_dn_eq (i := .goto 4) (len := 3) rfl
theorem u_120_65 (P : PL) (st : List PV) (G : PW) : pm_dn pm_sM 120 65 P st G = pm_go pm_sM 120 G (pm_oK 0 66 P st G) := pm_dn_eq (i := .iconst 0) (len := 1) rfl
theorem u_120_66 (P : PL) (st : List PV) (G : PW) : pm_dn pm_sM 120 66 P st G = pm_go pm_sM 120 G (pm_oCv pm_sM 118 3 4 6 69 P st G) := pm_dn_eq (i := .invokevirtual 116) (len := 3) rfl
theorem u_120_69 (P : PL) (st : List PV) (G : PW) : pm_dn pm_sM 120 69 P st G = pm_go pm_sM 120 G (pm_oGo (some 128) P st G) := pm_dn_eq (i := .goto 59) (len := 3) rfl
theorem u_120_72 (P : PL) (st : List PV) (G : PW) : pm_dn pm_sM 120 72 P st G = pm_go pm_sM 120 G (pm_oAL 0 73 P st G) := pm_dn_eq (i := .aload_n 0) (len := 1) rfl
theorem u_120_73 (P : PL) (st : List PV) (G : PW) : pm_dn pm_sM 120 73 P st G = pm_go pm_sM 120 G (pm_oGf pm_sM 6 25 76 P st G) := pm_dn_eq (i := .getfield 124) (len := 3) rfl
theorem u_120_76 (P : PL) (st : List PV) (G : PW) : pm_dn pm_sM 120 76 P st G = pm_go pm_sM 120 G (pm_oK 1 77 P st G) := pm_dn_eq (i := .iconst 1) (len := 1) rfl
theorem u_120_77 (P : PL) (st : List PV) (G : PW) : pm_dn pm_sM 120 77 P st G = pm_go pm_sM 120 G (pm_oIc .ne (some 128) 80 P st G) := pm_dn_eq (i := .if_icmp .ne 51) (len := 3) rfl
theorem u_120_80 (P : PL) (st : List PV) (G : PW) : pm_dn pm_sM 120 80 P st G = pm_go pm_sM 120 G (pm_oIL 2 81 P st G) := pm_dn_eq (i := .iload_n 2) (len := 1) rfl
theorem u_120_81 (P : PL) (st : List PV) (G : PW) : pm_dn pm_sM 120 81 P st G = pm_go pm_sM 120 G (pm_oAL 0 82 P st G) := pm_dn_eq (i := .aload_n 0) (len := 1) rfl
theorem u_120_82 (P : PL) (st : List PV) (G : PW) : pm_dn pm_sM 120 82 P st G = pm_go pm_sM 120 G (pm_oGf pm_sM 6 26 85 P st G) := pm_dn_eq (i := .getfield 127) (len := 3) rfl
theorem u_120_85 (P : PL) (st : List PV) (G : PW) : pm_dn pm_sM 120 85 P st G = pm_go pm_sM 120 G (pm_oIc .eq (some 105) 88 P st G) := pm_dn_eq (i := .if_icmp .eq 20) (len := 3) rfl
theorem u_120_88 (P : PL) (st : List PV) (G : PW) : pm_dn pm_sM 120 88 P st G = pm_go pm_sM 120 G (pm_oIL 3 89 P st G) := pm_dn_eq (i := .iload_n 3) (len := 1) rfl
theorem u_120_89 (P : PL) (st : List PV) (G : PW) : pm_dn pm_sM 120 89 P st G = pm_go pm_sM 120 G (pm_oAL 0 90 P st G) := pm_dn_eq (i := .aload_n 0) (len := 1) rfl
theorem u_120_90 (P : PL) (st : List PV) (G : PW) : pm_dn pm_sM 120 90 P st G = pm_go pm_sM 120 G (pm_oGf pm_sM 6 26 93 P st G) := pm_dn_eq (i := .getfield 127) (len := 3) rfl
theorem u_120_93 (P : PL) (st : List PV) (G : PW) : pm_dn pm_sM 120 93 P st G = pm_go pm_sM 120 G (pm_oIc .eq (some 109) 96 P st G) := pm_dn_eq (i := .if_icmp .eq 16) (len := 3) rfl
theorem u_120_96 (P : PL) (st : List PV) (G : PW) : pm_dn pm_sM 120 96 P st G = pm_go pm_sM 120 G (pm_oAL 0 97 P st G) := pm_dn_eq (i := .aload_n 0) (len := 1) rfl
theorem u_120_97 (P : PL) (st : List PV) (G : PW) : pm_dn pm_sM 120 97 P st G = pm_go pm_sM 120 G (pm_oIL 2 98 P st G) := pm_dn_eq (i := .iload_n 2) (len := 1) rfl
theorem u_120_98 (P : PL) (st : List PV) (G : PW) : pm_dn pm_sM 120 98 P st G = pm_go pm_sM 120 G (pm_oIL 3 99 P st G) := pm_dn_eq (i := .iload_n 3) (len := 1) rfl
theorem u_120_99 (P : PL) (st : List PV) (G : PW) : pm_dn pm_sM 120 99 P st G = pm_go pm_sM 120 G (pm_oCv pm_sM 117 2 5 6 102 P st G) := pm_dn_eq (i := .invokevirtual 130) (len := 3) rfl
theorem u_120_102 (P : PL) (st : List PV) (G : PW) : pm_dn pm_sM 120 102 P st G = pm_go pm_sM 120 G (pm_oIf .eq (some 109) 105 P st G) := pm_dn_eq (i := .ifCond .eq 7) (len := 3) rfl
theorem u_120_105 (P : PL) (st : List PV) (G : PW) : pm_dn pm_sM 120 105 P st G = pm_go pm_sM 120 G (pm_oK 1 106 P st G) := pm_dn_eq (i := .iconst 1) (len := 1) rfl
theorem u_120_106 (P : PL) (st : List PV) (G : PW) : pm_dn pm_sM 120 106 P st G = pm_go pm_sM 120 G (pm_oGo (some 110) P st G) := pm_dn_eq (i := .goto 4) (len := 3) rfl
theorem u_120_109 (P : PL) (st : List PV) (G : PW) : pm_dn pm_sM 120 109 P st G = pm_go pm_sM 120 G (pm_oK 0 110 P st G) := pm_dn_eq (i := .iconst 0) (len := 1) rfl
theorem u_120_110 (P : PL) (st : List PV) (G : PW) : pm_dn pm_sM 120 110 P st G = pm_go pm_sM 120 G (pm_oIS 4 112 P st G) := pm_dn_eq (i := .istore 4) (len := 2) rfl
theorem u_120_112 (P : PL) (st : List PV) (G : PW) : pm_dn pm_sM 120 112 P st G = pm_go pm_sM 120 G (pm_oAL 0 113 P st G) := pm_dn_eq (i := .aload_n 0) (len := 1) rfl
theorem u_120_113 (P : PL) (st : List PV) (G : PW) : pm_dn pm_sM 120 113 P st G = pm_go pm_sM 120 G (pm_oIL 1 114 P st G) := pm_dn_eq (i := .iload_n 1) (len := 1) rfl
theorem u_120_114 (P : PL) (st : List PV) (G : PW) : pm_dn pm_sM 120 114 P st G = pm_go pm_sM 120 G (pm_oK 3 115 P st G) := pm_dn_eq (i := .iconst 3) (len := 1) rfl
theorem u_120_115 (P : PL) (st : List PV) (G : PW) : pm_dn pm_sM 120 115 P st G = pm_go pm_sM 120 G (pm_oIL 4 117 P st G) := pm_dn_eq (i := .iload 4) (len := 2) rfl
theorem u_120_117 (P : PL) (st : List PV) (G : PW) : pm_dn pm_sM 120 117 P st G = pm_go pm_sM 120 G (pm_oIf .eq (some 124) 120 P st G) := pm_dn_eq (i := .ifCond .eq 7) (len := 3) rfl
theorem u_120_120 (P : PL) (st : List PV) (G : PW) : pm_dn pm_sM 120 120 P st G = pm_go pm_sM 120 G (pm_oK 0 121 P st G) := pm_dn_eq (i := .iconst 0) (len := 1) rfl
theorem u_120_121 (P : PL) (st : List PV) (G : PW) : pm_dn pm_sM 120 121 P st G = pm_go pm_sM 120 G (pm_oGo (some 125) P st G) := pm_dn_eq (i := .goto 4) (len := 3) rfl
theorem u_120_124 (P : PL) (st : List PV) (G : PW) : pm_dn pm_sM 120 124 P st G = pm_go pm_sM 120 G (pm_oK 1 125 P st G) := pm_dn_eq (i := .iconst 1) (len := 1) rfl
theorem u_120_125 (P : PL) (st : List PV) (G : PW) : pm_dn pm_sM 120 125 P st G = pm_go pm_sM 120 G (pm_oCv pm_sM 118 3 4 6 128 P st G) := pm_dn_eq (i := .invokevirtual 116) (len := 3) rfl
theorem u_120_128 (P : PL) (st : List PV) (G : PW) : pm_dn pm_sM 120 128 P st G = pm_go pm_sM 120 G (pm_oRv P st G) := pm_dn_eq (i := .return_) (len := 1) rfl
theorem ue_121 (a0 : Nat) (a1 : Int) (G : PW) : pm_ca pm_sM 121 [.inr (.inr a0), .inl a1] G = pm_dn pm_sM 121 0 [some (.inr (.inr a0)), some (.inl a1), none, none] [] G := rfl
theorem u_121_0 (P : PL) (st : List PV) (G : PW) : pm_dn pm_sM 121 0 P st G = pm_go pm_sM 121 G (pm_oAL 0 1 P st G) := pm_dn_eq (i := .aload_n 0) (len := 1) rfl
theorem u_121_1 (P : PL) (st : List PV) (G : PW) : pm_dn pm_sM 121 1 P st G = pm_go pm_sM 121 G (pm_oGf pm_sM 6 20 4 P st G) := pm_dn_eq (i := .getfield 59) (len := 3) rfl
theorem u_121_4 (P : PL) (st : List PV) (G : PW) : pm_dn pm_sM 121 4 P st G = pm_go pm_sM 121 G (pm_oK 2 5 P st G) := pm_dn_eq (i := .iconst 2) (len := 1) rfl
theorem u_121_5 (P : PL) (st : List PV) (G : PW) : pm_dn pm_sM 121 5 P st G = pm_go pm_sM 121 G (pm_oIL 1 6 P st G) := pm_dn_eq (i := .iload_n 1) (len := 1) rfl
theorem u_121_6 (P : PL) (st : List PV) (G : PW) : pm_dn pm_sM 121 6 P st G = pm_go pm_sM 121 G (pm_oMul 7 P st G) := pm_dn_eq (i := .imul) (len := 1) rfl
theorem u_121_7 (P : PL) (st : List PV) (G : PW) : pm_dn pm_sM 121 7 P st G = pm_go pm_sM 121 G (pm_oAld pm_sM 0 8 P st G) := pm_dn_eq (i := .iaload) (len := 1) rfl
theorem u_121_8 (P : PL) (st : List PV) (G : PW) : pm_dn pm_sM 121 8 P st G = pm_go pm_sM 121 G (pm_oIS 2 9 P st G) := pm_dn_eq (i := .istore_n 2) (len := 1) rfl
theorem u_121_9 (P : PL) (st : List PV) (G : PW) : pm_dn pm_sM 121 9 P st G = pm_go pm_sM 121 G (pm_oAL 0 10 P st G) := pm_dn_eq (i := .aload_n 0) (len := 1) rfl
theorem u_121_10 (P : PL) (st : List PV) (G : PW) : pm_dn pm_sM 121 10 P st G = pm_go pm_sM 121 G (pm_oGf pm_sM 6 20 13 P st G) := pm_dn_eq (i := .getfield 59) (len := 3) rfl
theorem u_121_13 (P : PL) (st : List PV) (G : PW) : pm_dn pm_sM 121 13 P st G = pm_go pm_sM 121 G (pm_oK 2 14 P st G) := pm_dn_eq (i := .iconst 2) (len := 1) rfl
theorem u_121_14 (P : PL) (st : List PV) (G : PW) : pm_dn pm_sM 121 14 P st G = pm_go pm_sM 121 G (pm_oIL 1 15 P st G) := pm_dn_eq (i := .iload_n 1) (len := 1) rfl
theorem u_121_15 (P : PL) (st : List PV) (G : PW) : pm_dn pm_sM 121 15 P st G = pm_go pm_sM 121 G (pm_oMul 16 P st G) := pm_dn_eq (i := .imul) (len := 1) rfl
theorem u_121_16 (P : PL) (st : List PV) (G : PW) : pm_dn pm_sM 121 16 P st G = pm_go pm_sM 121 G (pm_oK 1 17 P st G) := pm_dn_eq (i := .iconst 1) (len := 1) rfl
theorem u_121_17 (P : PL) (st : List PV) (G : PW) : pm_dn pm_sM 121 17 P st G = pm_go pm_sM 121 G (pm_oAdd 18 P st G) := pm_dn_eq (i := .iadd) (len := 1) rfl
theorem u_121_18 (P : PL) (st : List PV) (G : PW) : pm_dn pm_sM 121 18 P st G = pm_go pm_sM 121 G (pm_oAld pm_sM 0 19 P st G) := pm_dn_eq (i := .iaload) (len := 1) rfl
theorem u_121_19 (P : PL) (st : List PV) (G : PW) : pm_dn pm_sM 121 19 P st G = pm_go pm_sM 121 G (pm_oIS 3 20 P st G) := pm_dn_eq (i := .istore_n 3) (len := 1) rfl
theorem u_121_20 (P : PL) (st : List PV) (G : PW) : pm_dn pm_sM 121 20 P st G = pm_go pm_sM 121 G (pm_oAL 0 21 P st G) := pm_dn_eq (i := .aload_n 0) (len := 1) rfl
theorem u_121_21 (P : PL) (st : List PV) (G : PW) : pm_dn pm_sM 121 21 P st G = pm_go pm_sM 121 G (pm_oGf pm_sM 6 23 24 P st G) := pm_dn_eq (i := .getfield 68) (len := 3) rfl
theorem u_121_24 (P : PL) (st : List PV) (G : PW) : pm_dn pm_sM 121 24 P st G = pm_go pm_sM 121 G (pm_oIL 1 25 P st G) := pm_dn_eq (i := .iload_n 1) (len := 1) rfl
theorem u_121_25 (P : PL) (st : List PV) (G : PW) : pm_dn pm_sM 121 25 P st G = pm_go pm_sM 121 G (pm_oK 0 26 P st G) := pm_dn_eq (i := .iconst 0) (len := 1) rfl
theorem u_121_26 (P : PL) (st : List PV) (G : PW) : pm_dn pm_sM 121 26 P st G = pm_go pm_sM 121 G (pm_oAst pm_sM 0 27 P st G) := pm_dn_eq (i := .iastore) (len := 1) rfl
theorem u_121_27 (P : PL) (st : List PV) (G : PW) : pm_dn pm_sM 121 27 P st G = pm_go pm_sM 121 G (pm_oAL 0 28 P st G) := pm_dn_eq (i := .aload_n 0) (len := 1) rfl
theorem u_121_28 (P : PL) (st : List PV) (G : PW) : pm_dn pm_sM 121 28 P st G = pm_go pm_sM 121 G (pm_oGf pm_sM 6 21 31 P st G) := pm_dn_eq (i := .getfield 62) (len := 3) rfl
theorem u_121_31 (P : PL) (st : List PV) (G : PW) : pm_dn pm_sM 121 31 P st G = pm_go pm_sM 121 G (pm_oIL 1 32 P st G) := pm_dn_eq (i := .iload_n 1) (len := 1) rfl
theorem u_121_32 (P : PL) (st : List PV) (G : PW) : pm_dn pm_sM 121 32 P st G = pm_go pm_sM 121 G (pm_oK (-6) 34 P st G) := pm_dn_eq (i := .bipush (-6)) (len := 2) rfl
theorem u_121_34 (P : PL) (st : List PV) (G : PW) : pm_dn pm_sM 121 34 P st G = pm_go pm_sM 121 G (pm_oAst pm_sM 0 35 P st G) := pm_dn_eq (i := .iastore) (len := 1) rfl
theorem u_121_35 (P : PL) (st : List PV) (G : PW) : pm_dn pm_sM 121 35 P st G = pm_go pm_sM 121 G (pm_oAL 0 36 P st G) := pm_dn_eq (i := .aload_n 0) (len := 1) rfl
theorem u_121_36 (P : PL) (st : List PV) (G : PW) : pm_dn pm_sM 121 36 P st G = pm_go pm_sM 121 G (pm_oGf pm_sM 6 22 39 P st G) := pm_dn_eq (i := .getfield 65) (len := 3) rfl
theorem u_121_39 (P : PL) (st : List PV) (G : PW) : pm_dn pm_sM 121 39 P st G = pm_go pm_sM 121 G (pm_oIL 1 40 P st G) := pm_dn_eq (i := .iload_n 1) (len := 1) rfl
theorem u_121_40 (P : PL) (st : List PV) (G : PW) : pm_dn pm_sM 121 40 P st G = pm_go pm_sM 121 G (pm_oK (-6) 42 P st G) := pm_dn_eq (i := .bipush (-6)) (len := 2) rfl
theorem u_121_42 (P : PL) (st : List PV) (G : PW) : pm_dn pm_sM 121 42 P st G = pm_go pm_sM 121 G (pm_oAst pm_sM 0 43 P st G) := pm_dn_eq (i := .iastore) (len := 1) rfl
theorem u_121_43 (P : PL) (st : List PV) (G : PW) : pm_dn pm_sM 121 43 P st G = pm_go pm_sM 121 G (pm_oIL 2 44 P st G) := pm_dn_eq (i := .iload_n 2) (len := 1) rfl
theorem u_121_44 (P : PL) (st : List PV) (G : PW) : pm_dn pm_sM 121 44 P st G = pm_go pm_sM 121 G (pm_oK (-6) 46 P st G) := pm_dn_eq (i := .bipush (-6)) (len := 2) rfl
theorem u_121_46 (P : PL) (st : List PV) (G : PW) : pm_dn pm_sM 121 46 P st G = pm_go pm_sM 121 G (pm_oIc .eq (some 55) 49 P st G) := pm_dn_eq (i := .if_icmp .eq 9) (len := 3) rfl
theorem u_121_49 (P : PL) (st : List PV) (G : PW) : pm_dn pm_sM 121 49 P st G = pm_go pm_sM 121 G (pm_oIL 3 50 P st G) := pm_dn_eq (i := .iload_n 3) (len := 1) rfl
theorem u_121_50 (P : PL) (st : List PV) (G : PW) : pm_dn pm_sM 121 50 P st G = pm_go pm_sM 121 G (pm_oK (-6) 52 P st G) := pm_dn_eq (i := .bipush (-6)) (len := 2) rfl
theorem u_121_52 (P : PL) (st : List PV) (G : PW) : pm_dn pm_sM 121 52 P st G = pm_go pm_sM 121 G (pm_oIc .ne (some 56) 55 P st G) := pm_dn_eq (i := .if_icmp .ne 4) (len := 3) rfl
theorem u_121_55 (P : PL) (st : List PV) (G : PW) : pm_dn pm_sM 121 55 P st G = pm_go pm_sM 121 G (pm_oRv P st G) := pm_dn_eq (i := .return_) (len := 1) rfl
theorem u_121_56 (P : PL) (st : List PV) (G : PW) : pm_dn pm_sM 121 56 P st G = pm_go pm_sM 121 G (pm_oIL 2 57 P st G) := pm_dn_eq (i := .iload_n 2) (len := 1) rfl
theorem u_121_57 (P : PL) (st : List PV) (G : PW) : pm_dn pm_sM 121 57 P st G = pm_go pm_sM 121 G (pm_oK 16 59 P st G) := pm_dn_eq (i := .bipush 16) (len := 2) rfl
theorem u_121_59 (P : PL) (st : List PV) (G : PW) : pm_dn pm_sM 121 59 P st G = pm_go pm_sM 121 G (pm_oIc .eq (some 68) 62 P st G) := pm_dn_eq (i := .if_icmp .eq 9) (len := 3) rfl
theorem u_121_62 (P : PL) (st : List PV) (G : PW) : pm_dn pm_sM 121 62 P st G = pm_go pm_sM 121 G (pm_oIL 3 63 P st G) := pm_dn_eq (i := .iload_n 3) (len := 1) rfl
theorem u_121_63 (P : PL) (st : List PV) (G : PW) : pm_dn pm_sM 121 63 P st G = pm_go pm_sM 121 G (pm_oK 16 65 P st G) := pm_dn_eq (i := .bipush 16) (len := 2) rfl
theorem u_121_65 (P : PL) (st : List PV) (G : PW) : pm_dn pm_sM 121 65 P st G = pm_go pm_sM 121 G (pm_oIc .ne (some 94) 68 P st G) := pm_dn_eq (i := .if_icmp .ne 29) (len := 3) rfl
theorem u_121_68 (P : PL) (st : List PV) (G : PW) : pm_dn pm_sM 121 68 P st G = pm_go pm_sM 121 G (pm_oAL 0 69 P st G) := pm_dn_eq (i := .aload_n 0) (len := 1) rfl
theorem u_121_69 (P : PL) (st : List PV) (G : PW) : pm_dn pm_sM 121 69 P st G = pm_go pm_sM 121 G (pm_oIL 1 70 P st G) := pm_dn_eq (i := .iload_n 1) (len := 1) rfl
theorem u_121_70 (P : PL) (st : List PV) (G : PW) : pm_dn pm_sM 121 70 P st G = pm_go pm_sM 121 G (pm_oK 1 71 P st G) := pm_dn_eq (i := .iconst 1) (len := 1) rfl
theorem u_121_71 (P : PL) (st : List PV) (G : PW) : pm_dn pm_sM 121 71 P st G = pm_go pm_sM 121 G (pm_oIL 2 72 P st G) := pm_dn_eq (i := .iload_n 2) (len := 1) rfl
theorem u_121_72 (P : PL) (st : List PV) (G : PW) : pm_dn pm_sM 121 72 P st G = pm_go pm_sM 121 G (pm_oK 16 74 P st G) := pm_dn_eq (i := .bipush 16) (len := 2) rfl
theorem u_121_74 (P : PL) (st : List PV) (G : PW) : pm_dn pm_sM 121 74 P st G = pm_go pm_sM 121 G (pm_oIc .ne (some 87) 77 P st G) := pm_dn_eq (i := .if_icmp .ne 13) (len := 3) rfl
theorem u_121_77 (P : PL) (st : List PV) (G : PW) : pm_dn pm_sM 121 77 P st G = pm_go pm_sM 121 G (pm_oIL 3 78 P st G) := pm_dn_eq (i := .iload_n 3) (len := 1) rfl
theorem u_121_78 (P : PL) (st : List PV) (G : PW) : pm_dn pm_sM 121 78 P st G = pm_go pm_sM 121 G (pm_oK 16 80 P st G) := pm_dn_eq (i := .bipush 16) (len := 2) rfl
theorem u_121_80 (P : PL) (st : List PV) (G : PW) : pm_dn pm_sM 121 80 P st G = pm_go pm_sM 121 G (pm_oIc .eq (some 87) 83 P st G) := pm_dn_eq (i := .if_icmp .eq 7) (len := 3) rfl
theorem u_121_83 (P : PL) (st : List PV) (G : PW) : pm_dn pm_sM 121 83 P st G = pm_go pm_sM 121 G (pm_oK 1 84 P st G) := pm_dn_eq (i := .iconst 1) (len := 1) rfl
theorem u_121_84 (P : PL) (st : List PV) (G : PW) : pm_dn pm_sM 121 84 P st G = pm_go pm_sM 121 G (pm_oGo (some 88) P st G) := pm_dn_eq (i := .goto 4) (len := 3) rfl
theorem u_121_87 (P : PL) (st : List PV) (G : PW) : pm_dn pm_sM 121 87 P st G = pm_go pm_sM 121 G (pm_oK 0 88 P st G) := pm_dn_eq (i := .iconst 0) (len := 1) rfl
theorem u_121_88 (P : PL) (st : List PV) (G : PW) : pm_dn pm_sM 121 88 P st G = pm_go pm_sM 121 G (pm_oCv pm_sM 118 3 4 6 91 P st G) := pm_dn_eq (i := .invokevirtual 116) (len := 3) rfl
theorem u_121_91 (P : PL) (st : List PV) (G : PW) : pm_dn pm_sM 121 91 P st G = pm_go pm_sM 121 G (pm_oGo (some 101) P st G) := pm_dn_eq (i := .goto 10) (len := 3) rfl
theorem u_121_94 (P : PL) (st : List PV) (G : PW) : pm_dn pm_sM 121 94 P st G = pm_go pm_sM 121 G (pm_oAL 0 95 P st G) := pm_dn_eq (i := .aload_n 0) (len := 1) rfl
theorem u_121_95 (P : PL) (st : List PV) (G : PW) : pm_dn pm_sM 121 95 P st G = pm_go pm_sM 121 G (pm_oIL 1 96 P st G) := pm_dn_eq (i := .iload_n 1) (len := 1) rfl
theorem u_121_96 (P : PL) (st : List PV) (G : PW) : pm_dn pm_sM 121 96 P st G = pm_go pm_sM 121 G (pm_oIL 2 97 P st G) := pm_dn_eq (i := .iload_n 2) (len := 1) rfl
theorem u_121_97 (P : PL) (st : List PV) (G : PW) : pm_dn pm_sM 121 97 P st G = pm_go pm_sM 121 G (pm_oIL 3 98 P st G) := pm_dn_eq (i := .iload_n 3) (len := 1) rfl
theorem u_121_98 (P : PL) (st : List PV) (G : PW) : pm_dn pm_sM 121 98 P st G = pm_go pm_sM 121 G (pm_oCv pm_sM 120 3 5 6 101 P st G) := pm_dn_eq (i := .invokevirtual 134) (len := 3) rfl
theorem u_121_101 (P : PL) (st : List PV) (G : PW) : pm_dn pm_sM 121 101 P st G = pm_go pm_sM 121 G (pm_oAL 0 102 P st G) := pm_dn_eq (i := .aload_n 0) (len := 1) rfl
theorem u_121_102 (P : PL) (st : List PV) (G : PW) : pm_dn pm_sM 121 102 P st G = pm_go pm_sM 121 G (pm_oGf pm_sM 6 23 105 P st G) := pm_dn_eq (i := .getfield 68) (len := 3) rfl
theorem u_121_105 (P : PL) (st : List PV) (G : PW) : pm_dn pm_sM 121 105 P st G = pm_go pm_sM 121 G (pm_oIL 1 106 P st G) := pm_dn_eq (i := .iload_n 1) (len := 1) rfl
theorem u_121_106 (P : PL) (st : List PV) (G : PW) : pm_dn pm_sM 121 106 P st G = pm_go pm_sM 121 G (pm_oAld pm_sM 0 107 P st G) := pm_dn_eq (i := .iaload) (len := 1) rfl
theorem u_121_107 (P : PL) (st : List PV) (G : PW) : pm_dn pm_sM 121 107 P st G = pm_go pm_sM 121 G (pm_oIf .ne (some 111) 110 P st G) := pm_dn_eq (i := .ifCond .ne 4) (len := 3) rfl
theorem u_121_110 (P : PL) (st : List PV) (G : PW) : pm_dn pm_sM 121 110 P st G = pm_go pm_sM 121 G (pm_oRv P st G) := pm_dn_eq (i := .return_) (len := 1) rfl
theorem u_121_111 (P : PL) (st : List PV) (G : PW) : pm_dn pm_sM 121 111 P st G = pm_go pm_sM 121 G (pm_oAL 0 112 P st G) := pm_dn_eq (i := .aload_n 0) (len := 1) rfl
theorem u_121_112 (P : PL) (st : List PV) (G : PW) : pm_dn pm_sM 121 112 P st G = pm_go pm_sM 121 G (pm_oGf pm_sM 6 11 115 P st G) := pm_dn_eq (i := .getfield 32) (len := 3) rfl
theorem u_121_115 (P : PL) (st : List PV) (G : PW) : pm_dn pm_sM 121 115 P st G = pm_go pm_sM 121 G (pm_oIL 1 116 P st G) := pm_dn_eq (i := .iload_n 1) (len := 1) rfl
theorem u_121_116 (P : PL) (st : List PV) (G : PW) : pm_dn pm_sM 121 116 P st G = pm_go pm_sM 121 G (pm_oAld pm_sM 0 117 P st G) := pm_dn_eq (i := .iaload) (len := 1) rfl
theorem u_121_117 (P : PL) (st : List PV) (G : PW) : pm_dn pm_sM 121 117 P st G = pm_go pm_sM 121 G (pm_oK (-6) 119 P st G) := pm_dn_eq (i := .bipush (-6)) (len := 2) rfl
theorem u_121_119 (P : PL) (st : List PV) (G : PW) : pm_dn pm_sM 121 119 P st G = pm_go pm_sM 121 G (pm_oIc .eq (some 148) 122 P st G) := pm_dn_eq (i := .if_icmp .eq 29) (len := 3) rfl
theorem u_121_122 (P : PL) (st : List PV) (G : PW) : pm_dn pm_sM 121 122 P st G = pm_go pm_sM 121 G (pm_oAL 0 123 P st G) := pm_dn_eq (i := .aload_n 0) (len := 1) rfl
theorem u_121_123 (P : PL) (st : List PV) (G : PW) : pm_dn pm_sM 121 123 P st G = pm_go pm_sM 121 G (pm_oGf pm_sM 6 20 126 P st G) := pm_dn_eq (i := .getfield 59) (len := 3) rfl
theorem u_121_126 (P : PL) (st : List PV) (G : PW) : pm_dn pm_sM 121 126 P st G = pm_go pm_sM 121 G (pm_oK 2 127 P st G) := pm_dn_eq (i := .iconst 2) (len := 1) rfl
theorem u_121_127 (P : PL) (st : List PV) (G : PW) : pm_dn pm_sM 121 127 P st G = pm_go pm_sM 121 G (pm_oAL 0 128 P st G) := pm_dn_eq (i := .aload_n 0) (len := 1) rfl
theorem u_121_128 (P : PL) (st : List PV) (G : PW) : pm_dn pm_sM 121 128 P st G = pm_go pm_sM 121 G (pm_oGf pm_sM 6 11 131 P st G) := pm_dn_eq (i := .getfield 32) (len := 3) rfl
theorem u_121_131 (P : PL) (st : List PV) (G : PW) : pm_dn pm_sM 121 131 P st G = pm_go pm_sM 121 G (pm_oIL 1 132 P st G) := pm_dn_eq (i := .iload_n 1) (len := 1) rfl
theorem u_121_132 (P : PL) (st : List PV) (G : PW) : pm_dn pm_sM 121 132 P st G = pm_go pm_sM 121 G (pm_oAld pm_sM 0 133 P st G) := pm_dn_eq (i := .iaload) (len := 1) rfl
theorem u_121_133 (P : PL) (st : List PV) (G : PW) : pm_dn pm_sM 121 133 P st G = pm_go pm_sM 121 G (pm_oMul 134 P st G) := pm_dn_eq (i := .imul) (len := 1) rfl
theorem u_121_134 (P : PL) (st : List PV) (G : PW) : pm_dn pm_sM 121 134 P st G = pm_go pm_sM 121 G (pm_oAL 0 135 P st G) := pm_dn_eq (i := .aload_n 0) (len := 1) rfl
theorem u_121_135 (P : PL) (st : List PV) (G : PW) : pm_dn pm_sM 121 135 P st G = pm_go pm_sM 121 G (pm_oGf pm_sM 6 12 138 P st G) := pm_dn_eq (i := .getfield 35) (len := 3) rfl
theorem u_121_138 (P : PL) (st : List PV) (G : PW) : pm_dn pm_sM 121 138 P st G = pm_go pm_sM 121 G (pm_oIL 1 139 P st G) := pm_dn_eq (i := .iload_n 1) (len := 1) rfl
theorem u_121_139 (P : PL) (st : List PV) (G : PW) : pm_dn pm_sM 121 139 P st G = pm_go pm_sM 121 G (pm_oAld pm_sM 0 140 P st G) := pm_dn_eq (i := .iaload) (len := 1) rfl
theorem u_121_140 (P : PL) (st : List PV) (G : PW) : pm_dn pm_sM 121 140 P st G = pm_go pm_sM 121 G (pm_oAdd 141 P st G) := pm_dn_eq (i := .iadd) (len := 1) rfl
theorem u_121_141 (P : PL) (st : List PV) (G : PW) : pm_dn pm_sM 121 141 P st G = pm_go pm_sM 121 G (pm_oAL 0 142 P st G) := pm_dn_eq (i := .aload_n 0) (len := 1) rfl
theorem u_121_142 (P : PL) (st : List PV) (G : PW) : pm_dn pm_sM 121 142 P st G = pm_go pm_sM 121 G (pm_oGf pm_sM 6 21 145 P st G) := pm_dn_eq (i := .getfield 62) (len := 3) rfl
theorem u_121_145 (P : PL) (st : List PV) (G : PW) : pm_dn pm_sM 121 145 P st G = pm_go pm_sM 121 G (pm_oIL 1 146 P st G) := pm_dn_eq (i := .iload_n 1) (len := 1) rfl
theorem u_121_146 (P : PL) (st : List PV) (G : PW) : pm_dn pm_sM 121 146 P st G = pm_go pm_sM 121 G (pm_oAld pm_sM 0 147 P st G) := pm_dn_eq (i := .iaload) (len := 1) rfl
theorem u_121_147 (P : PL) (st : List PV) (G : PW) : pm_dn pm_sM 121 147 P st G = pm_go pm_sM 121 G (pm_oAst pm_sM 0 148 P st G) := pm_dn_eq (i := .iastore) (len := 1) rfl
theorem u_121_148 (P : PL) (st : List PV) (G : PW) : pm_dn pm_sM 121 148 P st G = pm_go pm_sM 121 G (pm_oAL 0 149 P st G) := pm_dn_eq (i := .aload_n 0) (len := 1) rfl
theorem u_121_149 (P : PL) (st : List PV) (G : PW) : pm_dn pm_sM 121 149 P st G = pm_go pm_sM 121 G (pm_oGf pm_sM 6 13 152 P st G) := pm_dn_eq (i := .getfield 38) (len := 3) rfl
theorem u_121_152 (P : PL) (st : List PV) (G : PW) : pm_dn pm_sM 121 152 P st G = pm_go pm_sM 121 G (pm_oIL 1 153 P st G) := pm_dn_eq (i := .iload_n 1) (len := 1) rfl
theorem u_121_153 (P : PL) (st : List PV) (G : PW) : pm_dn pm_sM 121 153 P st G = pm_go pm_sM 121 G (pm_oAld pm_sM 0 154 P st G) := pm_dn_eq (i := .iaload) (len := 1) rfl
theorem u_121_154 (P : PL) (st : List PV) (G : PW) : pm_dn pm_sM 121 154 P st G = pm_go pm_sM 121 G (pm_oK (-6) 156 P st G) := pm_dn_eq (i := .bipush (-6)) (len := 2) rfl
theorem u_121_156 (P : PL) (st : List PV) (G : PW) : pm_dn pm_sM 121 156 P st G = pm_go pm_sM 121 G (pm_oIc .eq (some 185) 159 P st G) := pm_dn_eq (i := .if_icmp .eq 29) (len := 3) rfl
theorem u_121_159 (P : PL) (st : List PV) (G : PW) : pm_dn pm_sM 121 159 P st G = pm_go pm_sM 121 G (pm_oAL 0 160 P st G) := pm_dn_eq (i := .aload_n 0) (len := 1) rfl
theorem u_121_160 (P : PL) (st : List PV) (G : PW) : pm_dn pm_sM 121 160 P st G = pm_go pm_sM 121 G (pm_oGf pm_sM 6 20 163 P st G) := pm_dn_eq (i := .getfield 59) (len := 3) rfl
theorem u_121_163 (P : PL) (st : List PV) (G : PW) : pm_dn pm_sM 121 163 P st G = pm_go pm_sM 121 G (pm_oK 2 164 P st G) := pm_dn_eq (i := .iconst 2) (len := 1) rfl
theorem u_121_164 (P : PL) (st : List PV) (G : PW) : pm_dn pm_sM 121 164 P st G = pm_go pm_sM 121 G (pm_oAL 0 165 P st G) := pm_dn_eq (i := .aload_n 0) (len := 1) rfl
theorem u_121_165 (P : PL) (st : List PV) (G : PW) : pm_dn pm_sM 121 165 P st G = pm_go pm_sM 121 G (pm_oGf pm_sM 6 13 168 P st G) := pm_dn_eq (i := .getfield 38) (len := 3) rfl
theorem u_121_168 (P : PL) (st : List PV) (G : PW) : pm_dn pm_sM 121 168 P st G = pm_go pm_sM 121 G (pm_oIL 1 169 P st G) := pm_dn_eq (i := .iload_n 1) (len := 1) rfl
theorem u_121_169 (P : PL) (st : List PV) (G : PW) : pm_dn pm_sM 121 169 P st G = pm_go pm_sM 121 G (pm_oAld pm_sM 0 170 P st G) := pm_dn_eq (i := .iaload) (len := 1) rfl
theorem u_121_170 (P : PL) (st : List PV) (G : PW) : pm_dn pm_sM 121 170 P st G = pm_go pm_sM 121 G (pm_oMul 171 P st G) := pm_dn_eq (i := .imul) (len := 1) rfl
theorem u_121_171 (P : PL) (st : List PV) (G : PW) : pm_dn pm_sM 121 171 P st G = pm_go pm_sM 121 G (pm_oAL 0 172 P st G) := pm_dn_eq (i := .aload_n 0) (len := 1) rfl
theorem u_121_172 (P : PL) (st : List PV) (G : PW) : pm_dn pm_sM 121 172 P st G = pm_go pm_sM 121 G (pm_oGf pm_sM 6 14 175 P st G) := pm_dn_eq (i := .getfield 41) (len := 3) rfl
theorem u_121_175 (P : PL) (st : List PV) (G : PW) : pm_dn pm_sM 121 175 P st G = pm_go pm_sM 121 G (pm_oIL 1 176 P st G) := pm_dn_eq (i := .iload_n 1) (len := 1) rfl
theorem u_121_176 (P : PL) (st : List PV) (G : PW) : pm_dn pm_sM 121 176 P st G = pm_go pm_sM 121 G (pm_oAld pm_sM 0 177 P st G) := pm_dn_eq (i := .iaload) (len := 1) rfl
theorem u_121_177 (P : PL) (st : List PV) (G : PW) : pm_dn pm_sM 121 177 P st G = pm_go pm_sM 121 G (pm_oAdd 178 P st G) := pm_dn_eq (i := .iadd) (len := 1) rfl
theorem u_121_178 (P : PL) (st : List PV) (G : PW) : pm_dn pm_sM 121 178 P st G = pm_go pm_sM 121 G (pm_oAL 0 179 P st G) := pm_dn_eq (i := .aload_n 0) (len := 1) rfl
theorem u_121_179 (P : PL) (st : List PV) (G : PW) : pm_dn pm_sM 121 179 P st G = pm_go pm_sM 121 G (pm_oGf pm_sM 6 22 182 P st G) := pm_dn_eq (i := .getfield 65) (len := 3) rfl
theorem u_121_182 (P : PL) (st : List PV) (G : PW) : pm_dn pm_sM 121 182 P st G = pm_go pm_sM 121 G (pm_oIL 1 183 P st G) := pm_dn_eq (i := .iload_n 1) (len := 1) rfl
theorem u_121_183 (P : PL) (st : List PV) (G : PW) : pm_dn pm_sM 121 183 P st G = pm_go pm_sM 121 G (pm_oAld pm_sM 0 184 P st G) := pm_dn_eq (i := .iaload) (len := 1) rfl
theorem u_121_184 (P : PL) (st : List PV) (G : PW) : pm_dn pm_sM 121 184 P st G = pm_go pm_sM 121 G (pm_oAst pm_sM 0 185 P st G) := pm_dn_eq (i := .iastore) (len := 1) rfl
theorem u_121_185 (P : PL) (st : List PV) (G : PW) : pm_dn pm_sM 121 185 P st G = pm_go pm_sM 121 G (pm_oIL 1 186 P st G) := pm_dn_eq (i := .iload_n 1) (len := 1) rfl
theorem u_121_186 (P : PL) (st : List PV) (G : PW) : pm_dn pm_sM 121 186 P st G = pm_go pm_sM 121 G (pm_oAL 0 187 P st G) := pm_dn_eq (i := .aload_n 0) (len := 1) rfl
theorem u_121_187 (P : PL) (st : List PV) (G : PW) : pm_dn pm_sM 121 187 P st G = pm_go pm_sM 121 G (pm_oGf pm_sM 6 7 190 P st G) := pm_dn_eq (i := .getfield 97) (len := 3) rfl
theorem u_121_190 (P : PL) (st : List PV) (G : PW) : pm_dn pm_sM 121 190 P st G = pm_go pm_sM 121 G (pm_oK 2 191 P st G) := pm_dn_eq (i := .iconst 2) (len := 1) rfl
theorem u_121_191 (P : PL) (st : List PV) (G : PW) : pm_dn pm_sM 121 191 P st G = pm_go pm_sM 121 G (pm_oSub 192 P st G) := pm_dn_eq (i := .isub) (len := 1) rfl
theorem u_121_192 (P : PL) (st : List PV) (G : PW) : pm_dn pm_sM 121 192 P st G = pm_go pm_sM 121 G (pm_oIc .ne (some 227) 195 P st G) := pm_dn_eq (i := .if_icmp .ne 35) (len := 3) rfl
theorem u_121_195 (P : PL) (st : List PV) (G : PW) : pm_dn pm_sM 121 195 P st G = pm_go pm_sM 121 G (pm_oAL 0 196 P st G) := pm_dn_eq (i := .aload_n 0) (len := 1) rfl
theorem u_121_196 (P : PL) (st : List PV) (G : PW) : pm_dn pm_sM 121 196 P st G = pm_go pm_sM 121 G (pm_oGf pm_sM 6 21 199 P st G) := pm_dn_eq (i := .getfield 62) (len := 3) rfl
theorem u_121_199 (P : PL) (st : List PV) (G : PW) : pm_dn pm_sM 121 199 P st G = pm_go pm_sM 121 G (pm_oIL 1 200 P st G) := pm_dn_eq (i := .iload_n 1) (len := 1) rfl
theorem u_121_200 (P : PL) (st : List PV) (G : PW) : pm_dn pm_sM 121 200 P st G = pm_go pm_sM 121 G (pm_oAld pm_sM 0 201 P st G) := pm_dn_eq (i := .iaload) (len := 1) rfl
theorem u_121_201 (P : PL) (st : List PV) (G : PW) : pm_dn pm_sM 121 201 P st G = pm_go pm_sM 121 G (pm_oIL 3 202 P st G) := pm_dn_eq (i := .iload_n 3) (len := 1) rfl
theorem u_121_202 (P : PL) (st : List PV) (G : PW) : pm_dn pm_sM 121 202 P st G = pm_go pm_sM 121 G (pm_oIc .ne (some 227) 205 P st G) := pm_dn_eq (i := .if_icmp .ne 25) (len := 3) rfl
theorem u_121_205 (P : PL) (st : List PV) (G : PW) : pm_dn pm_sM 121 205 P st G = pm_go pm_sM 121 G (pm_oAL 0 206 P st G) := pm_dn_eq (i := .aload_n 0) (len := 1) rfl
theorem u_121_206 (P : PL) (st : List PV) (G : PW) : pm_dn pm_sM 121 206 P st G = pm_go pm_sM 121 G (pm_oGf pm_sM 6 20 209 P st G) := pm_dn_eq (i := .getfield 59) (len := 3) rfl
theorem u_121_209 (P : PL) (st : List PV) (G : PW) : pm_dn pm_sM 121 209 P st G = pm_go pm_sM 121 G (pm_oK 2 210 P st G) := pm_dn_eq (i := .iconst 2) (len := 1) rfl
theorem u_121_210 (P : PL) (st : List PV) (G : PW) : pm_dn pm_sM 121 210 P st G = pm_go pm_sM 121 G (pm_oIL 1 211 P st G) := pm_dn_eq (i := .iload_n 1) (len := 1) rfl
theorem u_121_211 (P : PL) (st : List PV) (G : PW) : pm_dn pm_sM 121 211 P st G = pm_go pm_sM 121 G (pm_oMul 212 P st G) := pm_dn_eq (i := .imul) (len := 1) rfl
theorem u_121_212 (P : PL) (st : List PV) (G : PW) : pm_dn pm_sM 121 212 P st G = pm_go pm_sM 121 G (pm_oK 2 213 P st G) := pm_dn_eq (i := .iconst 2) (len := 1) rfl
theorem u_121_213 (P : PL) (st : List PV) (G : PW) : pm_dn pm_sM 121 213 P st G = pm_go pm_sM 121 G (pm_oAdd 214 P st G) := pm_dn_eq (i := .iadd) (len := 1) rfl
theorem u_121_214 (P : PL) (st : List PV) (G : PW) : pm_dn pm_sM 121 214 P st G = pm_go pm_sM 121 G (pm_oIL 2 215 P st G) := pm_dn_eq (i := .iload_n 2) (len := 1) rfl
theorem u_121_215 (P : PL) (st : List PV) (G : PW) : pm_dn pm_sM 121 215 P st G = pm_go pm_sM 121 G (pm_oAst pm_sM 0 216 P st G) := pm_dn_eq (i := .iastore) (len := 1) rfl
theorem u_121_216 (P : PL) (st : List PV) (G : PW) : pm_dn pm_sM 121 216 P st G = pm_go pm_sM 121 G (pm_oAL 0 217 P st G) := pm_dn_eq (i := .aload_n 0) (len := 1) rfl
theorem u_121_217 (P : PL) (st : List PV) (G : PW) : pm_dn pm_sM 121 217 P st G = pm_go pm_sM 121 G (pm_oGf pm_sM 6 20 220 P st G) := pm_dn_eq (i := .getfield 59) (len := 3) rfl
theorem u_121_220 (P : PL) (st : List PV) (G : PW) : pm_dn pm_sM 121 220 P st G = pm_go pm_sM 121 G (pm_oK 2 221 P st G) := pm_dn_eq (i := .iconst 2) (len := 1) rfl
theorem u_121_221 (P : PL) (st : List PV) (G : PW) : pm_dn pm_sM 121 221 P st G = pm_go pm_sM 121 G (pm_oIL 1 222 P st G) := pm_dn_eq (i := .iload_n 1) (len := 1) rfl
theorem u_121_222 (P : PL) (st : List PV) (G : PW) : pm_dn pm_sM 121 222 P st G = pm_go pm_sM 121 G (pm_oMul 223 P st G) := pm_dn_eq (i := .imul) (len := 1) rfl
theorem u_121_223 (P : PL) (st : List PV) (G : PW) : pm_dn pm_sM 121 223 P st G = pm_go pm_sM 121 G (pm_oK 3 224 P st G) := pm_dn_eq (i := .iconst 3) (len := 1) rfl
theorem u_121_224 (P : PL) (st : List PV) (G : PW) : pm_dn pm_sM 121 224 P st G = pm_go pm_sM 121 G (pm_oAdd 225 P st G) := pm_dn_eq (i := .iadd) (len := 1) rfl
theorem u_121_225 (P : PL) (st : List PV) (G : PW) : pm_dn pm_sM 121 225 P st G = pm_go pm_sM 121 G (pm_oIL 3 226 P st G) := pm_dn_eq (i := .iload_n 3) (len := 1) rfl
theorem u_121_226 (P : PL) (st : List PV) (G : PW) : pm_dn pm_sM 121 226 P st G = pm_go pm_sM 121 G (pm_oAst pm_sM 0 227 P st G) := pm_dn_eq (i := .iastore) (len := 1) rfl
theorem u_121_227 (P : PL) (st : List PV) (G : PW) : pm_dn pm_sM 121 227 P st G = pm_go pm_sM 121 G (pm_oRv P st G) := pm_dn_eq (i := .return_) (len := 1) rfl
theorem ue_122 (a0 : Nat) (a1 : Int) (a2 : Int) (G : PW) : pm_ca pm_sM 122 [.inr (.inr a0), .inl a1, .inl a2] G = pm_dn pm_sM 122 0 [some (.inr (.inr a0)), some (.inl a1), some (.inl a2), none] [] G := rfl
theorem u_122_0 (P : PL) (st : List PV) (G : PW) : pm_dn pm_sM 122 0 P st G = pm_go pm_sM 122 G (pm_oAL 0 1 P st G) := pm_dn_eq (i := .aload_n 0) (len := 1) rfl
theorem u_122_1 (P : PL) (st : List PV) (G : PW) : pm_dn pm_sM 122 1 P st G = pm_go pm_sM 122 G (pm_oIL 1 2 P st G) := pm_dn_eq (i := .iload_n 1) (len := 1) rfl
theorem u_122_2 (P : PL) (st : List PV) (G : PW) : pm_dn pm_sM 122 2 P st G = pm_go pm_sM 122 G (pm_oPf pm_sM 6 25 0 5 P st G) := pm_dn_eq (i := .putfield 124) (len := 3) rfl
theorem u_122_5 (P : PL) (st : List PV) (G : PW) : pm_dn pm_sM 122 5 P st G = pm_go pm_sM 122 G (pm_oAL 0 6 P st G) := pm_dn_eq (i := .aload_n 0) (len := 1) rfl
theorem u_122_6 (P : PL) (st : List PV) (G : PW) : pm_dn pm_sM 122 6 P st G = pm_go pm_sM 122 G (pm_oIL 2 7 P st G) := pm_dn_eq (i := .iload_n 2) (len := 1) rfl
theorem u_122_7 (P : PL) (st : List PV) (G : PW) : pm_dn pm_sM 122 7 P st G = pm_go pm_sM 122 G (pm_oPf pm_sM 6 26 0 10 P st G) := pm_dn_eq (i := .putfield 127) (len := 3) rfl
theorem u_122_10 (P : PL) (st : List PV) (G : PW) : pm_dn pm_sM 122 10 P st G = pm_go pm_sM 122 G (pm_oK 0 11 P st G) := pm_dn_eq (i := .iconst 0) (len := 1) rfl
theorem u_122_11 (P : PL) (st : List PV) (G : PW) : pm_dn pm_sM 122 11 P st G = pm_go pm_sM 122 G (pm_oIS 3 12 P st G) := pm_dn_eq (i := .istore_n 3) (len := 1) rfl
theorem u_122_12 (P : PL) (st : List PV) (G : PW) : pm_dn pm_sM 122 12 P st G = pm_go pm_sM 122 G (pm_oIL 3 13 P st G) := pm_dn_eq (i := .iload_n 3) (len := 1) rfl
theorem u_122_13 (P : PL) (st : List PV) (G : PW) : pm_dn pm_sM 122 13 P st G = pm_go pm_sM 122 G (pm_oK 2 14 P st G) := pm_dn_eq (i := .iconst 2) (len := 1) rfl
theorem u_122_14 (P : PL) (st : List PV) (G : PW) : pm_dn pm_sM 122 14 P st G = pm_go pm_sM 122 G (pm_oAL 0 15 P st G) := pm_dn_eq (i := .aload_n 0) (len := 1) rfl
theorem u_122_15 (P : PL) (st : List PV) (G : PW) : pm_dn pm_sM 122 15 P st G = pm_go pm_sM 122 G (pm_oGf pm_sM 6 7 18 P st G) := pm_dn_eq (i := .getfield 97) (len := 3) rfl
theorem u_122_18 (P : PL) (st : List PV) (G : PW) : pm_dn pm_sM 122 18 P st G = pm_go pm_sM 122 G (pm_oMul 19 P st G) := pm_dn_eq (i := .imul) (len := 1) rfl
theorem u_122_19 (P : PL) (st : List PV) (G : PW) : pm_dn pm_sM 122 19 P st G = pm_go pm_sM 122 G (pm_oIc .ge (some 36) 22 P st G) := pm_dn_eq (i := .if_icmp .ge 17) (len := 3) rfl
theorem u_122_22 (P : PL) (st : List PV) (G : PW) : pm_dn pm_sM 122 22 P st G = pm_go pm_sM 122 G (pm_oAL 0 23 P st G) := pm_dn_eq (i := .aload_n 0) (len := 1) rfl
theorem u_122_23 (P : PL) (st : List PV) (G : PW) : pm_dn pm_sM 122 23 P st G = pm_go pm_sM 122 G (pm_oGf pm_sM 6 20 26 P st G) := pm_dn_eq (i := .getfield 59) (len := 3) rfl
theorem u_122_26 (P : PL) (st : List PV) (G : PW) : pm_dn pm_sM 122 26 P st G = pm_go pm_sM 122 G (pm_oIL 3 27 P st G) := pm_dn_eq (i := .iload_n 3) (len := 1) rfl
theorem u_122_27 (P : PL) (st : List PV) (G : PW) : pm_dn pm_sM 122 27 P st G = pm_go pm_sM 122 G (pm_oK (-6) 29 P st G) := pm_dn_eq (i := .bipush (-6)) (len := 2) rfl
theorem u_122_29 (P : PL) (st : List PV) (G : PW) : pm_dn pm_sM 122 29 P st G = pm_go pm_sM 122 G (pm_oAst pm_sM 0 30 P st G) := pm_dn_eq (i := .iastore) (len := 1) rfl
theorem u_122_30 (P : PL) (st : List PV) (G : PW) : pm_dn pm_sM 122 30 P st G = pm_go pm_sM 122 G (pm_oInc 3 1 33 P st G) := pm_dn_eq (i := .iinc 3 1) (len := 3) rfl
theorem u_122_33 (P : PL) (st : List PV) (G : PW) : pm_dn pm_sM 122 33 P st G = pm_go pm_sM 122 G (pm_oGo (some 12) P st G) := pm_dn_eq (i := .goto (-21)) (len := 3) rfl
theorem u_122_36 (P : PL) (st : List PV) (G : PW) : pm_dn pm_sM 122 36 P st G = pm_go pm_sM 122 G (pm_oK 0 37 P st G) := pm_dn_eq (i := .iconst 0) (len := 1) rfl
theorem u_122_37 (P : PL) (st : List PV) (G : PW) : pm_dn pm_sM 122 37 P st G = pm_go pm_sM 122 G (pm_oIS 3 38 P st G) := pm_dn_eq (i := .istore_n 3) (len := 1) rfl
theorem u_122_38 (P : PL) (st : List PV) (G : PW) : pm_dn pm_sM 122 38 P st G = pm_go pm_sM 122 G (pm_oIL 3 39 P st G) := pm_dn_eq (i := .iload_n 3) (len := 1) rfl
theorem u_122_39 (P : PL) (st : List PV) (G : PW) : pm_dn pm_sM 122 39 P st G = pm_go pm_sM 122 G (pm_oAL 0 40 P st G) := pm_dn_eq (i := .aload_n 0) (len := 1) rfl
theorem u_122_40 (P : PL) (st : List PV) (G : PW) : pm_dn pm_sM 122 40 P st G = pm_go pm_sM 122 G (pm_oGf pm_sM 6 5 43 P st G) := pm_dn_eq (i := .getfield 90) (len := 3) rfl
theorem u_122_43 (P : PL) (st : List PV) (G : PW) : pm_dn pm_sM 122 43 P st G = pm_go pm_sM 122 G (pm_oIc .ge (some 84) 46 P st G) := pm_dn_eq (i := .if_icmp .ge 41) (len := 3) rfl
theorem u_122_46 (P : PL) (st : List PV) (G : PW) : pm_dn pm_sM 122 46 P st G = pm_go pm_sM 122 G (pm_oAL 0 47 P st G) := pm_dn_eq (i := .aload_n 0) (len := 1) rfl
theorem u_122_47 (P : PL) (st : List PV) (G : PW) : pm_dn pm_sM 122 47 P st G = pm_go pm_sM 122 G (pm_oGf pm_sM 6 20 50 P st G) := pm_dn_eq (i := .getfield 59) (len := 3) rfl
theorem u_122_50 (P : PL) (st : List PV) (G : PW) : pm_dn pm_sM 122 50 P st G = pm_go pm_sM 122 G (pm_oIL 3 51 P st G) := pm_dn_eq (i := .iload_n 3) (len := 1) rfl
theorem u_122_51 (P : PL) (st : List PV) (G : PW) : pm_dn pm_sM 122 51 P st G = pm_go pm_sM 122 G (pm_oAL 0 52 P st G) := pm_dn_eq (i := .aload_n 0) (len := 1) rfl
theorem u_122_52 (P : PL) (st : List PV) (G : PW) : pm_dn pm_sM 122 52 P st G = pm_go pm_sM 122 G (pm_oGf pm_sM 6 18 55 P st G) := pm_dn_eq (i := .getfield 53) (len := 3) rfl
theorem u_122_55 (P : PL) (st : List PV) (G : PW) : pm_dn pm_sM 122 55 P st G = pm_go pm_sM 122 G (pm_oIL 3 56 P st G) := pm_dn_eq (i := .iload_n 3) (len := 1) rfl
theorem u_122_56 (P : PL) (st : List PV) (G : PW) : pm_dn pm_sM 122 56 P st G = pm_go pm_sM 122 G (pm_oAld pm_sM 0 57 P st G) := pm_dn_eq (i := .iaload) (len := 1) rfl
theorem u_122_57 (P : PL) (st : List PV) (G : PW) : pm_dn pm_sM 122 57 P st G = pm_go pm_sM 122 G (pm_oAL 0 58 P st G) := pm_dn_eq (i := .aload_n 0) (len := 1) rfl
theorem u_122_58 (P : PL) (st : List PV) (G : PW) : pm_dn pm_sM 122 58 P st G = pm_go pm_sM 122 G (pm_oGf pm_sM 6 0 61 P st G) := pm_dn_eq (i := .getfield 7) (len := 3) rfl
theorem u_122_61 (P : PL) (st : List PV) (G : PW) : pm_dn pm_sM 122 61 P st G = pm_go pm_sM 122 G (pm_oK 0 62 P st G) := pm_dn_eq (i := .iconst 0) (len := 1) rfl
theorem u_122_62 (P : PL) (st : List PV) (G : PW) : pm_dn pm_sM 122 62 P st G = pm_go pm_sM 122 G (pm_oAld pm_sM 0 63 P st G) := pm_dn_eq (i := .iaload) (len := 1) rfl
theorem u_122_63 (P : PL) (st : List PV) (G : PW) : pm_dn pm_sM 122 63 P st G = pm_go pm_sM 122 G (pm_oIc .ge (some 75) 66 P st G) := pm_dn_eq (i := .if_icmp .ge 12) (len := 3) rfl
theorem u_122_66 (P : PL) (st : List PV) (G : PW) : pm_dn pm_sM 122 66 P st G = pm_go pm_sM 122 G (pm_oAL 0 67 P st G) := pm_dn_eq (i := .aload_n 0) (len := 1) rfl
theorem u_122_67 (P : PL) (st : List PV) (G : PW) : pm_dn pm_sM 122 67 P st G = pm_go pm_sM 122 G (pm_oGf pm_sM 6 18 70 P st G) := pm_dn_eq (i := .getfield 53) (len := 3) rfl
theorem u_122_70 (P : PL) (st : List PV) (G : PW) : pm_dn pm_sM 122 70 P st G = pm_go pm_sM 122 G (pm_oIL 3 71 P st G) := pm_dn_eq (i := .iload_n 3) (len := 1) rfl
theorem u_122_71 (P : PL) (st : List PV) (G : PW) : pm_dn pm_sM 122 71 P st G = pm_go pm_sM 122 G (pm_oAld pm_sM 0 72 P st G) := pm_dn_eq (i := .iaload) (len := 1) rfl
theorem u_122_72 (P : PL) (st : List PV) (G : PW) : pm_dn pm_sM 122 72 P st G = pm_go pm_sM 122 G (pm_oGo (some 77) P st G) := pm_dn_eq (i := .goto 5) (len := 3) rfl
theorem u_122_75 (P : PL) (st : List PV) (G : PW) : pm_dn pm_sM 122 75 P st G = pm_go pm_sM 122 G (pm_oK 16 77 P st G) := pm_dn_eq (i := .bipush 16) (len := 2) rfl
theorem u_122_77 (P : PL) (st : List PV) (G : PW) : pm_dn pm_sM 122 77 P st G = pm_go pm_sM 122 G (pm_oAst pm_sM 0 78 P st G) := pm_dn_eq (i := .iastore) (len := 1) rfl
theorem u_122_78 (P : PL) (st : List PV) (G : PW) : pm_dn pm_sM 122 78 P st G = pm_go pm_sM 122 G (pm_oInc 3 1 81 P st G) := pm_dn_eq (i := .iinc 3 1) (len := 3) rfl
theorem u_122_81 (P : PL) (st : List PV) (G : PW) : pm_dn pm_sM 122 81 P st G = pm_go pm_sM 122 G (pm_oGo (some 38) P st G) := pm_dn_eq (i := .goto (-43)) (len := 3) rfl
theorem u_122_84 (P : PL) (st : List PV) (G : PW) : pm_dn pm_sM 122 84 P st G = pm_go pm_sM 122 G (pm_oK 0 85 P st G) := pm_dn_eq (i := .iconst 0) (len := 1) rfl
theorem u_122_85 (P : PL) (st : List PV) (G : PW) : pm_dn pm_sM 122 85 P st G = pm_go pm_sM 122 G (pm_oIS 3 86 P st G) := pm_dn_eq (i := .istore_n 3) (len := 1) rfl
theorem u_122_86 (P : PL) (st : List PV) (G : PW) : pm_dn pm_sM 122 86 P st G = pm_go pm_sM 122 G (pm_oIL 3 87 P st G) := pm_dn_eq (i := .iload_n 3) (len := 1) rfl
theorem u_122_87 (P : PL) (st : List PV) (G : PW) : pm_dn pm_sM 122 87 P st G = pm_go pm_sM 122 G (pm_oAL 0 88 P st G) := pm_dn_eq (i := .aload_n 0) (len := 1) rfl
theorem u_122_88 (P : PL) (st : List PV) (G : PW) : pm_dn pm_sM 122 88 P st G = pm_go pm_sM 122 G (pm_oGf pm_sM 6 7 91 P st G) := pm_dn_eq (i := .getfield 97) (len := 3) rfl
theorem u_122_91 (P : PL) (st : List PV) (G : PW) : pm_dn pm_sM 122 91 P st G = pm_go pm_sM 122 G (pm_oIc .ge (some 105) 94 P st G) := pm_dn_eq (i := .if_icmp .ge 14) (len := 3) rfl
theorem u_122_94 (P : PL) (st : List PV) (G : PW) : pm_dn pm_sM 122 94 P st G = pm_go pm_sM 122 G (pm_oAL 0 95 P st G) := pm_dn_eq (i := .aload_n 0) (len := 1) rfl
theorem u_122_95 (P : PL) (st : List PV) (G : PW) : pm_dn pm_sM 122 95 P st G = pm_go pm_sM 122 G (pm_oIL 3 96 P st G) := pm_dn_eq (i := .iload_n 3) (len := 1) rfl
theorem u_122_96 (P : PL) (st : List PV) (G : PW) : pm_dn pm_sM 122 96 P st G = pm_go pm_sM 122 G (pm_oCv pm_sM 121 1 4 6 99 P st G) := pm_dn_eq (i := .invokevirtual 137) (len := 3) rfl
theorem u_122_99 (P : PL) (st : List PV) (G : PW) : pm_dn pm_sM 122 99 P st G = pm_go pm_sM 122 G (pm_oInc 3 1 102 P st G) := pm_dn_eq (i := .iinc 3 1) (len := 3) rfl
theorem u_122_102 (P : PL) (st : List PV) (G : PW) : pm_dn pm_sM 122 102 P st G = pm_go pm_sM 122 G (pm_oGo (some 86) P st G) := pm_dn_eq (i := .goto (-16)) (len := 3) rfl
theorem u_122_105 (P : PL) (st : List PV) (G : PW) : pm_dn pm_sM 122 105 P st G = pm_go pm_sM 122 G (pm_oRv P st G) := pm_dn_eq (i := .return_) (len := 1) rfl
theorem ue_123 (a0 : Nat) (a1 : Int) (a2 : Int) (G : PW) : pm_ca pm_sM 123 [.inr (.inr a0), .inl a1, .inl a2] G = pm_dn pm_sM 123 0 [some (.inr (.inr a0)), some (.inl a1), some (.inl a2), none] [] G := rfl
theorem u_123_0 (P : PL) (st : List PV) (G : PW) : pm_dn pm_sM 123 0 P st G = pm_go pm_sM 123 G (pm_oAL 0 1 P st G) := pm_dn_eq (i := .aload_n 0) (len := 1) rfl
theorem u_123_1 (P : PL) (st : List PV) (G : PW) : pm_dn pm_sM 123 1 P st G = pm_go pm_sM 123 G (pm_oCv pm_sM 116 0 3 6 4 P st G) := pm_dn_eq (i := .invokevirtual 141) (len := 3) rfl
theorem u_123_4 (P : PL) (st : List PV) (G : PW) : pm_dn pm_sM 123 4 P st G = pm_go pm_sM 123 G (pm_oK 0 5 P st G) := pm_dn_eq (i := .iconst 0) (len := 1) rfl
theorem u_123_5 (P : PL) (st : List PV) (G : PW) : pm_dn pm_sM 123 5 P st G = pm_go pm_sM 123 G (pm_oIS 3 6 P st G) := pm_dn_eq (i := .istore_n 3) (len := 1) rfl
theorem u_123_6 (P : PL) (st : List PV) (G : PW) : pm_dn pm_sM 123 6 P st G = pm_go pm_sM 123 G (pm_oIL 3 7 P st G) := pm_dn_eq (i := .iload_n 3) (len := 1) rfl
theorem u_123_7 (P : PL) (st : List PV) (G : PW) : pm_dn pm_sM 123 7 P st G = pm_go pm_sM 123 G (pm_oK 31 9 P st G) := pm_dn_eq (i := .bipush 31) (len := 2) rfl
theorem u_123_9 (P : PL) (st : List PV) (G : PW) : pm_dn pm_sM 123 9 P st G = pm_go pm_sM 123 G (pm_oIc .ge (some 33) 12 P st G) := pm_dn_eq (i := .if_icmp .ge 24) (len := 3) rfl
theorem u_123_12 (P : PL) (st : List PV) (G : PW) : pm_dn pm_sM 123 12 P st G = pm_go pm_sM 123 G (pm_oAL 0 13 P st G) := pm_dn_eq (i := .aload_n 0) (len := 1) rfl
theorem u_123_13 (P : PL) (st : List PV) (G : PW) : pm_dn pm_sM 123 13 P st G = pm_go pm_sM 123 G (pm_oGf pm_sM 6 24 16 P st G) := pm_dn_eq (i := .getfield 71) (len := 3) rfl
theorem u_123_16 (P : PL) (st : List PV) (G : PW) : pm_dn pm_sM 123 16 P st G = pm_go pm_sM 123 G (pm_oIL 3 17 P st G) := pm_dn_eq (i := .iload_n 3) (len := 1) rfl
theorem u_123_17 (P : PL) (st : List PV) (G : PW) : pm_dn pm_sM 123 17 P st G = pm_go pm_sM 123 G (pm_oAL 0 18 P st G) := pm_dn_eq (i := .aload_n 0) (len := 1) rfl
theorem u_123_18 (P : PL) (st : List PV) (G : PW) : pm_dn pm_sM 123 18 P st G = pm_go pm_sM 123 G (pm_oGf pm_sM 6 0 21 P st G) := pm_dn_eq (i := .getfield 7) (len := 3) rfl
theorem u_123_21 (P : PL) (st : List PV) (G : PW) : pm_dn pm_sM 123 21 P st G = pm_go pm_sM 123 G (pm_oK 19 23 P st G) := pm_dn_eq (i := .bipush 19) (len := 2) rfl
theorem u_123_23 (P : PL) (st : List PV) (G : PW) : pm_dn pm_sM 123 23 P st G = pm_go pm_sM 123 G (pm_oIL 3 24 P st G) := pm_dn_eq (i := .iload_n 3) (len := 1) rfl
theorem u_123_24 (P : PL) (st : List PV) (G : PW) : pm_dn pm_sM 123 24 P st G = pm_go pm_sM 123 G (pm_oAdd 25 P st G) := pm_dn_eq (i := .iadd) (len := 1) rfl
theorem u_123_25 (P : PL) (st : List PV) (G : PW) : pm_dn pm_sM 123 25 P st G = pm_go pm_sM 123 G (pm_oAld pm_sM 0 26 P st G) := pm_dn_eq (i := .iaload) (len := 1) rfl
theorem u_123_26 (P : PL) (st : List PV) (G : PW) : pm_dn pm_sM 123 26 P st G = pm_go pm_sM 123 G (pm_oAst pm_sM 0 27 P st G) := pm_dn_eq (i := .iastore) (len := 1) rfl
theorem u_123_27 (P : PL) (st : List PV) (G : PW) : pm_dn pm_sM 123 27 P st G = pm_go pm_sM 123 G (pm_oInc 3 1 30 P st G) := pm_dn_eq (i := .iinc 3 1) (len := 3) rfl
theorem u_123_30 (P : PL) (st : List PV) (G : PW) : pm_dn pm_sM 123 30 P st G = pm_go pm_sM 123 G (pm_oGo (some 6) P st G) := pm_dn_eq (i := .goto (-24)) (len := 3) rfl
theorem u_123_33 (P : PL) (st : List PV) (G : PW) : pm_dn pm_sM 123 33 P st G = pm_go pm_sM 123 G (pm_oAL 0 34 P st G) := pm_dn_eq (i := .aload_n 0) (len := 1) rfl
theorem u_123_34 (P : PL) (st : List PV) (G : PW) : pm_dn pm_sM 123 34 P st G = pm_go pm_sM 123 G (pm_oIL 1 35 P st G) := pm_dn_eq (i := .iload_n 1) (len := 1) rfl
theorem u_123_35 (P : PL) (st : List PV) (G : PW) : pm_dn pm_sM 123 35 P st G = pm_go pm_sM 123 G (pm_oIL 2 36 P st G) := pm_dn_eq (i := .iload_n 2) (len := 1) rfl
theorem u_123_36 (P : PL) (st : List PV) (G : PW) : pm_dn pm_sM 123 36 P st G = pm_go pm_sM 123 G (pm_oCv pm_sM 122 2 4 6 39 P st G) := pm_dn_eq (i := .invokevirtual 144) (len := 3) rfl
theorem u_123_39 (P : PL) (st : List PV) (G : PW) : pm_dn pm_sM 123 39 P st G = pm_go pm_sM 123 G (pm_oRv P st G) := pm_dn_eq (i := .return_) (len := 1) rfl
theorem ue_124 (a0 : Nat) (G : PW) : pm_ca pm_sM 124 [.inr (.inr a0)] G = pm_dn pm_sM 124 0 [some (.inr (.inr a0))] [] G := rfl
theorem u_124_0 (P : PL) (st : List PV) (G : PW) : pm_dn pm_sM 124 0 P st G = pm_go pm_sM 124 G (pm_oAL 0 1 P st G) := pm_dn_eq (i := .aload_n 0) (len := 1) rfl
theorem u_124_1 (P : PL) (st : List PV) (G : PW) : pm_dn pm_sM 124 1 P st G = pm_go pm_sM 124 G (pm_oK 0 2 P st G) := pm_dn_eq (i := .iconst 0) (len := 1) rfl
theorem u_124_2 (P : PL) (st : List PV) (G : PW) : pm_dn pm_sM 124 2 P st G = pm_go pm_sM 124 G (pm_oK (-6) 4 P st G) := pm_dn_eq (i := .bipush (-6)) (len := 2) rfl
theorem u_124_4 (P : PL) (st : List PV) (G : PW) : pm_dn pm_sM 124 4 P st G = pm_go pm_sM 124 G (pm_oCv pm_sM 123 2 4 6 7 P st G) := pm_dn_eq (i := .invokevirtual 147) (len := 3) rfl
theorem u_124_7 (P : PL) (st : List PV) (G : PW) : pm_dn pm_sM 124 7 P st G = pm_go pm_sM 124 G (pm_oRv P st G) := pm_dn_eq (i := .return_) (len := 1) rfl
theorem ue_125 (a0 : Nat) (G : PW) : pm_ca pm_sM 125 [.inr (.inr a0)] G = pm_dn pm_sM 125 0 [some (.inr (.inr a0)), none] [] G := rfl
theorem u_125_0 (P : PL) (st : List PV) (G : PW) : pm_dn pm_sM 125 0 P st G = pm_go pm_sM 125 G (pm_oAL 0 1 P st G) := pm_dn_eq (i := .aload_n 0) (len := 1) rfl
theorem u_125_1 (P : PL) (st : List PV) (G : PW) : pm_dn pm_sM 125 1 P st G = pm_go pm_sM 125 G (pm_oGf pm_sM 6 7 4 P st G) := pm_dn_eq (i := .getfield 97) (len := 3) rfl
theorem u_125_4 (P : PL) (st : List PV) (G : PW) : pm_dn pm_sM 125 4 P st G = pm_go pm_sM 125 G (pm_oK 2 5 P st G) := pm_dn_eq (i := .iconst 2) (len := 1) rfl
theorem u_125_5 (P : PL) (st : List PV) (G : PW) : pm_dn pm_sM 125 5 P st G = pm_go pm_sM 125 G (pm_oSub 6 P st G) := pm_dn_eq (i := .isub) (len := 1) rfl
theorem u_125_6 (P : PL) (st : List PV) (G : PW) : pm_dn pm_sM 125 6 P st G = pm_go pm_sM 125 G (pm_oIS 1 7 P st G) := pm_dn_eq (i := .istore_n 1) (len := 1) rfl
theorem u_125_7 (P : PL) (st : List PV) (G : PW) : pm_dn pm_sM 125 7 P st G = pm_go pm_sM 125 G (pm_oAL 0 8 P st G) := pm_dn_eq (i := .aload_n 0) (len := 1) rfl
theorem u_125_8 (P : PL) (st : List PV) (G : PW) : pm_dn pm_sM 125 8 P st G = pm_go pm_sM 125 G (pm_oGf pm_sM 6 23 11 P st G) := pm_dn_eq (i := .getfield 68) (len := 3) rfl
theorem u_125_11 (P : PL) (st : List PV) (G : PW) : pm_dn pm_sM 125 11 P st G = pm_go pm_sM 125 G (pm_oIL 1 12 P st G) := pm_dn_eq (i := .iload_n 1) (len := 1) rfl
theorem u_125_12 (P : PL) (st : List PV) (G : PW) : pm_dn pm_sM 125 12 P st G = pm_go pm_sM 125 G (pm_oAld pm_sM 0 13 P st G) := pm_dn_eq (i := .iaload) (len := 1) rfl
theorem u_125_13 (P : PL) (st : List PV) (G : PW) : pm_dn pm_sM 125 13 P st G = pm_go pm_sM 125 G (pm_oIf .le (some 40) 16 P st G) := pm_dn_eq (i := .ifCond .le 27) (len := 3) rfl
theorem u_125_16 (P : PL) (st : List PV) (G : PW) : pm_dn pm_sM 125 16 P st G = pm_go pm_sM 125 G (pm_oAL 0 17 P st G) := pm_dn_eq (i := .aload_n 0) (len := 1) rfl
theorem u_125_17 (P : PL) (st : List PV) (G : PW) : pm_dn pm_sM 125 17 P st G = pm_go pm_sM 125 G (pm_oGf pm_sM 6 21 20 P st G) := pm_dn_eq (i := .getfield 62) (len := 3) rfl
theorem u_125_20 (P : PL) (st : List PV) (G : PW) : pm_dn pm_sM 125 20 P st G = pm_go pm_sM 125 G (pm_oIL 1 21 P st G) := pm_dn_eq (i := .iload_n 1) (len := 1) rfl
theorem u_125_21 (P : PL) (st : List PV) (G : PW) : pm_dn pm_sM 125 21 P st G = pm_go pm_sM 125 G (pm_oAld pm_sM 0 22 P st G) := pm_dn_eq (i := .iaload) (len := 1) rfl
theorem u_125_22 (P : PL) (st : List PV) (G : PW) : pm_dn pm_sM 125 22 P st G = pm_go pm_sM 125 G (pm_oAL 0 23 P st G) := pm_dn_eq (i := .aload_n 0) (len := 1) rfl
theorem u_125_23 (P : PL) (st : List PV) (G : PW) : pm_dn pm_sM 125 23 P st G = pm_go pm_sM 125 G (pm_oGf pm_sM 6 20 26 P st G) := pm_dn_eq (i := .getfield 59) (len := 3) rfl
theorem u_125_26 (P : PL) (st : List PV) (G : PW) : pm_dn pm_sM 125 26 P st G = pm_go pm_sM 125 G (pm_oK 2 27 P st G) := pm_dn_eq (i := .iconst 2) (len := 1) rfl
theorem u_125_27 (P : PL) (st : List PV) (G : PW) : pm_dn pm_sM 125 27 P st G = pm_go pm_sM 125 G (pm_oIL 1 28 P st G) := pm_dn_eq (i := .iload_n 1) (len := 1) rfl
theorem u_125_28 (P : PL) (st : List PV) (G : PW) : pm_dn pm_sM 125 28 P st G = pm_go pm_sM 125 G (pm_oMul 29 P st G) := pm_dn_eq (i := .imul) (len := 1) rfl
theorem u_125_29 (P : PL) (st : List PV) (G : PW) : pm_dn pm_sM 125 29 P st G = pm_go pm_sM 125 G (pm_oAld pm_sM 0 30 P st G) := pm_dn_eq (i := .iaload) (len := 1) rfl
theorem u_125_30 (P : PL) (st : List PV) (G : PW) : pm_dn pm_sM 125 30 P st G = pm_go pm_sM 125 G (pm_oIc .ne (some 40) 33 P st G) := pm_dn_eq (i := .if_icmp .ne 10) (len := 3) rfl
theorem u_125_33 (P : PL) (st : List PV) (G : PW) : pm_dn pm_sM 125 33 P st G = pm_go pm_sM 125 G (pm_oAL 0 34 P st G) := pm_dn_eq (i := .aload_n 0) (len := 1) rfl
theorem u_125_34 (P : PL) (st : List PV) (G : PW) : pm_dn pm_sM 125 34 P st G = pm_go pm_sM 125 G (pm_oGf pm_sM 6 21 37 P st G) := pm_dn_eq (i := .getfield 62) (len := 3) rfl
theorem u_125_37 (P : PL) (st : List PV) (G : PW) : pm_dn pm_sM 125 37 P st G = pm_go pm_sM 125 G (pm_oIL 1 38 P st G) := pm_dn_eq (i := .iload_n 1) (len := 1) rfl
theorem u_125_38 (P : PL) (st : List PV) (G : PW) : pm_dn pm_sM 125 38 P st G = pm_go pm_sM 125 G (pm_oAld pm_sM 0 39 P st G) := pm_dn_eq (i := .iaload) (len := 1) rfl
theorem u_125_39 (P : PL) (st : List PV) (G : PW) : pm_dn pm_sM 125 39 P st G = pm_go pm_sM 125 G (pm_oRi 0 P st G) := pm_dn_eq (i := .ireturn) (len := 1) rfl
theorem u_125_40 (P : PL) (st : List PV) (G : PW) : pm_dn pm_sM 125 40 P st G = pm_go pm_sM 125 G (pm_oAL 0 41 P st G) := pm_dn_eq (i := .aload_n 0) (len := 1) rfl
theorem u_125_41 (P : PL) (st : List PV) (G : PW) : pm_dn pm_sM 125 41 P st G = pm_go pm_sM 125 G (pm_oGf pm_sM 6 23 44 P st G) := pm_dn_eq (i := .getfield 68) (len := 3) rfl
theorem u_125_44 (P : PL) (st : List PV) (G : PW) : pm_dn pm_sM 125 44 P st G = pm_go pm_sM 125 G (pm_oIL 1 45 P st G) := pm_dn_eq (i := .iload_n 1) (len := 1) rfl
theorem u_125_45 (P : PL) (st : List PV) (G : PW) : pm_dn pm_sM 125 45 P st G = pm_go pm_sM 125 G (pm_oK 1 46 P st G) := pm_dn_eq (i := .iconst 1) (len := 1) rfl
theorem u_125_46 (P : PL) (st : List PV) (G : PW) : pm_dn pm_sM 125 46 P st G = pm_go pm_sM 125 G (pm_oAdd 47 P st G) := pm_dn_eq (i := .iadd) (len := 1) rfl
theorem u_125_47 (P : PL) (st : List PV) (G : PW) : pm_dn pm_sM 125 47 P st G = pm_go pm_sM 125 G (pm_oAld pm_sM 0 48 P st G) := pm_dn_eq (i := .iaload) (len := 1) rfl
theorem u_125_48 (P : PL) (st : List PV) (G : PW) : pm_dn pm_sM 125 48 P st G = pm_go pm_sM 125 G (pm_oIf .le (some 62) 51 P st G) := pm_dn_eq (i := .ifCond .le 14) (len := 3) rfl
theorem u_125_51 (P : PL) (st : List PV) (G : PW) : pm_dn pm_sM 125 51 P st G = pm_go pm_sM 125 G (pm_oAL 0 52 P st G) := pm_dn_eq (i := .aload_n 0) (len := 1) rfl
theorem u_125_52 (P : PL) (st : List PV) (G : PW) : pm_dn pm_sM 125 52 P st G = pm_go pm_sM 125 G (pm_oGf pm_sM 6 21 55 P st G) := pm_dn_eq (i := .getfield 62) (len := 3) rfl
theorem u_125_55 (P : PL) (st : List PV) (G : PW) : pm_dn pm_sM 125 55 P st G = pm_go pm_sM 125 G (pm_oIL 1 56 P st G) := pm_dn_eq (i := .iload_n 1) (len := 1) rfl
theorem u_125_56 (P : PL) (st : List PV) (G : PW) : pm_dn pm_sM 125 56 P st G = pm_go pm_sM 125 G (pm_oK 1 57 P st G) := pm_dn_eq (i := .iconst 1) (len := 1) rfl
theorem u_125_57 (P : PL) (st : List PV) (G : PW) : pm_dn pm_sM 125 57 P st G = pm_go pm_sM 125 G (pm_oAdd 58 P st G) := pm_dn_eq (i := .iadd) (len := 1) rfl
theorem u_125_58 (P : PL) (st : List PV) (G : PW) : pm_dn pm_sM 125 58 P st G = pm_go pm_sM 125 G (pm_oAld pm_sM 0 59 P st G) := pm_dn_eq (i := .iaload) (len := 1) rfl
theorem u_125_59 (P : PL) (st : List PV) (G : PW) : pm_dn pm_sM 125 59 P st G = pm_go pm_sM 125 G (pm_oGo (some 64) P st G) := pm_dn_eq (i := .goto 5) (len := 3) rfl
theorem u_125_62 (P : PL) (st : List PV) (G : PW) : pm_dn pm_sM 125 62 P st G = pm_go pm_sM 125 G (pm_oK (-6) 64 P st G) := pm_dn_eq (i := .bipush (-6)) (len := 2) rfl
theorem u_125_64 (P : PL) (st : List PV) (G : PW) : pm_dn pm_sM 125 64 P st G = pm_go pm_sM 125 G (pm_oRi 0 P st G) := pm_dn_eq (i := .ireturn) (len := 1) rfl
theorem ue_126 (a0 : Nat) (G : PW) : pm_ca pm_sM 126 [.inr (.inr a0)] G = pm_dn pm_sM 126 0 [some (.inr (.inr a0)), none] [] G := rfl
theorem u_126_0 (P : PL) (st : List PV) (G : PW) : pm_dn pm_sM 126 0 P st G = pm_go pm_sM 126 G (pm_oAL 0 1 P st G) := pm_dn_eq (i := .aload_n 0) (len := 1) rfl
theorem u_126_1 (P : PL) (st : List PV) (G : PW) : pm_dn pm_sM 126 1 P st G = pm_go pm_sM 126 G (pm_oGf pm_sM 6 7 4 P st G) := pm_dn_eq (i := .getfield 97) (len := 3) rfl
theorem u_126_4 (P : PL) (st : List PV) (G : PW) : pm_dn pm_sM 126 4 P st G = pm_go pm_sM 126 G (pm_oK 2 5 P st G) := pm_dn_eq (i := .iconst 2) (len := 1) rfl
theorem u_126_5 (P : PL) (st : List PV) (G : PW) : pm_dn pm_sM 126 5 P st G = pm_go pm_sM 126 G (pm_oSub 6 P st G) := pm_dn_eq (i := .isub) (len := 1) rfl
theorem u_126_6 (P : PL) (st : List PV) (G : PW) : pm_dn pm_sM 126 6 P st G = pm_go pm_sM 126 G (pm_oIS 1 7 P st G) := pm_dn_eq (i := .istore_n 1) (len := 1) rfl
theorem u_126_7 (P : PL) (st : List PV) (G : PW) : pm_dn pm_sM 126 7 P st G = pm_go pm_sM 126 G (pm_oAL 0 8 P st G) := pm_dn_eq (i := .aload_n 0) (len := 1) rfl
theorem u_126_8 (P : PL) (st : List PV) (G : PW) : pm_dn pm_sM 126 8 P st G = pm_go pm_sM 126 G (pm_oCv pm_sM 125 0 2 6 11 P st G) := pm_dn_eq (i := .invokevirtual 150) (len := 3) rfl
theorem u_126_11 (P : PL) (st : List PV) (G : PW) : pm_dn pm_sM 126 11 P st G = pm_go pm_sM 126 G (pm_oK (-6) 13 P st G) := pm_dn_eq (i := .bipush (-6)) (len := 2) rfl
theorem u_126_13 (P : PL) (st : List PV) (G : PW) : pm_dn pm_sM 126 13 P st G = pm_go pm_sM 126 G (pm_oIc .ne (some 21) 16 P st G) := pm_dn_eq (i := .if_icmp .ne 8) (len := 3) rfl
theorem u_126_16 (P : PL) (st : List PV) (G : PW) : pm_dn pm_sM 126 16 P st G = pm_go pm_sM 126 G (pm_oK (-6) 18 P st G) := pm_dn_eq (i := .bipush (-6)) (len := 2) rfl
theorem u_126_18 (P : PL) (st : List PV) (G : PW) : pm_dn pm_sM 126 18 P st G = pm_go pm_sM 126 G (pm_oGo (some 49) P st G) := pm_dn_eq (i := .goto 31) (len := 3) rfl
theorem u_126_21 (P : PL) (st : List PV) (G : PW) : pm_dn pm_sM 126 21 P st G = pm_go pm_sM 126 G (pm_oAL 0 22 P st G) := pm_dn_eq (i := .aload_n 0) (len := 1) rfl
theorem u_126_22 (P : PL) (st : List PV) (G : PW) : pm_dn pm_sM 126 22 P st G = pm_go pm_sM 126 G (pm_oGf pm_sM 6 23 25 P st G) := pm_dn_eq (i := .getfield 68) (len := 3) rfl
theorem u_126_25 (P : PL) (st : List PV) (G : PW) : pm_dn pm_sM 126 25 P st G = pm_go pm_sM 126 G (pm_oIL 1 26 P st G) := pm_dn_eq (i := .iload_n 1) (len := 1) rfl
theorem u_126_26 (P : PL) (st : List PV) (G : PW) : pm_dn pm_sM 126 26 P st G = pm_go pm_sM 126 G (pm_oK 1 27 P st G) := pm_dn_eq (i := .iconst 1) (len := 1) rfl
theorem u_126_27 (P : PL) (st : List PV) (G : PW) : pm_dn pm_sM 126 27 P st G = pm_go pm_sM 126 G (pm_oAdd 28 P st G) := pm_dn_eq (i := .iadd) (len := 1) rfl
theorem u_126_28 (P : PL) (st : List PV) (G : PW) : pm_dn pm_sM 126 28 P st G = pm_go pm_sM 126 G (pm_oAld pm_sM 0 29 P st G) := pm_dn_eq (i := .iaload) (len := 1) rfl
theorem u_126_29 (P : PL) (st : List PV) (G : PW) : pm_dn pm_sM 126 29 P st G = pm_go pm_sM 126 G (pm_oIf .le (some 43) 32 P st G) := pm_dn_eq (i := .ifCond .le 14) (len := 3) rfl
theorem u_126_32 (P : PL) (st : List PV) (G : PW) : pm_dn pm_sM 126 32 P st G = pm_go pm_sM 126 G (pm_oAL 0 33 P st G) := pm_dn_eq (i := .aload_n 0) (len := 1) rfl
theorem u_126_33 (P : PL) (st : List PV) (G : PW) : pm_dn pm_sM 126 33 P st G = pm_go pm_sM 126 G (pm_oGf pm_sM 6 22 36 P st G) := pm_dn_eq (i := .getfield 65) (len := 3) rfl
theorem u_126_36 (P : PL) (st : List PV) (G : PW) : pm_dn pm_sM 126 36 P st G = pm_go pm_sM 126 G (pm_oIL 1 37 P st G) := pm_dn_eq (i := .iload_n 1) (len := 1) rfl
theorem u_126_37 (P : PL) (st : List PV) (G : PW) : pm_dn pm_sM 126 37 P st G = pm_go pm_sM 126 G (pm_oK 1 38 P st G) := pm_dn_eq (i := .iconst 1) (len := 1) rfl
theorem u_126_38 (P : PL) (st : List PV) (G : PW) : pm_dn pm_sM 126 38 P st G = pm_go pm_sM 126 G (pm_oAdd 39 P st G) := pm_dn_eq (i := .iadd) (len := 1) rfl
theorem u_126_39 (P : PL) (st : List PV) (G : PW) : pm_dn pm_sM 126 39 P st G = pm_go pm_sM 126 G (pm_oAld pm_sM 0 40 P st G) := pm_dn_eq (i := .iaload) (len := 1) rfl
theorem u_126_40 (P : PL) (st : List PV) (G : PW) : pm_dn pm_sM 126 40 P st G = pm_go pm_sM 126 G (pm_oGo (some 49) P st G) := pm_dn_eq (i := .goto 9) (len := 3) rfl
theorem u_126_43 (P : PL) (st : List PV) (G : PW) : pm_dn pm_sM 126 43 P st G = pm_go pm_sM 126 G (pm_oAL 0 44 P st G) := pm_dn_eq (i := .aload_n 0) (len := 1) rfl
theorem u_126_44 (P : PL) (st : List PV) (G : PW) : pm_dn pm_sM 126 44 P st G = pm_go pm_sM 126 G (pm_oGf pm_sM 6 22 47 P st G) := pm_dn_eq (i := .getfield 65) (len := 3) rfl
theorem u_126_47 (P : PL) (st : List PV) (G : PW) : pm_dn pm_sM 126 47 P st G = pm_go pm_sM 126 G (pm_oIL 1 48 P st G) := pm_dn_eq (i := .iload_n 1) (len := 1) rfl
theorem u_126_48 (P : PL) (st : List PV) (G : PW) : pm_dn pm_sM 126 48 P st G = pm_go pm_sM 126 G (pm_oAld pm_sM 0 49 P st G) := pm_dn_eq (i := .iaload) (len := 1) rfl
theorem u_126_49 (P : PL) (st : List PV) (G : PW) : pm_dn pm_sM 126 49 P st G = pm_go pm_sM 126 G (pm_oRi 0 P st G) := pm_dn_eq (i := .ireturn) (len := 1) rfl
theorem ue_127 (a0 : Nat) (a1 : Int) (G : PW) : pm_ca pm_sM 127 [.inr (.inr a0), .inl a1] G = pm_dn pm_sM 127 0 [some (.inr (.inr a0)), some (.inl a1)] [] G := rfl
theorem u_127_0 (P : PL) (st : List PV) (G : PW) : pm_dn pm_sM 127 0 P st G = pm_go pm_sM 127 G (pm_oAL 0 1 P st G) := pm_dn_eq (i := .aload_n 0) (len := 1) rfl
theorem u_127_1 (P : PL) (st : List PV) (G : PW) : pm_dn pm_sM 127 1 P st G = pm_go pm_sM 127 G (pm_oGf pm_sM 6 23 4 P st G) := pm_dn_eq (i := .getfield 68) (len := 3) rfl
theorem u_127_4 (P : PL) (st : List PV) (G : PW) : pm_dn pm_sM 127 4 P st G = pm_go pm_sM 127 G (pm_oIL 1 5 P st G) := pm_dn_eq (i := .iload_n 1) (len := 1) rfl
theorem u_127_5 (P : PL) (st : List PV) (G : PW) : pm_dn pm_sM 127 5 P st G = pm_go pm_sM 127 G (pm_oAld pm_sM 0 6 P st G) := pm_dn_eq (i := .iaload) (len := 1) rfl
theorem u_127_6 (P : PL) (st : List PV) (G : PW) : pm_dn pm_sM 127 6 P st G = pm_go pm_sM 127 G (pm_oIf .ne (some 41) 9 P st G) := pm_dn_eq (i := .ifCond .ne 35) (len := 3) rfl
theorem u_127_9 (P : PL) (st : List PV) (G : PW) : pm_dn pm_sM 127 9 P st G = pm_go pm_sM 127 G (pm_oAL 0 10 P st G) := pm_dn_eq (i := .aload_n 0) (len := 1) rfl
theorem u_127_10 (P : PL) (st : List PV) (G : PW) : pm_dn pm_sM 127 10 P st G = pm_go pm_sM 127 G (pm_oGf pm_sM 6 20 13 P st G) := pm_dn_eq (i := .getfield 59) (len := 3) rfl
theorem u_127_13 (P : PL) (st : List PV) (G : PW) : pm_dn pm_sM 127 13 P st G = pm_go pm_sM 127 G (pm_oK 2 14 P st G) := pm_dn_eq (i := .iconst 2) (len := 1) rfl
theorem u_127_14 (P : PL) (st : List PV) (G : PW) : pm_dn pm_sM 127 14 P st G = pm_go pm_sM 127 G (pm_oIL 1 15 P st G) := pm_dn_eq (i := .iload_n 1) (len := 1) rfl
theorem u_127_15 (P : PL) (st : List PV) (G : PW) : pm_dn pm_sM 127 15 P st G = pm_go pm_sM 127 G (pm_oMul 16 P st G) := pm_dn_eq (i := .imul) (len := 1) rfl
theorem u_127_16 (P : PL) (st : List PV) (G : PW) : pm_dn pm_sM 127 16 P st G = pm_go pm_sM 127 G (pm_oAld pm_sM 0 17 P st G) := pm_dn_eq (i := .iaload) (len := 1) rfl
theorem u_127_17 (P : PL) (st : List PV) (G : PW) : pm_dn pm_sM 127 17 P st G = pm_go pm_sM 127 G (pm_oK (-6) 19 P st G) := pm_dn_eq (i := .bipush (-6)) (len := 2) rfl
theorem u_127_19 (P : PL) (st : List PV) (G : PW) : pm_dn pm_sM 127 19 P st G = pm_go pm_sM 127 G (pm_oIc .eq (some 41) 22 P st G) := pm_dn_eq (i := .if_icmp .eq 22) (len := 3) rfl
theorem u_127_22 (P : PL) (st : List PV) (G : PW) : pm_dn pm_sM 127 22 P st G = pm_go pm_sM 127 G (pm_oAL 0 23 P st G) := pm_dn_eq (i := .aload_n 0) (len := 1) rfl
theorem u_127_23 (P : PL) (st : List PV) (G : PW) : pm_dn pm_sM 127 23 P st G = pm_go pm_sM 127 G (pm_oGf pm_sM 6 20 26 P st G) := pm_dn_eq (i := .getfield 59) (len := 3) rfl
theorem u_127_26 (P : PL) (st : List PV) (G : PW) : pm_dn pm_sM 127 26 P st G = pm_go pm_sM 127 G (pm_oK 2 27 P st G) := pm_dn_eq (i := .iconst 2) (len := 1) rfl
theorem u_127_27 (P : PL) (st : List PV) (G : PW) : pm_dn pm_sM 127 27 P st G = pm_go pm_sM 127 G (pm_oIL 1 28 P st G) := pm_dn_eq (i := .iload_n 1) (len := 1) rfl
theorem u_127_28 (P : PL) (st : List PV) (G : PW) : pm_dn pm_sM 127 28 P st G = pm_go pm_sM 127 G (pm_oMul 29 P st G) := pm_dn_eq (i := .imul) (len := 1) rfl
theorem u_127_29 (P : PL) (st : List PV) (G : PW) : pm_dn pm_sM 127 29 P st G = pm_go pm_sM 127 G (pm_oK 1 30 P st G) := pm_dn_eq (i := .iconst 1) (len := 1) rfl
theorem u_127_30 (P : PL) (st : List PV) (G : PW) : pm_dn pm_sM 127 30 P st G = pm_go pm_sM 127 G (pm_oAdd 31 P st G) := pm_dn_eq (i := .iadd) (len := 1) rfl
theorem u_127_31 (P : PL) (st : List PV) (G : PW) : pm_dn pm_sM 127 31 P st G = pm_go pm_sM 127 G (pm_oAld pm_sM 0 32 P st G) := pm_dn_eq (i := .iaload) (len := 1) rfl
theorem u_127_32 (P : PL) (st : List PV) (G : PW) : pm_dn pm_sM 127 32 P st G = pm_go pm_sM 127 G (pm_oK (-6) 34 P st G) := pm_dn_eq (i := .bipush (-6)) (len := 2) rfl
theorem u_127_34 (P : PL) (st : List PV) (G : PW) : pm_dn pm_sM 127 34 P st G = pm_go pm_sM 127 G (pm_oIc .eq (some 41) 37 P st G) := pm_dn_eq (i := .if_icmp .eq 7) (len := 3) rfl
theorem u_127_37 (P : PL) (st : List PV) (G : PW) : pm_dn pm_sM 127 37 P st G = pm_go pm_sM 127 G (pm_oK 1 38 P st G) := pm_dn_eq (i := .iconst 1) (len := 1) rfl
theorem u_127_38 (P : PL) (st : List PV) (G : PW) : pm_dn pm_sM 127 38 P st G = pm_go pm_sM 127 G (pm_oGo (some 42) P st G) := pm_dn_eq (i := .goto 4) (len := 3) rfl
theorem u_127_41 (P : PL) (st : List PV) (G : PW) : pm_dn pm_sM 127 41 P st G = pm_go pm_sM 127 G (pm_oK 0 42 P st G) := pm_dn_eq (i := .iconst 0) (len := 1) rfl
theorem u_127_42 (P : PL) (st : List PV) (G : PW) : pm_dn pm_sM 127 42 P st G = pm_go pm_sM 127 G (pm_oRi 2 P st G) := pm_dn_eq (i := .ireturn) (len := 1) rfl
theorem ue_128 (a0 : Nat) (G : PW) : pm_ca pm_sM 128 [.inr (.inr a0)] G = pm_dn pm_sM 128 0 [some (.inr (.inr a0)), none, none] [] G := rfl
theorem u_128_0 (P : PL) (st : List PV) (G : PW) : pm_dn pm_sM 128 0 P st G = pm_go pm_sM 128 G (pm_oK 0 1 P st G) := pm_dn_eq (i := .iconst 0) (len := 1) rfl
theorem u_128_1 (P : PL) (st : List PV) (G : PW) : pm_dn pm_sM 128 1 P st G = pm_go pm_sM 128 G (pm_oIS 1 2 P st G) := pm_dn_eq (i := .istore_n 1) (len := 1) rfl
theorem u_128_2 (P : PL) (st : List PV) (G : PW) : pm_dn pm_sM 128 2 P st G = pm_go pm_sM 128 G (pm_oK 0 3 P st G) := pm_dn_eq (i := .iconst 0) (len := 1) rfl
theorem u_128_3 (P : PL) (st : List PV) (G : PW) : pm_dn pm_sM 128 3 P st G = pm_go pm_sM 128 G (pm_oIS 2 4 P st G) := pm_dn_eq (i := .istore_n 2) (len := 1) rfl
theorem u_128_4 (P : PL) (st : List PV) (G : PW) : pm_dn pm_sM 128 4 P st G = pm_go pm_sM 128 G (pm_oIL 2 5 P st G) := pm_dn_eq (i := .iload_n 2) (len := 1) rfl
theorem u_128_5 (P : PL) (st : List PV) (G : PW) : pm_dn pm_sM 128 5 P st G = pm_go pm_sM 128 G (pm_oAL 0 6 P st G) := pm_dn_eq (i := .aload_n 0) (len := 1) rfl
theorem u_128_6 (P : PL) (st : List PV) (G : PW) : pm_dn pm_sM 128 6 P st G = pm_go pm_sM 128 G (pm_oGf pm_sM 6 7 9 P st G) := pm_dn_eq (i := .getfield 97) (len := 3) rfl
theorem u_128_9 (P : PL) (st : List PV) (G : PW) : pm_dn pm_sM 128 9 P st G = pm_go pm_sM 128 G (pm_oIc .ge (some 35) 12 P st G) := pm_dn_eq (i := .if_icmp .ge 26) (len := 3) rfl
theorem u_128_12 (P : PL) (st : List PV) (G : PW) : pm_dn pm_sM 128 12 P st G = pm_go pm_sM 128 G (pm_oIL 1 13 P st G) := pm_dn_eq (i := .iload_n 1) (len := 1) rfl
theorem u_128_13 (P : PL) (st : List PV) (G : PW) : pm_dn pm_sM 128 13 P st G = pm_go pm_sM 128 G (pm_oAL 0 14 P st G) := pm_dn_eq (i := .aload_n 0) (len := 1) rfl
theorem u_128_14 (P : PL) (st : List PV) (G : PW) : pm_dn pm_sM 128 14 P st G = pm_go pm_sM 128 G (pm_oGf pm_sM 6 23 17 P st G) := pm_dn_eq (i := .getfield 68) (len := 3) rfl
theorem u_128_17 (P : PL) (st : List PV) (G : PW) : pm_dn pm_sM 128 17 P st G = pm_go pm_sM 128 G (pm_oIL 2 18 P st G) := pm_dn_eq (i := .iload_n 2) (len := 1) rfl
theorem u_128_18 (P : PL) (st : List PV) (G : PW) : pm_dn pm_sM 128 18 P st G = pm_go pm_sM 128 G (pm_oAld pm_sM 0 19 P st G) := pm_dn_eq (i := .iaload) (len := 1) rfl
theorem u_128_19 (P : PL) (st : List PV) (G : PW) : pm_dn pm_sM 128 19 P st G = pm_go pm_sM 128 G (pm_oIf .le (some 26) 22 P st G) := pm_dn_eq (i := .ifCond .le 7) (len := 3) rfl
theorem u_128_22 (P : PL) (st : List PV) (G : PW) : pm_dn pm_sM 128 22 P st G = pm_go pm_sM 128 G (pm_oK 1 23 P st G) := pm_dn_eq (i := .iconst 1) (len := 1) rfl
theorem u_128_23 (P : PL) (st : List PV) (G : PW) : pm_dn pm_sM 128 23 P st G = pm_go pm_sM 128 G (pm_oGo (some 27) P st G) := pm_dn_eq (i := .goto 4) (len := 3) rfl
theorem u_128_26 (P : PL) (st : List PV) (G : PW) : pm_dn pm_sM 128 26 P st G = pm_go pm_sM 128 G (pm_oK 0 27 P st G) := pm_dn_eq (i := .iconst 0) (len := 1) rfl
theorem u_128_27 (P : PL) (st : List PV) (G : PW) : pm_dn pm_sM 128 27 P st G = pm_go pm_sM 128 G (pm_oAdd 28 P st G) := pm_dn_eq (i := .iadd) (len := 1) rfl
theorem u_128_28 (P : PL) (st : List PV) (G : PW) : pm_dn pm_sM 128 28 P st G = pm_go pm_sM 128 G (pm_oIS 1 29 P st G) := pm_dn_eq (i := .istore_n 1) (len := 1) rfl
theorem u_128_29 (P : PL) (st : List PV) (G : PW) : pm_dn pm_sM 128 29 P st G = pm_go pm_sM 128 G (pm_oInc 2 1 32 P st G) := pm_dn_eq (i := .iinc 2 1) (len := 3) rfl
theorem u_128_32 (P : PL) (st : List PV) (G : PW) : pm_dn pm_sM 128 32 P st G = pm_go pm_sM 128 G (pm_oGo (some 4) P st G) := pm_dn_eq (i := .goto (-28)) (len := 3) rfl
theorem u_128_35 (P : PL) (st : List PV) (G : PW) : pm_dn pm_sM 128 35 P st G = pm_go pm_sM 128 G (pm_oIL 1 36 P st G) := pm_dn_eq (i := .iload_n 1) (len := 1) rfl
theorem u_128_36 (P : PL) (st : List PV) (G : PW) : pm_dn pm_sM 128 36 P st G = pm_go pm_sM 128 G (pm_oRi 0 P st G) := pm_dn_eq (i := .ireturn) (len := 1) rfl
theorem ue_129 (a0 : Nat) (G : PW) : pm_ca pm_sM 129 [.inr (.inr a0)] G = pm_dn pm_sM 129 0 [some (.inr (.inr a0)), none, none, none] [] G := rfl
theorem u_129_0 (P : PL) (st : List PV) (G : PW) : pm_dn pm_sM 129 0 P st G = pm_go pm_sM 129 G (pm_oK 0 1 P st G) := pm_dn_eq (i := .iconst 0) (len := 1) rfl
theorem u_129_1 (P : PL) (st : List PV) (G : PW) : pm_dn pm_sM 129 1 P st G = pm_go pm_sM 129 G (pm_oIS 1 2 P st G) := pm_dn_eq (i := .istore_n 1) (len := 1) rfl
theorem u_129_2 (P : PL) (st : List PV) (G : PW) : pm_dn pm_sM 129 2 P st G = pm_go pm_sM 129 G (pm_oIL 1 3 P st G) := pm_dn_eq (i := .iload_n 1) (len := 1) rfl
theorem u_129_3 (P : PL) (st : List PV) (G : PW) : pm_dn pm_sM 129 3 P st G = pm_go pm_sM 129 G (pm_oK 2 4 P st G) := pm_dn_eq (i := .iconst 2) (len := 1) rfl
theorem u_129_4 (P : PL) (st : List PV) (G : PW) : pm_dn pm_sM 129 4 P st G = pm_go pm_sM 129 G (pm_oAL 0 5 P st G) := pm_dn_eq (i := .aload_n 0) (len := 1) rfl
theorem u_129_5 (P : PL) (st : List PV) (G : PW) : pm_dn pm_sM 129 5 P st G = pm_go pm_sM 129 G (pm_oGf pm_sM 6 7 8 P st G) := pm_dn_eq (i := .getfield 97) (len := 3) rfl
theorem u_129_8 (P : PL) (st : List PV) (G : PW) : pm_dn pm_sM 129 8 P st G = pm_go pm_sM 129 G (pm_oMul 9 P st G) := pm_dn_eq (i := .imul) (len := 1) rfl
theorem u_129_9 (P : PL) (st : List PV) (G : PW) : pm_dn pm_sM 129 9 P st G = pm_go pm_sM 129 G (pm_oIc .ge (some 52) 12 P st G) := pm_dn_eq (i := .if_icmp .ge 43) (len := 3) rfl
theorem u_129_12 (P : PL) (st : List PV) (G : PW) : pm_dn pm_sM 129 12 P st G = pm_go pm_sM 129 G (pm_oAL 0 13 P st G) := pm_dn_eq (i := .aload_n 0) (len := 1) rfl
theorem u_129_13 (P : PL) (st : List PV) (G : PW) : pm_dn pm_sM 129 13 P st G = pm_go pm_sM 129 G (pm_oGf pm_sM 6 27 16 P st G) := pm_dn_eq (i := .getfield 74) (len := 3) rfl
theorem u_129_16 (P : PL) (st : List PV) (G : PW) : pm_dn pm_sM 129 16 P st G = pm_go pm_sM 129 G (pm_oIL 1 17 P st G) := pm_dn_eq (i := .iload_n 1) (len := 1) rfl
theorem u_129_17 (P : PL) (st : List PV) (G : PW) : pm_dn pm_sM 129 17 P st G = pm_go pm_sM 129 G (pm_oIL 1 18 P st G) := pm_dn_eq (i := .iload_n 1) (len := 1) rfl
theorem u_129_18 (P : PL) (st : List PV) (G : PW) : pm_dn pm_sM 129 18 P st G = pm_go pm_sM 129 G (pm_oAL 0 19 P st G) := pm_dn_eq (i := .aload_n 0) (len := 1) rfl
theorem u_129_19 (P : PL) (st : List PV) (G : PW) : pm_dn pm_sM 129 19 P st G = pm_go pm_sM 129 G (pm_oGf pm_sM 6 5 22 P st G) := pm_dn_eq (i := .getfield 90) (len := 3) rfl
theorem u_129_22 (P : PL) (st : List PV) (G : PW) : pm_dn pm_sM 129 22 P st G = pm_go pm_sM 129 G (pm_oIc .ge (some 44) 25 P st G) := pm_dn_eq (i := .if_icmp .ge 22) (len := 3) rfl
theorem u_129_25 (P : PL) (st : List PV) (G : PW) : pm_dn pm_sM 129 25 P st G = pm_go pm_sM 129 G (pm_oAL 0 26 P st G) := pm_dn_eq (i := .aload_n 0) (len := 1) rfl
theorem u_129_26 (P : PL) (st : List PV) (G : PW) : pm_dn pm_sM 129 26 P st G = pm_go pm_sM 129 G (pm_oGf pm_sM 6 18 29 P st G) := pm_dn_eq (i := .getfield 53) (len := 3) rfl
theorem u_129_29 (P : PL) (st : List PV) (G : PW) : pm_dn pm_sM 129 29 P st G = pm_go pm_sM 129 G (pm_oIL 1 30 P st G) := pm_dn_eq (i := .iload_n 1) (len := 1) rfl
theorem u_129_30 (P : PL) (st : List PV) (G : PW) : pm_dn pm_sM 129 30 P st G = pm_go pm_sM 129 G (pm_oAld pm_sM 0 31 P st G) := pm_dn_eq (i := .iaload) (len := 1) rfl
theorem u_129_31 (P : PL) (st : List PV) (G : PW) : pm_dn pm_sM 129 31 P st G = pm_go pm_sM 129 G (pm_oAL 0 32 P st G) := pm_dn_eq (i := .aload_n 0) (len := 1) rfl
theorem u_129_32 (P : PL) (st : List PV) (G : PW) : pm_dn pm_sM 129 32 P st G = pm_go pm_sM 129 G (pm_oGf pm_sM 6 0 35 P st G) := pm_dn_eq (i := .getfield 7) (len := 3) rfl
theorem u_129_35 (P : PL) (st : List PV) (G : PW) : pm_dn pm_sM 129 35 P st G = pm_go pm_sM 129 G (pm_oK 0 36 P st G) := pm_dn_eq (i := .iconst 0) (len := 1) rfl
theorem u_129_36 (P : PL) (st : List PV) (G : PW) : pm_dn pm_sM 129 36 P st G = pm_go pm_sM 129 G (pm_oAld pm_sM 0 37 P st G) := pm_dn_eq (i := .iaload) (len := 1) rfl
theorem u_129_37 (P : PL) (st : List PV) (G : PW) : pm_dn pm_sM 129 37 P st G = pm_go pm_sM 129 G (pm_oIc .lt (some 44) 40 P st G) := pm_dn_eq (i := .if_icmp .lt 7) (len := 3) rfl
theorem u_129_40 (P : PL) (st : List PV) (G : PW) : pm_dn pm_sM 129 40 P st G = pm_go pm_sM 129 G (pm_oK 1 41 P st G) := pm_dn_eq (i := .iconst 1) (len := 1) rfl
theorem u_129_41 (P : PL) (st : List PV) (G : PW) : pm_dn pm_sM 129 41 P st G = pm_go pm_sM 129 G (pm_oGo (some 45) P st G) := pm_dn_eq (i := .goto 4) (len := 3) rfl
theorem u_129_44 (P : PL) (st : List PV) (G : PW) : pm_dn pm_sM 129 44 P st G = pm_go pm_sM 129 G (pm_oK 0 45 P st G) := pm_dn_eq (i := .iconst 0) (len := 1) rfl
theorem u_129_45 (P : PL) (st : List PV) (G : PW) : pm_dn pm_sM 129 45 P st G = pm_go pm_sM 129 G (pm_oAst pm_sM 2 46 P st G) := pm_dn_eq (i := .bastore) (len := 1) rfl
theorem u_129_46 (P : PL) (st : List PV) (G : PW) : pm_dn pm_sM 129 46 P st G = pm_go pm_sM 129 G (pm_oInc 1 1 49 P st G) := pm_dn_eq (i := .iinc 1 1) (len := 3) rfl
theorem u_129_49 (P : PL) (st : List PV) (G : PW) : pm_dn pm_sM 129 49 P st G = pm_go pm_sM 129 G (pm_oGo (some 2) P st G) := pm_dn_eq (i := .goto (-47)) (len := 3) rfl
theorem u_129_52 (P : PL) (st : List PV) (G : PW) : pm_dn pm_sM 129 52 P st G = pm_go pm_sM 129 G (pm_oK 0 53 P st G) := pm_dn_eq (i := .iconst 0) (len := 1) rfl
theorem u_129_53 (P : PL) (st : List PV) (G : PW) : pm_dn pm_sM 129 53 P st G = pm_go pm_sM 129 G (pm_oIS 1 54 P st G) := pm_dn_eq (i := .istore_n 1) (len := 1) rfl
theorem u_129_54 (P : PL) (st : List PV) (G : PW) : pm_dn pm_sM 129 54 P st G = pm_go pm_sM 129 G (pm_oIL 1 55 P st G) := pm_dn_eq (i := .iload_n 1) (len := 1) rfl
theorem u_129_55 (P : PL) (st : List PV) (G : PW) : pm_dn pm_sM 129 55 P st G = pm_go pm_sM 129 G (pm_oK 9 57 P st G) := pm_dn_eq (i := .bipush 9) (len := 2) rfl
theorem u_129_57 (P : PL) (st : List PV) (G : PW) : pm_dn pm_sM 129 57 P st G = pm_go pm_sM 129 G (pm_oIc .ge (some 73) 60 P st G) := pm_dn_eq (i := .if_icmp .ge 16) (len := 3) rfl
theorem u_129_60 (P : PL) (st : List PV) (G : PW) : pm_dn pm_sM 129 60 P st G = pm_go pm_sM 129 G (pm_oAL 0 61 P st G) := pm_dn_eq (i := .aload_n 0) (len := 1) rfl
theorem u_129_61 (P : PL) (st : List PV) (G : PW) : pm_dn pm_sM 129 61 P st G = pm_go pm_sM 129 G (pm_oGf pm_sM 6 28 64 P st G) := pm_dn_eq (i := .getfield 77) (len := 3) rfl
theorem u_129_64 (P : PL) (st : List PV) (G : PW) : pm_dn pm_sM 129 64 P st G = pm_go pm_sM 129 G (pm_oIL 1 65 P st G) := pm_dn_eq (i := .iload_n 1) (len := 1) rfl
theorem u_129_65 (P : PL) (st : List PV) (G : PW) : pm_dn pm_sM 129 65 P st G = pm_go pm_sM 129 G (pm_oK 0 66 P st G) := pm_dn_eq (i := .iconst 0) (len := 1) rfl
theorem u_129_66 (P : PL) (st : List PV) (G : PW) : pm_dn pm_sM 129 66 P st G = pm_go pm_sM 129 G (pm_oAst pm_sM 0 67 P st G) := pm_dn_eq (i := .iastore) (len := 1) rfl
theorem u_129_67 (P : PL) (st : List PV) (G : PW) : pm_dn pm_sM 129 67 P st G = pm_go pm_sM 129 G (pm_oInc 1 1 70 P st G) := pm_dn_eq (i := .iinc 1 1) (len := 3) rfl
theorem u_129_70 (P : PL) (st : List PV) (G : PW) : pm_dn pm_sM 129 70 P st G = pm_go pm_sM 129 G (pm_oGo (some 54) P st G) := pm_dn_eq (i := .goto (-16)) (len := 3) rfl
theorem u_129_73 (P : PL) (st : List PV) (G : PW) : pm_dn pm_sM 129 73 P st G = pm_go pm_sM 129 G (pm_oK 0 74 P st G) := pm_dn_eq (i := .iconst 0) (len := 1) rfl
theorem u_129_74 (P : PL) (st : List PV) (G : PW) : pm_dn pm_sM 129 74 P st G = pm_go pm_sM 129 G (pm_oIS 1 75 P st G) := pm_dn_eq (i := .istore_n 1) (len := 1) rfl
theorem u_129_75 (P : PL) (st : List PV) (G : PW) : pm_dn pm_sM 129 75 P st G = pm_go pm_sM 129 G (pm_oIL 1 76 P st G) := pm_dn_eq (i := .iload_n 1) (len := 1) rfl
theorem u_129_76 (P : PL) (st : List PV) (G : PW) : pm_dn pm_sM 129 76 P st G = pm_go pm_sM 129 G (pm_oAL 0 77 P st G) := pm_dn_eq (i := .aload_n 0) (len := 1) rfl
theorem u_129_77 (P : PL) (st : List PV) (G : PW) : pm_dn pm_sM 129 77 P st G = pm_go pm_sM 129 G (pm_oGf pm_sM 6 7 80 P st G) := pm_dn_eq (i := .getfield 97) (len := 3) rfl
theorem u_129_80 (P : PL) (st : List PV) (G : PW) : pm_dn pm_sM 129 80 P st G = pm_go pm_sM 129 G (pm_oK 2 81 P st G) := pm_dn_eq (i := .iconst 2) (len := 1) rfl
theorem u_129_81 (P : PL) (st : List PV) (G : PW) : pm_dn pm_sM 129 81 P st G = pm_go pm_sM 129 G (pm_oSub 82 P st G) := pm_dn_eq (i := .isub) (len := 1) rfl
theorem u_129_82 (P : PL) (st : List PV) (G : PW) : pm_dn pm_sM 129 82 P st G = pm_go pm_sM 129 G (pm_oIc .ge (some 237) 85 P st G) := pm_dn_eq (i := .if_icmp .ge 155) (len := 3) rfl
theorem u_129_85 (P : PL) (st : List PV) (G : PW) : pm_dn pm_sM 129 85 P st G = pm_go pm_sM 129 G (pm_oAL 0 86 P st G) := pm_dn_eq (i := .aload_n 0) (len := 1) rfl
theorem u_129_86 (P : PL) (st : List PV) (G : PW) : pm_dn pm_sM 129 86 P st G = pm_go pm_sM 129 G (pm_oGf pm_sM 6 27 89 P st G) := pm_dn_eq (i := .getfield 74) (len := 3) rfl
theorem u_129_89 (P : PL) (st : List PV) (G : PW) : pm_dn pm_sM 129 89 P st G = pm_go pm_sM 129 G (pm_oK 2 90 P st G) := pm_dn_eq (i := .iconst 2) (len := 1) rfl
theorem u_129_90 (P : PL) (st : List PV) (G : PW) : pm_dn pm_sM 129 90 P st G = pm_go pm_sM 129 G (pm_oIL 1 91 P st G) := pm_dn_eq (i := .iload_n 1) (len := 1) rfl
theorem u_129_91 (P : PL) (st : List PV) (G : PW) : pm_dn pm_sM 129 91 P st G = pm_go pm_sM 129 G (pm_oMul 92 P st G) := pm_dn_eq (i := .imul) (len := 1) rfl
theorem u_129_92 (P : PL) (st : List PV) (G : PW) : pm_dn pm_sM 129 92 P st G = pm_go pm_sM 129 G (pm_oAld pm_sM 2 93 P st G) := pm_dn_eq (i := .baload) (len := 1) rfl
theorem u_129_93 (P : PL) (st : List PV) (G : PW) : pm_dn pm_sM 129 93 P st G = pm_go pm_sM 129 G (pm_oIf .ne (some 109) 96 P st G) := pm_dn_eq (i := .ifCond .ne 16) (len := 3) rfl
theorem u_129_96 (P : PL) (st : List PV) (G : PW) : pm_dn pm_sM 129 96 P st G = pm_go pm_sM 129 G (pm_oAL 0 97 P st G) := pm_dn_eq (i := .aload_n 0) (len := 1) rfl
theorem u_129_97 (P : PL) (st : List PV) (G : PW) : pm_dn pm_sM 129 97 P st G = pm_go pm_sM 129 G (pm_oGf pm_sM 6 27 100 P st G) := pm_dn_eq (i := .getfield 74) (len := 3) rfl
theorem u_129_100 (P : PL) (st : List PV) (G : PW) : pm_dn pm_sM 129 100 P st G = pm_go pm_sM 129 G (pm_oK 2 101 P st G) := pm_dn_eq (i := .iconst 2) (len := 1) rfl
theorem u_129_101 (P : PL) (st : List PV) (G : PW) : pm_dn pm_sM 129 101 P st G = pm_go pm_sM 129 G (pm_oIL 1 102 P st G) := pm_dn_eq (i := .iload_n 1) (len := 1) rfl
theorem u_129_102 (P : PL) (st : List PV) (G : PW) : pm_dn pm_sM 129 102 P st G = pm_go pm_sM 129 G (pm_oMul 103 P st G) := pm_dn_eq (i := .imul) (len := 1) rfl
theorem u_129_103 (P : PL) (st : List PV) (G : PW) : pm_dn pm_sM 129 103 P st G = pm_go pm_sM 129 G (pm_oK 1 104 P st G) := pm_dn_eq (i := .iconst 1) (len := 1) rfl
theorem u_129_104 (P : PL) (st : List PV) (G : PW) : pm_dn pm_sM 129 104 P st G = pm_go pm_sM 129 G (pm_oAdd 105 P st G) := pm_dn_eq (i := .iadd) (len := 1) rfl
theorem u_129_105 (P : PL) (st : List PV) (G : PW) : pm_dn pm_sM 129 105 P st G = pm_go pm_sM 129 G (pm_oAld pm_sM 2 106 P st G) := pm_dn_eq (i := .baload) (len := 1) rfl
theorem u_129_106 (P : PL) (st : List PV) (G : PW) : pm_dn pm_sM 129 106 P st G = pm_go pm_sM 129 G (pm_oIf .eq (some 113) 109 P st G) := pm_dn_eq (i := .ifCond .eq 7) (len := 3) rfl
theorem u_129_109 (P : PL) (st : List PV) (G : PW) : pm_dn pm_sM 129 109 P st G = pm_go pm_sM 129 G (pm_oK 1 110 P st G) := pm_dn_eq (i := .iconst 1) (len := 1) rfl
theorem u_129_110 (P : PL) (st : List PV) (G : PW) : pm_dn pm_sM 129 110 P st G = pm_go pm_sM 129 G (pm_oGo (some 114) P st G) := pm_dn_eq (i := .goto 4) (len := 3) rfl
theorem u_129_113 (P : PL) (st : List PV) (G : PW) : pm_dn pm_sM 129 113 P st G = pm_go pm_sM 129 G (pm_oK 0 114 P st G) := pm_dn_eq (i := .iconst 0) (len := 1) rfl
theorem u_129_114 (P : PL) (st : List PV) (G : PW) : pm_dn pm_sM 129 114 P st G = pm_go pm_sM 129 G (pm_oIS 2 115 P st G) := pm_dn_eq (i := .istore_n 2) (len := 1) rfl
theorem u_129_115 (P : PL) (st : List PV) (G : PW) : pm_dn pm_sM 129 115 P st G = pm_go pm_sM 129 G (pm_oAL 0 116 P st G) := pm_dn_eq (i := .aload_n 0) (len := 1) rfl
theorem u_129_116 (P : PL) (st : List PV) (G : PW) : pm_dn pm_sM 129 116 P st G = pm_go pm_sM 129 G (pm_oGf pm_sM 6 27 119 P st G) := pm_dn_eq (i := .getfield 74) (len := 3) rfl
theorem u_129_119 (P : PL) (st : List PV) (G : PW) : pm_dn pm_sM 129 119 P st G = pm_go pm_sM 129 G (pm_oK 2 120 P st G) := pm_dn_eq (i := .iconst 2) (len := 1) rfl
theorem u_129_120 (P : PL) (st : List PV) (G : PW) : pm_dn pm_sM 129 120 P st G = pm_go pm_sM 129 G (pm_oIL 1 121 P st G) := pm_dn_eq (i := .iload_n 1) (len := 1) rfl
theorem u_129_121 (P : PL) (st : List PV) (G : PW) : pm_dn pm_sM 129 121 P st G = pm_go pm_sM 129 G (pm_oMul 122 P st G) := pm_dn_eq (i := .imul) (len := 1) rfl
theorem u_129_122 (P : PL) (st : List PV) (G : PW) : pm_dn pm_sM 129 122 P st G = pm_go pm_sM 129 G (pm_oAld pm_sM 2 123 P st G) := pm_dn_eq (i := .baload) (len := 1) rfl
theorem u_129_123 (P : PL) (st : List PV) (G : PW) : pm_dn pm_sM 129 123 P st G = pm_go pm_sM 129 G (pm_oIf .eq (some 143) 126 P st G) := pm_dn_eq (i := .ifCond .eq 20) (len := 3) rfl
theorem u_129_126 (P : PL) (st : List PV) (G : PW) : pm_dn pm_sM 129 126 P st G = pm_go pm_sM 129 G (pm_oAL 0 127 P st G) := pm_dn_eq (i := .aload_n 0) (len := 1) rfl
theorem u_129_127 (P : PL) (st : List PV) (G : PW) : pm_dn pm_sM 129 127 P st G = pm_go pm_sM 129 G (pm_oGf pm_sM 6 27 130 P st G) := pm_dn_eq (i := .getfield 74) (len := 3) rfl
theorem u_129_130 (P : PL) (st : List PV) (G : PW) : pm_dn pm_sM 129 130 P st G = pm_go pm_sM 129 G (pm_oK 2 131 P st G) := pm_dn_eq (i := .iconst 2) (len := 1) rfl
theorem u_129_131 (P : PL) (st : List PV) (G : PW) : pm_dn pm_sM 129 131 P st G = pm_go pm_sM 129 G (pm_oIL 1 132 P st G) := pm_dn_eq (i := .iload_n 1) (len := 1) rfl
theorem u_129_132 (P : PL) (st : List PV) (G : PW) : pm_dn pm_sM 129 132 P st G = pm_go pm_sM 129 G (pm_oMul 133 P st G) := pm_dn_eq (i := .imul) (len := 1) rfl
theorem u_129_133 (P : PL) (st : List PV) (G : PW) : pm_dn pm_sM 129 133 P st G = pm_go pm_sM 129 G (pm_oK 1 134 P st G) := pm_dn_eq (i := .iconst 1) (len := 1) rfl
theorem u_129_134 (P : PL) (st : List PV) (G : PW) : pm_dn pm_sM 129 134 P st G = pm_go pm_sM 129 G (pm_oAdd 135 P st G) := pm_dn_eq (i := .iadd) (len := 1) rfl
theorem u_129_135 (P : PL) (st : List PV) (G : PW) : pm_dn pm_sM 129 135 P st G = pm_go pm_sM 129 G (pm_oAld pm_sM 2 136 P st G) := pm_dn_eq (i := .baload) (len := 1) rfl
theorem u_129_136 (P : PL) (st : List PV) (G : PW) : pm_dn pm_sM 129 136 P st G = pm_go pm_sM 129 G (pm_oIf .eq (some 143) 139 P st G) := pm_dn_eq (i := .ifCond .eq 7) (len := 3) rfl
theorem u_129_139 (P : PL) (st : List PV) (G : PW) : pm_dn pm_sM 129 139 P st G = pm_go pm_sM 129 G (pm_oK 1 140 P st G) := pm_dn_eq (i := .iconst 1) (len := 1) rfl
theorem u_129_140 (P : PL) (st : List PV) (G : PW) : pm_dn pm_sM 129 140 P st G = pm_go pm_sM 129 G (pm_oGo (some 144) P st G) := pm_dn_eq (i := .goto 4) (len := 3) rfl
theorem u_129_143 (P : PL) (st : List PV) (G : PW) : pm_dn pm_sM 129 143 P st G = pm_go pm_sM 129 G (pm_oK 0 144 P st G) := pm_dn_eq (i := .iconst 0) (len := 1) rfl
theorem u_129_144 (P : PL) (st : List PV) (G : PW) : pm_dn pm_sM 129 144 P st G = pm_go pm_sM 129 G (pm_oIS 3 145 P st G) := pm_dn_eq (i := .istore_n 3) (len := 1) rfl
theorem u_129_145 (P : PL) (st : List PV) (G : PW) : pm_dn pm_sM 129 145 P st G = pm_go pm_sM 129 G (pm_oAL 0 146 P st G) := pm_dn_eq (i := .aload_n 0) (len := 1) rfl
theorem u_129_146 (P : PL) (st : List PV) (G : PW) : pm_dn pm_sM 129 146 P st G = pm_go pm_sM 129 G (pm_oGf pm_sM 6 27 149 P st G) := pm_dn_eq (i := .getfield 74) (len := 3) rfl
theorem u_129_149 (P : PL) (st : List PV) (G : PW) : pm_dn pm_sM 129 149 P st G = pm_go pm_sM 129 G (pm_oK 2 150 P st G) := pm_dn_eq (i := .iconst 2) (len := 1) rfl
theorem u_129_150 (P : PL) (st : List PV) (G : PW) : pm_dn pm_sM 129 150 P st G = pm_go pm_sM 129 G (pm_oAL 0 151 P st G) := pm_dn_eq (i := .aload_n 0) (len := 1) rfl
theorem u_129_151 (P : PL) (st : List PV) (G : PW) : pm_dn pm_sM 129 151 P st G = pm_go pm_sM 129 G (pm_oGf pm_sM 6 11 154 P st G) := pm_dn_eq (i := .getfield 32) (len := 3) rfl
theorem u_129_154 (P : PL) (st : List PV) (G : PW) : pm_dn pm_sM 129 154 P st G = pm_go pm_sM 129 G (pm_oIL 1 155 P st G) := pm_dn_eq (i := .iload_n 1) (len := 1) rfl
theorem u_129_155 (P : PL) (st : List PV) (G : PW) : pm_dn pm_sM 129 155 P st G = pm_go pm_sM 129 G (pm_oAld pm_sM 0 156 P st G) := pm_dn_eq (i := .iaload) (len := 1) rfl
theorem u_129_156 (P : PL) (st : List PV) (G : PW) : pm_dn pm_sM 129 156 P st G = pm_go pm_sM 129 G (pm_oMul 157 P st G) := pm_dn_eq (i := .imul) (len := 1) rfl
theorem u_129_157 (P : PL) (st : List PV) (G : PW) : pm_dn pm_sM 129 157 P st G = pm_go pm_sM 129 G (pm_oAL 0 158 P st G) := pm_dn_eq (i := .aload_n 0) (len := 1) rfl
theorem u_129_158 (P : PL) (st : List PV) (G : PW) : pm_dn pm_sM 129 158 P st G = pm_go pm_sM 129 G (pm_oGf pm_sM 6 12 161 P st G) := pm_dn_eq (i := .getfield 35) (len := 3) rfl
theorem u_129_161 (P : PL) (st : List PV) (G : PW) : pm_dn pm_sM 129 161 P st G = pm_go pm_sM 129 G (pm_oIL 1 162 P st G) := pm_dn_eq (i := .iload_n 1) (len := 1) rfl
theorem u_129_162 (P : PL) (st : List PV) (G : PW) : pm_dn pm_sM 129 162 P st G = pm_go pm_sM 129 G (pm_oAld pm_sM 0 163 P st G) := pm_dn_eq (i := .iaload) (len := 1) rfl
theorem u_129_163 (P : PL) (st : List PV) (G : PW) : pm_dn pm_sM 129 163 P st G = pm_go pm_sM 129 G (pm_oAdd 164 P st G) := pm_dn_eq (i := .iadd) (len := 1) rfl
theorem u_129_164 (P : PL) (st : List PV) (G : PW) : pm_dn pm_sM 129 164 P st G = pm_go pm_sM 129 G (pm_oIL 3 165 P st G) := pm_dn_eq (i := .iload_n 3) (len := 1) rfl
theorem u_129_165 (P : PL) (st : List PV) (G : PW) : pm_dn pm_sM 129 165 P st G = pm_go pm_sM 129 G (pm_oAst pm_sM 2 166 P st G) := pm_dn_eq (i := .bastore) (len := 1) rfl
theorem u_129_166 (P : PL) (st : List PV) (G : PW) : pm_dn pm_sM 129 166 P st G = pm_go pm_sM 129 G (pm_oAL 0 167 P st G) := pm_dn_eq (i := .aload_n 0) (len := 1) rfl
theorem u_129_167 (P : PL) (st : List PV) (G : PW) : pm_dn pm_sM 129 167 P st G = pm_go pm_sM 129 G (pm_oGf pm_sM 6 13 170 P st G) := pm_dn_eq (i := .getfield 38) (len := 3) rfl
theorem u_129_170 (P : PL) (st : List PV) (G : PW) : pm_dn pm_sM 129 170 P st G = pm_go pm_sM 129 G (pm_oIL 1 171 P st G) := pm_dn_eq (i := .iload_n 1) (len := 1) rfl
theorem u_129_171 (P : PL) (st : List PV) (G : PW) : pm_dn pm_sM 129 171 P st G = pm_go pm_sM 129 G (pm_oAld pm_sM 0 172 P st G) := pm_dn_eq (i := .iaload) (len := 1) rfl
theorem u_129_172 (P : PL) (st : List PV) (G : PW) : pm_dn pm_sM 129 172 P st G = pm_go pm_sM 129 G (pm_oK (-6) 174 P st G) := pm_dn_eq (i := .bipush (-6)) (len := 2) rfl
theorem u_129_174 (P : PL) (st : List PV) (G : PW) : pm_dn pm_sM 129 174 P st G = pm_go pm_sM 129 G (pm_oIc .eq (some 198) 177 P st G) := pm_dn_eq (i := .if_icmp .eq 24) (len := 3) rfl
theorem u_129_177 (P : PL) (st : List PV) (G : PW) : pm_dn pm_sM 129 177 P st G = pm_go pm_sM 129 G (pm_oAL 0 178 P st G) := pm_dn_eq (i := .aload_n 0) (len := 1) rfl
theorem u_129_178 (P : PL) (st : List PV) (G : PW) : pm_dn pm_sM 129 178 P st G = pm_go pm_sM 129 G (pm_oGf pm_sM 6 27 181 P st G) := pm_dn_eq (i := .getfield 74) (len := 3) rfl
theorem u_129_181 (P : PL) (st : List PV) (G : PW) : pm_dn pm_sM 129 181 P st G = pm_go pm_sM 129 G (pm_oK 2 182 P st G) := pm_dn_eq (i := .iconst 2) (len := 1) rfl
theorem u_129_182 (P : PL) (st : List PV) (G : PW) : pm_dn pm_sM 129 182 P st G = pm_go pm_sM 129 G (pm_oAL 0 183 P st G) := pm_dn_eq (i := .aload_n 0) (len := 1) rfl
theorem u_129_183 (P : PL) (st : List PV) (G : PW) : pm_dn pm_sM 129 183 P st G = pm_go pm_sM 129 G (pm_oGf pm_sM 6 13 186 P st G) := pm_dn_eq (i := .getfield 38) (len := 3) rfl
theorem u_129_186 (P : PL) (st : List PV) (G : PW) : pm_dn pm_sM 129 186 P st G = pm_go pm_sM 129 G (pm_oIL 1 187 P st G) := pm_dn_eq (i := .iload_n 1) (len := 1) rfl
theorem u_129_187 (P : PL) (st : List PV) (G : PW) : pm_dn pm_sM 129 187 P st G = pm_go pm_sM 129 G (pm_oAld pm_sM 0 188 P st G) := pm_dn_eq (i := .iaload) (len := 1) rfl
theorem u_129_188 (P : PL) (st : List PV) (G : PW) : pm_dn pm_sM 129 188 P st G = pm_go pm_sM 129 G (pm_oMul 189 P st G) := pm_dn_eq (i := .imul) (len := 1) rfl
theorem u_129_189 (P : PL) (st : List PV) (G : PW) : pm_dn pm_sM 129 189 P st G = pm_go pm_sM 129 G (pm_oAL 0 190 P st G) := pm_dn_eq (i := .aload_n 0) (len := 1) rfl
theorem u_129_190 (P : PL) (st : List PV) (G : PW) : pm_dn pm_sM 129 190 P st G = pm_go pm_sM 129 G (pm_oGf pm_sM 6 14 193 P st G) := pm_dn_eq (i := .getfield 41) (len := 3) rfl
theorem u_129_193 (P : PL) (st : List PV) (G : PW) : pm_dn pm_sM 129 193 P st G = pm_go pm_sM 129 G (pm_oIL 1 194 P st G) := pm_dn_eq (i := .iload_n 1) (len := 1) rfl
theorem u_129_194 (P : PL) (st : List PV) (G : PW) : pm_dn pm_sM 129 194 P st G = pm_go pm_sM 129 G (pm_oAld pm_sM 0 195 P st G) := pm_dn_eq (i := .iaload) (len := 1) rfl
theorem u_129_195 (P : PL) (st : List PV) (G : PW) : pm_dn pm_sM 129 195 P st G = pm_go pm_sM 129 G (pm_oAdd 196 P st G) := pm_dn_eq (i := .iadd) (len := 1) rfl
theorem u_129_196 (P : PL) (st : List PV) (G : PW) : pm_dn pm_sM 129 196 P st G = pm_go pm_sM 129 G (pm_oIL 2 197 P st G) := pm_dn_eq (i := .iload_n 2) (len := 1) rfl
theorem u_129_197 (P : PL) (st : List PV) (G : PW) : pm_dn pm_sM 129 197 P st G = pm_go pm_sM 129 G (pm_oAst pm_sM 2 198 P st G) := pm_dn_eq (i := .bastore) (len := 1) rfl
theorem u_129_198 (P : PL) (st : List PV) (G : PW) : pm_dn pm_sM 129 198 P st G = pm_go pm_sM 129 G (pm_oAL 0 199 P st G) := pm_dn_eq (i := .aload_n 0) (len := 1) rfl
theorem u_129_199 (P : PL) (st : List PV) (G : PW) : pm_dn pm_sM 129 199 P st G = pm_go pm_sM 129 G (pm_oGf pm_sM 6 28 202 P st G) := pm_dn_eq (i := .getfield 77) (len := 3) rfl
theorem u_129_202 (P : PL) (st : List PV) (G : PW) : pm_dn pm_sM 129 202 P st G = pm_go pm_sM 129 G (pm_oAL 0 203 P st G) := pm_dn_eq (i := .aload_n 0) (len := 1) rfl
theorem u_129_203 (P : PL) (st : List PV) (G : PW) : pm_dn pm_sM 129 203 P st G = pm_go pm_sM 129 G (pm_oGf pm_sM 6 9 206 P st G) := pm_dn_eq (i := .getfield 26) (len := 3) rfl
theorem u_129_206 (P : PL) (st : List PV) (G : PW) : pm_dn pm_sM 129 206 P st G = pm_go pm_sM 129 G (pm_oIL 1 207 P st G) := pm_dn_eq (i := .iload_n 1) (len := 1) rfl
theorem u_129_207 (P : PL) (st : List PV) (G : PW) : pm_dn pm_sM 129 207 P st G = pm_go pm_sM 129 G (pm_oAld pm_sM 0 208 P st G) := pm_dn_eq (i := .iaload) (len := 1) rfl
theorem u_129_208 (P : PL) (st : List PV) (G : PW) : pm_dn pm_sM 129 208 P st G = pm_go pm_sM 129 G (pm_oDu2 209 P st G) := pm_dn_eq (i := .dup2) (len := 1) rfl
theorem u_129_209 (P : PL) (st : List PV) (G : PW) : pm_dn pm_sM 129 209 P st G = pm_go pm_sM 129 G (pm_oAld pm_sM 0 210 P st G) := pm_dn_eq (i := .iaload) (len := 1) rfl
theorem u_129_210 (P : PL) (st : List PV) (G : PW) : pm_dn pm_sM 129 210 P st G = pm_go pm_sM 129 G (pm_oAL 0 211 P st G) := pm_dn_eq (i := .aload_n 0) (len := 1) rfl
theorem u_129_211 (P : PL) (st : List PV) (G : PW) : pm_dn pm_sM 129 211 P st G = pm_go pm_sM 129 G (pm_oGf pm_sM 6 8 214 P st G) := pm_dn_eq (i := .getfield 23) (len := 3) rfl
theorem u_129_214 (P : PL) (st : List PV) (G : PW) : pm_dn pm_sM 129 214 P st G = pm_go pm_sM 129 G (pm_oIL 1 215 P st G) := pm_dn_eq (i := .iload_n 1) (len := 1) rfl
theorem u_129_215 (P : PL) (st : List PV) (G : PW) : pm_dn pm_sM 129 215 P st G = pm_go pm_sM 129 G (pm_oAld pm_sM 0 216 P st G) := pm_dn_eq (i := .iaload) (len := 1) rfl
theorem u_129_216 (P : PL) (st : List PV) (G : PW) : pm_dn pm_sM 129 216 P st G = pm_go pm_sM 129 G (pm_oK 1 217 P st G) := pm_dn_eq (i := .iconst 1) (len := 1) rfl
theorem u_129_217 (P : PL) (st : List PV) (G : PW) : pm_dn pm_sM 129 217 P st G = pm_go pm_sM 129 G (pm_oIc .ne (some 228) 220 P st G) := pm_dn_eq (i := .if_icmp .ne 11) (len := 3) rfl
theorem u_129_220 (P : PL) (st : List PV) (G : PW) : pm_dn pm_sM 129 220 P st G = pm_go pm_sM 129 G (pm_oIL 2 221 P st G) := pm_dn_eq (i := .iload_n 2) (len := 1) rfl
theorem u_129_221 (P : PL) (st : List PV) (G : PW) : pm_dn pm_sM 129 221 P st G = pm_go pm_sM 129 G (pm_oIf .ne (some 228) 224 P st G) := pm_dn_eq (i := .ifCond .ne 7) (len := 3) rfl
theorem u_129_224 (P : PL) (st : List PV) (G : PW) : pm_dn pm_sM 129 224 P st G = pm_go pm_sM 129 G (pm_oK 1 225 P st G) := pm_dn_eq (i := .iconst 1) (len := 1) rfl
theorem u_129_225 (P : PL) (st : List PV) (G : PW) : pm_dn pm_sM 129 225 P st G = pm_go pm_sM 129 G (pm_oGo (some 229) P st G) := pm_dn_eq (i := .goto 4) (len := 3) rfl
theorem u_129_228 (P : PL) (st : List PV) (G : PW) : pm_dn pm_sM 129 228 P st G = pm_go pm_sM 129 G (pm_oK 0 229 P st G) := pm_dn_eq (i := .iconst 0) (len := 1) rfl
theorem u_129_229 (P : PL) (st : List PV) (G : PW) : pm_dn pm_sM 129 229 P st G = pm_go pm_sM 129 G (pm_oAdd 230 P st G) := pm_dn_eq (i := .iadd) (len := 1) rfl
theorem u_129_230 (P : PL) (st : List PV) (G : PW) : pm_dn pm_sM 129 230 P st G = pm_go pm_sM 129 G (pm_oAst pm_sM 0 231 P st G) := pm_dn_eq (i := .iastore) (len := 1) rfl
theorem u_129_231 (P : PL) (st : List PV) (G : PW) : pm_dn pm_sM 129 231 P st G = pm_go pm_sM 129 G (pm_oInc 1 1 234 P st G) := pm_dn_eq (i := .iinc 1 1) (len := 3) rfl
theorem u_129_234 (P : PL) (st : List PV) (G : PW) : pm_dn pm_sM 129 234 P st G = pm_go pm_sM 129 G (pm_oGo (some 75) P st G) := pm_dn_eq (i := .goto (-159)) (len := 3) rfl
theorem u_129_237 (P : PL) (st : List PV) (G : PW) : pm_dn pm_sM 129 237 P st G = pm_go pm_sM 129 G (pm_oRv P st G) := pm_dn_eq (i := .return_) (len := 1) rfl
theorem ue_130 (a0 : Nat) (a1 : Int) (G : PW) : pm_ca pm_sM 130 [.inr (.inr a0), .inl a1] G = pm_dn pm_sM 130 0 [some (.inr (.inr a0)), some (.inl a1), none] [] G := rfl
theorem u_130_0 (P : PL) (st : List PV) (G : PW) : pm_dn pm_sM 130 0 P st G = pm_go pm_sM 130 G (pm_oK 0 1 P st G) := pm_dn_eq (i := .iconst 0) (len := 1) rfl
theorem u_130_1 (P : PL) (st : List PV) (G : PW) : pm_dn pm_sM 130 1 P st G = pm_go pm_sM 130 G (pm_oIS 2 2 P st G) := pm_dn_eq (i := .istore_n 2) (len := 1) rfl
theorem u_130_2 (P : PL) (st : List PV) (G : PW) : pm_dn pm_sM 130 2 P st G = pm_go pm_sM 130 G (pm_oIL 2 3 P st G) := pm_dn_eq (i := .iload_n 2) (len := 1) rfl
theorem u_130_3 (P : PL) (st : List PV) (G : PW) : pm_dn pm_sM 130 3 P st G = pm_go pm_sM 130 G (pm_oAL 0 4 P st G) := pm_dn_eq (i := .aload_n 0) (len := 1) rfl
theorem u_130_4 (P : PL) (st : List PV) (G : PW) : pm_dn pm_sM 130 4 P st G = pm_go pm_sM 130 G (pm_oGf pm_sM 6 7 7 P st G) := pm_dn_eq (i := .getfield 97) (len := 3) rfl
theorem u_130_7 (P : PL) (st : List PV) (G : PW) : pm_dn pm_sM 130 7 P st G = pm_go pm_sM 130 G (pm_oIc .ge (some 52) 10 P st G) := pm_dn_eq (i := .if_icmp .ge 45) (len := 3) rfl
theorem u_130_10 (P : PL) (st : List PV) (G : PW) : pm_dn pm_sM 130 10 P st G = pm_go pm_sM 130 G (pm_oAL 0 11 P st G) := pm_dn_eq (i := .aload_n 0) (len := 1) rfl
theorem u_130_11 (P : PL) (st : List PV) (G : PW) : pm_dn pm_sM 130 11 P st G = pm_go pm_sM 130 G (pm_oGf pm_sM 6 8 14 P st G) := pm_dn_eq (i := .getfield 23) (len := 3) rfl
theorem u_130_14 (P : PL) (st : List PV) (G : PW) : pm_dn pm_sM 130 14 P st G = pm_go pm_sM 130 G (pm_oIL 2 15 P st G) := pm_dn_eq (i := .iload_n 2) (len := 1) rfl
theorem u_130_15 (P : PL) (st : List PV) (G : PW) : pm_dn pm_sM 130 15 P st G = pm_go pm_sM 130 G (pm_oAld pm_sM 0 16 P st G) := pm_dn_eq (i := .iaload) (len := 1) rfl
theorem u_130_16 (P : PL) (st : List PV) (G : PW) : pm_dn pm_sM 130 16 P st G = pm_go pm_sM 130 G (pm_oK 1 17 P st G) := pm_dn_eq (i := .iconst 1) (len := 1) rfl
theorem u_130_17 (P : PL) (st : List PV) (G : PW) : pm_dn pm_sM 130 17 P st G = pm_go pm_sM 130 G (pm_oIc .ne (some 46) 20 P st G) := pm_dn_eq (i := .if_icmp .ne 29) (len := 3) rfl
theorem u_130_20 (P : PL) (st : List PV) (G : PW) : pm_dn pm_sM 130 20 P st G = pm_go pm_sM 130 G (pm_oAL 0 21 P st G) := pm_dn_eq (i := .aload_n 0) (len := 1) rfl
theorem u_130_21 (P : PL) (st : List PV) (G : PW) : pm_dn pm_sM 130 21 P st G = pm_go pm_sM 130 G (pm_oGf pm_sM 6 23 24 P st G) := pm_dn_eq (i := .getfield 68) (len := 3) rfl
theorem u_130_24 (P : PL) (st : List PV) (G : PW) : pm_dn pm_sM 130 24 P st G = pm_go pm_sM 130 G (pm_oIL 2 25 P st G) := pm_dn_eq (i := .iload_n 2) (len := 1) rfl
theorem u_130_25 (P : PL) (st : List PV) (G : PW) : pm_dn pm_sM 130 25 P st G = pm_go pm_sM 130 G (pm_oAld pm_sM 0 26 P st G) := pm_dn_eq (i := .iaload) (len := 1) rfl
theorem u_130_26 (P : PL) (st : List PV) (G : PW) : pm_dn pm_sM 130 26 P st G = pm_go pm_sM 130 G (pm_oIf .le (some 46) 29 P st G) := pm_dn_eq (i := .ifCond .le 20) (len := 3) rfl
theorem u_130_29 (P : PL) (st : List PV) (G : PW) : pm_dn pm_sM 130 29 P st G = pm_go pm_sM 130 G (pm_oAL 0 30 P st G) := pm_dn_eq (i := .aload_n 0) (len := 1) rfl
theorem u_130_30 (P : PL) (st : List PV) (G : PW) : pm_dn pm_sM 130 30 P st G = pm_go pm_sM 130 G (pm_oGf pm_sM 6 22 33 P st G) := pm_dn_eq (i := .getfield 65) (len := 3) rfl
theorem u_130_33 (P : PL) (st : List PV) (G : PW) : pm_dn pm_sM 130 33 P st G = pm_go pm_sM 130 G (pm_oIL 2 34 P st G) := pm_dn_eq (i := .iload_n 2) (len := 1) rfl
theorem u_130_34 (P : PL) (st : List PV) (G : PW) : pm_dn pm_sM 130 34 P st G = pm_go pm_sM 130 G (pm_oAld pm_sM 0 35 P st G) := pm_dn_eq (i := .iaload) (len := 1) rfl
theorem u_130_35 (P : PL) (st : List PV) (G : PW) : pm_dn pm_sM 130 35 P st G = pm_go pm_sM 130 G (pm_oIL 1 36 P st G) := pm_dn_eq (i := .iload_n 1) (len := 1) rfl
theorem u_130_36 (P : PL) (st : List PV) (G : PW) : pm_dn pm_sM 130 36 P st G = pm_go pm_sM 130 G (pm_oIc .ne (some 46) 39 P st G) := pm_dn_eq (i := .if_icmp .ne 10) (len := 3) rfl
theorem u_130_39 (P : PL) (st : List PV) (G : PW) : pm_dn pm_sM 130 39 P st G = pm_go pm_sM 130 G (pm_oAL 0 40 P st G) := pm_dn_eq (i := .aload_n 0) (len := 1) rfl
theorem u_130_40 (P : PL) (st : List PV) (G : PW) : pm_dn pm_sM 130 40 P st G = pm_go pm_sM 130 G (pm_oGf pm_sM 6 9 43 P st G) := pm_dn_eq (i := .getfield 26) (len := 3) rfl
theorem u_130_43 (P : PL) (st : List PV) (G : PW) : pm_dn pm_sM 130 43 P st G = pm_go pm_sM 130 G (pm_oIL 2 44 P st G) := pm_dn_eq (i := .iload_n 2) (len := 1) rfl
theorem u_130_44 (P : PL) (st : List PV) (G : PW) : pm_dn pm_sM 130 44 P st G = pm_go pm_sM 130 G (pm_oAld pm_sM 0 45 P st G) := pm_dn_eq (i := .iaload) (len := 1) rfl
theorem u_130_45 (P : PL) (st : List PV) (G : PW) : pm_dn pm_sM 130 45 P st G = pm_go pm_sM 130 G (pm_oRi 0 P st G) := pm_dn_eq (i := .ireturn) (len := 1) rfl
theorem u_130_46 (P : PL) (st : List PV) (G : PW) : pm_dn pm_sM 130 46 P st G = pm_go pm_sM 130 G (pm_oInc 2 1 49 P st G) := pm_dn_eq (i := .iinc 2 1) (len := 3) rfl
theorem u_130_49 (P : PL) (st : List PV) (G : PW) : pm_dn pm_sM 130 49 P st G = pm_go pm_sM 130 G (pm_oGo (some 2) P st G) := pm_dn_eq (i := .goto (-47)) (len := 3) rfl
theorem u_130_52 (P : PL) (st : List PV) (G : PW) : pm_dn pm_sM 130 52 P st G = pm_go pm_sM 130 G (pm_oK (-6) 54 P st G) := pm_dn_eq (i := .bipush (-6)) (len := 2) rfl
theorem u_130_54 (P : PL) (st : List PV) (G : PW) : pm_dn pm_sM 130 54 P st G = pm_go pm_sM 130 G (pm_oRi 0 P st G) := pm_dn_eq (i := .ireturn) (len := 1) rfl
theorem ue_131 (a0 : Nat) (a1 : Int) (G : PW) : pm_ca pm_sM 131 [.inr (.inr a0), .inl a1] G = pm_dn pm_sM 131 0 [some (.inr (.inr a0)), some (.inl a1)] [] G := rfl
theorem u_131_0 (P : PL) (st : List PV) (G : PW) : pm_dn pm_sM 131 0 P st G = pm_go pm_sM 131 G (pm_oAL 0 1 P st G) := pm_dn_eq (i := .aload_n 0) (len := 1) rfl
theorem u_131_1 (P : PL) (st : List PV) (G : PW) : pm_dn pm_sM 131 1 P st G = pm_go pm_sM 131 G (pm_oIL 1 2 P st G) := pm_dn_eq (i := .iload_n 1) (len := 1) rfl
theorem u_131_2 (P : PL) (st : List PV) (G : PW) : pm_dn pm_sM 131 2 P st G = pm_go pm_sM 131 G (pm_oCv pm_sM 130 1 3 6 5 P st G) := pm_dn_eq (i := .invokevirtual 154) (len := 3) rfl
theorem u_131_5 (P : PL) (st : List PV) (G : PW) : pm_dn pm_sM 131 5 P st G = pm_go pm_sM 131 G (pm_oK (-6) 7 P st G) := pm_dn_eq (i := .bipush (-6)) (len := 2) rfl
theorem u_131_7 (P : PL) (st : List PV) (G : PW) : pm_dn pm_sM 131 7 P st G = pm_go pm_sM 131 G (pm_oIc .ne (some 26) 10 P st G) := pm_dn_eq (i := .if_icmp .ne 19) (len := 3) rfl
theorem u_131_10 (P : PL) (st : List PV) (G : PW) : pm_dn pm_sM 131 10 P st G = pm_go pm_sM 131 G (pm_oAL 0 11 P st G) := pm_dn_eq (i := .aload_n 0) (len := 1) rfl
theorem u_131_11 (P : PL) (st : List PV) (G : PW) : pm_dn pm_sM 131 11 P st G = pm_go pm_sM 131 G (pm_oCv pm_sM 125 0 2 6 14 P st G) := pm_dn_eq (i := .invokevirtual 150) (len := 3) rfl
theorem u_131_14 (P : PL) (st : List PV) (G : PW) : pm_dn pm_sM 131 14 P st G = pm_go pm_sM 131 G (pm_oIL 1 15 P st G) := pm_dn_eq (i := .iload_n 1) (len := 1) rfl
theorem u_131_15 (P : PL) (st : List PV) (G : PW) : pm_dn pm_sM 131 15 P st G = pm_go pm_sM 131 G (pm_oIc .eq (some 26) 18 P st G) := pm_dn_eq (i := .if_icmp .eq 11) (len := 3) rfl
theorem u_131_18 (P : PL) (st : List PV) (G : PW) : pm_dn pm_sM 131 18 P st G = pm_go pm_sM 131 G (pm_oAL 0 19 P st G) := pm_dn_eq (i := .aload_n 0) (len := 1) rfl
theorem u_131_19 (P : PL) (st : List PV) (G : PW) : pm_dn pm_sM 131 19 P st G = pm_go pm_sM 131 G (pm_oCv pm_sM 126 0 2 6 22 P st G) := pm_dn_eq (i := .invokevirtual 158) (len := 3) rfl
theorem u_131_22 (P : PL) (st : List PV) (G : PW) : pm_dn pm_sM 131 22 P st G = pm_go pm_sM 131 G (pm_oIL 1 23 P st G) := pm_dn_eq (i := .iload_n 1) (len := 1) rfl
theorem u_131_23 (P : PL) (st : List PV) (G : PW) : pm_dn pm_sM 131 23 P st G = pm_go pm_sM 131 G (pm_oIc .ne (some 30) 26 P st G) := pm_dn_eq (i := .if_icmp .ne 7) (len := 3) rfl
theorem u_131_26 (P : PL) (st : List PV) (G : PW) : pm_dn pm_sM 131 26 P st G = pm_go pm_sM 131 G (pm_oK 1 27 P st G) := pm_dn_eq (i := .iconst 1) (len := 1) rfl
theorem u_131_27 (P : PL) (st : List PV) (G : PW) : pm_dn pm_sM 131 27 P st G = pm_go pm_sM 131 G (pm_oGo (some 31) P st G) := pm_dn_eq (i := .goto 4) (len := 3) rfl
theorem u_131_30 (P : PL) (st : List PV) (G : PW) : pm_dn pm_sM 131 30 P st G = pm_go pm_sM 131 G (pm_oK 0 31 P st G) := pm_dn_eq (i := .iconst 0) (len := 1) rfl
theorem u_131_31 (P : PL) (st : List PV) (G : PW) : pm_dn pm_sM 131 31 P st G = pm_go pm_sM 131 G (pm_oRi 2 P st G) := pm_dn_eq (i := .ireturn) (len := 1) rfl
theorem ue_132 (a0 : Nat) (a1 : Int) (a2 : Int) (G : PW) : pm_ca pm_sM 132 [.inr (.inr a0), .inl a1, .inl a2] G = pm_dn pm_sM 132 0 [some (.inr (.inr a0)), some (.inl a1), some (.inl a2), none, none, none] [] G := rfl
theorem u_132_0 (P : PL) (st : List PV) (G : PW) : pm_dn pm_sM 132 0 P st G = pm_go pm_sM 132 G (pm_oAL 0 1 P st G) := pm_dn_eq (i := .aload_n 0) (len := 1) rfl
theorem u_132_1 (P : PL) (st : List PV) (G : PW) : pm_dn pm_sM 132 1 P st G = pm_go pm_sM 132 G (pm_oCv pm_sM 125 0 2 6 4 P st G) := pm_dn_eq (i := .invokevirtual 150) (len := 3) rfl
theorem u_132_4 (P : PL) (st : List PV) (G : PW) : pm_dn pm_sM 132 4 P st G = pm_go pm_sM 132 G (pm_oIL 1 5 P st G) := pm_dn_eq (i := .iload_n 1) (len := 1) rfl
theorem u_132_5 (P : PL) (st : List PV) (G : PW) : pm_dn pm_sM 132 5 P st G = pm_go pm_sM 132 G (pm_oIc .eq (some 16) 8 P st G) := pm_dn_eq (i := .if_icmp .eq 11) (len := 3) rfl
theorem u_132_8 (P : PL) (st : List PV) (G : PW) : pm_dn pm_sM 132 8 P st G = pm_go pm_sM 132 G (pm_oAL 0 9 P st G) := pm_dn_eq (i := .aload_n 0) (len := 1) rfl
theorem u_132_9 (P : PL) (st : List PV) (G : PW) : pm_dn pm_sM 132 9 P st G = pm_go pm_sM 132 G (pm_oCv pm_sM 126 0 2 6 12 P st G) := pm_dn_eq (i := .invokevirtual 158) (len := 3) rfl
theorem u_132_12 (P : PL) (st : List PV) (G : PW) : pm_dn pm_sM 132 12 P st G = pm_go pm_sM 132 G (pm_oIL 1 13 P st G) := pm_dn_eq (i := .iload_n 1) (len := 1) rfl
theorem u_132_13 (P : PL) (st : List PV) (G : PW) : pm_dn pm_sM 132 13 P st G = pm_go pm_sM 132 G (pm_oIc .ne (some 30) 16 P st G) := pm_dn_eq (i := .if_icmp .ne 17) (len := 3) rfl
theorem u_132_16 (P : PL) (st : List PV) (G : PW) : pm_dn pm_sM 132 16 P st G = pm_go pm_sM 132 G (pm_oAL 0 17 P st G) := pm_dn_eq (i := .aload_n 0) (len := 1) rfl
theorem u_132_17 (P : PL) (st : List PV) (G : PW) : pm_dn pm_sM 132 17 P st G = pm_go pm_sM 132 G (pm_oCv pm_sM 125 0 2 6 20 P st G) := pm_dn_eq (i := .invokevirtual 150) (len := 3) rfl
theorem u_132_20 (P : PL) (st : List PV) (G : PW) : pm_dn pm_sM 132 20 P st G = pm_go pm_sM 132 G (pm_oIL 1 21 P st G) := pm_dn_eq (i := .iload_n 1) (len := 1) rfl
theorem u_132_21 (P : PL) (st : List PV) (G : PW) : pm_dn pm_sM 132 21 P st G = pm_go pm_sM 132 G (pm_oIc .ne (some 28) 24 P st G) := pm_dn_eq (i := .if_icmp .ne 7) (len := 3) rfl
theorem u_132_24 (P : PL) (st : List PV) (G : PW) : pm_dn pm_sM 132 24 P st G = pm_go pm_sM 132 G (pm_oK 1 25 P st G) := pm_dn_eq (i := .iconst 1) (len := 1) rfl
theorem u_132_25 (P : PL) (st : List PV) (G : PW) : pm_dn pm_sM 132 25 P st G = pm_go pm_sM 132 G (pm_oGo (some 29) P st G) := pm_dn_eq (i := .goto 4) (len := 3) rfl
theorem u_132_28 (P : PL) (st : List PV) (G : PW) : pm_dn pm_sM 132 28 P st G = pm_go pm_sM 132 G (pm_oK 2 29 P st G) := pm_dn_eq (i := .iconst 2) (len := 1) rfl
theorem u_132_29 (P : PL) (st : List PV) (G : PW) : pm_dn pm_sM 132 29 P st G = pm_go pm_sM 132 G (pm_oRi 0 P st G) := pm_dn_eq (i := .ireturn) (len := 1) rfl
theorem u_132_30 (P : PL) (st : List PV) (G : PW) : pm_dn pm_sM 132 30 P st G = pm_go pm_sM 132 G (pm_oAL 0 31 P st G) := pm_dn_eq (i := .aload_n 0) (len := 1) rfl
theorem u_132_31 (P : PL) (st : List PV) (G : PW) : pm_dn pm_sM 132 31 P st G = pm_go pm_sM 132 G (pm_oIL 1 32 P st G) := pm_dn_eq (i := .iload_n 1) (len := 1) rfl
theorem u_132_32 (P : PL) (st : List PV) (G : PW) : pm_dn pm_sM 132 32 P st G = pm_go pm_sM 132 G (pm_oCv pm_sM 130 1 3 6 35 P st G) := pm_dn_eq (i := .invokevirtual 154) (len := 3) rfl
theorem u_132_35 (P : PL) (st : List PV) (G : PW) : pm_dn pm_sM 132 35 P st G = pm_go pm_sM 132 G (pm_oIS 3 36 P st G) := pm_dn_eq (i := .istore_n 3) (len := 1) rfl
theorem u_132_36 (P : PL) (st : List PV) (G : PW) : pm_dn pm_sM 132 36 P st G = pm_go pm_sM 132 G (pm_oIL 3 37 P st G) := pm_dn_eq (i := .iload_n 3) (len := 1) rfl
theorem u_132_37 (P : PL) (st : List PV) (G : PW) : pm_dn pm_sM 132 37 P st G = pm_go pm_sM 132 G (pm_oK (-6) 39 P st G) := pm_dn_eq (i := .bipush (-6)) (len := 2) rfl
theorem u_132_39 (P : PL) (st : List PV) (G : PW) : pm_dn pm_sM 132 39 P st G = pm_go pm_sM 132 G (pm_oIc .ne (some 45) 42 P st G) := pm_dn_eq (i := .if_icmp .ne 6) (len := 3) rfl
theorem u_132_42 (P : PL) (st : List PV) (G : PW) : pm_dn pm_sM 132 42 P st G = pm_go pm_sM 132 G (pm_oK (-6) 44 P st G) := pm_dn_eq (i := .bipush (-6)) (len := 2) rfl
theorem u_132_44 (P : PL) (st : List PV) (G : PW) : pm_dn pm_sM 132 44 P st G = pm_go pm_sM 132 G (pm_oRi 0 P st G) := pm_dn_eq (i := .ireturn) (len := 1) rfl
theorem u_132_45 (P : PL) (st : List PV) (G : PW) : pm_dn pm_sM 132 45 P st G = pm_go pm_sM 132 G (pm_oAL 0 46 P st G) := pm_dn_eq (i := .aload_n 0) (len := 1) rfl
theorem u_132_46 (P : PL) (st : List PV) (G : PW) : pm_dn pm_sM 132 46 P st G = pm_go pm_sM 132 G (pm_oCv pm_sM 129 0 4 6 49 P st G) := pm_dn_eq (i := .invokevirtual 161) (len := 3) rfl
theorem u_132_49 (P : PL) (st : List PV) (G : PW) : pm_dn pm_sM 132 49 P st G = pm_go pm_sM 132 G (pm_oK 0 50 P st G) := pm_dn_eq (i := .iconst 0) (len := 1) rfl
theorem u_132_50 (P : PL) (st : List PV) (G : PW) : pm_dn pm_sM 132 50 P st G = pm_go pm_sM 132 G (pm_oIS 4 52 P st G) := pm_dn_eq (i := .istore 4) (len := 2) rfl
theorem u_132_52 (P : PL) (st : List PV) (G : PW) : pm_dn pm_sM 132 52 P st G = pm_go pm_sM 132 G (pm_oIL 3 53 P st G) := pm_dn_eq (i := .iload_n 3) (len := 1) rfl
theorem u_132_53 (P : PL) (st : List PV) (G : PW) : pm_dn pm_sM 132 53 P st G = pm_go pm_sM 132 G (pm_oK 1 54 P st G) := pm_dn_eq (i := .iconst 1) (len := 1) rfl
theorem u_132_54 (P : PL) (st : List PV) (G : PW) : pm_dn pm_sM 132 54 P st G = pm_go pm_sM 132 G (pm_oAdd 55 P st G) := pm_dn_eq (i := .iadd) (len := 1) rfl
theorem u_132_55 (P : PL) (st : List PV) (G : PW) : pm_dn pm_sM 132 55 P st G = pm_go pm_sM 132 G (pm_oIS 5 57 P st G) := pm_dn_eq (i := .istore 5) (len := 2) rfl
theorem u_132_57 (P : PL) (st : List PV) (G : PW) : pm_dn pm_sM 132 57 P st G = pm_go pm_sM 132 G (pm_oIL 5 59 P st G) := pm_dn_eq (i := .iload 5) (len := 2) rfl
theorem u_132_59 (P : PL) (st : List PV) (G : PW) : pm_dn pm_sM 132 59 P st G = pm_go pm_sM 132 G (pm_oK 2 60 P st G) := pm_dn_eq (i := .iconst 2) (len := 1) rfl
theorem u_132_60 (P : PL) (st : List PV) (G : PW) : pm_dn pm_sM 132 60 P st G = pm_go pm_sM 132 G (pm_oAL 0 61 P st G) := pm_dn_eq (i := .aload_n 0) (len := 1) rfl
theorem u_132_61 (P : PL) (st : List PV) (G : PW) : pm_dn pm_sM 132 61 P st G = pm_go pm_sM 132 G (pm_oGf pm_sM 6 6 64 P st G) := pm_dn_eq (i := .getfield 94) (len := 3) rfl
theorem u_132_64 (P : PL) (st : List PV) (G : PW) : pm_dn pm_sM 132 64 P st G = pm_go pm_sM 132 G (pm_oMul 65 P st G) := pm_dn_eq (i := .imul) (len := 1) rfl
theorem u_132_65 (P : PL) (st : List PV) (G : PW) : pm_dn pm_sM 132 65 P st G = pm_go pm_sM 132 G (pm_oK 2 66 P st G) := pm_dn_eq (i := .iconst 2) (len := 1) rfl
theorem u_132_66 (P : PL) (st : List PV) (G : PW) : pm_dn pm_sM 132 66 P st G = pm_go pm_sM 132 G (pm_oSub 67 P st G) := pm_dn_eq (i := .isub) (len := 1) rfl
theorem u_132_67 (P : PL) (st : List PV) (G : PW) : pm_dn pm_sM 132 67 P st G = pm_go pm_sM 132 G (pm_oIc .gt (some 88) 70 P st G) := pm_dn_eq (i := .if_icmp .gt 21) (len := 3) rfl
theorem u_132_70 (P : PL) (st : List PV) (G : PW) : pm_dn pm_sM 132 70 P st G = pm_go pm_sM 132 G (pm_oIL 4 72 P st G) := pm_dn_eq (i := .iload 4) (len := 2) rfl
theorem u_132_72 (P : PL) (st : List PV) (G : PW) : pm_dn pm_sM 132 72 P st G = pm_go pm_sM 132 G (pm_oAL 0 73 P st G) := pm_dn_eq (i := .aload_n 0) (len := 1) rfl
theorem u_132_73 (P : PL) (st : List PV) (G : PW) : pm_dn pm_sM 132 73 P st G = pm_go pm_sM 132 G (pm_oGf pm_sM 6 28 76 P st G) := pm_dn_eq (i := .getfield 77) (len := 3) rfl
theorem u_132_76 (P : PL) (st : List PV) (G : PW) : pm_dn pm_sM 132 76 P st G = pm_go pm_sM 132 G (pm_oIL 5 78 P st G) := pm_dn_eq (i := .iload 5) (len := 2) rfl
theorem u_132_78 (P : PL) (st : List PV) (G : PW) : pm_dn pm_sM 132 78 P st G = pm_go pm_sM 132 G (pm_oAld pm_sM 0 79 P st G) := pm_dn_eq (i := .iaload) (len := 1) rfl
theorem u_132_79 (P : PL) (st : List PV) (G : PW) : pm_dn pm_sM 132 79 P st G = pm_go pm_sM 132 G (pm_oAdd 80 P st G) := pm_dn_eq (i := .iadd) (len := 1) rfl
theorem u_132_80 (P : PL) (st : List PV) (G : PW) : pm_dn pm_sM 132 80 P st G = pm_go pm_sM 132 G (pm_oIS 4 82 P st G) := pm_dn_eq (i := .istore 4) (len := 2) rfl
theorem u_132_82 (P : PL) (st : List PV) (G : PW) : pm_dn pm_sM 132 82 P st G = pm_go pm_sM 132 G (pm_oInc 5 1 85 P st G) := pm_dn_eq (i := .iinc 5 1) (len := 3) rfl
theorem u_132_85 (P : PL) (st : List PV) (G : PW) : pm_dn pm_sM 132 85 P st G = pm_go pm_sM 132 G (pm_oGo (some 57) P st G) := pm_dn_eq (i := .goto (-28)) (len := 3) rfl
theorem u_132_88 (P : PL) (st : List PV) (G : PW) : pm_dn pm_sM 132 88 P st G = pm_go pm_sM 132 G (pm_oIL 2 89 P st G) := pm_dn_eq (i := .iload_n 2) (len := 1) rfl
theorem u_132_89 (P : PL) (st : List PV) (G : PW) : pm_dn pm_sM 132 89 P st G = pm_go pm_sM 132 G (pm_oIf .eq (some 106) 92 P st G) := pm_dn_eq (i := .ifCond .eq 17) (len := 3) rfl
theorem u_132_92 (P : PL) (st : List PV) (G : PW) : pm_dn pm_sM 132 92 P st G = pm_go pm_sM 132 G (pm_oIL 4 94 P st G) := pm_dn_eq (i := .iload 4) (len := 2) rfl
theorem u_132_94 (P : PL) (st : List PV) (G : PW) : pm_dn pm_sM 132 94 P st G = pm_go pm_sM 132 G (pm_oK 2 95 P st G) := pm_dn_eq (i := .iconst 2) (len := 1) rfl
theorem u_132_95 (P : PL) (st : List PV) (G : PW) : pm_dn pm_sM 132 95 P st G = pm_go pm_sM 132 G (pm_oAdd 96 P st G) := pm_dn_eq (i := .iadd) (len := 1) rfl
theorem u_132_96 (P : PL) (st : List PV) (G : PW) : pm_dn pm_sM 132 96 P st G = pm_go pm_sM 132 G (pm_oAL 0 97 P st G) := pm_dn_eq (i := .aload_n 0) (len := 1) rfl
theorem u_132_97 (P : PL) (st : List PV) (G : PW) : pm_dn pm_sM 132 97 P st G = pm_go pm_sM 132 G (pm_oGf pm_sM 6 28 100 P st G) := pm_dn_eq (i := .getfield 77) (len := 3) rfl
theorem u_132_100 (P : PL) (st : List PV) (G : PW) : pm_dn pm_sM 132 100 P st G = pm_go pm_sM 132 G (pm_oIL 3 101 P st G) := pm_dn_eq (i := .iload_n 3) (len := 1) rfl
theorem u_132_101 (P : PL) (st : List PV) (G : PW) : pm_dn pm_sM 132 101 P st G = pm_go pm_sM 132 G (pm_oAld pm_sM 0 102 P st G) := pm_dn_eq (i := .iaload) (len := 1) rfl
theorem u_132_102 (P : PL) (st : List PV) (G : PW) : pm_dn pm_sM 132 102 P st G = pm_go pm_sM 132 G (pm_oAdd 103 P st G) := pm_dn_eq (i := .iadd) (len := 1) rfl
theorem u_132_103 (P : PL) (st : List PV) (G : PW) : pm_dn pm_sM 132 103 P st G = pm_go pm_sM 132 G (pm_oGo (some 110) P st G) := pm_dn_eq (i := .goto 7) (len := 3) rfl
theorem u_132_106 (P : PL) (st : List PV) (G : PW) : pm_dn pm_sM 132 106 P st G = pm_go pm_sM 132 G (pm_oIL 4 108 P st G) := pm_dn_eq (i := .iload 4) (len := 2) rfl
theorem u_132_108 (P : PL) (st : List PV) (G : PW) : pm_dn pm_sM 132 108 P st G = pm_go pm_sM 132 G (pm_oK 3 109 P st G) := pm_dn_eq (i := .iconst 3) (len := 1) rfl
theorem u_132_109 (P : PL) (st : List PV) (G : PW) : pm_dn pm_sM 132 109 P st G = pm_go pm_sM 132 G (pm_oAdd 110 P st G) := pm_dn_eq (i := .iadd) (len := 1) rfl
theorem u_132_110 (P : PL) (st : List PV) (G : PW) : pm_dn pm_sM 132 110 P st G = pm_go pm_sM 132 G (pm_oRi 0 P st G) := pm_dn_eq (i := .ireturn) (len := 1) rfl
theorem ue_133 (a0 : Nat) (a1 : Int) (a2 : Int) (G : PW) : pm_ca pm_sM 133 [.inr (.inr a0), .inl a1, .inl a2] G = pm_dn pm_sM 133 0 [some (.inr (.inr a0)), some (.inl a1), some (.inl a2)] [] G := rfl
theorem u_133_0 (P : PL) (st : List PV) (G : PW) : pm_dn pm_sM 133 0 P st G = pm_go pm_sM 133 G (pm_oIL 1 1 P st G) := pm_dn_eq (i := .iload_n 1) (len := 1) rfl
theorem u_133_1 (P : PL) (st : List PV) (G : PW) : pm_dn pm_sM 133 1 P st G = pm_go pm_sM 133 G (pm_oK 2 2 P st G) := pm_dn_eq (i := .iconst 2) (len := 1) rfl
theorem u_133_2 (P : PL) (st : List PV) (G : PW) : pm_dn pm_sM 133 2 P st G = pm_go pm_sM 133 G (pm_oK 16 4 P st G) := pm_dn_eq (i := .bipush 16) (len := 2) rfl
theorem u_133_4 (P : PL) (st : List PV) (G : PW) : pm_dn pm_sM 133 4 P st G = pm_go pm_sM 133 G (pm_oCs 109 3 3 7 P st G) := pm_dn_eq (i := .invokestatic 164) (len := 3) rfl
theorem u_133_7 (P : PL) (st : List PV) (G : PW) : pm_dn pm_sM 133 7 P st G = pm_go pm_sM 133 G (pm_oIf .eq (some 19) 10 P st G) := pm_dn_eq (i := .ifCond .eq 12) (len := 3) rfl
theorem u_133_10 (P : PL) (st : List PV) (G : PW) : pm_dn pm_sM 133 10 P st G = pm_go pm_sM 133 G (pm_oIL 2 11 P st G) := pm_dn_eq (i := .iload_n 2) (len := 1) rfl
theorem u_133_11 (P : PL) (st : List PV) (G : PW) : pm_dn pm_sM 133 11 P st G = pm_go pm_sM 133 G (pm_oK 0 12 P st G) := pm_dn_eq (i := .iconst 0) (len := 1) rfl
theorem u_133_12 (P : PL) (st : List PV) (G : PW) : pm_dn pm_sM 133 12 P st G = pm_go pm_sM 133 G (pm_oK 1 13 P st G) := pm_dn_eq (i := .iconst 1) (len := 1) rfl
theorem u_133_13 (P : PL) (st : List PV) (G : PW) : pm_dn pm_sM 133 13 P st G = pm_go pm_sM 133 G (pm_oCs 109 3 3 16 P st G) := pm_dn_eq (i := .invokestatic 164) (len := 3) rfl
theorem u_133_16 (P : PL) (st : List PV) (G : PW) : pm_dn pm_sM 133 16 P st G = pm_go pm_sM 133 G (pm_oIf .ne (some 22) 19 P st G) := pm_dn_eq (i := .ifCond .ne 6) (len := 3) rfl
theorem u_133_19 (P : PL) (st : List PV) (G : PW) : pm_dn pm_sM 133 19 P st G = pm_go pm_sM 133 G (pm_oK (-2) 21 P st G) := pm_dn_eq (i := .bipush (-2)) (len := 2) rfl
theorem u_133_21 (P : PL) (st : List PV) (G : PW) : pm_dn pm_sM 133 21 P st G = pm_go pm_sM 133 G (pm_oRi 0 P st G) := pm_dn_eq (i := .ireturn) (len := 1) rfl
theorem u_133_22 (P : PL) (st : List PV) (G : PW) : pm_dn pm_sM 133 22 P st G = pm_go pm_sM 133 G (pm_oAL 0 23 P st G) := pm_dn_eq (i := .aload_n 0) (len := 1) rfl
theorem u_133_23 (P : PL) (st : List PV) (G : PW) : pm_dn pm_sM 133 23 P st G = pm_go pm_sM 133 G (pm_oIL 1 24 P st G) := pm_dn_eq (i := .iload_n 1) (len := 1) rfl
theorem u_133_24 (P : PL) (st : List PV) (G : PW) : pm_dn pm_sM 133 24 P st G = pm_go pm_sM 133 G (pm_oIL 2 25 P st G) := pm_dn_eq (i := .iload_n 2) (len := 1) rfl
theorem u_133_25 (P : PL) (st : List PV) (G : PW) : pm_dn pm_sM 133 25 P st G = pm_go pm_sM 133 G (pm_oCv pm_sM 110 2 4 6 28 P st G) := pm_dn_eq (i := .invokevirtual 86) (len := 3) rfl
theorem u_133_28 (P : PL) (st : List PV) (G : PW) : pm_dn pm_sM 133 28 P st G = pm_go pm_sM 133 G (pm_oAL 0 29 P st G) := pm_dn_eq (i := .aload_n 0) (len := 1) rfl
theorem u_133_29 (P : PL) (st : List PV) (G : PW) : pm_dn pm_sM 133 29 P st G = pm_go pm_sM 133 G (pm_oCv pm_sM 116 0 3 6 32 P st G) := pm_dn_eq (i := .invokevirtual 141) (len := 3) rfl
theorem u_133_32 (P : PL) (st : List PV) (G : PW) : pm_dn pm_sM 133 32 P st G = pm_go pm_sM 133 G (pm_oAL 0 33 P st G) := pm_dn_eq (i := .aload_n 0) (len := 1) rfl
theorem u_133_33 (P : PL) (st : List PV) (G : PW) : pm_dn pm_sM 133 33 P st G = pm_go pm_sM 133 G (pm_oGf pm_sM 6 7 36 P st G) := pm_dn_eq (i := .getfield 97) (len := 3) rfl
theorem u_133_36 (P : PL) (st : List PV) (G : PW) : pm_dn pm_sM 133 36 P st G = pm_go pm_sM 133 G (pm_oRi 0 P st G) := pm_dn_eq (i := .ireturn) (len := 1) rfl
theorem ue_134 (a0 : Nat) (a1 : Int) (G : PW) : pm_ca pm_sM 134 [.inr (.inr a0), .inl a1] G = pm_dn pm_sM 134 0 [some (.inr (.inr a0)), some (.inl a1)] [] G := rfl
theorem u_134_0 (P : PL) (st : List PV) (G : PW) : pm_dn pm_sM 134 0 P st G = pm_go pm_sM 134 G (pm_oIL 1 1 P st G) := pm_dn_eq (i := .iload_n 1) (len := 1) rfl
theorem u_134_1 (P : PL) (st : List PV) (G : PW) : pm_dn pm_sM 134 1 P st G = pm_go pm_sM 134 G (pm_oK 0 2 P st G) := pm_dn_eq (i := .iconst 0) (len := 1) rfl
theorem u_134_2 (P : PL) (st : List PV) (G : PW) : pm_dn pm_sM 134 2 P st G = pm_go pm_sM 134 G (pm_oAL 0 3 P st G) := pm_dn_eq (i := .aload_n 0) (len := 1) rfl
theorem u_134_3 (P : PL) (st : List PV) (G : PW) : pm_dn pm_sM 134 3 P st G = pm_go pm_sM 134 G (pm_oGf pm_sM 6 0 6 P st G) := pm_dn_eq (i := .getfield 7) (len := 3) rfl
theorem u_134_6 (P : PL) (st : List PV) (G : PW) : pm_dn pm_sM 134 6 P st G = pm_go pm_sM 134 G (pm_oK 0 7 P st G) := pm_dn_eq (i := .iconst 0) (len := 1) rfl
theorem u_134_7 (P : PL) (st : List PV) (G : PW) : pm_dn pm_sM 134 7 P st G = pm_go pm_sM 134 G (pm_oAld pm_sM 0 8 P st G) := pm_dn_eq (i := .iaload) (len := 1) rfl
theorem u_134_8 (P : PL) (st : List PV) (G : PW) : pm_dn pm_sM 134 8 P st G = pm_go pm_sM 134 G (pm_oK 1 9 P st G) := pm_dn_eq (i := .iconst 1) (len := 1) rfl
theorem u_134_9 (P : PL) (st : List PV) (G : PW) : pm_dn pm_sM 134 9 P st G = pm_go pm_sM 134 G (pm_oSub 10 P st G) := pm_dn_eq (i := .isub) (len := 1) rfl
theorem u_134_10 (P : PL) (st : List PV) (G : PW) : pm_dn pm_sM 134 10 P st G = pm_go pm_sM 134 G (pm_oCs 109 3 3 13 P st G) := pm_dn_eq (i := .invokestatic 164) (len := 3) rfl
theorem u_134_13 (P : PL) (st : List PV) (G : PW) : pm_dn pm_sM 134 13 P st G = pm_go pm_sM 134 G (pm_oRi 2 P st G) := pm_dn_eq (i := .ireturn) (len := 1) rfl
theorem ue_135 (a0 : Nat) (a1 : Int) (a2 : Int) (G : PW) : pm_ca pm_sM 135 [.inr (.inr a0), .inl a1, .inl a2] G = pm_dn pm_sM 135 0 [some (.inr (.inr a0)), some (.inl a1), some (.inl a2), none] [] G := rfl
theorem u_135_0 (P : PL) (st : List PV) (G : PW) : pm_dn pm_sM 135 0 P st G = pm_go pm_sM 135 G (pm_oAL 0 1 P st G) := pm_dn_eq (i := .aload_n 0) (len := 1) rfl
theorem u_135_1 (P : PL) (st : List PV) (G : PW) : pm_dn pm_sM 135 1 P st G = pm_go pm_sM 135 G (pm_oIL 1 2 P st G) := pm_dn_eq (i := .iload_n 1) (len := 1) rfl
theorem u_135_2 (P : PL) (st : List PV) (G : PW) : pm_dn pm_sM 135 2 P st G = pm_go pm_sM 135 G (pm_oCv pm_sM 134 1 2 6 5 P st G) := pm_dn_eq (i := .invokevirtual 168) (len := 3) rfl
theorem u_135_5 (P : PL) (st : List PV) (G : PW) : pm_dn pm_sM 135 5 P st G = pm_go pm_sM 135 G (pm_oIf .ne (some 10) 8 P st G) := pm_dn_eq (i := .ifCond .ne 5) (len := 3) rfl
theorem u_135_8 (P : PL) (st : List PV) (G : PW) : pm_dn pm_sM 135 8 P st G = pm_go pm_sM 135 G (pm_oK (-1) 9 P st G) := pm_dn_eq (i := .iconst (-1)) (len := 1) rfl
theorem u_135_9 (P : PL) (st : List PV) (G : PW) : pm_dn pm_sM 135 9 P st G = pm_go pm_sM 135 G (pm_oRi 0 P st G) := pm_dn_eq (i := .ireturn) (len := 1) rfl
theorem u_135_10 (P : PL) (st : List PV) (G : PW) : pm_dn pm_sM 135 10 P st G = pm_go pm_sM 135 G (pm_oIL 2 11 P st G) := pm_dn_eq (i := .iload_n 2) (len := 1) rfl
theorem u_135_11 (P : PL) (st : List PV) (G : PW) : pm_dn pm_sM 135 11 P st G = pm_go pm_sM 135 G (pm_oK 0 12 P st G) := pm_dn_eq (i := .iconst 0) (len := 1) rfl
theorem u_135_12 (P : PL) (st : List PV) (G : PW) : pm_dn pm_sM 135 12 P st G = pm_go pm_sM 135 G (pm_oK 9999 15 P st G) := pm_dn_eq (i := .sipush 9999) (len := 3) rfl
theorem u_135_15 (P : PL) (st : List PV) (G : PW) : pm_dn pm_sM 135 15 P st G = pm_go pm_sM 135 G (pm_oCs 109 3 3 18 P st G) := pm_dn_eq (i := .invokestatic 164) (len := 3) rfl
theorem u_135_18 (P : PL) (st : List PV) (G : PW) : pm_dn pm_sM 135 18 P st G = pm_go pm_sM 135 G (pm_oIf .ne (some 24) 21 P st G) := pm_dn_eq (i := .ifCond .ne 6) (len := 3) rfl
theorem u_135_21 (P : PL) (st : List PV) (G : PW) : pm_dn pm_sM 135 21 P st G = pm_go pm_sM 135 G (pm_oK (-2) 23 P st G) := pm_dn_eq (i := .bipush (-2)) (len := 2) rfl
theorem u_135_23 (P : PL) (st : List PV) (G : PW) : pm_dn pm_sM 135 23 P st G = pm_go pm_sM 135 G (pm_oRi 0 P st G) := pm_dn_eq (i := .ireturn) (len := 1) rfl
theorem u_135_24 (P : PL) (st : List PV) (G : PW) : pm_dn pm_sM 135 24 P st G = pm_go pm_sM 135 G (pm_oAL 0 25 P st G) := pm_dn_eq (i := .aload_n 0) (len := 1) rfl
theorem u_135_25 (P : PL) (st : List PV) (G : PW) : pm_dn pm_sM 135 25 P st G = pm_go pm_sM 135 G (pm_oGf pm_sM 6 0 28 P st G) := pm_dn_eq (i := .getfield 7) (len := 3) rfl
theorem u_135_28 (P : PL) (st : List PV) (G : PW) : pm_dn pm_sM 135 28 P st G = pm_go pm_sM 135 G (pm_oK 3 29 P st G) := pm_dn_eq (i := .iconst 3) (len := 1) rfl
theorem u_135_29 (P : PL) (st : List PV) (G : PW) : pm_dn pm_sM 135 29 P st G = pm_go pm_sM 135 G (pm_oIL 1 30 P st G) := pm_dn_eq (i := .iload_n 1) (len := 1) rfl
theorem u_135_30 (P : PL) (st : List PV) (G : PW) : pm_dn pm_sM 135 30 P st G = pm_go pm_sM 135 G (pm_oAdd 31 P st G) := pm_dn_eq (i := .iadd) (len := 1) rfl
theorem u_135_31 (P : PL) (st : List PV) (G : PW) : pm_dn pm_sM 135 31 P st G = pm_go pm_sM 135 G (pm_oAld pm_sM 0 32 P st G) := pm_dn_eq (i := .iaload) (len := 1) rfl
theorem u_135_32 (P : PL) (st : List PV) (G : PW) : pm_dn pm_sM 135 32 P st G = pm_go pm_sM 135 G (pm_oIS 3 33 P st G) := pm_dn_eq (i := .istore_n 3) (len := 1) rfl
theorem u_135_33 (P : PL) (st : List PV) (G : PW) : pm_dn pm_sM 135 33 P st G = pm_go pm_sM 135 G (pm_oAL 0 34 P st G) := pm_dn_eq (i := .aload_n 0) (len := 1) rfl
theorem u_135_34 (P : PL) (st : List PV) (G : PW) : pm_dn pm_sM 135 34 P st G = pm_go pm_sM 135 G (pm_oGf pm_sM 6 0 37 P st G) := pm_dn_eq (i := .getfield 7) (len := 3) rfl
theorem u_135_37 (P : PL) (st : List PV) (G : PW) : pm_dn pm_sM 135 37 P st G = pm_go pm_sM 135 G (pm_oK 3 38 P st G) := pm_dn_eq (i := .iconst 3) (len := 1) rfl
theorem u_135_38 (P : PL) (st : List PV) (G : PW) : pm_dn pm_sM 135 38 P st G = pm_go pm_sM 135 G (pm_oIL 1 39 P st G) := pm_dn_eq (i := .iload_n 1) (len := 1) rfl
theorem u_135_39 (P : PL) (st : List PV) (G : PW) : pm_dn pm_sM 135 39 P st G = pm_go pm_sM 135 G (pm_oAdd 40 P st G) := pm_dn_eq (i := .iadd) (len := 1) rfl
theorem u_135_40 (P : PL) (st : List PV) (G : PW) : pm_dn pm_sM 135 40 P st G = pm_go pm_sM 135 G (pm_oIL 2 41 P st G) := pm_dn_eq (i := .iload_n 2) (len := 1) rfl
theorem u_135_41 (P : PL) (st : List PV) (G : PW) : pm_dn pm_sM 135 41 P st G = pm_go pm_sM 135 G (pm_oAst pm_sM 0 42 P st G) := pm_dn_eq (i := .iastore) (len := 1) rfl
theorem u_135_42 (P : PL) (st : List PV) (G : PW) : pm_dn pm_sM 135 42 P st G = pm_go pm_sM 135 G (pm_oIL 3 43 P st G) := pm_dn_eq (i := .iload_n 3) (len := 1) rfl
theorem u_135_43 (P : PL) (st : List PV) (G : PW) : pm_dn pm_sM 135 43 P st G = pm_go pm_sM 135 G (pm_oRi 0 P st G) := pm_dn_eq (i := .ireturn) (len := 1) rfl
theorem ue_136 (a0 : Nat) (a1 : Int) (G : PW) : pm_ca pm_sM 136 [.inr (.inr a0), .inl a1] G = pm_dn pm_sM 136 0 [some (.inr (.inr a0)), some (.inl a1)] [] G := rfl
theorem u_136_0 (P : PL) (st : List PV) (G : PW) : pm_dn pm_sM 136 0 P st G = pm_go pm_sM 136 G (pm_oAL 0 1 P st G) := pm_dn_eq (i := .aload_n 0) (len := 1) rfl
theorem u_136_1 (P : PL) (st : List PV) (G : PW) : pm_dn pm_sM 136 1 P st G = pm_go pm_sM 136 G (pm_oGf pm_sM 6 0 4 P st G) := pm_dn_eq (i := .getfield 7) (len := 3) rfl
theorem u_136_4 (P : PL) (st : List PV) (G : PW) : pm_dn pm_sM 136 4 P st G = pm_go pm_sM 136 G (pm_oK 66 6 P st G) := pm_dn_eq (i := .bipush 66) (len := 2) rfl
theorem u_136_6 (P : PL) (st : List PV) (G : PW) : pm_dn pm_sM 136 6 P st G = pm_go pm_sM 136 G (pm_oAL 0 7 P st G) := pm_dn_eq (i := .aload_n 0) (len := 1) rfl
theorem u_136_7 (P : PL) (st : List PV) (G : PW) : pm_dn pm_sM 136 7 P st G = pm_go pm_sM 136 G (pm_oGf pm_sM 6 0 10 P st G) := pm_dn_eq (i := .getfield 7) (len := 3) rfl
theorem u_136_10 (P : PL) (st : List PV) (G : PW) : pm_dn pm_sM 136 10 P st G = pm_go pm_sM 136 G (pm_oK 2 11 P st G) := pm_dn_eq (i := .iconst 2) (len := 1) rfl
theorem u_136_11 (P : PL) (st : List PV) (G : PW) : pm_dn pm_sM 136 11 P st G = pm_go pm_sM 136 G (pm_oAld pm_sM 0 12 P st G) := pm_dn_eq (i := .iaload) (len := 1) rfl
theorem u_136_12 (P : PL) (st : List PV) (G : PW) : pm_dn pm_sM 136 12 P st G = pm_go pm_sM 136 G (pm_oAdd 13 P st G) := pm_dn_eq (i := .iadd) (len := 1) rfl
theorem u_136_13 (P : PL) (st : List PV) (G : PW) : pm_dn pm_sM 136 13 P st G = pm_go pm_sM 136 G (pm_oIL 1 14 P st G) := pm_dn_eq (i := .iload_n 1) (len := 1) rfl
theorem u_136_14 (P : PL) (st : List PV) (G : PW) : pm_dn pm_sM 136 14 P st G = pm_go pm_sM 136 G (pm_oAst pm_sM 0 15 P st G) := pm_dn_eq (i := .iastore) (len := 1) rfl
theorem u_136_15 (P : PL) (st : List PV) (G : PW) : pm_dn pm_sM 136 15 P st G = pm_go pm_sM 136 G (pm_oAL 0 16 P st G) := pm_dn_eq (i := .aload_n 0) (len := 1) rfl
theorem u_136_16 (P : PL) (st : List PV) (G : PW) : pm_dn pm_sM 136 16 P st G = pm_go pm_sM 136 G (pm_oGf pm_sM 6 0 19 P st G) := pm_dn_eq (i := .getfield 7) (len := 3) rfl
theorem u_136_19 (P : PL) (st : List PV) (G : PW) : pm_dn pm_sM 136 19 P st G = pm_go pm_sM 136 G (pm_oK 2 20 P st G) := pm_dn_eq (i := .iconst 2) (len := 1) rfl
theorem u_136_20 (P : PL) (st : List PV) (G : PW) : pm_dn pm_sM 136 20 P st G = pm_go pm_sM 136 G (pm_oDu2 21 P st G) := pm_dn_eq (i := .dup2) (len := 1) rfl
theorem u_136_21 (P : PL) (st : List PV) (G : PW) : pm_dn pm_sM 136 21 P st G = pm_go pm_sM 136 G (pm_oAld pm_sM 0 22 P st G) := pm_dn_eq (i := .iaload) (len := 1) rfl
theorem u_136_22 (P : PL) (st : List PV) (G : PW) : pm_dn pm_sM 136 22 P st G = pm_go pm_sM 136 G (pm_oK 1 23 P st G) := pm_dn_eq (i := .iconst 1) (len := 1) rfl
theorem u_136_23 (P : PL) (st : List PV) (G : PW) : pm_dn pm_sM 136 23 P st G = pm_go pm_sM 136 G (pm_oAdd 24 P st G) := pm_dn_eq (i := .iadd) (len := 1) rfl
theorem u_136_24 (P : PL) (st : List PV) (G : PW) : pm_dn pm_sM 136 24 P st G = pm_go pm_sM 136 G (pm_oAst pm_sM 0 25 P st G) := pm_dn_eq (i := .iastore) (len := 1) rfl
theorem u_136_25 (P : PL) (st : List PV) (G : PW) : pm_dn pm_sM 136 25 P st G = pm_go pm_sM 136 G (pm_oRv P st G) := pm_dn_eq (i := .return_) (len := 1) rfl
theorem ue_137 (a0 : Nat) (a1 : Int) (a2 : Int) (G : PW) : pm_ca pm_sM 137 [.inr (.inr a0), .inl a1, .inl a2] G = pm_dn pm_sM 137 0 [some (.inr (.inr a0)), some (.inl a1), some (.inl a2)] [] G := rfl
theorem u_137_0 (P : PL) (st : List PV) (G : PW) : pm_dn pm_sM 137 0 P st G = pm_go pm_sM 137 G (pm_oAL 0 1 P st G) := pm_dn_eq (i := .aload_n 0) (len := 1) rfl
theorem u_137_1 (P : PL) (st : List PV) (G : PW) : pm_dn pm_sM 137 1 P st G = pm_go pm_sM 137 G (pm_oCv pm_sM 124 0 1 6 4 P st G) := pm_dn_eq (i := .invokevirtual 171) (len := 3) rfl
theorem u_137_4 (P : PL) (st : List PV) (G : PW) : pm_dn pm_sM 137 4 P st G = pm_go pm_sM 137 G (pm_oIL 1 5 P st G) := pm_dn_eq (i := .iload_n 1) (len := 1) rfl
theorem u_137_5 (P : PL) (st : List PV) (G : PW) : pm_dn pm_sM 137 5 P st G = pm_go pm_sM 137 G (pm_oK 0 6 P st G) := pm_dn_eq (i := .iconst 0) (len := 1) rfl
theorem u_137_6 (P : PL) (st : List PV) (G : PW) : pm_dn pm_sM 137 6 P st G = pm_go pm_sM 137 G (pm_oAL 0 7 P st G) := pm_dn_eq (i := .aload_n 0) (len := 1) rfl
theorem u_137_7 (P : PL) (st : List PV) (G : PW) : pm_dn pm_sM 137 7 P st G = pm_go pm_sM 137 G (pm_oGf pm_sM 6 7 10 P st G) := pm_dn_eq (i := .getfield 97) (len := 3) rfl
theorem u_137_10 (P : PL) (st : List PV) (G : PW) : pm_dn pm_sM 137 10 P st G = pm_go pm_sM 137 G (pm_oK 1 11 P st G) := pm_dn_eq (i := .iconst 1) (len := 1) rfl
theorem u_137_11 (P : PL) (st : List PV) (G : PW) : pm_dn pm_sM 137 11 P st G = pm_go pm_sM 137 G (pm_oSub 12 P st G) := pm_dn_eq (i := .isub) (len := 1) rfl
theorem u_137_12 (P : PL) (st : List PV) (G : PW) : pm_dn pm_sM 137 12 P st G = pm_go pm_sM 137 G (pm_oCs 109 3 3 15 P st G) := pm_dn_eq (i := .invokestatic 164) (len := 3) rfl
theorem u_137_15 (P : PL) (st : List PV) (G : PW) : pm_dn pm_sM 137 15 P st G = pm_go pm_sM 137 G (pm_oIf .ne (some 20) 18 P st G) := pm_dn_eq (i := .ifCond .ne 5) (len := 3) rfl
theorem u_137_18 (P : PL) (st : List PV) (G : PW) : pm_dn pm_sM 137 18 P st G = pm_go pm_sM 137 G (pm_oK (-1) 19 P st G) := pm_dn_eq (i := .iconst (-1)) (len := 1) rfl
theorem u_137_19 (P : PL) (st : List PV) (G : PW) : pm_dn pm_sM 137 19 P st G = pm_go pm_sM 137 G (pm_oRi 0 P st G) := pm_dn_eq (i := .ireturn) (len := 1) rfl
theorem u_137_20 (P : PL) (st : List PV) (G : PW) : pm_dn pm_sM 137 20 P st G = pm_go pm_sM 137 G (pm_oIL 2 21 P st G) := pm_dn_eq (i := .iload_n 2) (len := 1) rfl
theorem u_137_21 (P : PL) (st : List PV) (G : PW) : pm_dn pm_sM 137 21 P st G = pm_go pm_sM 137 G (pm_oK 0 22 P st G) := pm_dn_eq (i := .iconst 0) (len := 1) rfl
theorem u_137_22 (P : PL) (st : List PV) (G : PW) : pm_dn pm_sM 137 22 P st G = pm_go pm_sM 137 G (pm_oK 1 23 P st G) := pm_dn_eq (i := .iconst 1) (len := 1) rfl
theorem u_137_23 (P : PL) (st : List PV) (G : PW) : pm_dn pm_sM 137 23 P st G = pm_go pm_sM 137 G (pm_oCs 109 3 3 26 P st G) := pm_dn_eq (i := .invokestatic 164) (len := 3) rfl
theorem u_137_26 (P : PL) (st : List PV) (G : PW) : pm_dn pm_sM 137 26 P st G = pm_go pm_sM 137 G (pm_oIf .ne (some 32) 29 P st G) := pm_dn_eq (i := .ifCond .ne 6) (len := 3) rfl
theorem u_137_29 (P : PL) (st : List PV) (G : PW) : pm_dn pm_sM 137 29 P st G = pm_go pm_sM 137 G (pm_oK (-2) 31 P st G) := pm_dn_eq (i := .bipush (-2)) (len := 2) rfl
theorem u_137_31 (P : PL) (st : List PV) (G : PW) : pm_dn pm_sM 137 31 P st G = pm_go pm_sM 137 G (pm_oRi 0 P st G) := pm_dn_eq (i := .ireturn) (len := 1) rfl
theorem u_137_32 (P : PL) (st : List PV) (G : PW) : pm_dn pm_sM 137 32 P st G = pm_go pm_sM 137 G (pm_oAL 0 33 P st G) := pm_dn_eq (i := .aload_n 0) (len := 1) rfl
theorem u_137_33 (P : PL) (st : List PV) (G : PW) : pm_dn pm_sM 137 33 P st G = pm_go pm_sM 137 G (pm_oIL 1 34 P st G) := pm_dn_eq (i := .iload_n 1) (len := 1) rfl
theorem u_137_34 (P : PL) (st : List PV) (G : PW) : pm_dn pm_sM 137 34 P st G = pm_go pm_sM 137 G (pm_oCv pm_sM 127 1 2 6 37 P st G) := pm_dn_eq (i := .invokevirtual 174) (len := 3) rfl
theorem u_137_37 (P : PL) (st : List PV) (G : PW) : pm_dn pm_sM 137 37 P st G = pm_go pm_sM 137 G (pm_oIf .ne (some 43) 40 P st G) := pm_dn_eq (i := .ifCond .ne 6) (len := 3) rfl
theorem u_137_40 (P : PL) (st : List PV) (G : PW) : pm_dn pm_sM 137 40 P st G = pm_go pm_sM 137 G (pm_oK (-5) 42 P st G) := pm_dn_eq (i := .bipush (-5)) (len := 2) rfl
theorem u_137_42 (P : PL) (st : List PV) (G : PW) : pm_dn pm_sM 137 42 P st G = pm_go pm_sM 137 G (pm_oRi 0 P st G) := pm_dn_eq (i := .ireturn) (len := 1) rfl
theorem u_137_43 (P : PL) (st : List PV) (G : PW) : pm_dn pm_sM 137 43 P st G = pm_go pm_sM 137 G (pm_oAL 0 44 P st G) := pm_dn_eq (i := .aload_n 0) (len := 1) rfl
theorem u_137_44 (P : PL) (st : List PV) (G : PW) : pm_dn pm_sM 137 44 P st G = pm_go pm_sM 137 G (pm_oGf pm_sM 6 0 47 P st G) := pm_dn_eq (i := .getfield 7) (len := 3) rfl
theorem u_137_47 (P : PL) (st : List PV) (G : PW) : pm_dn pm_sM 137 47 P st G = pm_go pm_sM 137 G (pm_oK 19 49 P st G) := pm_dn_eq (i := .bipush 19) (len := 2) rfl
theorem u_137_49 (P : PL) (st : List PV) (G : PW) : pm_dn pm_sM 137 49 P st G = pm_go pm_sM 137 G (pm_oIL 1 50 P st G) := pm_dn_eq (i := .iload_n 1) (len := 1) rfl
theorem u_137_50 (P : PL) (st : List PV) (G : PW) : pm_dn pm_sM 137 50 P st G = pm_go pm_sM 137 G (pm_oAdd 51 P st G) := pm_dn_eq (i := .iadd) (len := 1) rfl
theorem u_137_51 (P : PL) (st : List PV) (G : PW) : pm_dn pm_sM 137 51 P st G = pm_go pm_sM 137 G (pm_oIL 2 52 P st G) := pm_dn_eq (i := .iload_n 2) (len := 1) rfl
theorem u_137_52 (P : PL) (st : List PV) (G : PW) : pm_dn pm_sM 137 52 P st G = pm_go pm_sM 137 G (pm_oAst pm_sM 0 53 P st G) := pm_dn_eq (i := .iastore) (len := 1) rfl
theorem u_137_53 (P : PL) (st : List PV) (G : PW) : pm_dn pm_sM 137 53 P st G = pm_go pm_sM 137 G (pm_oAL 0 54 P st G) := pm_dn_eq (i := .aload_n 0) (len := 1) rfl
theorem u_137_54 (P : PL) (st : List PV) (G : PW) : pm_dn pm_sM 137 54 P st G = pm_go pm_sM 137 G (pm_oIL 1 55 P st G) := pm_dn_eq (i := .iload_n 1) (len := 1) rfl
theorem u_137_55 (P : PL) (st : List PV) (G : PW) : pm_dn pm_sM 137 55 P st G = pm_go pm_sM 137 G (pm_oCv pm_sM 136 1 2 6 58 P st G) := pm_dn_eq (i := .invokevirtual 177) (len := 3) rfl
theorem u_137_58 (P : PL) (st : List PV) (G : PW) : pm_dn pm_sM 137 58 P st G = pm_go pm_sM 137 G (pm_oAL 0 59 P st G) := pm_dn_eq (i := .aload_n 0) (len := 1) rfl
theorem u_137_59 (P : PL) (st : List PV) (G : PW) : pm_dn pm_sM 137 59 P st G = pm_go pm_sM 137 G (pm_oGf pm_sM 6 20 62 P st G) := pm_dn_eq (i := .getfield 59) (len := 3) rfl
theorem u_137_62 (P : PL) (st : List PV) (G : PW) : pm_dn pm_sM 137 62 P st G = pm_go pm_sM 137 G (pm_oK 2 63 P st G) := pm_dn_eq (i := .iconst 2) (len := 1) rfl
theorem u_137_63 (P : PL) (st : List PV) (G : PW) : pm_dn pm_sM 137 63 P st G = pm_go pm_sM 137 G (pm_oIL 1 64 P st G) := pm_dn_eq (i := .iload_n 1) (len := 1) rfl
theorem u_137_64 (P : PL) (st : List PV) (G : PW) : pm_dn pm_sM 137 64 P st G = pm_go pm_sM 137 G (pm_oMul 65 P st G) := pm_dn_eq (i := .imul) (len := 1) rfl
theorem u_137_65 (P : PL) (st : List PV) (G : PW) : pm_dn pm_sM 137 65 P st G = pm_go pm_sM 137 G (pm_oIL 2 66 P st G) := pm_dn_eq (i := .iload_n 2) (len := 1) rfl
theorem u_137_66 (P : PL) (st : List PV) (G : PW) : pm_dn pm_sM 137 66 P st G = pm_go pm_sM 137 G (pm_oAdd 67 P st G) := pm_dn_eq (i := .iadd) (len := 1) rfl
theorem u_137_67 (P : PL) (st : List PV) (G : PW) : pm_dn pm_sM 137 67 P st G = pm_go pm_sM 137 G (pm_oAld pm_sM 0 68 P st G) := pm_dn_eq (i := .iaload) (len := 1) rfl
theorem u_137_68 (P : PL) (st : List PV) (G : PW) : pm_dn pm_sM 137 68 P st G = pm_go pm_sM 137 G (pm_oRi 0 P st G) := pm_dn_eq (i := .ireturn) (len := 1) rfl
theorem ue_138 (a0 : Nat) (a1 : Int) (G : PW) : pm_ca pm_sM 138 [.inr (.inr a0), .inl a1] G = pm_dn pm_sM 138 0 [some (.inr (.inr a0)), some (.inl a1), none] [] G := rfl
theorem u_138_0 (P : PL) (st : List PV) (G : PW) : pm_dn pm_sM 138 0 P st G = pm_go pm_sM 138 G (pm_oAL 0 1 P st G) := pm_dn_eq (i := .aload_n 0) (len := 1) rfl
theorem u_138_1 (P : PL) (st : List PV) (G : PW) : pm_dn pm_sM 138 1 P st G = pm_go pm_sM 138 G (pm_oIL 1 2 P st G) := pm_dn_eq (i := .iload_n 1) (len := 1) rfl
theorem u_138_2 (P : PL) (st : List PV) (G : PW) : pm_dn pm_sM 138 2 P st G = pm_go pm_sM 138 G (pm_oCv pm_sM 134 1 2 6 5 P st G) := pm_dn_eq (i := .invokevirtual 168) (len := 3) rfl
theorem u_138_5 (P : PL) (st : List PV) (G : PW) : pm_dn pm_sM 138 5 P st G = pm_go pm_sM 138 G (pm_oIf .ne (some 10) 8 P st G) := pm_dn_eq (i := .ifCond .ne 5) (len := 3) rfl
theorem u_138_8 (P : PL) (st : List PV) (G : PW) : pm_dn pm_sM 138 8 P st G = pm_go pm_sM 138 G (pm_oK (-1) 9 P st G) := pm_dn_eq (i := .iconst (-1)) (len := 1) rfl
theorem u_138_9 (P : PL) (st : List PV) (G : PW) : pm_dn pm_sM 138 9 P st G = pm_go pm_sM 138 G (pm_oRi 0 P st G) := pm_dn_eq (i := .ireturn) (len := 1) rfl
theorem u_138_10 (P : PL) (st : List PV) (G : PW) : pm_dn pm_sM 138 10 P st G = pm_go pm_sM 138 G (pm_oAL 0 11 P st G) := pm_dn_eq (i := .aload_n 0) (len := 1) rfl
theorem u_138_11 (P : PL) (st : List PV) (G : PW) : pm_dn pm_sM 138 11 P st G = pm_go pm_sM 138 G (pm_oCv pm_sM 124 0 1 6 14 P st G) := pm_dn_eq (i := .invokevirtual 171) (len := 3) rfl
theorem u_138_14 (P : PL) (st : List PV) (G : PW) : pm_dn pm_sM 138 14 P st G = pm_go pm_sM 138 G (pm_oAL 0 15 P st G) := pm_dn_eq (i := .aload_n 0) (len := 1) rfl
theorem u_138_15 (P : PL) (st : List PV) (G : PW) : pm_dn pm_sM 138 15 P st G = pm_go pm_sM 138 G (pm_oIL 1 16 P st G) := pm_dn_eq (i := .iload_n 1) (len := 1) rfl
theorem u_138_16 (P : PL) (st : List PV) (G : PW) : pm_dn pm_sM 138 16 P st G = pm_go pm_sM 138 G (pm_oCv pm_sM 119 1 2 6 19 P st G) := pm_dn_eq (i := .invokevirtual 120) (len := 3) rfl
theorem u_138_19 (P : PL) (st : List PV) (G : PW) : pm_dn pm_sM 138 19 P st G = pm_go pm_sM 138 G (pm_oIf .ne (some 30) 22 P st G) := pm_dn_eq (i := .ifCond .ne 11) (len := 3) rfl
theorem u_138_22 (P : PL) (st : List PV) (G : PW) : pm_dn pm_sM 138 22 P st G = pm_go pm_sM 138 G (pm_oAL 0 23 P st G) := pm_dn_eq (i := .aload_n 0) (len := 1) rfl
theorem u_138_23 (P : PL) (st : List PV) (G : PW) : pm_dn pm_sM 138 23 P st G = pm_go pm_sM 138 G (pm_oIL 1 24 P st G) := pm_dn_eq (i := .iload_n 1) (len := 1) rfl
theorem u_138_24 (P : PL) (st : List PV) (G : PW) : pm_dn pm_sM 138 24 P st G = pm_go pm_sM 138 G (pm_oCv pm_sM 131 1 2 6 27 P st G) := pm_dn_eq (i := .invokevirtual 180) (len := 3) rfl
theorem u_138_27 (P : PL) (st : List PV) (G : PW) : pm_dn pm_sM 138 27 P st G = pm_go pm_sM 138 G (pm_oIf .eq (some 33) 30 P st G) := pm_dn_eq (i := .ifCond .eq 6) (len := 3) rfl
theorem u_138_30 (P : PL) (st : List PV) (G : PW) : pm_dn pm_sM 138 30 P st G = pm_go pm_sM 138 G (pm_oK (-5) 32 P st G) := pm_dn_eq (i := .bipush (-5)) (len := 2) rfl
theorem u_138_32 (P : PL) (st : List PV) (G : PW) : pm_dn pm_sM 138 32 P st G = pm_go pm_sM 138 G (pm_oRi 0 P st G) := pm_dn_eq (i := .ireturn) (len := 1) rfl
theorem u_138_33 (P : PL) (st : List PV) (G : PW) : pm_dn pm_sM 138 33 P st G = pm_go pm_sM 138 G (pm_oAL 0 34 P st G) := pm_dn_eq (i := .aload_n 0) (len := 1) rfl
theorem u_138_34 (P : PL) (st : List PV) (G : PW) : pm_dn pm_sM 138 34 P st G = pm_go pm_sM 138 G (pm_oCv pm_sM 128 0 3 6 37 P st G) := pm_dn_eq (i := .invokevirtual 183) (len := 3) rfl
theorem u_138_37 (P : PL) (st : List PV) (G : PW) : pm_dn pm_sM 138 37 P st G = pm_go pm_sM 138 G (pm_oIS 2 38 P st G) := pm_dn_eq (i := .istore_n 2) (len := 1) rfl
theorem u_138_38 (P : PL) (st : List PV) (G : PW) : pm_dn pm_sM 138 38 P st G = pm_go pm_sM 138 G (pm_oAL 0 39 P st G) := pm_dn_eq (i := .aload_n 0) (len := 1) rfl
theorem u_138_39 (P : PL) (st : List PV) (G : PW) : pm_dn pm_sM 138 39 P st G = pm_go pm_sM 138 G (pm_oGf pm_sM 6 0 42 P st G) := pm_dn_eq (i := .getfield 7) (len := 3) rfl
theorem u_138_42 (P : PL) (st : List PV) (G : PW) : pm_dn pm_sM 138 42 P st G = pm_go pm_sM 138 G (pm_oK 50 44 P st G) := pm_dn_eq (i := .bipush 50) (len := 2) rfl
theorem u_138_44 (P : PL) (st : List PV) (G : PW) : pm_dn pm_sM 138 44 P st G = pm_go pm_sM 138 G (pm_oIL 1 45 P st G) := pm_dn_eq (i := .iload_n 1) (len := 1) rfl
theorem u_138_45 (P : PL) (st : List PV) (G : PW) : pm_dn pm_sM 138 45 P st G = pm_go pm_sM 138 G (pm_oAdd 46 P st G) := pm_dn_eq (i := .iadd) (len := 1) rfl
theorem u_138_46 (P : PL) (st : List PV) (G : PW) : pm_dn pm_sM 138 46 P st G = pm_go pm_sM 138 G (pm_oK 1 47 P st G) := pm_dn_eq (i := .iconst 1) (len := 1) rfl
theorem u_138_47 (P : PL) (st : List PV) (G : PW) : pm_dn pm_sM 138 47 P st G = pm_go pm_sM 138 G (pm_oAst pm_sM 0 48 P st G) := pm_dn_eq (i := .iastore) (len := 1) rfl
theorem u_138_48 (P : PL) (st : List PV) (G : PW) : pm_dn pm_sM 138 48 P st G = pm_go pm_sM 138 G (pm_oAL 0 49 P st G) := pm_dn_eq (i := .aload_n 0) (len := 1) rfl
theorem u_138_49 (P : PL) (st : List PV) (G : PW) : pm_dn pm_sM 138 49 P st G = pm_go pm_sM 138 G (pm_oK 100 51 P st G) := pm_dn_eq (i := .bipush 100) (len := 2) rfl
theorem u_138_51 (P : PL) (st : List PV) (G : PW) : pm_dn pm_sM 138 51 P st G = pm_go pm_sM 138 G (pm_oIL 1 52 P st G) := pm_dn_eq (i := .iload_n 1) (len := 1) rfl
theorem u_138_52 (P : PL) (st : List PV) (G : PW) : pm_dn pm_sM 138 52 P st G = pm_go pm_sM 138 G (pm_oAdd 53 P st G) := pm_dn_eq (i := .iadd) (len := 1) rfl
theorem u_138_53 (P : PL) (st : List PV) (G : PW) : pm_dn pm_sM 138 53 P st G = pm_go pm_sM 138 G (pm_oCv pm_sM 136 1 2 6 56 P st G) := pm_dn_eq (i := .invokevirtual 177) (len := 3) rfl
theorem u_138_56 (P : PL) (st : List PV) (G : PW) : pm_dn pm_sM 138 56 P st G = pm_go pm_sM 138 G (pm_oAL 0 57 P st G) := pm_dn_eq (i := .aload_n 0) (len := 1) rfl
theorem u_138_57 (P : PL) (st : List PV) (G : PW) : pm_dn pm_sM 138 57 P st G = pm_go pm_sM 138 G (pm_oCv pm_sM 124 0 1 6 60 P st G) := pm_dn_eq (i := .invokevirtual 171) (len := 3) rfl
theorem u_138_60 (P : PL) (st : List PV) (G : PW) : pm_dn pm_sM 138 60 P st G = pm_go pm_sM 138 G (pm_oAL 0 61 P st G) := pm_dn_eq (i := .aload_n 0) (len := 1) rfl
theorem u_138_61 (P : PL) (st : List PV) (G : PW) : pm_dn pm_sM 138 61 P st G = pm_go pm_sM 138 G (pm_oCv pm_sM 128 0 3 6 64 P st G) := pm_dn_eq (i := .invokevirtual 183) (len := 3) rfl
theorem u_138_64 (P : PL) (st : List PV) (G : PW) : pm_dn pm_sM 138 64 P st G = pm_go pm_sM 138 G (pm_oIL 2 65 P st G) := pm_dn_eq (i := .iload_n 2) (len := 1) rfl
theorem u_138_65 (P : PL) (st : List PV) (G : PW) : pm_dn pm_sM 138 65 P st G = pm_go pm_sM 138 G (pm_oSub 66 P st G) := pm_dn_eq (i := .isub) (len := 1) rfl
theorem u_138_66 (P : PL) (st : List PV) (G : PW) : pm_dn pm_sM 138 66 P st G = pm_go pm_sM 138 G (pm_oRi 0 P st G) := pm_dn_eq (i := .ireturn) (len := 1) rfl
theorem ue_139 (a0 : Nat) (a1 : Int) (a2 : Int) (G : PW) : pm_ca pm_sM 139 [.inr (.inr a0), .inl a1, .inl a2] G = pm_dn pm_sM 139 0 [some (.inr (.inr a0)), some (.inl a1), some (.inl a2)] [] G := rfl
theorem u_139_0 (P : PL) (st : List PV) (G : PW) : pm_dn pm_sM 139 0 P st G = pm_go pm_sM 139 G (pm_oAL 0 1 P st G) := pm_dn_eq (i := .aload_n 0) (len := 1) rfl
theorem u_139_1 (P : PL) (st : List PV) (G : PW) : pm_dn pm_sM 139 1 P st G = pm_go pm_sM 139 G (pm_oCv pm_sM 124 0 1 6 4 P st G) := pm_dn_eq (i := .invokevirtual 171) (len := 3) rfl
theorem u_139_4 (P : PL) (st : List PV) (G : PW) : pm_dn pm_sM 139 4 P st G = pm_go pm_sM 139 G (pm_oIL 1 5 P st G) := pm_dn_eq (i := .iload_n 1) (len := 1) rfl
theorem u_139_5 (P : PL) (st : List PV) (G : PW) : pm_dn pm_sM 139 5 P st G = pm_go pm_sM 139 G (pm_oK 0 6 P st G) := pm_dn_eq (i := .iconst 0) (len := 1) rfl
theorem u_139_6 (P : PL) (st : List PV) (G : PW) : pm_dn pm_sM 139 6 P st G = pm_go pm_sM 139 G (pm_oAL 0 7 P st G) := pm_dn_eq (i := .aload_n 0) (len := 1) rfl
theorem u_139_7 (P : PL) (st : List PV) (G : PW) : pm_dn pm_sM 139 7 P st G = pm_go pm_sM 139 G (pm_oGf pm_sM 6 7 10 P st G) := pm_dn_eq (i := .getfield 97) (len := 3) rfl
theorem u_139_10 (P : PL) (st : List PV) (G : PW) : pm_dn pm_sM 139 10 P st G = pm_go pm_sM 139 G (pm_oK 1 11 P st G) := pm_dn_eq (i := .iconst 1) (len := 1) rfl
theorem u_139_11 (P : PL) (st : List PV) (G : PW) : pm_dn pm_sM 139 11 P st G = pm_go pm_sM 139 G (pm_oSub 12 P st G) := pm_dn_eq (i := .isub) (len := 1) rfl
theorem u_139_12 (P : PL) (st : List PV) (G : PW) : pm_dn pm_sM 139 12 P st G = pm_go pm_sM 139 G (pm_oCs 109 3 3 15 P st G) := pm_dn_eq (i := .invokestatic 164) (len := 3) rfl
theorem u_139_15 (P : PL) (st : List PV) (G : PW) : pm_dn pm_sM 139 15 P st G = pm_go pm_sM 139 G (pm_oIf .ne (some 20) 18 P st G) := pm_dn_eq (i := .ifCond .ne 5) (len := 3) rfl
theorem u_139_18 (P : PL) (st : List PV) (G : PW) : pm_dn pm_sM 139 18 P st G = pm_go pm_sM 139 G (pm_oK (-1) 19 P st G) := pm_dn_eq (i := .iconst (-1)) (len := 1) rfl
theorem u_139_19 (P : PL) (st : List PV) (G : PW) : pm_dn pm_sM 139 19 P st G = pm_go pm_sM 139 G (pm_oRi 0 P st G) := pm_dn_eq (i := .ireturn) (len := 1) rfl
theorem u_139_20 (P : PL) (st : List PV) (G : PW) : pm_dn pm_sM 139 20 P st G = pm_go pm_sM 139 G (pm_oIL 2 21 P st G) := pm_dn_eq (i := .iload_n 2) (len := 1) rfl
theorem u_139_21 (P : PL) (st : List PV) (G : PW) : pm_dn pm_sM 139 21 P st G = pm_go pm_sM 139 G (pm_oSw 0 11 (some 165) (some [84, 84, 95, 102, 109, 116, 123, 130, 137, 144, 151, 158]) P st G) := pm_dn_eq (i := .tableswitch 144 0 11 #[63, 63, 74, 81, 88, 95, 102, 109, 116, 123, 130, 137]) (len := 63) rfl
theorem u_139_84 (P : PL) (st : List PV) (G : PW) : pm_dn pm_sM 139 84 P st G = pm_go pm_sM 139 G (pm_oAL 0 85 P st G) := pm_dn_eq (i := .aload_n 0) (len := 1) rfl
theorem u_139_85 (P : PL) (st : List PV) (G : PW) : pm_dn pm_sM 139 85 P st G = pm_go pm_sM 139 G (pm_oGf pm_sM 6 20 88 P st G) := pm_dn_eq (i := .getfield 59) (len := 3) rfl
theorem u_139_88 (P : PL) (st : List PV) (G : PW) : pm_dn pm_sM 139 88 P st G = pm_go pm_sM 139 G (pm_oK 2 89 P st G) := pm_dn_eq (i := .iconst 2) (len := 1) rfl
theorem u_139_89 (P : PL) (st : List PV) (G : PW) : pm_dn pm_sM 139 89 P st G = pm_go pm_sM 139 G (pm_oIL 1 90 P st G) := pm_dn_eq (i := .iload_n 1) (len := 1) rfl
theorem u_139_90 (P : PL) (st : List PV) (G : PW) : pm_dn pm_sM 139 90 P st G = pm_go pm_sM 139 G (pm_oMul 91 P st G) := pm_dn_eq (i := .imul) (len := 1) rfl
theorem u_139_91 (P : PL) (st : List PV) (G : PW) : pm_dn pm_sM 139 91 P st G = pm_go pm_sM 139 G (pm_oIL 2 92 P st G) := pm_dn_eq (i := .iload_n 2) (len := 1) rfl
theorem u_139_92 (P : PL) (st : List PV) (G : PW) : pm_dn pm_sM 139 92 P st G = pm_go pm_sM 139 G (pm_oAdd 93 P st G) := pm_dn_eq (i := .iadd) (len := 1) rfl
theorem u_139_93 (P : PL) (st : List PV) (G : PW) : pm_dn pm_sM 139 93 P st G = pm_go pm_sM 139 G (pm_oAld pm_sM 0 94 P st G) := pm_dn_eq (i := .iaload) (len := 1) rfl
theorem u_139_94 (P : PL) (st : List PV) (G : PW) : pm_dn pm_sM 139 94 P st G = pm_go pm_sM 139 G (pm_oRi 0 P st G) := pm_dn_eq (i := .ireturn) (len := 1) rfl
theorem u_139_95 (P : PL) (st : List PV) (G : PW) : pm_dn pm_sM 139 95 P st G = pm_go pm_sM 139 G (pm_oAL 0 96 P st G) := pm_dn_eq (i := .aload_n 0) (len := 1) rfl
theorem u_139_96 (P : PL) (st : List PV) (G : PW) : pm_dn pm_sM 139 96 P st G = pm_go pm_sM 139 G (pm_oGf pm_sM 6 21 99 P st G) := pm_dn_eq (i := .getfield 62) (len := 3) rfl
theorem u_139_99 (P : PL) (st : List PV) (G : PW) : pm_dn pm_sM 139 99 P st G = pm_go pm_sM 139 G (pm_oIL 1 100 P st G) := pm_dn_eq (i := .iload_n 1) (len := 1) rfl
theorem u_139_100 (P : PL) (st : List PV) (G : PW) : pm_dn pm_sM 139 100 P st G = pm_go pm_sM 139 G (pm_oAld pm_sM 0 101 P st G) := pm_dn_eq (i := .iaload) (len := 1) rfl
theorem u_139_101 (P : PL) (st : List PV) (G : PW) : pm_dn pm_sM 139 101 P st G = pm_go pm_sM 139 G (pm_oRi 0 P st G) := pm_dn_eq (i := .ireturn) (len := 1) rfl
theorem u_139_102 (P : PL) (st : List PV) (G : PW) : pm_dn pm_sM 139 102 P st G = pm_go pm_sM 139 G (pm_oAL 0 103 P st G) := pm_dn_eq (i := .aload_n 0) (len := 1) rfl
theorem u_139_103 (P : PL) (st : List PV) (G : PW) : pm_dn pm_sM 139 103 P st G = pm_go pm_sM 139 G (pm_oGf pm_sM 6 22 106 P st G) := pm_dn_eq (i := .getfield 65) (len := 3) rfl
theorem u_139_106 (P : PL) (st : List PV) (G : PW) : pm_dn pm_sM 139 106 P st G = pm_go pm_sM 139 G (pm_oIL 1 107 P st G) := pm_dn_eq (i := .iload_n 1) (len := 1) rfl
theorem u_139_107 (P : PL) (st : List PV) (G : PW) : pm_dn pm_sM 139 107 P st G = pm_go pm_sM 139 G (pm_oAld pm_sM 0 108 P st G) := pm_dn_eq (i := .iaload) (len := 1) rfl
theorem u_139_108 (P : PL) (st : List PV) (G : PW) : pm_dn pm_sM 139 108 P st G = pm_go pm_sM 139 G (pm_oRi 0 P st G) := pm_dn_eq (i := .ireturn) (len := 1) rfl
theorem u_139_109 (P : PL) (st : List PV) (G : PW) : pm_dn pm_sM 139 109 P st G = pm_go pm_sM 139 G (pm_oAL 0 110 P st G) := pm_dn_eq (i := .aload_n 0) (len := 1) rfl
theorem u_139_110 (P : PL) (st : List PV) (G : PW) : pm_dn pm_sM 139 110 P st G = pm_go pm_sM 139 G (pm_oGf pm_sM 6 23 113 P st G) := pm_dn_eq (i := .getfield 68) (len := 3) rfl
theorem u_139_113 (P : PL) (st : List PV) (G : PW) : pm_dn pm_sM 139 113 P st G = pm_go pm_sM 139 G (pm_oIL 1 114 P st G) := pm_dn_eq (i := .iload_n 1) (len := 1) rfl
theorem u_139_114 (P : PL) (st : List PV) (G : PW) : pm_dn pm_sM 139 114 P st G = pm_go pm_sM 139 G (pm_oAld pm_sM 0 115 P st G) := pm_dn_eq (i := .iaload) (len := 1) rfl
theorem u_139_115 (P : PL) (st : List PV) (G : PW) : pm_dn pm_sM 139 115 P st G = pm_go pm_sM 139 G (pm_oRi 0 P st G) := pm_dn_eq (i := .ireturn) (len := 1) rfl
theorem u_139_116 (P : PL) (st : List PV) (G : PW) : pm_dn pm_sM 139 116 P st G = pm_go pm_sM 139 G (pm_oAL 0 117 P st G) := pm_dn_eq (i := .aload_n 0) (len := 1) rfl
theorem u_139_117 (P : PL) (st : List PV) (G : PW) : pm_dn pm_sM 139 117 P st G = pm_go pm_sM 139 G (pm_oGf pm_sM 6 8 120 P st G) := pm_dn_eq (i := .getfield 23) (len := 3) rfl
theorem u_139_120 (P : PL) (st : List PV) (G : PW) : pm_dn pm_sM 139 120 P st G = pm_go pm_sM 139 G (pm_oIL 1 121 P st G) := pm_dn_eq (i := .iload_n 1) (len := 1) rfl
theorem u_139_121 (P : PL) (st : List PV) (G : PW) : pm_dn pm_sM 139 121 P st G = pm_go pm_sM 139 G (pm_oAld pm_sM 0 122 P st G) := pm_dn_eq (i := .iaload) (len := 1) rfl
theorem u_139_122 (P : PL) (st : List PV) (G : PW) : pm_dn pm_sM 139 122 P st G = pm_go pm_sM 139 G (pm_oRi 0 P st G) := pm_dn_eq (i := .ireturn) (len := 1) rfl
theorem u_139_123 (P : PL) (st : List PV) (G : PW) : pm_dn pm_sM 139 123 P st G = pm_go pm_sM 139 G (pm_oAL 0 124 P st G) := pm_dn_eq (i := .aload_n 0) (len := 1) rfl
theorem u_139_124 (P : PL) (st : List PV) (G : PW) : pm_dn pm_sM 139 124 P st G = pm_go pm_sM 139 G (pm_oGf pm_sM 6 9 127 P st G) := pm_dn_eq (i := .getfield 26) (len := 3) rfl
theorem u_139_127 (P : PL) (st : List PV) (G : PW) : pm_dn pm_sM 139 127 P st G = pm_go pm_sM 139 G (pm_oIL 1 128 P st G) := pm_dn_eq (i := .iload_n 1) (len := 1) rfl
theorem u_139_128 (P : PL) (st : List PV) (G : PW) : pm_dn pm_sM 139 128 P st G = pm_go pm_sM 139 G (pm_oAld pm_sM 0 129 P st G) := pm_dn_eq (i := .iaload) (len := 1) rfl
theorem u_139_129 (P : PL) (st : List PV) (G : PW) : pm_dn pm_sM 139 129 P st G = pm_go pm_sM 139 G (pm_oRi 0 P st G) := pm_dn_eq (i := .ireturn) (len := 1) rfl
theorem u_139_130 (P : PL) (st : List PV) (G : PW) : pm_dn pm_sM 139 130 P st G = pm_go pm_sM 139 G (pm_oAL 0 131 P st G) := pm_dn_eq (i := .aload_n 0) (len := 1) rfl
theorem u_139_131 (P : PL) (st : List PV) (G : PW) : pm_dn pm_sM 139 131 P st G = pm_go pm_sM 139 G (pm_oGf pm_sM 6 10 134 P st G) := pm_dn_eq (i := .getfield 29) (len := 3) rfl
theorem u_139_134 (P : PL) (st : List PV) (G : PW) : pm_dn pm_sM 139 134 P st G = pm_go pm_sM 139 G (pm_oIL 1 135 P st G) := pm_dn_eq (i := .iload_n 1) (len := 1) rfl
theorem u_139_135 (P : PL) (st : List PV) (G : PW) : pm_dn pm_sM 139 135 P st G = pm_go pm_sM 139 G (pm_oAld pm_sM 0 136 P st G) := pm_dn_eq (i := .iaload) (len := 1) rfl
theorem u_139_136 (P : PL) (st : List PV) (G : PW) : pm_dn pm_sM 139 136 P st G = pm_go pm_sM 139 G (pm_oRi 0 P st G) := pm_dn_eq (i := .ireturn) (len := 1) rfl
theorem u_139_137 (P : PL) (st : List PV) (G : PW) : pm_dn pm_sM 139 137 P st G = pm_go pm_sM 139 G (pm_oAL 0 138 P st G) := pm_dn_eq (i := .aload_n 0) (len := 1) rfl
theorem u_139_138 (P : PL) (st : List PV) (G : PW) : pm_dn pm_sM 139 138 P st G = pm_go pm_sM 139 G (pm_oGf pm_sM 6 11 141 P st G) := pm_dn_eq (i := .getfield 32) (len := 3) rfl
theorem u_139_141 (P : PL) (st : List PV) (G : PW) : pm_dn pm_sM 139 141 P st G = pm_go pm_sM 139 G (pm_oIL 1 142 P st G) := pm_dn_eq (i := .iload_n 1) (len := 1) rfl
theorem u_139_142 (P : PL) (st : List PV) (G : PW) : pm_dn pm_sM 139 142 P st G = pm_go pm_sM 139 G (pm_oAld pm_sM 0 143 P st G) := pm_dn_eq (i := .iaload) (len := 1) rfl
theorem u_139_143 (P : PL) (st : List PV) (G : PW) : pm_dn pm_sM 139 143 P st G = pm_go pm_sM 139 G (pm_oRi 0 P st G) := pm_dn_eq (i := .ireturn) (len := 1) rfl
theorem u_139_144 (P : PL) (st : List PV) (G : PW) : pm_dn pm_sM 139 144 P st G = pm_go pm_sM 139 G (pm_oAL 0 145 P st G) := pm_dn_eq (i := .aload_n 0) (len := 1) rfl
theorem u_139_145 (P : PL) (st : List PV) (G : PW) : pm_dn pm_sM 139 145 P st G = pm_go pm_sM 139 G (pm_oGf pm_sM 6 13 148 P st G) := pm_dn_eq (i := .getfield 38) (len := 3) rfl
theorem u_139_148 (P : PL) (st : List PV) (G : PW) : pm_dn pm_sM 139 148 P st G = pm_go pm_sM 139 G (pm_oIL 1 149 P st G) := pm_dn_eq (i := .iload_n 1) (len := 1) rfl
theorem u_139_149 (P : PL) (st : List PV) (G : PW) : pm_dn pm_sM 139 149 P st G = pm_go pm_sM 139 G (pm_oAld pm_sM 0 150 P st G) := pm_dn_eq (i := .iaload) (len := 1) rfl
theorem u_139_150 (P : PL) (st : List PV) (G : PW) : pm_dn pm_sM 139 150 P st G = pm_go pm_sM 139 G (pm_oRi 0 P st G) := pm_dn_eq (i := .ireturn) (len := 1) rfl
theorem u_139_151 (P : PL) (st : List PV) (G : PW) : pm_dn pm_sM 139 151 P st G = pm_go pm_sM 139 G (pm_oAL 0 152 P st G) := pm_dn_eq (i := .aload_n 0) (len := 1) rfl
theorem u_139_152 (P : PL) (st : List PV) (G : PW) : pm_dn pm_sM 139 152 P st G = pm_go pm_sM 139 G (pm_oGf pm_sM 6 12 155 P st G) := pm_dn_eq (i := .getfield 35) (len := 3) rfl
theorem u_139_155 (P : PL) (st : List PV) (G : PW) : pm_dn pm_sM 139 155 P st G = pm_go pm_sM 139 G (pm_oIL 1 156 P st G) := pm_dn_eq (i := .iload_n 1) (len := 1) rfl
theorem u_139_156 (P : PL) (st : List PV) (G : PW) : pm_dn pm_sM 139 156 P st G = pm_go pm_sM 139 G (pm_oAld pm_sM 0 157 P st G) := pm_dn_eq (i := .iaload) (len := 1) rfl
theorem u_139_157 (P : PL) (st : List PV) (G : PW) : pm_dn pm_sM 139 157 P st G = pm_go pm_sM 139 G (pm_oRi 0 P st G) := pm_dn_eq (i := .ireturn) (len := 1) rfl
theorem u_139_158 (P : PL) (st : List PV) (G : PW) : pm_dn pm_sM 139 158 P st G = pm_go pm_sM 139 G (pm_oAL 0 159 P st G) := pm_dn_eq (i := .aload_n 0) (len := 1) rfl
theorem u_139_159 (P : PL) (st : List PV) (G : PW) : pm_dn pm_sM 139 159 P st G = pm_go pm_sM 139 G (pm_oGf pm_sM 6 14 162 P st G) := pm_dn_eq (i := .getfield 41) (len := 3) rfl
theorem u_139_162 (P : PL) (st : List PV) (G : PW) : pm_dn pm_sM 139 162 P st G = pm_go pm_sM 139 G (pm_oIL 1 163 P st G) := pm_dn_eq (i := .iload_n 1) (len := 1) rfl
theorem u_139_163 (P : PL) (st : List PV) (G : PW) : pm_dn pm_sM 139 163 P st G = pm_go pm_sM 139 G (pm_oAld pm_sM 0 164 P st G) := pm_dn_eq (i := .iaload) (len := 1) rfl
theorem u_139_164 (P : PL) (st : List PV) (G : PW) : pm_dn pm_sM 139 164 P st G = pm_go pm_sM 139 G (pm_oRi 0 P st G) := pm_dn_eq (i := .ireturn) (len := 1) rfl
theorem u_139_165 (P : PL) (st : List PV) (G : PW) : pm_dn pm_sM 139 165 P st G = pm_go pm_sM 139 G (pm_oK (-2) 167 P st G) := pm_dn_eq (i := .bipush (-2)) (len := 2) rfl
theorem u_139_167 (P : PL) (st : List PV) (G : PW) : pm_dn pm_sM 139 167 P st G = pm_go pm_sM 139 G (pm_oRi 0 P st G) := pm_dn_eq (i := .ireturn) (len := 1) rfl
