/-! printed by gen09.py: what each instruction does, pc by pc -/
theorem ue_83 (a0 : Nat) (a1 : Int) (a2 : Int) (a3 : Int) (G : PW) : pm_ca pm_sC 83 [.inr (.inr a0), .inl a1, .inl a2, .inl a3] G = pm_dn pm_sC 83 0 [some (.inr (.inr a0)), some (.inl a1), some (.inl a2), some (.inl a3), none] [] G := rfl
theorem u_83_0 (P : PL) (st : List PV) (G : PW) : pm_dn pm_sC 83 0 P st G = pm_go pm_sC 83 G (pm_oK 0 1 P st G) := pm_dn_eq (i := .iconst 0) (len := 1) rfl
theorem u_83_1 (P : PL) (st : List PV) (G : PW) : pm_dn pm_sC 83 1 P st G = pm_go pm_sC 83 G (pm_oIS 4 3 P st G) := pm_dn_eq (i := .istore 4) (len := 2) rfl
theorem u_83_3 (P : PL) (st : List PV) (G : PW) : pm_dn pm_sC 83 3 P st G = pm_go pm_sC 83 G (pm_oIL 4 5 P st G) := pm_dn_eq (i := .iload 4) (len := 2) rfl
theorem u_83_5 (P : PL) (st : List PV) (G : PW) : pm_dn pm_sC 83 5 P st G = pm_go pm_sC 83 G (pm_oAL 0 6 P st G) := pm_dn_eq (i := .aload_n 0) (len := 1) rfl
theorem u_83_6 (P : PL) (st : List PV) (G : PW) : pm_dn pm_sC 83 6 P st G = pm_go pm_sC 83 G (pm_oK 2 7 P st G) := pm_dn_eq (i := .iconst 2) (len := 1) rfl
theorem u_83_7 (P : PL) (st : List PV) (G : PW) : pm_dn pm_sC 83 7 P st G = pm_go pm_sC 83 G (pm_oCv pm_sC 60 1 2 5 10 P st G) := pm_dn_eq (i := .invokevirtual 8) (len := 3) rfl
theorem u_83_10 (P : PL) (st : List PV) (G : PW) : pm_dn pm_sC 83 10 P st G = pm_go pm_sC 83 G (pm_oIc .ge (some 57) 13 P st G) := pm_dn_eq (i := .if_icmp .ge 47) (len := 3) rfl
theorem u_83_13 (P : PL) (st : List PV) (G : PW) : pm_dn pm_sC 83 13 P st G = pm_go pm_sC 83 G (pm_oAL 0 14 P st G) := pm_dn_eq (i := .aload_n 0) (len := 1) rfl
theorem u_83_14 (P : PL) (st : List PV) (G : PW) : pm_dn pm_sC 83 14 P st G = pm_go pm_sC 83 G (pm_oIL 4 16 P st G) := pm_dn_eq (i := .iload 4) (len := 2) rfl
theorem u_83_16 (P : PL) (st : List PV) (G : PW) : pm_dn pm_sC 83 16 P st G = pm_go pm_sC 83 G (pm_oK 5 17 P st G) := pm_dn_eq (i := .iconst 5) (len := 1) rfl
theorem u_83_17 (P : PL) (st : List PV) (G : PW) : pm_dn pm_sC 83 17 P st G = pm_go pm_sC 83 G (pm_oCv pm_sC 57 2 4 5 20 P st G) := pm_dn_eq (i := .invokevirtual 14) (len := 3) rfl
theorem u_83_20 (P : PL) (st : List PV) (G : PW) : pm_dn pm_sC 83 20 P st G = pm_go pm_sC 83 G (pm_oIL 1 21 P st G) := pm_dn_eq (i := .iload_n 1) (len := 1) rfl
theorem u_83_21 (P : PL) (st : List PV) (G : PW) : pm_dn pm_sC 83 21 P st G = pm_go pm_sC 83 G (pm_oIc .ne (some 51) 24 P st G) := pm_dn_eq (i := .if_icmp .ne 30) (len := 3) rfl
theorem u_83_24 (P : PL) (st : List PV) (G : PW) : pm_dn pm_sC 83 24 P st G = pm_go pm_sC 83 G (pm_oAL 0 25 P st G) := pm_dn_eq (i := .aload_n 0) (len := 1) rfl
theorem u_83_25 (P : PL) (st : List PV) (G : PW) : pm_dn pm_sC 83 25 P st G = pm_go pm_sC 83 G (pm_oIL 4 27 P st G) := pm_dn_eq (i := .iload 4) (len := 2) rfl
theorem u_83_27 (P : PL) (st : List PV) (G : PW) : pm_dn pm_sC 83 27 P st G = pm_go pm_sC 83 G (pm_oK 6 29 P st G) := pm_dn_eq (i := .bipush 6) (len := 2) rfl
theorem u_83_29 (P : PL) (st : List PV) (G : PW) : pm_dn pm_sC 83 29 P st G = pm_go pm_sC 83 G (pm_oCv pm_sC 57 2 4 5 32 P st G) := pm_dn_eq (i := .invokevirtual 14) (len := 3) rfl
theorem u_83_32 (P : PL) (st : List PV) (G : PW) : pm_dn pm_sC 83 32 P st G = pm_go pm_sC 83 G (pm_oIL 2 33 P st G) := pm_dn_eq (i := .iload_n 2) (len := 1) rfl
theorem u_83_33 (P : PL) (st : List PV) (G : PW) : pm_dn pm_sC 83 33 P st G = pm_go pm_sC 83 G (pm_oIc .ne (some 51) 36 P st G) := pm_dn_eq (i := .if_icmp .ne 18) (len := 3) rfl
theorem u_83_36 (P : PL) (st : List PV) (G : PW) : pm_dn pm_sC 83 36 P st G = pm_go pm_sC 83 G (pm_oAL 0 37 P st G) := pm_dn_eq (i := .aload_n 0) (len := 1) rfl
theorem u_83_37 (P : PL) (st : List PV) (G : PW) : pm_dn pm_sC 83 37 P st G = pm_go pm_sC 83 G (pm_oIL 4 39 P st G) := pm_dn_eq (i := .iload 4) (len := 2) rfl
theorem u_83_39 (P : PL) (st : List PV) (G : PW) : pm_dn pm_sC 83 39 P st G = pm_go pm_sC 83 G (pm_oK 7 41 P st G) := pm_dn_eq (i := .bipush 7) (len := 2) rfl
theorem u_83_41 (P : PL) (st : List PV) (G : PW) : pm_dn pm_sC 83 41 P st G = pm_go pm_sC 83 G (pm_oCv pm_sC 57 2 4 5 44 P st G) := pm_dn_eq (i := .invokevirtual 14) (len := 3) rfl
theorem u_83_44 (P : PL) (st : List PV) (G : PW) : pm_dn pm_sC 83 44 P st G = pm_go pm_sC 83 G (pm_oIL 3 45 P st G) := pm_dn_eq (i := .iload_n 3) (len := 1) rfl
theorem u_83_45 (P : PL) (st : List PV) (G : PW) : pm_dn pm_sC 83 45 P st G = pm_go pm_sC 83 G (pm_oIc .ne (some 51) 48 P st G) := pm_dn_eq (i := .if_icmp .ne 6) (len := 3) rfl
theorem u_83_48 (P : PL) (st : List PV) (G : PW) : pm_dn pm_sC 83 48 P st G = pm_go pm_sC 83 G (pm_oIL 4 50 P st G) := pm_dn_eq (i := .iload 4) (len := 2) rfl
theorem u_83_50 (P : PL) (st : List PV) (G : PW) : pm_dn pm_sC 83 50 P st G = pm_go pm_sC 83 G (pm_oRi 0 P st G) := pm_dn_eq (i := .ireturn) (len := 1) rfl
theorem u_83_51 (P : PL) (st : List PV) (G : PW) : pm_dn pm_sC 83 51 P st G = pm_go pm_sC 83 G (pm_oInc 4 1 54 P st G) := pm_dn_eq (i := .iinc 4 1) (len := 3) rfl
theorem u_83_54 (P : PL) (st : List PV) (G : PW) : pm_dn pm_sC 83 54 P st G = pm_go pm_sC 83 G (pm_oGo (some 3) P st G) := pm_dn_eq (i := .goto (-51)) (len := 3) rfl
theorem u_83_57 (P : PL) (st : List PV) (G : PW) : pm_dn pm_sC 83 57 P st G = pm_go pm_sC 83 G (pm_oK (-1) 58 P st G) := pm_dn_eq (i := .iconst (-1)) (len := 1) rfl
theorem u_83_58 (P : PL) (st : List PV) (G : PW) : pm_dn pm_sC 83 58 P st G = pm_go pm_sC 83 G (pm_oRi 0 P st G) := pm_dn_eq (i := .ireturn) (len := 1) rfl
theorem ue_84 (a0 : Nat) (a1 : Int) (a2 : Int) (G : PW) : pm_ca pm_sC 84 [.inr (.inr a0), .inl a1, .inl a2] G = pm_dn pm_sC 84 0 [some (.inr (.inr a0)), some (.inl a1), some (.inl a2), none, none, none, none, none, none, none, none] [] G := rfl
theorem u_84_0 (P : PL) (st : List PV) (G : PW) : pm_dn pm_sC 84 0 P st G = pm_go pm_sC 84 G (pm_oIL 1 1 P st G) := pm_dn_eq (i := .iload_n 1) (len := 1) rfl
theorem u_84_1 (P : PL) (st : List PV) (G : PW) : pm_dn pm_sC 84 1 P st G = pm_go pm_sC 84 G (pm_oK 8 3 P st G) := pm_dn_eq (i := .bipush 8) (len := 2) rfl
theorem u_84_3 (P : PL) (st : List PV) (G : PW) : pm_dn pm_sC 84 3 P st G = pm_go pm_sC 84 G (pm_oIc .le (some 11) 6 P st G) := pm_dn_eq (i := .if_icmp .le 8) (len := 3) rfl
theorem u_84_6 (P : PL) (st : List PV) (G : PW) : pm_dn pm_sC 84 6 P st G = pm_go pm_sC 84 G (pm_oK 16 8 P st G) := pm_dn_eq (i := .bipush 16) (len := 2) rfl
theorem u_84_8 (P : PL) (st : List PV) (G : PW) : pm_dn pm_sC 84 8 P st G = pm_go pm_sC 84 G (pm_oGo (some 22) P st G) := pm_dn_eq (i := .goto 14) (len := 3) rfl
theorem u_84_11 (P : PL) (st : List PV) (G : PW) : pm_dn pm_sC 84 11 P st G = pm_go pm_sC 84 G (pm_oIL 1 12 P st G) := pm_dn_eq (i := .iload_n 1) (len := 1) rfl
theorem u_84_12 (P : PL) (st : List PV) (G : PW) : pm_dn pm_sC 84 12 P st G = pm_go pm_sC 84 G (pm_oK 4 13 P st G) := pm_dn_eq (i := .iconst 4) (len := 1) rfl
theorem u_84_13 (P : PL) (st : List PV) (G : PW) : pm_dn pm_sC 84 13 P st G = pm_go pm_sC 84 G (pm_oIc .le (some 21) 16 P st G) := pm_dn_eq (i := .if_icmp .le 8) (len := 3) rfl
theorem u_84_16 (P : PL) (st : List PV) (G : PW) : pm_dn pm_sC 84 16 P st G = pm_go pm_sC 84 G (pm_oK 8 18 P st G) := pm_dn_eq (i := .bipush 8) (len := 2) rfl
theorem u_84_18 (P : PL) (st : List PV) (G : PW) : pm_dn pm_sC 84 18 P st G = pm_go pm_sC 84 G (pm_oGo (some 22) P st G) := pm_dn_eq (i := .goto 4) (len := 3) rfl
theorem u_84_21 (P : PL) (st : List PV) (G : PW) : pm_dn pm_sC 84 21 P st G = pm_go pm_sC 84 G (pm_oK 4 22 P st G) := pm_dn_eq (i := .iconst 4) (len := 1) rfl
theorem u_84_22 (P : PL) (st : List PV) (G : PW) : pm_dn pm_sC 84 22 P st G = pm_go pm_sC 84 G (pm_oIS 3 23 P st G) := pm_dn_eq (i := .istore_n 3) (len := 1) rfl
theorem u_84_23 (P : PL) (st : List PV) (G : PW) : pm_dn pm_sC 84 23 P st G = pm_go pm_sC 84 G (pm_oIL 1 24 P st G) := pm_dn_eq (i := .iload_n 1) (len := 1) rfl
theorem u_84_24 (P : PL) (st : List PV) (G : PW) : pm_dn pm_sC 84 24 P st G = pm_go pm_sC 84 G (pm_oK 8 26 P st G) := pm_dn_eq (i := .bipush 8) (len := 2) rfl
theorem u_84_26 (P : PL) (st : List PV) (G : PW) : pm_dn pm_sC 84 26 P st G = pm_go pm_sC 84 G (pm_oIc .le (some 33) 29 P st G) := pm_dn_eq (i := .if_icmp .le 7) (len := 3) rfl
theorem u_84_29 (P : PL) (st : List PV) (G : PW) : pm_dn pm_sC 84 29 P st G = pm_go pm_sC 84 G (pm_oK 4 30 P st G) := pm_dn_eq (i := .iconst 4) (len := 1) rfl
theorem u_84_30 (P : PL) (st : List PV) (G : PW) : pm_dn pm_sC 84 30 P st G = pm_go pm_sC 84 G (pm_oGo (some 43) P st G) := pm_dn_eq (i := .goto 13) (len := 3) rfl
theorem u_84_33 (P : PL) (st : List PV) (G : PW) : pm_dn pm_sC 84 33 P st G = pm_go pm_sC 84 G (pm_oIL 1 34 P st G) := pm_dn_eq (i := .iload_n 1) (len := 1) rfl
theorem u_84_34 (P : PL) (st : List PV) (G : PW) : pm_dn pm_sC 84 34 P st G = pm_go pm_sC 84 G (pm_oK 4 35 P st G) := pm_dn_eq (i := .iconst 4) (len := 1) rfl
theorem u_84_35 (P : PL) (st : List PV) (G : PW) : pm_dn pm_sC 84 35 P st G = pm_go pm_sC 84 G (pm_oIc .le (some 42) 38 P st G) := pm_dn_eq (i := .if_icmp .le 7) (len := 3) rfl
theorem u_84_38 (P : PL) (st : List PV) (G : PW) : pm_dn pm_sC 84 38 P st G = pm_go pm_sC 84 G (pm_oK 3 39 P st G) := pm_dn_eq (i := .iconst 3) (len := 1) rfl
theorem u_84_39 (P : PL) (st : List PV) (G : PW) : pm_dn pm_sC 84 39 P st G = pm_go pm_sC 84 G (pm_oGo (some 43) P st G) := pm_dn_eq (i := .goto 4) (len := 3) rfl
theorem u_84_42 (P : PL) (st : List PV) (G : PW) : pm_dn pm_sC 84 42 P st G = pm_go pm_sC 84 G (pm_oK 2 43 P st G) := pm_dn_eq (i := .iconst 2) (len := 1) rfl
theorem u_84_43 (P : PL) (st : List PV) (G : PW) : pm_dn pm_sC 84 43 P st G = pm_go pm_sC 84 G (pm_oIS 4 45 P st G) := pm_dn_eq (i := .istore 4) (len := 2) rfl
theorem u_84_45 (P : PL) (st : List PV) (G : PW) : pm_dn pm_sC 84 45 P st G = pm_go pm_sC 84 G (pm_oAL 0 46 P st G) := pm_dn_eq (i := .aload_n 0) (len := 1) rfl
theorem u_84_46 (P : PL) (st : List PV) (G : PW) : pm_dn pm_sC 84 46 P st G = pm_go pm_sC 84 G (pm_oK 1 47 P st G) := pm_dn_eq (i := .iconst 1) (len := 1) rfl
theorem u_84_47 (P : PL) (st : List PV) (G : PW) : pm_dn pm_sC 84 47 P st G = pm_go pm_sC 84 G (pm_oCv pm_sC 60 1 2 5 50 P st G) := pm_dn_eq (i := .invokevirtual 8) (len := 3) rfl
theorem u_84_50 (P : PL) (st : List PV) (G : PW) : pm_dn pm_sC 84 50 P st G = pm_go pm_sC 84 G (pm_oIL 3 51 P st G) := pm_dn_eq (i := .iload_n 3) (len := 1) rfl
theorem u_84_51 (P : PL) (st : List PV) (G : PW) : pm_dn pm_sC 84 51 P st G = pm_go pm_sC 84 G (pm_oIc .ne (some 67) 54 P st G) := pm_dn_eq (i := .if_icmp .ne 16) (len := 3) rfl
theorem u_84_54 (P : PL) (st : List PV) (G : PW) : pm_dn pm_sC 84 54 P st G = pm_go pm_sC 84 G (pm_oAL 0 55 P st G) := pm_dn_eq (i := .aload_n 0) (len := 1) rfl
theorem u_84_55 (P : PL) (st : List PV) (G : PW) : pm_dn pm_sC 84 55 P st G = pm_go pm_sC 84 G (pm_oK 2 56 P st G) := pm_dn_eq (i := .iconst 2) (len := 1) rfl
theorem u_84_56 (P : PL) (st : List PV) (G : PW) : pm_dn pm_sC 84 56 P st G = pm_go pm_sC 84 G (pm_oCv pm_sC 60 1 2 5 59 P st G) := pm_dn_eq (i := .invokevirtual 8) (len := 3) rfl
theorem u_84_59 (P : PL) (st : List PV) (G : PW) : pm_dn pm_sC 84 59 P st G = pm_go pm_sC 84 G (pm_oK 2 60 P st G) := pm_dn_eq (i := .iconst 2) (len := 1) rfl
theorem u_84_60 (P : PL) (st : List PV) (G : PW) : pm_dn pm_sC 84 60 P st G = pm_go pm_sC 84 G (pm_oIL 3 61 P st G) := pm_dn_eq (i := .iload_n 3) (len := 1) rfl
theorem u_84_61 (P : PL) (st : List PV) (G : PW) : pm_dn pm_sC 84 61 P st G = pm_go pm_sC 84 G (pm_oMul 62 P st G) := pm_dn_eq (i := .imul) (len := 1) rfl
theorem u_84_62 (P : PL) (st : List PV) (G : PW) : pm_dn pm_sC 84 62 P st G = pm_go pm_sC 84 G (pm_oK 1 63 P st G) := pm_dn_eq (i := .iconst 1) (len := 1) rfl
theorem u_84_63 (P : PL) (st : List PV) (G : PW) : pm_dn pm_sC 84 63 P st G = pm_go pm_sC 84 G (pm_oSub 64 P st G) := pm_dn_eq (i := .isub) (len := 1) rfl
theorem u_84_64 (P : PL) (st : List PV) (G : PW) : pm_dn pm_sC 84 64 P st G = pm_go pm_sC 84 G (pm_oIc .eq (some 69) 67 P st G) := pm_dn_eq (i := .if_icmp .eq 5) (len := 3) rfl
theorem u_84_67 (P : PL) (st : List PV) (G : PW) : pm_dn pm_sC 84 67 P st G = pm_go pm_sC 84 G (pm_oK 0 68 P st G) := pm_dn_eq (i := .iconst 0) (len := 1) rfl
theorem u_84_68 (P : PL) (st : List PV) (G : PW) : pm_dn pm_sC 84 68 P st G = pm_go pm_sC 84 G (pm_oRi 2 P st G) := pm_dn_eq (i := .ireturn) (len := 1) rfl
theorem u_84_69 (P : PL) (st : List PV) (G : PW) : pm_dn pm_sC 84 69 P st G = pm_go pm_sC 84 G (pm_oK 0 70 P st G) := pm_dn_eq (i := .iconst 0) (len := 1) rfl
theorem u_84_70 (P : PL) (st : List PV) (G : PW) : pm_dn pm_sC 84 70 P st G = pm_go pm_sC 84 G (pm_oIS 5 72 P st G) := pm_dn_eq (i := .istore 5) (len := 2) rfl
theorem u_84_72 (P : PL) (st : List PV) (G : PW) : pm_dn pm_sC 84 72 P st G = pm_go pm_sC 84 G (pm_oK 1 73 P st G) := pm_dn_eq (i := .iconst 1) (len := 1) rfl
theorem u_84_73 (P : PL) (st : List PV) (G : PW) : pm_dn pm_sC 84 73 P st G = pm_go pm_sC 84 G (pm_oIS 6 75 P st G) := pm_dn_eq (i := .istore 6) (len := 2) rfl
theorem u_84_75 (P : PL) (st : List PV) (G : PW) : pm_dn pm_sC 84 75 P st G = pm_go pm_sC 84 G (pm_oIL 6 77 P st G) := pm_dn_eq (i := .iload 6) (len := 2) rfl
theorem u_84_77 (P : PL) (st : List PV) (G : PW) : pm_dn pm_sC 84 77 P st G = pm_go pm_sC 84 G (pm_oIL 4 79 P st G) := pm_dn_eq (i := .iload 4) (len := 2) rfl
theorem u_84_79 (P : PL) (st : List PV) (G : PW) : pm_dn pm_sC 84 79 P st G = pm_go pm_sC 84 G (pm_oIc .gt (some 302) 82 P st G) := pm_dn_eq (i := .if_icmp .gt 223) (len := 3) rfl
theorem u_84_82 (P : PL) (st : List PV) (G : PW) : pm_dn pm_sC 84 82 P st G = pm_go pm_sC 84 G (pm_oIL 3 83 P st G) := pm_dn_eq (i := .iload_n 3) (len := 1) rfl
theorem u_84_83 (P : PL) (st : List PV) (G : PW) : pm_dn pm_sC 84 83 P st G = pm_go pm_sC 84 G (pm_oIL 6 85 P st G) := pm_dn_eq (i := .iload 6) (len := 2) rfl
theorem u_84_85 (P : PL) (st : List PV) (G : PW) : pm_dn pm_sC 84 85 P st G = pm_go pm_sC 84 G (pm_oShr 86 P st G) := pm_dn_eq (i := .ishr) (len := 1) rfl
theorem u_84_86 (P : PL) (st : List PV) (G : PW) : pm_dn pm_sC 84 86 P st G = pm_go pm_sC 84 G (pm_oIS 7 88 P st G) := pm_dn_eq (i := .istore 7) (len := 2) rfl
theorem u_84_88 (P : PL) (st : List PV) (G : PW) : pm_dn pm_sC 84 88 P st G = pm_go pm_sC 84 G (pm_oK 0 89 P st G) := pm_dn_eq (i := .iconst 0) (len := 1) rfl
theorem u_84_89 (P : PL) (st : List PV) (G : PW) : pm_dn pm_sC 84 89 P st G = pm_go pm_sC 84 G (pm_oIS 8 91 P st G) := pm_dn_eq (i := .istore 8) (len := 2) rfl
theorem u_84_91 (P : PL) (st : List PV) (G : PW) : pm_dn pm_sC 84 91 P st G = pm_go pm_sC 84 G (pm_oIL 8 93 P st G) := pm_dn_eq (i := .iload 8) (len := 2) rfl
theorem u_84_93 (P : PL) (st : List PV) (G : PW) : pm_dn pm_sC 84 93 P st G = pm_go pm_sC 84 G (pm_oIL 7 95 P st G) := pm_dn_eq (i := .iload 7) (len := 2) rfl
theorem u_84_95 (P : PL) (st : List PV) (G : PW) : pm_dn pm_sC 84 95 P st G = pm_go pm_sC 84 G (pm_oIc .ge (some 296) 98 P st G) := pm_dn_eq (i := .if_icmp .ge 201) (len := 3) rfl
theorem u_84_98 (P : PL) (st : List PV) (G : PW) : pm_dn pm_sC 84 98 P st G = pm_go pm_sC 84 G (pm_oIL 6 100 P st G) := pm_dn_eq (i := .iload 6) (len := 2) rfl
theorem u_84_100 (P : PL) (st : List PV) (G : PW) : pm_dn pm_sC 84 100 P st G = pm_go pm_sC 84 G (pm_oIL 4 102 P st G) := pm_dn_eq (i := .iload 4) (len := 2) rfl
theorem u_84_102 (P : PL) (st : List PV) (G : PW) : pm_dn pm_sC 84 102 P st G = pm_go pm_sC 84 G (pm_oIc .ne (some 109) 105 P st G) := pm_dn_eq (i := .if_icmp .ne 7) (len := 3) rfl
theorem u_84_105 (P : PL) (st : List PV) (G : PW) : pm_dn pm_sC 84 105 P st G = pm_go pm_sC 84 G (pm_oK 1 106 P st G) := pm_dn_eq (i := .iconst 1) (len := 1) rfl
theorem u_84_106 (P : PL) (st : List PV) (G : PW) : pm_dn pm_sC 84 106 P st G = pm_go pm_sC 84 G (pm_oGo (some 110) P st G) := pm_dn_eq (i := .goto 4) (len := 3) rfl
theorem u_84_109 (P : PL) (st : List PV) (G : PW) : pm_dn pm_sC 84 109 P st G = pm_go pm_sC 84 G (pm_oK 0 110 P st G) := pm_dn_eq (i := .iconst 0) (len := 1) rfl
theorem u_84_110 (P : PL) (st : List PV) (G : PW) : pm_dn pm_sC 84 110 P st G = pm_go pm_sC 84 G (pm_oIS 9 112 P st G) := pm_dn_eq (i := .istore 9) (len := 2) rfl
theorem u_84_112 (P : PL) (st : List PV) (G : PW) : pm_dn pm_sC 84 112 P st G = pm_go pm_sC 84 G (pm_oIL 6 114 P st G) := pm_dn_eq (i := .iload 6) (len := 2) rfl
theorem u_84_114 (P : PL) (st : List PV) (G : PW) : pm_dn pm_sC 84 114 P st G = pm_go pm_sC 84 G (pm_oK 1 115 P st G) := pm_dn_eq (i := .iconst 1) (len := 1) rfl
theorem u_84_115 (P : PL) (st : List PV) (G : PW) : pm_dn pm_sC 84 115 P st G = pm_go pm_sC 84 G (pm_oIc .ne (some 125) 118 P st G) := pm_dn_eq (i := .if_icmp .ne 10) (len := 3) rfl
theorem u_84_118 (P : PL) (st : List PV) (G : PW) : pm_dn pm_sC 84 118 P st G = pm_go pm_sC 84 G (pm_oIL 8 120 P st G) := pm_dn_eq (i := .iload 8) (len := 2) rfl
theorem u_84_120 (P : PL) (st : List PV) (G : PW) : pm_dn pm_sC 84 120 P st G = pm_go pm_sC 84 G (pm_oK 2 121 P st G) := pm_dn_eq (i := .iconst 2) (len := 1) rfl
theorem u_84_121 (P : PL) (st : List PV) (G : PW) : pm_dn pm_sC 84 121 P st G = pm_go pm_sC 84 G (pm_oDiv 122 P st G) := pm_dn_eq (i := .idiv) (len := 1) rfl
theorem u_84_122 (P : PL) (st : List PV) (G : PW) : pm_dn pm_sC 84 122 P st G = pm_go pm_sC 84 G (pm_oGo (some 149) P st G) := pm_dn_eq (i := .goto 27) (len := 3) rfl
theorem u_84_125 (P : PL) (st : List PV) (G : PW) : pm_dn pm_sC 84 125 P st G = pm_go pm_sC 84 G (pm_oIL 2 126 P st G) := pm_dn_eq (i := .iload_n 2) (len := 1) rfl
theorem u_84_126 (P : PL) (st : List PV) (G : PW) : pm_dn pm_sC 84 126 P st G = pm_go pm_sC 84 G (pm_oK 1 127 P st G) := pm_dn_eq (i := .iconst 1) (len := 1) rfl
theorem u_84_127 (P : PL) (st : List PV) (G : PW) : pm_dn pm_sC 84 127 P st G = pm_go pm_sC 84 G (pm_oIc .ne (some 147) 130 P st G) := pm_dn_eq (i := .if_icmp .ne 20) (len := 3) rfl
theorem u_84_130 (P : PL) (st : List PV) (G : PW) : pm_dn pm_sC 84 130 P st G = pm_go pm_sC 84 G (pm_oIL 6 132 P st G) := pm_dn_eq (i := .iload 6) (len := 2) rfl
theorem u_84_132 (P : PL) (st : List PV) (G : PW) : pm_dn pm_sC 84 132 P st G = pm_go pm_sC 84 G (pm_oK 2 133 P st G) := pm_dn_eq (i := .iconst 2) (len := 1) rfl
theorem u_84_133 (P : PL) (st : List PV) (G : PW) : pm_dn pm_sC 84 133 P st G = pm_go pm_sC 84 G (pm_oRem 134 P st G) := pm_dn_eq (i := .irem) (len := 1) rfl
theorem u_84_134 (P : PL) (st : List PV) (G : PW) : pm_dn pm_sC 84 134 P st G = pm_go pm_sC 84 G (pm_oIf .ne (some 147) 137 P st G) := pm_dn_eq (i := .ifCond .ne 13) (len := 3) rfl
theorem u_84_137 (P : PL) (st : List PV) (G : PW) : pm_dn pm_sC 84 137 P st G = pm_go pm_sC 84 G (pm_oIL 7 139 P st G) := pm_dn_eq (i := .iload 7) (len := 2) rfl
theorem u_84_139 (P : PL) (st : List PV) (G : PW) : pm_dn pm_sC 84 139 P st G = pm_go pm_sC 84 G (pm_oK 1 140 P st G) := pm_dn_eq (i := .iconst 1) (len := 1) rfl
theorem u_84_140 (P : PL) (st : List PV) (G : PW) : pm_dn pm_sC 84 140 P st G = pm_go pm_sC 84 G (pm_oSub 141 P st G) := pm_dn_eq (i := .isub) (len := 1) rfl
theorem u_84_141 (P : PL) (st : List PV) (G : PW) : pm_dn pm_sC 84 141 P st G = pm_go pm_sC 84 G (pm_oIL 8 143 P st G) := pm_dn_eq (i := .iload 8) (len := 2) rfl
theorem u_84_143 (P : PL) (st : List PV) (G : PW) : pm_dn pm_sC 84 143 P st G = pm_go pm_sC 84 G (pm_oSub 144 P st G) := pm_dn_eq (i := .isub) (len := 1) rfl
theorem u_84_144 (P : PL) (st : List PV) (G : PW) : pm_dn pm_sC 84 144 P st G = pm_go pm_sC 84 G (pm_oGo (some 149) P st G) := pm_dn_eq (i := .goto 5) (len := 3) rfl
theorem u_84_147 (P : PL) (st : List PV) (G : PW) : pm_dn pm_sC 84 147 P st G = pm_go pm_sC 84 G (pm_oIL 8 149 P st G) := pm_dn_eq (i := .iload 8) (len := 2) rfl
theorem u_84_149 (P : PL) (st : List PV) (G : PW) : pm_dn pm_sC 84 149 P st G = pm_go pm_sC 84 G (pm_oIS 10 151 P st G) := pm_dn_eq (i := .istore 10) (len := 2) rfl
theorem u_84_151 (P : PL) (st : List PV) (G : PW) : pm_dn pm_sC 84 151 P st G = pm_go pm_sC 84 G (pm_oAL 0 152 P st G) := pm_dn_eq (i := .aload_n 0) (len := 1) rfl
theorem u_84_152 (P : PL) (st : List PV) (G : PW) : pm_dn pm_sC 84 152 P st G = pm_go pm_sC 84 G (pm_oK 0 153 P st G) := pm_dn_eq (i := .iconst 0) (len := 1) rfl
theorem u_84_153 (P : PL) (st : List PV) (G : PW) : pm_dn pm_sC 84 153 P st G = pm_go pm_sC 84 G (pm_oIL 6 155 P st G) := pm_dn_eq (i := .iload 6) (len := 2) rfl
theorem u_84_155 (P : PL) (st : List PV) (G : PW) : pm_dn pm_sC 84 155 P st G = pm_go pm_sC 84 G (pm_oIL 8 157 P st G) := pm_dn_eq (i := .iload 8) (len := 2) rfl
theorem u_84_157 (P : PL) (st : List PV) (G : PW) : pm_dn pm_sC 84 157 P st G = pm_go pm_sC 84 G (pm_oCs 83 4 5 160 P st G) := pm_dn_eq (i := .invokestatic 18) (len := 3) rfl
theorem u_84_160 (P : PL) (st : List PV) (G : PW) : pm_dn pm_sC 84 160 P st G = pm_go pm_sC 84 G (pm_oIL 5 162 P st G) := pm_dn_eq (i := .iload 5) (len := 2) rfl
theorem u_84_162 (P : PL) (st : List PV) (G : PW) : pm_dn pm_sC 84 162 P st G = pm_go pm_sC 84 G (pm_oIc .ne (some 285) 165 P st G) := pm_dn_eq (i := .if_icmp .ne 123) (len := 3) rfl
theorem u_84_165 (P : PL) (st : List PV) (G : PW) : pm_dn pm_sC 84 165 P st G = pm_go pm_sC 84 G (pm_oAL 0 166 P st G) := pm_dn_eq (i := .aload_n 0) (len := 1) rfl
theorem u_84_166 (P : PL) (st : List PV) (G : PW) : pm_dn pm_sC 84 166 P st G = pm_go pm_sC 84 G (pm_oIL 5 168 P st G) := pm_dn_eq (i := .iload 5) (len := 2) rfl
theorem u_84_168 (P : PL) (st : List PV) (G : PW) : pm_dn pm_sC 84 168 P st G = pm_go pm_sC 84 G (pm_oK 8 170 P st G) := pm_dn_eq (i := .bipush 8) (len := 2) rfl
theorem u_84_170 (P : PL) (st : List PV) (G : PW) : pm_dn pm_sC 84 170 P st G = pm_go pm_sC 84 G (pm_oCv pm_sC 57 2 4 5 173 P st G) := pm_dn_eq (i := .invokevirtual 14) (len := 3) rfl
theorem u_84_173 (P : PL) (st : List PV) (G : PW) : pm_dn pm_sC 84 173 P st G = pm_go pm_sC 84 G (pm_oIL 9 175 P st G) := pm_dn_eq (i := .iload 9) (len := 2) rfl
theorem u_84_175 (P : PL) (st : List PV) (G : PW) : pm_dn pm_sC 84 175 P st G = pm_go pm_sC 84 G (pm_oIf .eq (some 186) 178 P st G) := pm_dn_eq (i := .ifCond .eq 11) (len := 3) rfl
theorem u_84_178 (P : PL) (st : List PV) (G : PW) : pm_dn pm_sC 84 178 P st G = pm_go pm_sC 84 G (pm_oK 2 179 P st G) := pm_dn_eq (i := .iconst 2) (len := 1) rfl
theorem u_84_179 (P : PL) (st : List PV) (G : PW) : pm_dn pm_sC 84 179 P st G = pm_go pm_sC 84 G (pm_oIL 3 180 P st G) := pm_dn_eq (i := .iload_n 3) (len := 1) rfl
theorem u_84_180 (P : PL) (st : List PV) (G : PW) : pm_dn pm_sC 84 180 P st G = pm_go pm_sC 84 G (pm_oMul 181 P st G) := pm_dn_eq (i := .imul) (len := 1) rfl
theorem u_84_181 (P : PL) (st : List PV) (G : PW) : pm_dn pm_sC 84 181 P st G = pm_go pm_sC 84 G (pm_oK 3 182 P st G) := pm_dn_eq (i := .iconst 3) (len := 1) rfl
theorem u_84_182 (P : PL) (st : List PV) (G : PW) : pm_dn pm_sC 84 182 P st G = pm_go pm_sC 84 G (pm_oSub 183 P st G) := pm_dn_eq (i := .isub) (len := 1) rfl
theorem u_84_183 (P : PL) (st : List PV) (G : PW) : pm_dn pm_sC 84 183 P st G = pm_go pm_sC 84 G (pm_oGo (some 199) P st G) := pm_dn_eq (i := .goto 16) (len := 3) rfl
theorem u_84_186 (P : PL) (st : List PV) (G : PW) : pm_dn pm_sC 84 186 P st G = pm_go pm_sC 84 G (pm_oAL 0 187 P st G) := pm_dn_eq (i := .aload_n 0) (len := 1) rfl
theorem u_84_187 (P : PL) (st : List PV) (G : PW) : pm_dn pm_sC 84 187 P st G = pm_go pm_sC 84 G (pm_oK 0 188 P st G) := pm_dn_eq (i := .iconst 0) (len := 1) rfl
theorem u_84_188 (P : PL) (st : List PV) (G : PW) : pm_dn pm_sC 84 188 P st G = pm_go pm_sC 84 G (pm_oIL 6 190 P st G) := pm_dn_eq (i := .iload 6) (len := 2) rfl
theorem u_84_190 (P : PL) (st : List PV) (G : PW) : pm_dn pm_sC 84 190 P st G = pm_go pm_sC 84 G (pm_oK 1 191 P st G) := pm_dn_eq (i := .iconst 1) (len := 1) rfl
theorem u_84_191 (P : PL) (st : List PV) (G : PW) : pm_dn pm_sC 84 191 P st G = pm_go pm_sC 84 G (pm_oAdd 192 P st G) := pm_dn_eq (i := .iadd) (len := 1) rfl
theorem u_84_192 (P : PL) (st : List PV) (G : PW) : pm_dn pm_sC 84 192 P st G = pm_go pm_sC 84 G (pm_oIL 8 194 P st G) := pm_dn_eq (i := .iload 8) (len := 2) rfl
theorem u_84_194 (P : PL) (st : List PV) (G : PW) : pm_dn pm_sC 84 194 P st G = pm_go pm_sC 84 G (pm_oK 2 195 P st G) := pm_dn_eq (i := .iconst 2) (len := 1) rfl
theorem u_84_195 (P : PL) (st : List PV) (G : PW) : pm_dn pm_sC 84 195 P st G = pm_go pm_sC 84 G (pm_oDiv 196 P st G) := pm_dn_eq (i := .idiv) (len := 1) rfl
theorem u_84_196 (P : PL) (st : List PV) (G : PW) : pm_dn pm_sC 84 196 P st G = pm_go pm_sC 84 G (pm_oCs 83 4 5 199 P st G) := pm_dn_eq (i := .invokestatic 18) (len := 3) rfl
theorem u_84_199 (P : PL) (st : List PV) (G : PW) : pm_dn pm_sC 84 199 P st G = pm_go pm_sC 84 G (pm_oIc .ne (some 285) 202 P st G) := pm_dn_eq (i := .if_icmp .ne 86) (len := 3) rfl
theorem u_84_202 (P : PL) (st : List PV) (G : PW) : pm_dn pm_sC 84 202 P st G = pm_go pm_sC 84 G (pm_oAL 0 203 P st G) := pm_dn_eq (i := .aload_n 0) (len := 1) rfl
theorem u_84_203 (P : PL) (st : List PV) (G : PW) : pm_dn pm_sC 84 203 P st G = pm_go pm_sC 84 G (pm_oIL 5 205 P st G) := pm_dn_eq (i := .iload 5) (len := 2) rfl
theorem u_84_205 (P : PL) (st : List PV) (G : PW) : pm_dn pm_sC 84 205 P st G = pm_go pm_sC 84 G (pm_oK 10 207 P st G) := pm_dn_eq (i := .bipush 10) (len := 2) rfl
theorem u_84_207 (P : PL) (st : List PV) (G : PW) : pm_dn pm_sC 84 207 P st G = pm_go pm_sC 84 G (pm_oCv pm_sC 57 2 4 5 210 P st G) := pm_dn_eq (i := .invokevirtual 14) (len := 3) rfl
theorem u_84_210 (P : PL) (st : List PV) (G : PW) : pm_dn pm_sC 84 210 P st G = pm_go pm_sC 84 G (pm_oIL 9 212 P st G) := pm_dn_eq (i := .iload 9) (len := 2) rfl
theorem u_84_212 (P : PL) (st : List PV) (G : PW) : pm_dn pm_sC 84 212 P st G = pm_go pm_sC 84 G (pm_oIf .eq (some 219) 215 P st G) := pm_dn_eq (i := .ifCond .eq 7) (len := 3) rfl
theorem u_84_215 (P : PL) (st : List PV) (G : PW) : pm_dn pm_sC 84 215 P st G = pm_go pm_sC 84 G (pm_oK 0 216 P st G) := pm_dn_eq (i := .iconst 0) (len := 1) rfl
theorem u_84_216 (P : PL) (st : List PV) (G : PW) : pm_dn pm_sC 84 216 P st G = pm_go pm_sC 84 G (pm_oGo (some 223) P st G) := pm_dn_eq (i := .goto 7) (len := 3) rfl
theorem u_84_219 (P : PL) (st : List PV) (G : PW) : pm_dn pm_sC 84 219 P st G = pm_go pm_sC 84 G (pm_oIL 8 221 P st G) := pm_dn_eq (i := .iload 8) (len := 2) rfl
theorem u_84_221 (P : PL) (st : List PV) (G : PW) : pm_dn pm_sC 84 221 P st G = pm_go pm_sC 84 G (pm_oK 2 222 P st G) := pm_dn_eq (i := .iconst 2) (len := 1) rfl
theorem u_84_222 (P : PL) (st : List PV) (G : PW) : pm_dn pm_sC 84 222 P st G = pm_go pm_sC 84 G (pm_oRem 223 P st G) := pm_dn_eq (i := .irem) (len := 1) rfl
theorem u_84_223 (P : PL) (st : List PV) (G : PW) : pm_dn pm_sC 84 223 P st G = pm_go pm_sC 84 G (pm_oIc .ne (some 285) 226 P st G) := pm_dn_eq (i := .if_icmp .ne 62) (len := 3) rfl
theorem u_84_226 (P : PL) (st : List PV) (G : PW) : pm_dn pm_sC 84 226 P st G = pm_go pm_sC 84 G (pm_oAL 0 227 P st G) := pm_dn_eq (i := .aload_n 0) (len := 1) rfl
theorem u_84_227 (P : PL) (st : List PV) (G : PW) : pm_dn pm_sC 84 227 P st G = pm_go pm_sC 84 G (pm_oIL 5 229 P st G) := pm_dn_eq (i := .iload 5) (len := 2) rfl
theorem u_84_229 (P : PL) (st : List PV) (G : PW) : pm_dn pm_sC 84 229 P st G = pm_go pm_sC 84 G (pm_oK 9 231 P st G) := pm_dn_eq (i := .bipush 9) (len := 2) rfl
theorem u_84_231 (P : PL) (st : List PV) (G : PW) : pm_dn pm_sC 84 231 P st G = pm_go pm_sC 84 G (pm_oCv pm_sC 57 2 4 5 234 P st G) := pm_dn_eq (i := .invokevirtual 14) (len := 3) rfl
theorem u_84_234 (P : PL) (st : List PV) (G : PW) : pm_dn pm_sC 84 234 P st G = pm_go pm_sC 84 G (pm_oAL 0 235 P st G) := pm_dn_eq (i := .aload_n 0) (len := 1) rfl
theorem u_84_235 (P : PL) (st : List PV) (G : PW) : pm_dn pm_sC 84 235 P st G = pm_go pm_sC 84 G (pm_oK 1 236 P st G) := pm_dn_eq (i := .iconst 1) (len := 1) rfl
theorem u_84_236 (P : PL) (st : List PV) (G : PW) : pm_dn pm_sC 84 236 P st G = pm_go pm_sC 84 G (pm_oIL 6 238 P st G) := pm_dn_eq (i := .iload 6) (len := 2) rfl
theorem u_84_238 (P : PL) (st : List PV) (G : PW) : pm_dn pm_sC 84 238 P st G = pm_go pm_sC 84 G (pm_oK 1 239 P st G) := pm_dn_eq (i := .iconst 1) (len := 1) rfl
theorem u_84_239 (P : PL) (st : List PV) (G : PW) : pm_dn pm_sC 84 239 P st G = pm_go pm_sC 84 G (pm_oIc .ne (some 246) 242 P st G) := pm_dn_eq (i := .if_icmp .ne 7) (len := 3) rfl
theorem u_84_242 (P : PL) (st : List PV) (G : PW) : pm_dn pm_sC 84 242 P st G = pm_go pm_sC 84 G (pm_oK 1 243 P st G) := pm_dn_eq (i := .iconst 1) (len := 1) rfl
theorem u_84_243 (P : PL) (st : List PV) (G : PW) : pm_dn pm_sC 84 243 P st G = pm_go pm_sC 84 G (pm_oGo (some 252) P st G) := pm_dn_eq (i := .goto 9) (len := 3) rfl
theorem u_84_246 (P : PL) (st : List PV) (G : PW) : pm_dn pm_sC 84 246 P st G = pm_go pm_sC 84 G (pm_oK 2 247 P st G) := pm_dn_eq (i := .iconst 2) (len := 1) rfl
theorem u_84_247 (P : PL) (st : List PV) (G : PW) : pm_dn pm_sC 84 247 P st G = pm_go pm_sC 84 G (pm_oIL 6 249 P st G) := pm_dn_eq (i := .iload 6) (len := 2) rfl
theorem u_84_249 (P : PL) (st : List PV) (G : PW) : pm_dn pm_sC 84 249 P st G = pm_go pm_sC 84 G (pm_oMul 250 P st G) := pm_dn_eq (i := .imul) (len := 1) rfl
theorem u_84_250 (P : PL) (st : List PV) (G : PW) : pm_dn pm_sC 84 250 P st G = pm_go pm_sC 84 G (pm_oK 2 251 P st G) := pm_dn_eq (i := .iconst 2) (len := 1) rfl
theorem u_84_251 (P : PL) (st : List PV) (G : PW) : pm_dn pm_sC 84 251 P st G = pm_go pm_sC 84 G (pm_oSub 252 P st G) := pm_dn_eq (i := .isub) (len := 1) rfl
theorem u_84_252 (P : PL) (st : List PV) (G : PW) : pm_dn pm_sC 84 252 P st G = pm_go pm_sC 84 G (pm_oIL 10 254 P st G) := pm_dn_eq (i := .iload 10) (len := 2) rfl
theorem u_84_254 (P : PL) (st : List PV) (G : PW) : pm_dn pm_sC 84 254 P st G = pm_go pm_sC 84 G (pm_oCs 83 4 5 257 P st G) := pm_dn_eq (i := .invokestatic 18) (len := 3) rfl
theorem u_84_257 (P : PL) (st : List PV) (G : PW) : pm_dn pm_sC 84 257 P st G = pm_go pm_sC 84 G (pm_oIc .ne (some 285) 260 P st G) := pm_dn_eq (i := .if_icmp .ne 28) (len := 3) rfl
theorem u_84_260 (P : PL) (st : List PV) (G : PW) : pm_dn pm_sC 84 260 P st G = pm_go pm_sC 84 G (pm_oAL 0 261 P st G) := pm_dn_eq (i := .aload_n 0) (len := 1) rfl
theorem u_84_261 (P : PL) (st : List PV) (G : PW) : pm_dn pm_sC 84 261 P st G = pm_go pm_sC 84 G (pm_oIL 5 263 P st G) := pm_dn_eq (i := .iload 5) (len := 2) rfl
theorem u_84_263 (P : PL) (st : List PV) (G : PW) : pm_dn pm_sC 84 263 P st G = pm_go pm_sC 84 G (pm_oK 11 265 P st G) := pm_dn_eq (i := .bipush 11) (len := 2) rfl
theorem u_84_265 (P : PL) (st : List PV) (G : PW) : pm_dn pm_sC 84 265 P st G = pm_go pm_sC 84 G (pm_oCv pm_sC 57 2 4 5 268 P st G) := pm_dn_eq (i := .invokevirtual 14) (len := 3) rfl
theorem u_84_268 (P : PL) (st : List PV) (G : PW) : pm_dn pm_sC 84 268 P st G = pm_go pm_sC 84 G (pm_oIL 6 270 P st G) := pm_dn_eq (i := .iload 6) (len := 2) rfl
theorem u_84_270 (P : PL) (st : List PV) (G : PW) : pm_dn pm_sC 84 270 P st G = pm_go pm_sC 84 G (pm_oK 1 271 P st G) := pm_dn_eq (i := .iconst 1) (len := 1) rfl
theorem u_84_271 (P : PL) (st : List PV) (G : PW) : pm_dn pm_sC 84 271 P st G = pm_go pm_sC 84 G (pm_oIc .ne (some 281) 274 P st G) := pm_dn_eq (i := .if_icmp .ne 10) (len := 3) rfl
theorem u_84_274 (P : PL) (st : List PV) (G : PW) : pm_dn pm_sC 84 274 P st G = pm_go pm_sC 84 G (pm_oIL 8 276 P st G) := pm_dn_eq (i := .iload 8) (len := 2) rfl
theorem u_84_276 (P : PL) (st : List PV) (G : PW) : pm_dn pm_sC 84 276 P st G = pm_go pm_sC 84 G (pm_oK 2 277 P st G) := pm_dn_eq (i := .iconst 2) (len := 1) rfl
theorem u_84_277 (P : PL) (st : List PV) (G : PW) : pm_dn pm_sC 84 277 P st G = pm_go pm_sC 84 G (pm_oRem 278 P st G) := pm_dn_eq (i := .irem) (len := 1) rfl
theorem u_84_278 (P : PL) (st : List PV) (G : PW) : pm_dn pm_sC 84 278 P st G = pm_go pm_sC 84 G (pm_oGo (some 282) P st G) := pm_dn_eq (i := .goto 4) (len := 3) rfl
theorem u_84_281 (P : PL) (st : List PV) (G : PW) : pm_dn pm_sC 84 281 P st G = pm_go pm_sC 84 G (pm_oK 1 282 P st G) := pm_dn_eq (i := .iconst 1) (len := 1) rfl
theorem u_84_282 (P : PL) (st : List PV) (G : PW) : pm_dn pm_sC 84 282 P st G = pm_go pm_sC 84 G (pm_oIc .eq (some 287) 285 P st G) := pm_dn_eq (i := .if_icmp .eq 5) (len := 3) rfl
theorem u_84_285 (P : PL) (st : List PV) (G : PW) : pm_dn pm_sC 84 285 P st G = pm_go pm_sC 84 G (pm_oK 0 286 P st G) := pm_dn_eq (i := .iconst 0) (len := 1) rfl
theorem u_84_286 (P : PL) (st : List PV) (G : PW) : pm_dn pm_sC 84 286 P st G = pm_go pm_sC 84 G (pm_oRi 2 P st G) := pm_dn_eq (i := .ireturn) (len := 1) rfl
theorem u_84_287 (P : PL) (st : List PV) (G : PW) : pm_dn pm_sC 84 287 P st G = pm_go pm_sC 84 G (pm_oInc 5 1 290 P st G) := pm_dn_eq (i := .iinc 5 1) (len := 3) rfl
theorem u_84_290 (P : PL) (st : List PV) (G : PW) : pm_dn pm_sC 84 290 P st G = pm_go pm_sC 84 G (pm_oInc 8 1 293 P st G) := pm_dn_eq (i := .iinc 8 1) (len := 3) rfl
theorem u_84_293 (P : PL) (st : List PV) (G : PW) : pm_dn pm_sC 84 293 P st G = pm_go pm_sC 84 G (pm_oGo (some 91) P st G) := pm_dn_eq (i := .goto (-202)) (len := 3) rfl
theorem u_84_296 (P : PL) (st : List PV) (G : PW) : pm_dn pm_sC 84 296 P st G = pm_go pm_sC 84 G (pm_oInc 6 1 299 P st G) := pm_dn_eq (i := .iinc 6 1) (len := 3) rfl
theorem u_84_299 (P : PL) (st : List PV) (G : PW) : pm_dn pm_sC 84 299 P st G = pm_go pm_sC 84 G (pm_oGo (some 75) P st G) := pm_dn_eq (i := .goto (-224)) (len := 3) rfl
theorem u_84_302 (P : PL) (st : List PV) (G : PW) : pm_dn pm_sC 84 302 P st G = pm_go pm_sC 84 G (pm_oK 1 303 P st G) := pm_dn_eq (i := .iconst 1) (len := 1) rfl
theorem u_84_303 (P : PL) (st : List PV) (G : PW) : pm_dn pm_sC 84 303 P st G = pm_go pm_sC 84 G (pm_oIS 6 305 P st G) := pm_dn_eq (i := .istore 6) (len := 2) rfl
theorem u_84_305 (P : PL) (st : List PV) (G : PW) : pm_dn pm_sC 84 305 P st G = pm_go pm_sC 84 G (pm_oIL 6 307 P st G) := pm_dn_eq (i := .iload 6) (len := 2) rfl
theorem u_84_307 (P : PL) (st : List PV) (G : PW) : pm_dn pm_sC 84 307 P st G = pm_go pm_sC 84 G (pm_oK 2 308 P st G) := pm_dn_eq (i := .iconst 2) (len := 1) rfl
theorem u_84_308 (P : PL) (st : List PV) (G : PW) : pm_dn pm_sC 84 308 P st G = pm_go pm_sC 84 G (pm_oIL 4 310 P st G) := pm_dn_eq (i := .iload 4) (len := 2) rfl
theorem u_84_310 (P : PL) (st : List PV) (G : PW) : pm_dn pm_sC 84 310 P st G = pm_go pm_sC 84 G (pm_oMul 311 P st G) := pm_dn_eq (i := .imul) (len := 1) rfl
theorem u_84_311 (P : PL) (st : List PV) (G : PW) : pm_dn pm_sC 84 311 P st G = pm_go pm_sC 84 G (pm_oK 2 312 P st G) := pm_dn_eq (i := .iconst 2) (len := 1) rfl
theorem u_84_312 (P : PL) (st : List PV) (G : PW) : pm_dn pm_sC 84 312 P st G = pm_go pm_sC 84 G (pm_oSub 313 P st G) := pm_dn_eq (i := .isub) (len := 1) rfl
theorem u_84_313 (P : PL) (st : List PV) (G : PW) : pm_dn pm_sC 84 313 P st G = pm_go pm_sC 84 G (pm_oIc .gt (some 490) 316 P st G) := pm_dn_eq (i := .if_icmp .gt 177) (len := 3) rfl
theorem u_84_316 (P : PL) (st : List PV) (G : PW) : pm_dn pm_sC 84 316 P st G = pm_go pm_sC 84 G (pm_oIL 3 317 P st G) := pm_dn_eq (i := .iload_n 3) (len := 1) rfl
theorem u_84_317 (P : PL) (st : List PV) (G : PW) : pm_dn pm_sC 84 317 P st G = pm_go pm_sC 84 G (pm_oIL 6 319 P st G) := pm_dn_eq (i := .iload 6) (len := 2) rfl
theorem u_84_319 (P : PL) (st : List PV) (G : PW) : pm_dn pm_sC 84 319 P st G = pm_go pm_sC 84 G (pm_oK 1 320 P st G) := pm_dn_eq (i := .iconst 1) (len := 1) rfl
theorem u_84_320 (P : PL) (st : List PV) (G : PW) : pm_dn pm_sC 84 320 P st G = pm_go pm_sC 84 G (pm_oAdd 321 P st G) := pm_dn_eq (i := .iadd) (len := 1) rfl
theorem u_84_321 (P : PL) (st : List PV) (G : PW) : pm_dn pm_sC 84 321 P st G = pm_go pm_sC 84 G (pm_oK 2 322 P st G) := pm_dn_eq (i := .iconst 2) (len := 1) rfl
theorem u_84_322 (P : PL) (st : List PV) (G : PW) : pm_dn pm_sC 84 322 P st G = pm_go pm_sC 84 G (pm_oDiv 323 P st G) := pm_dn_eq (i := .idiv) (len := 1) rfl
theorem u_84_323 (P : PL) (st : List PV) (G : PW) : pm_dn pm_sC 84 323 P st G = pm_go pm_sC 84 G (pm_oK 1 324 P st G) := pm_dn_eq (i := .iconst 1) (len := 1) rfl
theorem u_84_324 (P : PL) (st : List PV) (G : PW) : pm_dn pm_sC 84 324 P st G = pm_go pm_sC 84 G (pm_oAdd 325 P st G) := pm_dn_eq (i := .iadd) (len := 1) rfl
theorem u_84_325 (P : PL) (st : List PV) (G : PW) : pm_dn pm_sC 84 325 P st G = pm_go pm_sC 84 G (pm_oShr 326 P st G) := pm_dn_eq (i := .ishr) (len := 1) rfl
theorem u_84_326 (P : PL) (st : List PV) (G : PW) : pm_dn pm_sC 84 326 P st G = pm_go pm_sC 84 G (pm_oIS 7 328 P st G) := pm_dn_eq (i := .istore 7) (len := 2) rfl
theorem u_84_328 (P : PL) (st : List PV) (G : PW) : pm_dn pm_sC 84 328 P st G = pm_go pm_sC 84 G (pm_oK 0 329 P st G) := pm_dn_eq (i := .iconst 0) (len := 1) rfl
theorem u_84_329 (P : PL) (st : List PV) (G : PW) : pm_dn pm_sC 84 329 P st G = pm_go pm_sC 84 G (pm_oIS 8 331 P st G) := pm_dn_eq (i := .istore 8) (len := 2) rfl
theorem u_84_331 (P : PL) (st : List PV) (G : PW) : pm_dn pm_sC 84 331 P st G = pm_go pm_sC 84 G (pm_oIL 8 333 P st G) := pm_dn_eq (i := .iload 8) (len := 2) rfl
theorem u_84_333 (P : PL) (st : List PV) (G : PW) : pm_dn pm_sC 84 333 P st G = pm_go pm_sC 84 G (pm_oIL 7 335 P st G) := pm_dn_eq (i := .iload 7) (len := 2) rfl
theorem u_84_335 (P : PL) (st : List PV) (G : PW) : pm_dn pm_sC 84 335 P st G = pm_go pm_sC 84 G (pm_oIc .ge (some 484) 338 P st G) := pm_dn_eq (i := .if_icmp .ge 149) (len := 3) rfl
theorem u_84_338 (P : PL) (st : List PV) (G : PW) : pm_dn pm_sC 84 338 P st G = pm_go pm_sC 84 G (pm_oIL 6 340 P st G) := pm_dn_eq (i := .iload 6) (len := 2) rfl
theorem u_84_340 (P : PL) (st : List PV) (G : PW) : pm_dn pm_sC 84 340 P st G = pm_go pm_sC 84 G (pm_oK 2 341 P st G) := pm_dn_eq (i := .iconst 2) (len := 1) rfl
theorem u_84_341 (P : PL) (st : List PV) (G : PW) : pm_dn pm_sC 84 341 P st G = pm_go pm_sC 84 G (pm_oIL 4 343 P st G) := pm_dn_eq (i := .iload 4) (len := 2) rfl
theorem u_84_343 (P : PL) (st : List PV) (G : PW) : pm_dn pm_sC 84 343 P st G = pm_go pm_sC 84 G (pm_oMul 344 P st G) := pm_dn_eq (i := .imul) (len := 1) rfl
theorem u_84_344 (P : PL) (st : List PV) (G : PW) : pm_dn pm_sC 84 344 P st G = pm_go pm_sC 84 G (pm_oK 2 345 P st G) := pm_dn_eq (i := .iconst 2) (len := 1) rfl
theorem u_84_345 (P : PL) (st : List PV) (G : PW) : pm_dn pm_sC 84 345 P st G = pm_go pm_sC 84 G (pm_oSub 346 P st G) := pm_dn_eq (i := .isub) (len := 1) rfl
theorem u_84_346 (P : PL) (st : List PV) (G : PW) : pm_dn pm_sC 84 346 P st G = pm_go pm_sC 84 G (pm_oIc .ne (some 353) 349 P st G) := pm_dn_eq (i := .if_icmp .ne 7) (len := 3) rfl
theorem u_84_349 (P : PL) (st : List PV) (G : PW) : pm_dn pm_sC 84 349 P st G = pm_go pm_sC 84 G (pm_oK 1 350 P st G) := pm_dn_eq (i := .iconst 1) (len := 1) rfl
theorem u_84_350 (P : PL) (st : List PV) (G : PW) : pm_dn pm_sC 84 350 P st G = pm_go pm_sC 84 G (pm_oGo (some 354) P st G) := pm_dn_eq (i := .goto 4) (len := 3) rfl
theorem u_84_353 (P : PL) (st : List PV) (G : PW) : pm_dn pm_sC 84 353 P st G = pm_go pm_sC 84 G (pm_oK 0 354 P st G) := pm_dn_eq (i := .iconst 0) (len := 1) rfl
theorem u_84_354 (P : PL) (st : List PV) (G : PW) : pm_dn pm_sC 84 354 P st G = pm_go pm_sC 84 G (pm_oIS 9 356 P st G) := pm_dn_eq (i := .istore 9) (len := 2) rfl
theorem u_84_356 (P : PL) (st : List PV) (G : PW) : pm_dn pm_sC 84 356 P st G = pm_go pm_sC 84 G (pm_oIL 9 358 P st G) := pm_dn_eq (i := .iload 9) (len := 2) rfl
theorem u_84_358 (P : PL) (st : List PV) (G : PW) : pm_dn pm_sC 84 358 P st G = pm_go pm_sC 84 G (pm_oIf .eq (some 369) 361 P st G) := pm_dn_eq (i := .ifCond .eq 11) (len := 3) rfl
theorem u_84_361 (P : PL) (st : List PV) (G : PW) : pm_dn pm_sC 84 361 P st G = pm_go pm_sC 84 G (pm_oK 2 362 P st G) := pm_dn_eq (i := .iconst 2) (len := 1) rfl
theorem u_84_362 (P : PL) (st : List PV) (G : PW) : pm_dn pm_sC 84 362 P st G = pm_go pm_sC 84 G (pm_oIL 3 363 P st G) := pm_dn_eq (i := .iload_n 3) (len := 1) rfl
theorem u_84_363 (P : PL) (st : List PV) (G : PW) : pm_dn pm_sC 84 363 P st G = pm_go pm_sC 84 G (pm_oMul 364 P st G) := pm_dn_eq (i := .imul) (len := 1) rfl
theorem u_84_364 (P : PL) (st : List PV) (G : PW) : pm_dn pm_sC 84 364 P st G = pm_go pm_sC 84 G (pm_oK 3 365 P st G) := pm_dn_eq (i := .iconst 3) (len := 1) rfl
theorem u_84_365 (P : PL) (st : List PV) (G : PW) : pm_dn pm_sC 84 365 P st G = pm_go pm_sC 84 G (pm_oSub 366 P st G) := pm_dn_eq (i := .isub) (len := 1) rfl
theorem u_84_366 (P : PL) (st : List PV) (G : PW) : pm_dn pm_sC 84 366 P st G = pm_go pm_sC 84 G (pm_oGo (some 395) P st G) := pm_dn_eq (i := .goto 29) (len := 3) rfl
theorem u_84_369 (P : PL) (st : List PV) (G : PW) : pm_dn pm_sC 84 369 P st G = pm_go pm_sC 84 G (pm_oAL 0 370 P st G) := pm_dn_eq (i := .aload_n 0) (len := 1) rfl
theorem u_84_370 (P : PL) (st : List PV) (G : PW) : pm_dn pm_sC 84 370 P st G = pm_go pm_sC 84 G (pm_oK 1 371 P st G) := pm_dn_eq (i := .iconst 1) (len := 1) rfl
theorem u_84_371 (P : PL) (st : List PV) (G : PW) : pm_dn pm_sC 84 371 P st G = pm_go pm_sC 84 G (pm_oIL 6 373 P st G) := pm_dn_eq (i := .iload 6) (len := 2) rfl
theorem u_84_373 (P : PL) (st : List PV) (G : PW) : pm_dn pm_sC 84 373 P st G = pm_go pm_sC 84 G (pm_oK 1 374 P st G) := pm_dn_eq (i := .iconst 1) (len := 1) rfl
theorem u_84_374 (P : PL) (st : List PV) (G : PW) : pm_dn pm_sC 84 374 P st G = pm_go pm_sC 84 G (pm_oAdd 375 P st G) := pm_dn_eq (i := .iadd) (len := 1) rfl
theorem u_84_375 (P : PL) (st : List PV) (G : PW) : pm_dn pm_sC 84 375 P st G = pm_go pm_sC 84 G (pm_oIL 6 377 P st G) := pm_dn_eq (i := .iload 6) (len := 2) rfl
theorem u_84_377 (P : PL) (st : List PV) (G : PW) : pm_dn pm_sC 84 377 P st G = pm_go pm_sC 84 G (pm_oK 2 378 P st G) := pm_dn_eq (i := .iconst 2) (len := 1) rfl
theorem u_84_378 (P : PL) (st : List PV) (G : PW) : pm_dn pm_sC 84 378 P st G = pm_go pm_sC 84 G (pm_oRem 379 P st G) := pm_dn_eq (i := .irem) (len := 1) rfl
theorem u_84_379 (P : PL) (st : List PV) (G : PW) : pm_dn pm_sC 84 379 P st G = pm_go pm_sC 84 G (pm_oK 1 380 P st G) := pm_dn_eq (i := .iconst 1) (len := 1) rfl
theorem u_84_380 (P : PL) (st : List PV) (G : PW) : pm_dn pm_sC 84 380 P st G = pm_go pm_sC 84 G (pm_oIc .ne (some 388) 383 P st G) := pm_dn_eq (i := .if_icmp .ne 8) (len := 3) rfl
theorem u_84_383 (P : PL) (st : List PV) (G : PW) : pm_dn pm_sC 84 383 P st G = pm_go pm_sC 84 G (pm_oIL 8 385 P st G) := pm_dn_eq (i := .iload 8) (len := 2) rfl
theorem u_84_385 (P : PL) (st : List PV) (G : PW) : pm_dn pm_sC 84 385 P st G = pm_go pm_sC 84 G (pm_oGo (some 392) P st G) := pm_dn_eq (i := .goto 7) (len := 3) rfl
theorem u_84_388 (P : PL) (st : List PV) (G : PW) : pm_dn pm_sC 84 388 P st G = pm_go pm_sC 84 G (pm_oIL 8 390 P st G) := pm_dn_eq (i := .iload 8) (len := 2) rfl
theorem u_84_390 (P : PL) (st : List PV) (G : PW) : pm_dn pm_sC 84 390 P st G = pm_go pm_sC 84 G (pm_oK 2 391 P st G) := pm_dn_eq (i := .iconst 2) (len := 1) rfl
theorem u_84_391 (P : PL) (st : List PV) (G : PW) : pm_dn pm_sC 84 391 P st G = pm_go pm_sC 84 G (pm_oDiv 392 P st G) := pm_dn_eq (i := .idiv) (len := 1) rfl
theorem u_84_392 (P : PL) (st : List PV) (G : PW) : pm_dn pm_sC 84 392 P st G = pm_go pm_sC 84 G (pm_oCs 83 4 5 395 P st G) := pm_dn_eq (i := .invokestatic 18) (len := 3) rfl
theorem u_84_395 (P : PL) (st : List PV) (G : PW) : pm_dn pm_sC 84 395 P st G = pm_go pm_sC 84 G (pm_oIS 10 397 P st G) := pm_dn_eq (i := .istore 10) (len := 2) rfl
theorem u_84_397 (P : PL) (st : List PV) (G : PW) : pm_dn pm_sC 84 397 P st G = pm_go pm_sC 84 G (pm_oAL 0 398 P st G) := pm_dn_eq (i := .aload_n 0) (len := 1) rfl
theorem u_84_398 (P : PL) (st : List PV) (G : PW) : pm_dn pm_sC 84 398 P st G = pm_go pm_sC 84 G (pm_oK 1 399 P st G) := pm_dn_eq (i := .iconst 1) (len := 1) rfl
theorem u_84_399 (P : PL) (st : List PV) (G : PW) : pm_dn pm_sC 84 399 P st G = pm_go pm_sC 84 G (pm_oIL 6 401 P st G) := pm_dn_eq (i := .iload 6) (len := 2) rfl
theorem u_84_401 (P : PL) (st : List PV) (G : PW) : pm_dn pm_sC 84 401 P st G = pm_go pm_sC 84 G (pm_oIL 8 403 P st G) := pm_dn_eq (i := .iload 8) (len := 2) rfl
theorem u_84_403 (P : PL) (st : List PV) (G : PW) : pm_dn pm_sC 84 403 P st G = pm_go pm_sC 84 G (pm_oCs 83 4 5 406 P st G) := pm_dn_eq (i := .invokestatic 18) (len := 3) rfl
theorem u_84_406 (P : PL) (st : List PV) (G : PW) : pm_dn pm_sC 84 406 P st G = pm_go pm_sC 84 G (pm_oIL 5 408 P st G) := pm_dn_eq (i := .iload 5) (len := 2) rfl
theorem u_84_408 (P : PL) (st : List PV) (G : PW) : pm_dn pm_sC 84 408 P st G = pm_go pm_sC 84 G (pm_oIc .ne (some 473) 411 P st G) := pm_dn_eq (i := .if_icmp .ne 65) (len := 3) rfl
theorem u_84_411 (P : PL) (st : List PV) (G : PW) : pm_dn pm_sC 84 411 P st G = pm_go pm_sC 84 G (pm_oAL 0 412 P st G) := pm_dn_eq (i := .aload_n 0) (len := 1) rfl
theorem u_84_412 (P : PL) (st : List PV) (G : PW) : pm_dn pm_sC 84 412 P st G = pm_go pm_sC 84 G (pm_oIL 5 414 P st G) := pm_dn_eq (i := .iload 5) (len := 2) rfl
theorem u_84_414 (P : PL) (st : List PV) (G : PW) : pm_dn pm_sC 84 414 P st G = pm_go pm_sC 84 G (pm_oK 8 416 P st G) := pm_dn_eq (i := .bipush 8) (len := 2) rfl
theorem u_84_416 (P : PL) (st : List PV) (G : PW) : pm_dn pm_sC 84 416 P st G = pm_go pm_sC 84 G (pm_oCv pm_sC 57 2 4 5 419 P st G) := pm_dn_eq (i := .invokevirtual 14) (len := 3) rfl
theorem u_84_419 (P : PL) (st : List PV) (G : PW) : pm_dn pm_sC 84 419 P st G = pm_go pm_sC 84 G (pm_oIL 10 421 P st G) := pm_dn_eq (i := .iload 10) (len := 2) rfl
theorem u_84_421 (P : PL) (st : List PV) (G : PW) : pm_dn pm_sC 84 421 P st G = pm_go pm_sC 84 G (pm_oIc .ne (some 473) 424 P st G) := pm_dn_eq (i := .if_icmp .ne 52) (len := 3) rfl
theorem u_84_424 (P : PL) (st : List PV) (G : PW) : pm_dn pm_sC 84 424 P st G = pm_go pm_sC 84 G (pm_oAL 0 425 P st G) := pm_dn_eq (i := .aload_n 0) (len := 1) rfl
theorem u_84_425 (P : PL) (st : List PV) (G : PW) : pm_dn pm_sC 84 425 P st G = pm_go pm_sC 84 G (pm_oIL 5 427 P st G) := pm_dn_eq (i := .iload 5) (len := 2) rfl
theorem u_84_427 (P : PL) (st : List PV) (G : PW) : pm_dn pm_sC 84 427 P st G = pm_go pm_sC 84 G (pm_oK 10 429 P st G) := pm_dn_eq (i := .bipush 10) (len := 2) rfl
theorem u_84_429 (P : PL) (st : List PV) (G : PW) : pm_dn pm_sC 84 429 P st G = pm_go pm_sC 84 G (pm_oCv pm_sC 57 2 4 5 432 P st G) := pm_dn_eq (i := .invokevirtual 14) (len := 3) rfl
theorem u_84_432 (P : PL) (st : List PV) (G : PW) : pm_dn pm_sC 84 432 P st G = pm_go pm_sC 84 G (pm_oIL 9 434 P st G) := pm_dn_eq (i := .iload 9) (len := 2) rfl
theorem u_84_434 (P : PL) (st : List PV) (G : PW) : pm_dn pm_sC 84 434 P st G = pm_go pm_sC 84 G (pm_oIf .eq (some 441) 437 P st G) := pm_dn_eq (i := .ifCond .eq 7) (len := 3) rfl
theorem u_84_437 (P : PL) (st : List PV) (G : PW) : pm_dn pm_sC 84 437 P st G = pm_go pm_sC 84 G (pm_oK 1 438 P st G) := pm_dn_eq (i := .iconst 1) (len := 1) rfl
theorem u_84_438 (P : PL) (st : List PV) (G : PW) : pm_dn pm_sC 84 438 P st G = pm_go pm_sC 84 G (pm_oGo (some 457) P st G) := pm_dn_eq (i := .goto 19) (len := 3) rfl
theorem u_84_441 (P : PL) (st : List PV) (G : PW) : pm_dn pm_sC 84 441 P st G = pm_go pm_sC 84 G (pm_oIL 6 443 P st G) := pm_dn_eq (i := .iload 6) (len := 2) rfl
theorem u_84_443 (P : PL) (st : List PV) (G : PW) : pm_dn pm_sC 84 443 P st G = pm_go pm_sC 84 G (pm_oK 2 444 P st G) := pm_dn_eq (i := .iconst 2) (len := 1) rfl
theorem u_84_444 (P : PL) (st : List PV) (G : PW) : pm_dn pm_sC 84 444 P st G = pm_go pm_sC 84 G (pm_oRem 445 P st G) := pm_dn_eq (i := .irem) (len := 1) rfl
theorem u_84_445 (P : PL) (st : List PV) (G : PW) : pm_dn pm_sC 84 445 P st G = pm_go pm_sC 84 G (pm_oK 1 446 P st G) := pm_dn_eq (i := .iconst 1) (len := 1) rfl
theorem u_84_446 (P : PL) (st : List PV) (G : PW) : pm_dn pm_sC 84 446 P st G = pm_go pm_sC 84 G (pm_oIc .ne (some 453) 449 P st G) := pm_dn_eq (i := .if_icmp .ne 7) (len := 3) rfl
theorem u_84_449 (P : PL) (st : List PV) (G : PW) : pm_dn pm_sC 84 449 P st G = pm_go pm_sC 84 G (pm_oK 0 450 P st G) := pm_dn_eq (i := .iconst 0) (len := 1) rfl
theorem u_84_450 (P : PL) (st : List PV) (G : PW) : pm_dn pm_sC 84 450 P st G = pm_go pm_sC 84 G (pm_oGo (some 457) P st G) := pm_dn_eq (i := .goto 7) (len := 3) rfl
theorem u_84_453 (P : PL) (st : List PV) (G : PW) : pm_dn pm_sC 84 453 P st G = pm_go pm_sC 84 G (pm_oIL 8 455 P st G) := pm_dn_eq (i := .iload 8) (len := 2) rfl
theorem u_84_455 (P : PL) (st : List PV) (G : PW) : pm_dn pm_sC 84 455 P st G = pm_go pm_sC 84 G (pm_oK 2 456 P st G) := pm_dn_eq (i := .iconst 2) (len := 1) rfl
theorem u_84_456 (P : PL) (st : List PV) (G : PW) : pm_dn pm_sC 84 456 P st G = pm_go pm_sC 84 G (pm_oRem 457 P st G) := pm_dn_eq (i := .irem) (len := 1) rfl
theorem u_84_457 (P : PL) (st : List PV) (G : PW) : pm_dn pm_sC 84 457 P st G = pm_go pm_sC 84 G (pm_oIc .ne (some 473) 460 P st G) := pm_dn_eq (i := .if_icmp .ne 16) (len := 3) rfl
theorem u_84_460 (P : PL) (st : List PV) (G : PW) : pm_dn pm_sC 84 460 P st G = pm_go pm_sC 84 G (pm_oAL 0 461 P st G) := pm_dn_eq (i := .aload_n 0) (len := 1) rfl
theorem u_84_461 (P : PL) (st : List PV) (G : PW) : pm_dn pm_sC 84 461 P st G = pm_go pm_sC 84 G (pm_oIL 5 463 P st G) := pm_dn_eq (i := .iload 5) (len := 2) rfl
theorem u_84_463 (P : PL) (st : List PV) (G : PW) : pm_dn pm_sC 84 463 P st G = pm_go pm_sC 84 G (pm_oK 9 465 P st G) := pm_dn_eq (i := .bipush 9) (len := 2) rfl
theorem u_84_465 (P : PL) (st : List PV) (G : PW) : pm_dn pm_sC 84 465 P st G = pm_go pm_sC 84 G (pm_oCv pm_sC 57 2 4 5 468 P st G) := pm_dn_eq (i := .invokevirtual 14) (len := 3) rfl
theorem u_84_468 (P : PL) (st : List PV) (G : PW) : pm_dn pm_sC 84 468 P st G = pm_go pm_sC 84 G (pm_oK (-6) 470 P st G) := pm_dn_eq (i := .bipush (-6)) (len := 2) rfl
theorem u_84_470 (P : PL) (st : List PV) (G : PW) : pm_dn pm_sC 84 470 P st G = pm_go pm_sC 84 G (pm_oIc .eq (some 475) 473 P st G) := pm_dn_eq (i := .if_icmp .eq 5) (len := 3) rfl
theorem u_84_473 (P : PL) (st : List PV) (G : PW) : pm_dn pm_sC 84 473 P st G = pm_go pm_sC 84 G (pm_oK 0 474 P st G) := pm_dn_eq (i := .iconst 0) (len := 1) rfl
theorem u_84_474 (P : PL) (st : List PV) (G : PW) : pm_dn pm_sC 84 474 P st G = pm_go pm_sC 84 G (pm_oRi 2 P st G) := pm_dn_eq (i := .ireturn) (len := 1) rfl
theorem u_84_475 (P : PL) (st : List PV) (G : PW) : pm_dn pm_sC 84 475 P st G = pm_go pm_sC 84 G (pm_oInc 5 1 478 P st G) := pm_dn_eq (i := .iinc 5 1) (len := 3) rfl
theorem u_84_478 (P : PL) (st : List PV) (G : PW) : pm_dn pm_sC 84 478 P st G = pm_go pm_sC 84 G (pm_oInc 8 1 481 P st G) := pm_dn_eq (i := .iinc 8 1) (len := 3) rfl
theorem u_84_481 (P : PL) (st : List PV) (G : PW) : pm_dn pm_sC 84 481 P st G = pm_go pm_sC 84 G (pm_oGo (some 331) P st G) := pm_dn_eq (i := .goto (-150)) (len := 3) rfl
theorem u_84_484 (P : PL) (st : List PV) (G : PW) : pm_dn pm_sC 84 484 P st G = pm_go pm_sC 84 G (pm_oInc 6 1 487 P st G) := pm_dn_eq (i := .iinc 6 1) (len := 3) rfl
theorem u_84_487 (P : PL) (st : List PV) (G : PW) : pm_dn pm_sC 84 487 P st G = pm_go pm_sC 84 G (pm_oGo (some 305) P st G) := pm_dn_eq (i := .goto (-182)) (len := 3) rfl
theorem u_84_490 (P : PL) (st : List PV) (G : PW) : pm_dn pm_sC 84 490 P st G = pm_go pm_sC 84 G (pm_oAL 0 491 P st G) := pm_dn_eq (i := .aload_n 0) (len := 1) rfl
theorem u_84_491 (P : PL) (st : List PV) (G : PW) : pm_dn pm_sC 84 491 P st G = pm_go pm_sC 84 G (pm_oIL 5 493 P st G) := pm_dn_eq (i := .iload 5) (len := 2) rfl
theorem u_84_493 (P : PL) (st : List PV) (G : PW) : pm_dn pm_sC 84 493 P st G = pm_go pm_sC 84 G (pm_oK 5 494 P st G) := pm_dn_eq (i := .iconst 5) (len := 1) rfl
theorem u_84_494 (P : PL) (st : List PV) (G : PW) : pm_dn pm_sC 84 494 P st G = pm_go pm_sC 84 G (pm_oCv pm_sC 57 2 4 5 497 P st G) := pm_dn_eq (i := .invokevirtual 14) (len := 3) rfl
theorem u_84_497 (P : PL) (st : List PV) (G : PW) : pm_dn pm_sC 84 497 P st G = pm_go pm_sC 84 G (pm_oK 2 498 P st G) := pm_dn_eq (i := .iconst 2) (len := 1) rfl
theorem u_84_498 (P : PL) (st : List PV) (G : PW) : pm_dn pm_sC 84 498 P st G = pm_go pm_sC 84 G (pm_oIc .ne (some 543) 501 P st G) := pm_dn_eq (i := .if_icmp .ne 45) (len := 3) rfl
theorem u_84_501 (P : PL) (st : List PV) (G : PW) : pm_dn pm_sC 84 501 P st G = pm_go pm_sC 84 G (pm_oAL 0 502 P st G) := pm_dn_eq (i := .aload_n 0) (len := 1) rfl
theorem u_84_502 (P : PL) (st : List PV) (G : PW) : pm_dn pm_sC 84 502 P st G = pm_go pm_sC 84 G (pm_oIL 5 504 P st G) := pm_dn_eq (i := .iload 5) (len := 2) rfl
theorem u_84_504 (P : PL) (st : List PV) (G : PW) : pm_dn pm_sC 84 504 P st G = pm_go pm_sC 84 G (pm_oK 6 506 P st G) := pm_dn_eq (i := .bipush 6) (len := 2) rfl
theorem u_84_506 (P : PL) (st : List PV) (G : PW) : pm_dn pm_sC 84 506 P st G = pm_go pm_sC 84 G (pm_oCv pm_sC 57 2 4 5 509 P st G) := pm_dn_eq (i := .invokevirtual 14) (len := 3) rfl
theorem u_84_509 (P : PL) (st : List PV) (G : PW) : pm_dn pm_sC 84 509 P st G = pm_go pm_sC 84 G (pm_oK 1 510 P st G) := pm_dn_eq (i := .iconst 1) (len := 1) rfl
theorem u_84_510 (P : PL) (st : List PV) (G : PW) : pm_dn pm_sC 84 510 P st G = pm_go pm_sC 84 G (pm_oIc .ne (some 543) 513 P st G) := pm_dn_eq (i := .if_icmp .ne 33) (len := 3) rfl
theorem u_84_513 (P : PL) (st : List PV) (G : PW) : pm_dn pm_sC 84 513 P st G = pm_go pm_sC 84 G (pm_oAL 0 514 P st G) := pm_dn_eq (i := .aload_n 0) (len := 1) rfl
theorem u_84_514 (P : PL) (st : List PV) (G : PW) : pm_dn pm_sC 84 514 P st G = pm_go pm_sC 84 G (pm_oIL 5 516 P st G) := pm_dn_eq (i := .iload 5) (len := 2) rfl
theorem u_84_516 (P : PL) (st : List PV) (G : PW) : pm_dn pm_sC 84 516 P st G = pm_go pm_sC 84 G (pm_oK 1 517 P st G) := pm_dn_eq (i := .iconst 1) (len := 1) rfl
theorem u_84_517 (P : PL) (st : List PV) (G : PW) : pm_dn pm_sC 84 517 P st G = pm_go pm_sC 84 G (pm_oAdd 518 P st G) := pm_dn_eq (i := .iadd) (len := 1) rfl
theorem u_84_518 (P : PL) (st : List PV) (G : PW) : pm_dn pm_sC 84 518 P st G = pm_go pm_sC 84 G (pm_oK 6 520 P st G) := pm_dn_eq (i := .bipush 6) (len := 2) rfl
theorem u_84_520 (P : PL) (st : List PV) (G : PW) : pm_dn pm_sC 84 520 P st G = pm_go pm_sC 84 G (pm_oCv pm_sC 57 2 4 5 523 P st G) := pm_dn_eq (i := .invokevirtual 14) (len := 3) rfl
theorem u_84_523 (P : PL) (st : List PV) (G : PW) : pm_dn pm_sC 84 523 P st G = pm_go pm_sC 84 G (pm_oK 2 524 P st G) := pm_dn_eq (i := .iconst 2) (len := 1) rfl
theorem u_84_524 (P : PL) (st : List PV) (G : PW) : pm_dn pm_sC 84 524 P st G = pm_go pm_sC 84 G (pm_oIc .ne (some 543) 527 P st G) := pm_dn_eq (i := .if_icmp .ne 19) (len := 3) rfl
theorem u_84_527 (P : PL) (st : List PV) (G : PW) : pm_dn pm_sC 84 527 P st G = pm_go pm_sC 84 G (pm_oIL 5 529 P st G) := pm_dn_eq (i := .iload 5) (len := 2) rfl
theorem u_84_529 (P : PL) (st : List PV) (G : PW) : pm_dn pm_sC 84 529 P st G = pm_go pm_sC 84 G (pm_oK 2 530 P st G) := pm_dn_eq (i := .iconst 2) (len := 1) rfl
theorem u_84_530 (P : PL) (st : List PV) (G : PW) : pm_dn pm_sC 84 530 P st G = pm_go pm_sC 84 G (pm_oAdd 531 P st G) := pm_dn_eq (i := .iadd) (len := 1) rfl
theorem u_84_531 (P : PL) (st : List PV) (G : PW) : pm_dn pm_sC 84 531 P st G = pm_go pm_sC 84 G (pm_oAL 0 532 P st G) := pm_dn_eq (i := .aload_n 0) (len := 1) rfl
theorem u_84_532 (P : PL) (st : List PV) (G : PW) : pm_dn pm_sC 84 532 P st G = pm_go pm_sC 84 G (pm_oK 2 533 P st G) := pm_dn_eq (i := .iconst 2) (len := 1) rfl
theorem u_84_533 (P : PL) (st : List PV) (G : PW) : pm_dn pm_sC 84 533 P st G = pm_go pm_sC 84 G (pm_oCv pm_sC 60 1 2 5 536 P st G) := pm_dn_eq (i := .invokevirtual 8) (len := 3) rfl
theorem u_84_536 (P : PL) (st : List PV) (G : PW) : pm_dn pm_sC 84 536 P st G = pm_go pm_sC 84 G (pm_oIc .ne (some 543) 539 P st G) := pm_dn_eq (i := .if_icmp .ne 7) (len := 3) rfl
theorem u_84_539 (P : PL) (st : List PV) (G : PW) : pm_dn pm_sC 84 539 P st G = pm_go pm_sC 84 G (pm_oK 1 540 P st G) := pm_dn_eq (i := .iconst 1) (len := 1) rfl
theorem u_84_540 (P : PL) (st : List PV) (G : PW) : pm_dn pm_sC 84 540 P st G = pm_go pm_sC 84 G (pm_oGo (some 544) P st G) := pm_dn_eq (i := .goto 4) (len := 3) rfl
theorem u_84_543 (P : PL) (st : List PV) (G : PW) : pm_dn pm_sC 84 543 P st G = pm_go pm_sC 84 G (pm_oK 0 544 P st G) := pm_dn_eq (i := .iconst 0) (len := 1) rfl
theorem u_84_544 (P : PL) (st : List PV) (G : PW) : pm_dn pm_sC 84 544 P st G = pm_go pm_sC 84 G (pm_oRi 2 P st G) := pm_dn_eq (i := .ireturn) (len := 1) rfl
theorem ue_85 (a0 : Nat) (a1 : Int) (G : PW) : pm_ca pm_sC 85 [.inr (.inr a0), .inl a1] G = pm_dn pm_sC 85 0 [some (.inr (.inr a0)), some (.inl a1), none, none, none, none] [] G := rfl
theorem u_85_0 (P : PL) (st : List PV) (G : PW) : pm_dn pm_sC 85 0 P st G = pm_go pm_sC 85 G (pm_oAL 0 1 P st G) := pm_dn_eq (i := .aload_n 0) (len := 1) rfl
theorem u_85_1 (P : PL) (st : List PV) (G : PW) : pm_dn pm_sC 85 1 P st G = pm_go pm_sC 85 G (pm_oK 1 2 P st G) := pm_dn_eq (i := .iconst 1) (len := 1) rfl
theorem u_85_2 (P : PL) (st : List PV) (G : PW) : pm_dn pm_sC 85 2 P st G = pm_go pm_sC 85 G (pm_oCv pm_sC 60 1 2 5 5 P st G) := pm_dn_eq (i := .invokevirtual 8) (len := 3) rfl
theorem u_85_5 (P : PL) (st : List PV) (G : PW) : pm_dn pm_sC 85 5 P st G = pm_go pm_sC 85 G (pm_oIS 2 6 P st G) := pm_dn_eq (i := .istore_n 2) (len := 1) rfl
theorem u_85_6 (P : PL) (st : List PV) (G : PW) : pm_dn pm_sC 85 6 P st G = pm_go pm_sC 85 G (pm_oK 0 7 P st G) := pm_dn_eq (i := .iconst 0) (len := 1) rfl
theorem u_85_7 (P : PL) (st : List PV) (G : PW) : pm_dn pm_sC 85 7 P st G = pm_go pm_sC 85 G (pm_oIS 3 8 P st G) := pm_dn_eq (i := .istore_n 3) (len := 1) rfl
theorem u_85_8 (P : PL) (st : List PV) (G : PW) : pm_dn pm_sC 85 8 P st G = pm_go pm_sC 85 G (pm_oIL 3 9 P st G) := pm_dn_eq (i := .iload_n 3) (len := 1) rfl
theorem u_85_9 (P : PL) (st : List PV) (G : PW) : pm_dn pm_sC 85 9 P st G = pm_go pm_sC 85 G (pm_oIL 2 10 P st G) := pm_dn_eq (i := .iload_n 2) (len := 1) rfl
theorem u_85_10 (P : PL) (st : List PV) (G : PW) : pm_dn pm_sC 85 10 P st G = pm_go pm_sC 85 G (pm_oK 2 11 P st G) := pm_dn_eq (i := .iconst 2) (len := 1) rfl
theorem u_85_11 (P : PL) (st : List PV) (G : PW) : pm_dn pm_sC 85 11 P st G = pm_go pm_sC 85 G (pm_oDiv 12 P st G) := pm_dn_eq (i := .idiv) (len := 1) rfl
theorem u_85_12 (P : PL) (st : List PV) (G : PW) : pm_dn pm_sC 85 12 P st G = pm_go pm_sC 85 G (pm_oIc .ge (some 71) 15 P st G) := pm_dn_eq (i := .if_icmp .ge 59) (len := 3) rfl
theorem u_85_15 (P : PL) (st : List PV) (G : PW) : pm_dn pm_sC 85 15 P st G = pm_go pm_sC 85 G (pm_oAL 0 16 P st G) := pm_dn_eq (i := .aload_n 0) (len := 1) rfl
theorem u_85_16 (P : PL) (st : List PV) (G : PW) : pm_dn pm_sC 85 16 P st G = pm_go pm_sC 85 G (pm_oIL 3 17 P st G) := pm_dn_eq (i := .iload_n 3) (len := 1) rfl
theorem u_85_17 (P : PL) (st : List PV) (G : PW) : pm_dn pm_sC 85 17 P st G = pm_go pm_sC 85 G (pm_oK 0 18 P st G) := pm_dn_eq (i := .iconst 0) (len := 1) rfl
theorem u_85_18 (P : PL) (st : List PV) (G : PW) : pm_dn pm_sC 85 18 P st G = pm_go pm_sC 85 G (pm_oCv pm_sC 57 2 4 5 21 P st G) := pm_dn_eq (i := .invokevirtual 14) (len := 3) rfl
theorem u_85_21 (P : PL) (st : List PV) (G : PW) : pm_dn pm_sC 85 21 P st G = pm_go pm_sC 85 G (pm_oIS 4 23 P st G) := pm_dn_eq (i := .istore 4) (len := 2) rfl
theorem u_85_23 (P : PL) (st : List PV) (G : PW) : pm_dn pm_sC 85 23 P st G = pm_go pm_sC 85 G (pm_oAL 0 24 P st G) := pm_dn_eq (i := .aload_n 0) (len := 1) rfl
theorem u_85_24 (P : PL) (st : List PV) (G : PW) : pm_dn pm_sC 85 24 P st G = pm_go pm_sC 85 G (pm_oIL 3 25 P st G) := pm_dn_eq (i := .iload_n 3) (len := 1) rfl
theorem u_85_25 (P : PL) (st : List PV) (G : PW) : pm_dn pm_sC 85 25 P st G = pm_go pm_sC 85 G (pm_oK 1 26 P st G) := pm_dn_eq (i := .iconst 1) (len := 1) rfl
theorem u_85_26 (P : PL) (st : List PV) (G : PW) : pm_dn pm_sC 85 26 P st G = pm_go pm_sC 85 G (pm_oCv pm_sC 57 2 4 5 29 P st G) := pm_dn_eq (i := .invokevirtual 14) (len := 3) rfl
theorem u_85_29 (P : PL) (st : List PV) (G : PW) : pm_dn pm_sC 85 29 P st G = pm_go pm_sC 85 G (pm_oIS 5 31 P st G) := pm_dn_eq (i := .istore 5) (len := 2) rfl
theorem u_85_31 (P : PL) (st : List PV) (G : PW) : pm_dn pm_sC 85 31 P st G = pm_go pm_sC 85 G (pm_oIL 4 33 P st G) := pm_dn_eq (i := .iload 4) (len := 2) rfl
theorem u_85_33 (P : PL) (st : List PV) (G : PW) : pm_dn pm_sC 85 33 P st G = pm_go pm_sC 85 G (pm_oIL 1 34 P st G) := pm_dn_eq (i := .iload_n 1) (len := 1) rfl
theorem u_85_34 (P : PL) (st : List PV) (G : PW) : pm_dn pm_sC 85 34 P st G = pm_go pm_sC 85 G (pm_oIc .ge (some 63) 37 P st G) := pm_dn_eq (i := .if_icmp .ge 29) (len := 3) rfl
theorem u_85_37 (P : PL) (st : List PV) (G : PW) : pm_dn pm_sC 85 37 P st G = pm_go pm_sC 85 G (pm_oIL 5 39 P st G) := pm_dn_eq (i := .iload 5) (len := 2) rfl
theorem u_85_39 (P : PL) (st : List PV) (G : PW) : pm_dn pm_sC 85 39 P st G = pm_go pm_sC 85 G (pm_oIL 2 40 P st G) := pm_dn_eq (i := .iload_n 2) (len := 1) rfl
theorem u_85_40 (P : PL) (st : List PV) (G : PW) : pm_dn pm_sC 85 40 P st G = pm_go pm_sC 85 G (pm_oK 1 41 P st G) := pm_dn_eq (i := .iconst 1) (len := 1) rfl
theorem u_85_41 (P : PL) (st : List PV) (G : PW) : pm_dn pm_sC 85 41 P st G = pm_go pm_sC 85 G (pm_oSub 42 P st G) := pm_dn_eq (i := .isub) (len := 1) rfl
theorem u_85_42 (P : PL) (st : List PV) (G : PW) : pm_dn pm_sC 85 42 P st G = pm_go pm_sC 85 G (pm_oIL 4 44 P st G) := pm_dn_eq (i := .iload 4) (len := 2) rfl
theorem u_85_44 (P : PL) (st : List PV) (G : PW) : pm_dn pm_sC 85 44 P st G = pm_go pm_sC 85 G (pm_oSub 45 P st G) := pm_dn_eq (i := .isub) (len := 1) rfl
theorem u_85_45 (P : PL) (st : List PV) (G : PW) : pm_dn pm_sC 85 45 P st G = pm_go pm_sC 85 G (pm_oIL 1 46 P st G) := pm_dn_eq (i := .iload_n 1) (len := 1) rfl
theorem u_85_46 (P : PL) (st : List PV) (G : PW) : pm_dn pm_sC 85 46 P st G = pm_go pm_sC 85 G (pm_oIc .ge (some 58) 49 P st G) := pm_dn_eq (i := .if_icmp .ge 12) (len := 3) rfl
theorem u_85_49 (P : PL) (st : List PV) (G : PW) : pm_dn pm_sC 85 49 P st G = pm_go pm_sC 85 G (pm_oIL 2 50 P st G) := pm_dn_eq (i := .iload_n 2) (len := 1) rfl
theorem u_85_50 (P : PL) (st : List PV) (G : PW) : pm_dn pm_sC 85 50 P st G = pm_go pm_sC 85 G (pm_oK 1 51 P st G) := pm_dn_eq (i := .iconst 1) (len := 1) rfl
theorem u_85_51 (P : PL) (st : List PV) (G : PW) : pm_dn pm_sC 85 51 P st G = pm_go pm_sC 85 G (pm_oSub 52 P st G) := pm_dn_eq (i := .isub) (len := 1) rfl
theorem u_85_52 (P : PL) (st : List PV) (G : PW) : pm_dn pm_sC 85 52 P st G = pm_go pm_sC 85 G (pm_oIL 4 54 P st G) := pm_dn_eq (i := .iload 4) (len := 2) rfl
theorem u_85_54 (P : PL) (st : List PV) (G : PW) : pm_dn pm_sC 85 54 P st G = pm_go pm_sC 85 G (pm_oSub 55 P st G) := pm_dn_eq (i := .isub) (len := 1) rfl
theorem u_85_55 (P : PL) (st : List PV) (G : PW) : pm_dn pm_sC 85 55 P st G = pm_go pm_sC 85 G (pm_oGo (some 60) P st G) := pm_dn_eq (i := .goto 5) (len := 3) rfl
theorem u_85_58 (P : PL) (st : List PV) (G : PW) : pm_dn pm_sC 85 58 P st G = pm_go pm_sC 85 G (pm_oK 16 60 P st G) := pm_dn_eq (i := .bipush 16) (len := 2) rfl
theorem u_85_60 (P : PL) (st : List PV) (G : PW) : pm_dn pm_sC 85 60 P st G = pm_go pm_sC 85 G (pm_oIc .eq (some 65) 63 P st G) := pm_dn_eq (i := .if_icmp .eq 5) (len := 3) rfl
theorem u_85_63 (P : PL) (st : List PV) (G : PW) : pm_dn pm_sC 85 63 P st G = pm_go pm_sC 85 G (pm_oK 0 64 P st G) := pm_dn_eq (i := .iconst 0) (len := 1) rfl
theorem u_85_64 (P : PL) (st : List PV) (G : PW) : pm_dn pm_sC 85 64 P st G = pm_go pm_sC 85 G (pm_oRi 2 P st G) := pm_dn_eq (i := .ireturn) (len := 1) rfl
theorem u_85_65 (P : PL) (st : List PV) (G : PW) : pm_dn pm_sC 85 65 P st G = pm_go pm_sC 85 G (pm_oInc 3 1 68 P st G) := pm_dn_eq (i := .iinc 3 1) (len := 3) rfl
theorem u_85_68 (P : PL) (st : List PV) (G : PW) : pm_dn pm_sC 85 68 P st G = pm_go pm_sC 85 G (pm_oGo (some 8) P st G) := pm_dn_eq (i := .goto (-60)) (len := 3) rfl
theorem u_85_71 (P : PL) (st : List PV) (G : PW) : pm_dn pm_sC 85 71 P st G = pm_go pm_sC 85 G (pm_oAL 0 72 P st G) := pm_dn_eq (i := .aload_n 0) (len := 1) rfl
theorem u_85_72 (P : PL) (st : List PV) (G : PW) : pm_dn pm_sC 85 72 P st G = pm_go pm_sC 85 G (pm_oK 0 73 P st G) := pm_dn_eq (i := .iconst 0) (len := 1) rfl
theorem u_85_73 (P : PL) (st : List PV) (G : PW) : pm_dn pm_sC 85 73 P st G = pm_go pm_sC 85 G (pm_oK 0 74 P st G) := pm_dn_eq (i := .iconst 0) (len := 1) rfl
theorem u_85_74 (P : PL) (st : List PV) (G : PW) : pm_dn pm_sC 85 74 P st G = pm_go pm_sC 85 G (pm_oCv pm_sC 57 2 4 5 77 P st G) := pm_dn_eq (i := .invokevirtual 14) (len := 3) rfl
theorem u_85_77 (P : PL) (st : List PV) (G : PW) : pm_dn pm_sC 85 77 P st G = pm_go pm_sC 85 G (pm_oIf .ne (some 145) 80 P st G) := pm_dn_eq (i := .ifCond .ne 68) (len := 3) rfl
theorem u_85_80 (P : PL) (st : List PV) (G : PW) : pm_dn pm_sC 85 80 P st G = pm_go pm_sC 85 G (pm_oAL 0 81 P st G) := pm_dn_eq (i := .aload_n 0) (len := 1) rfl
theorem u_85_81 (P : PL) (st : List PV) (G : PW) : pm_dn pm_sC 85 81 P st G = pm_go pm_sC 85 G (pm_oIL 2 82 P st G) := pm_dn_eq (i := .iload_n 2) (len := 1) rfl
theorem u_85_82 (P : PL) (st : List PV) (G : PW) : pm_dn pm_sC 85 82 P st G = pm_go pm_sC 85 G (pm_oK 4 83 P st G) := pm_dn_eq (i := .iconst 4) (len := 1) rfl
theorem u_85_83 (P : PL) (st : List PV) (G : PW) : pm_dn pm_sC 85 83 P st G = pm_go pm_sC 85 G (pm_oDiv 84 P st G) := pm_dn_eq (i := .idiv) (len := 1) rfl
theorem u_85_84 (P : PL) (st : List PV) (G : PW) : pm_dn pm_sC 85 84 P st G = pm_go pm_sC 85 G (pm_oK 0 85 P st G) := pm_dn_eq (i := .iconst 0) (len := 1) rfl
theorem u_85_85 (P : PL) (st : List PV) (G : PW) : pm_dn pm_sC 85 85 P st G = pm_go pm_sC 85 G (pm_oCv pm_sC 57 2 4 5 88 P st G) := pm_dn_eq (i := .invokevirtual 14) (len := 3) rfl
theorem u_85_88 (P : PL) (st : List PV) (G : PW) : pm_dn pm_sC 85 88 P st G = pm_go pm_sC 85 G (pm_oK 1 89 P st G) := pm_dn_eq (i := .iconst 1) (len := 1) rfl
theorem u_85_89 (P : PL) (st : List PV) (G : PW) : pm_dn pm_sC 85 89 P st G = pm_go pm_sC 85 G (pm_oIc .ne (some 145) 92 P st G) := pm_dn_eq (i := .if_icmp .ne 56) (len := 3) rfl
theorem u_85_92 (P : PL) (st : List PV) (G : PW) : pm_dn pm_sC 85 92 P st G = pm_go pm_sC 85 G (pm_oIL 2 93 P st G) := pm_dn_eq (i := .iload_n 2) (len := 1) rfl
theorem u_85_93 (P : PL) (st : List PV) (G : PW) : pm_dn pm_sC 85 93 P st G = pm_go pm_sC 85 G (pm_oK 8 95 P st G) := pm_dn_eq (i := .bipush 8) (len := 2) rfl
theorem u_85_95 (P : PL) (st : List PV) (G : PW) : pm_dn pm_sC 85 95 P st G = pm_go pm_sC 85 G (pm_oIc .lt (some 141) 98 P st G) := pm_dn_eq (i := .if_icmp .lt 46) (len := 3) rfl
theorem u_85_98 (P : PL) (st : List PV) (G : PW) : pm_dn pm_sC 85 98 P st G = pm_go pm_sC 85 G (pm_oAL 0 99 P st G) := pm_dn_eq (i := .aload_n 0) (len := 1) rfl
theorem u_85_99 (P : PL) (st : List PV) (G : PW) : pm_dn pm_sC 85 99 P st G = pm_go pm_sC 85 G (pm_oIL 2 100 P st G) := pm_dn_eq (i := .iload_n 2) (len := 1) rfl
theorem u_85_100 (P : PL) (st : List PV) (G : PW) : pm_dn pm_sC 85 100 P st G = pm_go pm_sC 85 G (pm_oK 8 102 P st G) := pm_dn_eq (i := .bipush 8) (len := 2) rfl
theorem u_85_102 (P : PL) (st : List PV) (G : PW) : pm_dn pm_sC 85 102 P st G = pm_go pm_sC 85 G (pm_oDiv 103 P st G) := pm_dn_eq (i := .idiv) (len := 1) rfl
theorem u_85_103 (P : PL) (st : List PV) (G : PW) : pm_dn pm_sC 85 103 P st G = pm_go pm_sC 85 G (pm_oK 3 104 P st G) := pm_dn_eq (i := .iconst 3) (len := 1) rfl
theorem u_85_104 (P : PL) (st : List PV) (G : PW) : pm_dn pm_sC 85 104 P st G = pm_go pm_sC 85 G (pm_oMul 105 P st G) := pm_dn_eq (i := .imul) (len := 1) rfl
theorem u_85_105 (P : PL) (st : List PV) (G : PW) : pm_dn pm_sC 85 105 P st G = pm_go pm_sC 85 G (pm_oK 0 106 P st G) := pm_dn_eq (i := .iconst 0) (len := 1) rfl
theorem u_85_106 (P : PL) (st : List PV) (G : PW) : pm_dn pm_sC 85 106 P st G = pm_go pm_sC 85 G (pm_oCv pm_sC 57 2 4 5 109 P st G) := pm_dn_eq (i := .invokevirtual 14) (len := 3) rfl
theorem u_85_109 (P : PL) (st : List PV) (G : PW) : pm_dn pm_sC 85 109 P st G = pm_go pm_sC 85 G (pm_oK 2 110 P st G) := pm_dn_eq (i := .iconst 2) (len := 1) rfl
theorem u_85_110 (P : PL) (st : List PV) (G : PW) : pm_dn pm_sC 85 110 P st G = pm_go pm_sC 85 G (pm_oIc .eq (some 141) 113 P st G) := pm_dn_eq (i := .if_icmp .eq 31) (len := 3) rfl
theorem u_85_113 (P : PL) (st : List PV) (G : PW) : pm_dn pm_sC 85 113 P st G = pm_go pm_sC 85 G (pm_oAL 0 114 P st G) := pm_dn_eq (i := .aload_n 0) (len := 1) rfl
theorem u_85_114 (P : PL) (st : List PV) (G : PW) : pm_dn pm_sC 85 114 P st G = pm_go pm_sC 85 G (pm_oIL 2 115 P st G) := pm_dn_eq (i := .iload_n 2) (len := 1) rfl
theorem u_85_115 (P : PL) (st : List PV) (G : PW) : pm_dn pm_sC 85 115 P st G = pm_go pm_sC 85 G (pm_oK 8 117 P st G) := pm_dn_eq (i := .bipush 8) (len := 2) rfl
theorem u_85_117 (P : PL) (st : List PV) (G : PW) : pm_dn pm_sC 85 117 P st G = pm_go pm_sC 85 G (pm_oDiv 118 P st G) := pm_dn_eq (i := .idiv) (len := 1) rfl
theorem u_85_118 (P : PL) (st : List PV) (G : PW) : pm_dn pm_sC 85 118 P st G = pm_go pm_sC 85 G (pm_oK 3 119 P st G) := pm_dn_eq (i := .iconst 3) (len := 1) rfl
theorem u_85_119 (P : PL) (st : List PV) (G : PW) : pm_dn pm_sC 85 119 P st G = pm_go pm_sC 85 G (pm_oMul 120 P st G) := pm_dn_eq (i := .imul) (len := 1) rfl
theorem u_85_120 (P : PL) (st : List PV) (G : PW) : pm_dn pm_sC 85 120 P st G = pm_go pm_sC 85 G (pm_oK 0 121 P st G) := pm_dn_eq (i := .iconst 0) (len := 1) rfl
theorem u_85_121 (P : PL) (st : List PV) (G : PW) : pm_dn pm_sC 85 121 P st G = pm_go pm_sC 85 G (pm_oCv pm_sC 57 2 4 5 124 P st G) := pm_dn_eq (i := .invokevirtual 14) (len := 3) rfl
theorem u_85_124 (P : PL) (st : List PV) (G : PW) : pm_dn pm_sC 85 124 P st G = pm_go pm_sC 85 G (pm_oK 3 125 P st G) := pm_dn_eq (i := .iconst 3) (len := 1) rfl
theorem u_85_125 (P : PL) (st : List PV) (G : PW) : pm_dn pm_sC 85 125 P st G = pm_go pm_sC 85 G (pm_oIc .eq (some 141) 128 P st G) := pm_dn_eq (i := .if_icmp .eq 16) (len := 3) rfl
theorem u_85_128 (P : PL) (st : List PV) (G : PW) : pm_dn pm_sC 85 128 P st G = pm_go pm_sC 85 G (pm_oAL 0 129 P st G) := pm_dn_eq (i := .aload_n 0) (len := 1) rfl
theorem u_85_129 (P : PL) (st : List PV) (G : PW) : pm_dn pm_sC 85 129 P st G = pm_go pm_sC 85 G (pm_oIL 2 130 P st G) := pm_dn_eq (i := .iload_n 2) (len := 1) rfl
theorem u_85_130 (P : PL) (st : List PV) (G : PW) : pm_dn pm_sC 85 130 P st G = pm_go pm_sC 85 G (pm_oK 8 132 P st G) := pm_dn_eq (i := .bipush 8) (len := 2) rfl
theorem u_85_132 (P : PL) (st : List PV) (G : PW) : pm_dn pm_sC 85 132 P st G = pm_go pm_sC 85 G (pm_oDiv 133 P st G) := pm_dn_eq (i := .idiv) (len := 1) rfl
theorem u_85_133 (P : PL) (st : List PV) (G : PW) : pm_dn pm_sC 85 133 P st G = pm_go pm_sC 85 G (pm_oK 0 134 P st G) := pm_dn_eq (i := .iconst 0) (len := 1) rfl
theorem u_85_134 (P : PL) (st : List PV) (G : PW) : pm_dn pm_sC 85 134 P st G = pm_go pm_sC 85 G (pm_oCv pm_sC 57 2 4 5 137 P st G) := pm_dn_eq (i := .invokevirtual 14) (len := 3) rfl
theorem u_85_137 (P : PL) (st : List PV) (G : PW) : pm_dn pm_sC 85 137 P st G = pm_go pm_sC 85 G (pm_oK 3 138 P st G) := pm_dn_eq (i := .iconst 3) (len := 1) rfl
theorem u_85_138 (P : PL) (st : List PV) (G : PW) : pm_dn pm_sC 85 138 P st G = pm_go pm_sC 85 G (pm_oIc .ne (some 145) 141 P st G) := pm_dn_eq (i := .if_icmp .ne 7) (len := 3) rfl
theorem u_85_141 (P : PL) (st : List PV) (G : PW) : pm_dn pm_sC 85 141 P st G = pm_go pm_sC 85 G (pm_oK 1 142 P st G) := pm_dn_eq (i := .iconst 1) (len := 1) rfl
theorem u_85_142 (P : PL) (st : List PV) (G : PW) : pm_dn pm_sC 85 142 P st G = pm_go pm_sC 85 G (pm_oGo (some 146) P st G) := pm_dn_eq (i := .goto 4) (len := 3) rfl
theorem u_85_145 (P : PL) (st : List PV) (G : PW) : pm_dn pm_sC 85 145 P st G = pm_go pm_sC 85 G (pm_oK 0 146 P st G) := pm_dn_eq (i := .iconst 0) (len := 1) rfl
theorem u_85_146 (P : PL) (st : List PV) (G : PW) : pm_dn pm_sC 85 146 P st G = pm_go pm_sC 85 G (pm_oRi 2 P st G) := pm_dn_eq (i := .ireturn) (len := 1) rfl
