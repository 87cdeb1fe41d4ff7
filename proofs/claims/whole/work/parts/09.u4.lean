/-! printed by gen09.py: what each instruction does, pc by pc -/
theorem ue_140 (a0 : Nat) (a1 : Int) (a2 : Int) (G : PW) : pm_ca pm_sM 140 [.inr (.inr a0), .inl a1, .inl a2] G = pm_dn pm_sM 140 0 [some (.inr (.inr a0)), some (.inl a1), some (.inl a2), none, none, none, none] [] G := rfl
theorem u_140_0 (P : PL) (st : List PV) (G : PW) : pm_dn pm_sM 140 0 P st G = pm_go pm_sM 140 G (pm_oK 0 1 P st G) := pm_dn_eq (i := .iconst 0) (len := 1) rfl
theorem u_140_1 (P : PL) (st : List PV) (G : PW) : pm_dn pm_sM 140 1 P st G = pm_go pm_sM 140 G (pm_oIS 3 2 P st G) := pm_dn_eq (i := .istore_n 3) (len := 1) rfl
theorem u_140_2 (P : PL) (st : List PV) (G : PW) : pm_dn pm_sM 140 2 P st G = pm_go pm_sM 140 G (pm_oK 0 3 P st G) := pm_dn_eq (i := .iconst 0) (len := 1) rfl
theorem u_140_3 (P : PL) (st : List PV) (G : PW) : pm_dn pm_sM 140 3 P st G = pm_go pm_sM 140 G (pm_oIS 4 5 P st G) := pm_dn_eq (i := .istore 4) (len := 2) rfl
theorem u_140_5 (P : PL) (st : List PV) (G : PW) : pm_dn pm_sM 140 5 P st G = pm_go pm_sM 140 G (pm_oIL 4 7 P st G) := pm_dn_eq (i := .iload 4) (len := 2) rfl
theorem u_140_7 (P : PL) (st : List PV) (G : PW) : pm_dn pm_sM 140 7 P st G = pm_go pm_sM 140 G (pm_oAL 0 8 P st G) := pm_dn_eq (i := .aload_n 0) (len := 1) rfl
theorem u_140_8 (P : PL) (st : List PV) (G : PW) : pm_dn pm_sM 140 8 P st G = pm_go pm_sM 140 G (pm_oGf pm_sM 6 7 11 P st G) := pm_dn_eq (i := .getfield 97) (len := 3) rfl
theorem u_140_11 (P : PL) (st : List PV) (G : PW) : pm_dn pm_sM 140 11 P st G = pm_go pm_sM 140 G (pm_oIc .ge (some 133) 14 P st G) := pm_dn_eq (i := .if_icmp .ge 122) (len := 3) rfl
theorem u_140_14 (P : PL) (st : List PV) (G : PW) : pm_dn pm_sM 140 14 P st G = pm_go pm_sM 140 G (pm_oAL 0 15 P st G) := pm_dn_eq (i := .aload_n 0) (len := 1) rfl
theorem u_140_15 (P : PL) (st : List PV) (G : PW) : pm_dn pm_sM 140 15 P st G = pm_go pm_sM 140 G (pm_oGf pm_sM 6 23 18 P st G) := pm_dn_eq (i := .getfield 68) (len := 3) rfl
theorem u_140_18 (P : PL) (st : List PV) (G : PW) : pm_dn pm_sM 140 18 P st G = pm_go pm_sM 140 G (pm_oIL 4 20 P st G) := pm_dn_eq (i := .iload 4) (len := 2) rfl
theorem u_140_20 (P : PL) (st : List PV) (G : PW) : pm_dn pm_sM 140 20 P st G = pm_go pm_sM 140 G (pm_oAld pm_sM 0 21 P st G) := pm_dn_eq (i := .iaload) (len := 1) rfl
theorem u_140_21 (P : PL) (st : List PV) (G : PW) : pm_dn pm_sM 140 21 P st G = pm_go pm_sM 140 G (pm_oK 1 22 P st G) := pm_dn_eq (i := .iconst 1) (len := 1) rfl
theorem u_140_22 (P : PL) (st : List PV) (G : PW) : pm_dn pm_sM 140 22 P st G = pm_go pm_sM 140 G (pm_oIc .le (some 40) 25 P st G) := pm_dn_eq (i := .if_icmp .le 18) (len := 3) rfl
theorem u_140_25 (P : PL) (st : List PV) (G : PW) : pm_dn pm_sM 140 25 P st G = pm_go pm_sM 140 G (pm_oAL 0 26 P st G) := pm_dn_eq (i := .aload_n 0) (len := 1) rfl
theorem u_140_26 (P : PL) (st : List PV) (G : PW) : pm_dn pm_sM 140 26 P st G = pm_go pm_sM 140 G (pm_oGf pm_sM 6 21 29 P st G) := pm_dn_eq (i := .getfield 62) (len := 3) rfl
theorem u_140_29 (P : PL) (st : List PV) (G : PW) : pm_dn pm_sM 140 29 P st G = pm_go pm_sM 140 G (pm_oIL 4 31 P st G) := pm_dn_eq (i := .iload 4) (len := 2) rfl
theorem u_140_31 (P : PL) (st : List PV) (G : PW) : pm_dn pm_sM 140 31 P st G = pm_go pm_sM 140 G (pm_oAld pm_sM 0 32 P st G) := pm_dn_eq (i := .iaload) (len := 1) rfl
theorem u_140_32 (P : PL) (st : List PV) (G : PW) : pm_dn pm_sM 140 32 P st G = pm_go pm_sM 140 G (pm_oIL 1 33 P st G) := pm_dn_eq (i := .iload_n 1) (len := 1) rfl
theorem u_140_33 (P : PL) (st : List PV) (G : PW) : pm_dn pm_sM 140 33 P st G = pm_go pm_sM 140 G (pm_oIc .ne (some 40) 36 P st G) := pm_dn_eq (i := .if_icmp .ne 7) (len := 3) rfl
theorem u_140_36 (P : PL) (st : List PV) (G : PW) : pm_dn pm_sM 140 36 P st G = pm_go pm_sM 140 G (pm_oK 1 37 P st G) := pm_dn_eq (i := .iconst 1) (len := 1) rfl
theorem u_140_37 (P : PL) (st : List PV) (G : PW) : pm_dn pm_sM 140 37 P st G = pm_go pm_sM 140 G (pm_oGo (some 41) P st G) := pm_dn_eq (i := .goto 4) (len := 3) rfl
theorem u_140_40 (P : PL) (st : List PV) (G : PW) : pm_dn pm_sM 140 40 P st G = pm_go pm_sM 140 G (pm_oK 0 41 P st G) := pm_dn_eq (i := .iconst 0) (len := 1) rfl
theorem u_140_41 (P : PL) (st : List PV) (G : PW) : pm_dn pm_sM 140 41 P st G = pm_go pm_sM 140 G (pm_oIS 5 43 P st G) := pm_dn_eq (i := .istore 5) (len := 2) rfl
theorem u_140_43 (P : PL) (st : List PV) (G : PW) : pm_dn pm_sM 140 43 P st G = pm_go pm_sM 140 G (pm_oAL 0 44 P st G) := pm_dn_eq (i := .aload_n 0) (len := 1) rfl
theorem u_140_44 (P : PL) (st : List PV) (G : PW) : pm_dn pm_sM 140 44 P st G = pm_go pm_sM 140 G (pm_oGf pm_sM 6 23 47 P st G) := pm_dn_eq (i := .getfield 68) (len := 3) rfl
theorem u_140_47 (P : PL) (st : List PV) (G : PW) : pm_dn pm_sM 140 47 P st G = pm_go pm_sM 140 G (pm_oIL 4 49 P st G) := pm_dn_eq (i := .iload 4) (len := 2) rfl
theorem u_140_49 (P : PL) (st : List PV) (G : PW) : pm_dn pm_sM 140 49 P st G = pm_go pm_sM 140 G (pm_oAld pm_sM 0 50 P st G) := pm_dn_eq (i := .iaload) (len := 1) rfl
theorem u_140_50 (P : PL) (st : List PV) (G : PW) : pm_dn pm_sM 140 50 P st G = pm_go pm_sM 140 G (pm_oK 1 51 P st G) := pm_dn_eq (i := .iconst 1) (len := 1) rfl
theorem u_140_51 (P : PL) (st : List PV) (G : PW) : pm_dn pm_sM 140 51 P st G = pm_go pm_sM 140 G (pm_oIc .le (some 69) 54 P st G) := pm_dn_eq (i := .if_icmp .le 18) (len := 3) rfl
theorem u_140_54 (P : PL) (st : List PV) (G : PW) : pm_dn pm_sM 140 54 P st G = pm_go pm_sM 140 G (pm_oAL 0 55 P st G) := pm_dn_eq (i := .aload_n 0) (len := 1) rfl
theorem u_140_55 (P : PL) (st : List PV) (G : PW) : pm_dn pm_sM 140 55 P st G = pm_go pm_sM 140 G (pm_oGf pm_sM 6 22 58 P st G) := pm_dn_eq (i := .getfield 65) (len := 3) rfl
theorem u_140_58 (P : PL) (st : List PV) (G : PW) : pm_dn pm_sM 140 58 P st G = pm_go pm_sM 140 G (pm_oIL 4 60 P st G) := pm_dn_eq (i := .iload 4) (len := 2) rfl
theorem u_140_60 (P : PL) (st : List PV) (G : PW) : pm_dn pm_sM 140 60 P st G = pm_go pm_sM 140 G (pm_oAld pm_sM 0 61 P st G) := pm_dn_eq (i := .iaload) (len := 1) rfl
theorem u_140_61 (P : PL) (st : List PV) (G : PW) : pm_dn pm_sM 140 61 P st G = pm_go pm_sM 140 G (pm_oIL 1 62 P st G) := pm_dn_eq (i := .iload_n 1) (len := 1) rfl
theorem u_140_62 (P : PL) (st : List PV) (G : PW) : pm_dn pm_sM 140 62 P st G = pm_go pm_sM 140 G (pm_oIc .ne (some 69) 65 P st G) := pm_dn_eq (i := .if_icmp .ne 7) (len := 3) rfl
theorem u_140_65 (P : PL) (st : List PV) (G : PW) : pm_dn pm_sM 140 65 P st G = pm_go pm_sM 140 G (pm_oK 1 66 P st G) := pm_dn_eq (i := .iconst 1) (len := 1) rfl
theorem u_140_66 (P : PL) (st : List PV) (G : PW) : pm_dn pm_sM 140 66 P st G = pm_go pm_sM 140 G (pm_oGo (some 70) P st G) := pm_dn_eq (i := .goto 4) (len := 3) rfl
theorem u_140_69 (P : PL) (st : List PV) (G : PW) : pm_dn pm_sM 140 69 P st G = pm_go pm_sM 140 G (pm_oK 0 70 P st G) := pm_dn_eq (i := .iconst 0) (len := 1) rfl
theorem u_140_70 (P : PL) (st : List PV) (G : PW) : pm_dn pm_sM 140 70 P st G = pm_go pm_sM 140 G (pm_oIS 6 72 P st G) := pm_dn_eq (i := .istore 6) (len := 2) rfl
theorem u_140_72 (P : PL) (st : List PV) (G : PW) : pm_dn pm_sM 140 72 P st G = pm_go pm_sM 140 G (pm_oIL 3 73 P st G) := pm_dn_eq (i := .iload_n 3) (len := 1) rfl
theorem u_140_73 (P : PL) (st : List PV) (G : PW) : pm_dn pm_sM 140 73 P st G = pm_go pm_sM 140 G (pm_oIL 2 74 P st G) := pm_dn_eq (i := .iload_n 2) (len := 1) rfl
theorem u_140_74 (P : PL) (st : List PV) (G : PW) : pm_dn pm_sM 140 74 P st G = pm_go pm_sM 140 G (pm_oK 1 75 P st G) := pm_dn_eq (i := .iconst 1) (len := 1) rfl
theorem u_140_75 (P : PL) (st : List PV) (G : PW) : pm_dn pm_sM 140 75 P st G = pm_go pm_sM 140 G (pm_oIc .ne (some 83) 78 P st G) := pm_dn_eq (i := .if_icmp .ne 8) (len := 3) rfl
theorem u_140_78 (P : PL) (st : List PV) (G : PW) : pm_dn pm_sM 140 78 P st G = pm_go pm_sM 140 G (pm_oIL 5 80 P st G) := pm_dn_eq (i := .iload 5) (len := 2) rfl
theorem u_140_80 (P : PL) (st : List PV) (G : PW) : pm_dn pm_sM 140 80 P st G = pm_go pm_sM 140 G (pm_oIf .ne (some 120) 83 P st G) := pm_dn_eq (i := .ifCond .ne 40) (len := 3) rfl
theorem u_140_83 (P : PL) (st : List PV) (G : PW) : pm_dn pm_sM 140 83 P st G = pm_go pm_sM 140 G (pm_oIL 2 84 P st G) := pm_dn_eq (i := .iload_n 2) (len := 1) rfl
theorem u_140_84 (P : PL) (st : List PV) (G : PW) : pm_dn pm_sM 140 84 P st G = pm_go pm_sM 140 G (pm_oK 2 85 P st G) := pm_dn_eq (i := .iconst 2) (len := 1) rfl
theorem u_140_85 (P : PL) (st : List PV) (G : PW) : pm_dn pm_sM 140 85 P st G = pm_go pm_sM 140 G (pm_oIc .ne (some 93) 88 P st G) := pm_dn_eq (i := .if_icmp .ne 8) (len := 3) rfl
theorem u_140_88 (P : PL) (st : List PV) (G : PW) : pm_dn pm_sM 140 88 P st G = pm_go pm_sM 140 G (pm_oIL 6 90 P st G) := pm_dn_eq (i := .iload 6) (len := 2) rfl
theorem u_140_90 (P : PL) (st : List PV) (G : PW) : pm_dn pm_sM 140 90 P st G = pm_go pm_sM 140 G (pm_oIf .ne (some 120) 93 P st G) := pm_dn_eq (i := .ifCond .ne 30) (len := 3) rfl
theorem u_140_93 (P : PL) (st : List PV) (G : PW) : pm_dn pm_sM 140 93 P st G = pm_go pm_sM 140 G (pm_oIL 2 94 P st G) := pm_dn_eq (i := .iload_n 2) (len := 1) rfl
theorem u_140_94 (P : PL) (st : List PV) (G : PW) : pm_dn pm_sM 140 94 P st G = pm_go pm_sM 140 G (pm_oK 8 96 P st G) := pm_dn_eq (i := .bipush 8) (len := 2) rfl
theorem u_140_96 (P : PL) (st : List PV) (G : PW) : pm_dn pm_sM 140 96 P st G = pm_go pm_sM 140 G (pm_oIc .ne (some 124) 99 P st G) := pm_dn_eq (i := .if_icmp .ne 28) (len := 3) rfl
theorem u_140_99 (P : PL) (st : List PV) (G : PW) : pm_dn pm_sM 140 99 P st G = pm_go pm_sM 140 G (pm_oAL 0 100 P st G) := pm_dn_eq (i := .aload_n 0) (len := 1) rfl
theorem u_140_100 (P : PL) (st : List PV) (G : PW) : pm_dn pm_sM 140 100 P st G = pm_go pm_sM 140 G (pm_oGf pm_sM 6 23 103 P st G) := pm_dn_eq (i := .getfield 68) (len := 3) rfl
theorem u_140_103 (P : PL) (st : List PV) (G : PW) : pm_dn pm_sM 140 103 P st G = pm_go pm_sM 140 G (pm_oIL 4 105 P st G) := pm_dn_eq (i := .iload 4) (len := 2) rfl
theorem u_140_105 (P : PL) (st : List PV) (G : PW) : pm_dn pm_sM 140 105 P st G = pm_go pm_sM 140 G (pm_oAld pm_sM 0 106 P st G) := pm_dn_eq (i := .iaload) (len := 1) rfl
theorem u_140_106 (P : PL) (st : List PV) (G : PW) : pm_dn pm_sM 140 106 P st G = pm_go pm_sM 140 G (pm_oK 3 107 P st G) := pm_dn_eq (i := .iconst 3) (len := 1) rfl
theorem u_140_107 (P : PL) (st : List PV) (G : PW) : pm_dn pm_sM 140 107 P st G = pm_go pm_sM 140 G (pm_oIc .ne (some 124) 110 P st G) := pm_dn_eq (i := .if_icmp .ne 17) (len := 3) rfl
theorem u_140_110 (P : PL) (st : List PV) (G : PW) : pm_dn pm_sM 140 110 P st G = pm_go pm_sM 140 G (pm_oIL 5 112 P st G) := pm_dn_eq (i := .iload 5) (len := 2) rfl
theorem u_140_112 (P : PL) (st : List PV) (G : PW) : pm_dn pm_sM 140 112 P st G = pm_go pm_sM 140 G (pm_oIf .ne (some 120) 115 P st G) := pm_dn_eq (i := .ifCond .ne 8) (len := 3) rfl
theorem u_140_115 (P : PL) (st : List PV) (G : PW) : pm_dn pm_sM 140 115 P st G = pm_go pm_sM 140 G (pm_oIL 6 117 P st G) := pm_dn_eq (i := .iload 6) (len := 2) rfl
theorem u_140_117 (P : PL) (st : List PV) (G : PW) : pm_dn pm_sM 140 117 P st G = pm_go pm_sM 140 G (pm_oIf .eq (some 124) 120 P st G) := pm_dn_eq (i := .ifCond .eq 7) (len := 3) rfl
theorem u_140_120 (P : PL) (st : List PV) (G : PW) : pm_dn pm_sM 140 120 P st G = pm_go pm_sM 140 G (pm_oK 1 121 P st G) := pm_dn_eq (i := .iconst 1) (len := 1) rfl
theorem u_140_121 (P : PL) (st : List PV) (G : PW) : pm_dn pm_sM 140 121 P st G = pm_go pm_sM 140 G (pm_oGo (some 125) P st G) := pm_dn_eq (i := .goto 4) (len := 3) rfl
theorem u_140_124 (P : PL) (st : List PV) (G : PW) : pm_dn pm_sM 140 124 P st G = pm_go pm_sM 140 G (pm_oK 0 125 P st G) := pm_dn_eq (i := .iconst 0) (len := 1) rfl
theorem u_140_125 (P : PL) (st : List PV) (G : PW) : pm_dn pm_sM 140 125 P st G = pm_go pm_sM 140 G (pm_oAdd 126 P st G) := pm_dn_eq (i := .iadd) (len := 1) rfl
theorem u_140_126 (P : PL) (st : List PV) (G : PW) : pm_dn pm_sM 140 126 P st G = pm_go pm_sM 140 G (pm_oIS 3 127 P st G) := pm_dn_eq (i := .istore_n 3) (len := 1) rfl
theorem u_140_127 (P : PL) (st : List PV) (G : PW) : pm_dn pm_sM 140 127 P st G = pm_go pm_sM 140 G (pm_oInc 4 1 130 P st G) := pm_dn_eq (i := .iinc 4 1) (len := 3) rfl
theorem u_140_130 (P : PL) (st : List PV) (G : PW) : pm_dn pm_sM 140 130 P st G = pm_go pm_sM 140 G (pm_oGo (some 5) P st G) := pm_dn_eq (i := .goto (-125)) (len := 3) rfl
theorem u_140_133 (P : PL) (st : List PV) (G : PW) : pm_dn pm_sM 140 133 P st G = pm_go pm_sM 140 G (pm_oIL 3 134 P st G) := pm_dn_eq (i := .iload_n 3) (len := 1) rfl
theorem u_140_134 (P : PL) (st : List PV) (G : PW) : pm_dn pm_sM 140 134 P st G = pm_go pm_sM 140 G (pm_oRi 0 P st G) := pm_dn_eq (i := .ireturn) (len := 1) rfl
theorem ue_141 (a0 : Nat) (a1 : Int) (G : PW) : pm_ca pm_sM 141 [.inr (.inr a0), .inl a1] G = pm_dn pm_sM 141 0 [some (.inr (.inr a0)), some (.inl a1), none] [] G := rfl
theorem u_141_0 (P : PL) (st : List PV) (G : PW) : pm_dn pm_sM 141 0 P st G = pm_go pm_sM 141 G (pm_oK 0 1 P st G) := pm_dn_eq (i := .iconst 0) (len := 1) rfl
theorem u_141_1 (P : PL) (st : List PV) (G : PW) : pm_dn pm_sM 141 1 P st G = pm_go pm_sM 141 G (pm_oIS 2 2 P st G) := pm_dn_eq (i := .istore_n 2) (len := 1) rfl
theorem u_141_2 (P : PL) (st : List PV) (G : PW) : pm_dn pm_sM 141 2 P st G = pm_go pm_sM 141 G (pm_oIL 2 3 P st G) := pm_dn_eq (i := .iload_n 2) (len := 1) rfl
theorem u_141_3 (P : PL) (st : List PV) (G : PW) : pm_dn pm_sM 141 3 P st G = pm_go pm_sM 141 G (pm_oAL 0 4 P st G) := pm_dn_eq (i := .aload_n 0) (len := 1) rfl
theorem u_141_4 (P : PL) (st : List PV) (G : PW) : pm_dn pm_sM 141 4 P st G = pm_go pm_sM 141 G (pm_oGf pm_sM 6 7 7 P st G) := pm_dn_eq (i := .getfield 97) (len := 3) rfl
theorem u_141_7 (P : PL) (st : List PV) (G : PW) : pm_dn pm_sM 141 7 P st G = pm_go pm_sM 141 G (pm_oIc .ge (some 53) 10 P st G) := pm_dn_eq (i := .if_icmp .ge 46) (len := 3) rfl
theorem u_141_10 (P : PL) (st : List PV) (G : PW) : pm_dn pm_sM 141 10 P st G = pm_go pm_sM 141 G (pm_oAL 0 11 P st G) := pm_dn_eq (i := .aload_n 0) (len := 1) rfl
theorem u_141_11 (P : PL) (st : List PV) (G : PW) : pm_dn pm_sM 141 11 P st G = pm_go pm_sM 141 G (pm_oGf pm_sM 6 23 14 P st G) := pm_dn_eq (i := .getfield 68) (len := 3) rfl
theorem u_141_14 (P : PL) (st : List PV) (G : PW) : pm_dn pm_sM 141 14 P st G = pm_go pm_sM 141 G (pm_oIL 2 15 P st G) := pm_dn_eq (i := .iload_n 2) (len := 1) rfl
theorem u_141_15 (P : PL) (st : List PV) (G : PW) : pm_dn pm_sM 141 15 P st G = pm_go pm_sM 141 G (pm_oAld pm_sM 0 16 P st G) := pm_dn_eq (i := .iaload) (len := 1) rfl
theorem u_141_16 (P : PL) (st : List PV) (G : PW) : pm_dn pm_sM 141 16 P st G = pm_go pm_sM 141 G (pm_oIf .ne (some 47) 19 P st G) := pm_dn_eq (i := .ifCond .ne 31) (len := 3) rfl
theorem u_141_19 (P : PL) (st : List PV) (G : PW) : pm_dn pm_sM 141 19 P st G = pm_go pm_sM 141 G (pm_oAL 0 20 P st G) := pm_dn_eq (i := .aload_n 0) (len := 1) rfl
theorem u_141_20 (P : PL) (st : List PV) (G : PW) : pm_dn pm_sM 141 20 P st G = pm_go pm_sM 141 G (pm_oGf pm_sM 6 20 23 P st G) := pm_dn_eq (i := .getfield 59) (len := 3) rfl
theorem u_141_23 (P : PL) (st : List PV) (G : PW) : pm_dn pm_sM 141 23 P st G = pm_go pm_sM 141 G (pm_oK 2 24 P st G) := pm_dn_eq (i := .iconst 2) (len := 1) rfl
theorem u_141_24 (P : PL) (st : List PV) (G : PW) : pm_dn pm_sM 141 24 P st G = pm_go pm_sM 141 G (pm_oIL 2 25 P st G) := pm_dn_eq (i := .iload_n 2) (len := 1) rfl
theorem u_141_25 (P : PL) (st : List PV) (G : PW) : pm_dn pm_sM 141 25 P st G = pm_go pm_sM 141 G (pm_oMul 26 P st G) := pm_dn_eq (i := .imul) (len := 1) rfl
theorem u_141_26 (P : PL) (st : List PV) (G : PW) : pm_dn pm_sM 141 26 P st G = pm_go pm_sM 141 G (pm_oAld pm_sM 0 27 P st G) := pm_dn_eq (i := .iaload) (len := 1) rfl
theorem u_141_27 (P : PL) (st : List PV) (G : PW) : pm_dn pm_sM 141 27 P st G = pm_go pm_sM 141 G (pm_oIL 1 28 P st G) := pm_dn_eq (i := .iload_n 1) (len := 1) rfl
theorem u_141_28 (P : PL) (st : List PV) (G : PW) : pm_dn pm_sM 141 28 P st G = pm_go pm_sM 141 G (pm_oIc .eq (some 45) 31 P st G) := pm_dn_eq (i := .if_icmp .eq 17) (len := 3) rfl
theorem u_141_31 (P : PL) (st : List PV) (G : PW) : pm_dn pm_sM 141 31 P st G = pm_go pm_sM 141 G (pm_oAL 0 32 P st G) := pm_dn_eq (i := .aload_n 0) (len := 1) rfl
theorem u_141_32 (P : PL) (st : List PV) (G : PW) : pm_dn pm_sM 141 32 P st G = pm_go pm_sM 141 G (pm_oGf pm_sM 6 20 35 P st G) := pm_dn_eq (i := .getfield 59) (len := 3) rfl
theorem u_141_35 (P : PL) (st : List PV) (G : PW) : pm_dn pm_sM 141 35 P st G = pm_go pm_sM 141 G (pm_oK 2 36 P st G) := pm_dn_eq (i := .iconst 2) (len := 1) rfl
theorem u_141_36 (P : PL) (st : List PV) (G : PW) : pm_dn pm_sM 141 36 P st G = pm_go pm_sM 141 G (pm_oIL 2 37 P st G) := pm_dn_eq (i := .iload_n 2) (len := 1) rfl
theorem u_141_37 (P : PL) (st : List PV) (G : PW) : pm_dn pm_sM 141 37 P st G = pm_go pm_sM 141 G (pm_oMul 38 P st G) := pm_dn_eq (i := .imul) (len := 1) rfl
theorem u_141_38 (P : PL) (st : List PV) (G : PW) : pm_dn pm_sM 141 38 P st G = pm_go pm_sM 141 G (pm_oK 1 39 P st G) := pm_dn_eq (i := .iconst 1) (len := 1) rfl
theorem u_141_39 (P : PL) (st : List PV) (G : PW) : pm_dn pm_sM 141 39 P st G = pm_go pm_sM 141 G (pm_oAdd 40 P st G) := pm_dn_eq (i := .iadd) (len := 1) rfl
theorem u_141_40 (P : PL) (st : List PV) (G : PW) : pm_dn pm_sM 141 40 P st G = pm_go pm_sM 141 G (pm_oAld pm_sM 0 41 P st G) := pm_dn_eq (i := .iaload) (len := 1) rfl
theorem u_141_41 (P : PL) (st : List PV) (G : PW) : pm_dn pm_sM 141 41 P st G = pm_go pm_sM 141 G (pm_oIL 1 42 P st G) := pm_dn_eq (i := .iload_n 1) (len := 1) rfl
theorem u_141_42 (P : PL) (st : List PV) (G : PW) : pm_dn pm_sM 141 42 P st G = pm_go pm_sM 141 G (pm_oIc .ne (some 47) 45 P st G) := pm_dn_eq (i := .if_icmp .ne 5) (len := 3) rfl
theorem u_141_45 (P : PL) (st : List PV) (G : PW) : pm_dn pm_sM 141 45 P st G = pm_go pm_sM 141 G (pm_oIL 2 46 P st G) := pm_dn_eq (i := .iload_n 2) (len := 1) rfl
theorem u_141_46 (P : PL) (st : List PV) (G : PW) : pm_dn pm_sM 141 46 P st G = pm_go pm_sM 141 G (pm_oRi 0 P st G) := pm_dn_eq (i := .ireturn) (len := 1) rfl
theorem u_141_47 (P : PL) (st : List PV) (G : PW) : pm_dn pm_sM 141 47 P st G = pm_go pm_sM 141 G (pm_oInc 2 1 50 P st G) := pm_dn_eq (i := .iinc 2 1) (len := 3) rfl
theorem u_141_50 (P : PL) (st : List PV) (G : PW) : pm_dn pm_sM 141 50 P st G = pm_go pm_sM 141 G (pm_oGo (some 2) P st G) := pm_dn_eq (i := .goto (-48)) (len := 3) rfl
theorem u_141_53 (P : PL) (st : List PV) (G : PW) : pm_dn pm_sM 141 53 P st G = pm_go pm_sM 141 G (pm_oK (-6) 55 P st G) := pm_dn_eq (i := .bipush (-6)) (len := 2) rfl
theorem u_141_55 (P : PL) (st : List PV) (G : PW) : pm_dn pm_sM 141 55 P st G = pm_go pm_sM 141 G (pm_oRi 0 P st G) := pm_dn_eq (i := .ireturn) (len := 1) rfl
theorem ue_142 (a0 : Nat) (a1 : Int) (a2 : Int) (G : PW) : pm_ca pm_sM 142 [.inr (.inr a0), .inl a1, .inl a2] G = pm_dn pm_sM 142 0 [some (.inr (.inr a0)), some (.inl a1), some (.inl a2)] [] G := rfl
theorem u_142_0 (P : PL) (st : List PV) (G : PW) : pm_dn pm_sM 142 0 P st G = pm_go pm_sM 142 G (pm_oAL 0 1 P st G) := pm_dn_eq (i := .aload_n 0) (len := 1) rfl
theorem u_142_1 (P : PL) (st : List PV) (G : PW) : pm_dn pm_sM 142 1 P st G = pm_go pm_sM 142 G (pm_oIL 1 2 P st G) := pm_dn_eq (i := .iload_n 1) (len := 1) rfl
theorem u_142_2 (P : PL) (st : List PV) (G : PW) : pm_dn pm_sM 142 2 P st G = pm_go pm_sM 142 G (pm_oCv pm_sM 134 1 2 6 5 P st G) := pm_dn_eq (i := .invokevirtual 168) (len := 3) rfl
theorem u_142_5 (P : PL) (st : List PV) (G : PW) : pm_dn pm_sM 142 5 P st G = pm_go pm_sM 142 G (pm_oIf .ne (some 10) 8 P st G) := pm_dn_eq (i := .ifCond .ne 5) (len := 3) rfl
theorem u_142_8 (P : PL) (st : List PV) (G : PW) : pm_dn pm_sM 142 8 P st G = pm_go pm_sM 142 G (pm_oK (-1) 9 P st G) := pm_dn_eq (i := .iconst (-1)) (len := 1) rfl
theorem u_142_9 (P : PL) (st : List PV) (G : PW) : pm_dn pm_sM 142 9 P st G = pm_go pm_sM 142 G (pm_oRi 0 P st G) := pm_dn_eq (i := .ireturn) (len := 1) rfl
theorem u_142_10 (P : PL) (st : List PV) (G : PW) : pm_dn pm_sM 142 10 P st G = pm_go pm_sM 142 G (pm_oAL 0 11 P st G) := pm_dn_eq (i := .aload_n 0) (len := 1) rfl
theorem u_142_11 (P : PL) (st : List PV) (G : PW) : pm_dn pm_sM 142 11 P st G = pm_go pm_sM 142 G (pm_oCv pm_sM 124 0 1 6 14 P st G) := pm_dn_eq (i := .invokevirtual 171) (len := 3) rfl
theorem u_142_14 (P : PL) (st : List PV) (G : PW) : pm_dn pm_sM 142 14 P st G = pm_go pm_sM 142 G (pm_oIL 2 15 P st G) := pm_dn_eq (i := .iload_n 2) (len := 1) rfl
theorem u_142_15 (P : PL) (st : List PV) (G : PW) : pm_dn pm_sM 142 15 P st G = pm_go pm_sM 142 G (pm_oSw 0 8 (some 146) (some [64, 73, 73, 80, 90, 113, 132, 139, 73]) P st G) := pm_dn_eq (i := .tableswitch 131 0 8 #[49, 58, 58, 65, 75, 98, 117, 124, 58]) (len := 49) rfl
theorem u_142_64 (P : PL) (st : List PV) (G : PW) : pm_dn pm_sM 142 64 P st G = pm_go pm_sM 142 G (pm_oAL 0 65 P st G) := pm_dn_eq (i := .aload_n 0) (len := 1) rfl
theorem u_142_65 (P : PL) (st : List PV) (G : PW) : pm_dn pm_sM 142 65 P st G = pm_go pm_sM 142 G (pm_oGf pm_sM 6 0 68 P st G) := pm_dn_eq (i := .getfield 7) (len := 3) rfl
theorem u_142_68 (P : PL) (st : List PV) (G : PW) : pm_dn pm_sM 142 68 P st G = pm_go pm_sM 142 G (pm_oK 3 69 P st G) := pm_dn_eq (i := .iconst 3) (len := 1) rfl
theorem u_142_69 (P : PL) (st : List PV) (G : PW) : pm_dn pm_sM 142 69 P st G = pm_go pm_sM 142 G (pm_oIL 1 70 P st G) := pm_dn_eq (i := .iload_n 1) (len := 1) rfl
theorem u_142_70 (P : PL) (st : List PV) (G : PW) : pm_dn pm_sM 142 70 P st G = pm_go pm_sM 142 G (pm_oAdd 71 P st G) := pm_dn_eq (i := .iadd) (len := 1) rfl
theorem u_142_71 (P : PL) (st : List PV) (G : PW) : pm_dn pm_sM 142 71 P st G = pm_go pm_sM 142 G (pm_oAld pm_sM 0 72 P st G) := pm_dn_eq (i := .iaload) (len := 1) rfl
theorem u_142_72 (P : PL) (st : List PV) (G : PW) : pm_dn pm_sM 142 72 P st G = pm_go pm_sM 142 G (pm_oRi 0 P st G) := pm_dn_eq (i := .ireturn) (len := 1) rfl
theorem u_142_73 (P : PL) (st : List PV) (G : PW) : pm_dn pm_sM 142 73 P st G = pm_go pm_sM 142 G (pm_oAL 0 74 P st G) := pm_dn_eq (i := .aload_n 0) (len := 1) rfl
theorem u_142_74 (P : PL) (st : List PV) (G : PW) : pm_dn pm_sM 142 74 P st G = pm_go pm_sM 142 G (pm_oIL 1 75 P st G) := pm_dn_eq (i := .iload_n 1) (len := 1) rfl
theorem u_142_75 (P : PL) (st : List PV) (G : PW) : pm_dn pm_sM 142 75 P st G = pm_go pm_sM 142 G (pm_oIL 2 76 P st G) := pm_dn_eq (i := .iload_n 2) (len := 1) rfl
theorem u_142_76 (P : PL) (st : List PV) (G : PW) : pm_dn pm_sM 142 76 P st G = pm_go pm_sM 142 G (pm_oCv pm_sM 140 2 7 6 79 P st G) := pm_dn_eq (i := .invokevirtual 186) (len := 3) rfl
theorem u_142_79 (P : PL) (st : List PV) (G : PW) : pm_dn pm_sM 142 79 P st G = pm_go pm_sM 142 G (pm_oRi 0 P st G) := pm_dn_eq (i := .ireturn) (len := 1) rfl
theorem u_142_80 (P : PL) (st : List PV) (G : PW) : pm_dn pm_sM 142 80 P st G = pm_go pm_sM 142 G (pm_oAL 0 81 P st G) := pm_dn_eq (i := .aload_n 0) (len := 1) rfl
theorem u_142_81 (P : PL) (st : List PV) (G : PW) : pm_dn pm_sM 142 81 P st G = pm_go pm_sM 142 G (pm_oGf pm_sM 6 0 84 P st G) := pm_dn_eq (i := .getfield 7) (len := 3) rfl
theorem u_142_84 (P : PL) (st : List PV) (G : PW) : pm_dn pm_sM 142 84 P st G = pm_go pm_sM 142 G (pm_oK 50 86 P st G) := pm_dn_eq (i := .bipush 50) (len := 2) rfl
theorem u_142_86 (P : PL) (st : List PV) (G : PW) : pm_dn pm_sM 142 86 P st G = pm_go pm_sM 142 G (pm_oIL 1 87 P st G) := pm_dn_eq (i := .iload_n 1) (len := 1) rfl
theorem u_142_87 (P : PL) (st : List PV) (G : PW) : pm_dn pm_sM 142 87 P st G = pm_go pm_sM 142 G (pm_oAdd 88 P st G) := pm_dn_eq (i := .iadd) (len := 1) rfl
theorem u_142_88 (P : PL) (st : List PV) (G : PW) : pm_dn pm_sM 142 88 P st G = pm_go pm_sM 142 G (pm_oAld pm_sM 0 89 P st G) := pm_dn_eq (i := .iaload) (len := 1) rfl
theorem u_142_89 (P : PL) (st : List PV) (G : PW) : pm_dn pm_sM 142 89 P st G = pm_go pm_sM 142 G (pm_oRi 0 P st G) := pm_dn_eq (i := .ireturn) (len := 1) rfl
theorem u_142_90 (P : PL) (st : List PV) (G : PW) : pm_dn pm_sM 142 90 P st G = pm_go pm_sM 142 G (pm_oAL 0 91 P st G) := pm_dn_eq (i := .aload_n 0) (len := 1) rfl
theorem u_142_91 (P : PL) (st : List PV) (G : PW) : pm_dn pm_sM 142 91 P st G = pm_go pm_sM 142 G (pm_oIL 1 92 P st G) := pm_dn_eq (i := .iload_n 1) (len := 1) rfl
theorem u_142_92 (P : PL) (st : List PV) (G : PW) : pm_dn pm_sM 142 92 P st G = pm_go pm_sM 142 G (pm_oCv pm_sM 131 1 2 6 95 P st G) := pm_dn_eq (i := .invokevirtual 180) (len := 3) rfl
theorem u_142_95 (P : PL) (st : List PV) (G : PW) : pm_dn pm_sM 142 95 P st G = pm_go pm_sM 142 G (pm_oIf .eq (some 102) 98 P st G) := pm_dn_eq (i := .ifCond .eq 7) (len := 3) rfl
theorem u_142_98 (P : PL) (st : List PV) (G : PW) : pm_dn pm_sM 142 98 P st G = pm_go pm_sM 142 G (pm_oK 3 99 P st G) := pm_dn_eq (i := .iconst 3) (len := 1) rfl
theorem u_142_99 (P : PL) (st : List PV) (G : PW) : pm_dn pm_sM 142 99 P st G = pm_go pm_sM 142 G (pm_oGo (some 112) P st G) := pm_dn_eq (i := .goto 13) (len := 3) rfl
theorem u_142_102 (P : PL) (st : List PV) (G : PW) : pm_dn pm_sM 142 102 P st G = pm_go pm_sM 142 G (pm_oAL 0 103 P st G) := pm_dn_eq (i := .aload_n 0) (len := 1) rfl
theorem u_142_103 (P : PL) (st : List PV) (G : PW) : pm_dn pm_sM 142 103 P st G = pm_go pm_sM 142 G (pm_oGf pm_sM 6 8 106 P st G) := pm_dn_eq (i := .getfield 23) (len := 3) rfl
theorem u_142_106 (P : PL) (st : List PV) (G : PW) : pm_dn pm_sM 142 106 P st G = pm_go pm_sM 142 G (pm_oAL 0 107 P st G) := pm_dn_eq (i := .aload_n 0) (len := 1) rfl
theorem u_142_107 (P : PL) (st : List PV) (G : PW) : pm_dn pm_sM 142 107 P st G = pm_go pm_sM 142 G (pm_oIL 1 108 P st G) := pm_dn_eq (i := .iload_n 1) (len := 1) rfl
theorem u_142_108 (P : PL) (st : List PV) (G : PW) : pm_dn pm_sM 142 108 P st G = pm_go pm_sM 142 G (pm_oCv pm_sM 141 1 3 6 111 P st G) := pm_dn_eq (i := .invokevirtual 190) (len := 3) rfl
theorem u_142_111 (P : PL) (st : List PV) (G : PW) : pm_dn pm_sM 142 111 P st G = pm_go pm_sM 142 G (pm_oAld pm_sM 0 112 P st G) := pm_dn_eq (i := .iaload) (len := 1) rfl
theorem u_142_112 (P : PL) (st : List PV) (G : PW) : pm_dn pm_sM 142 112 P st G = pm_go pm_sM 142 G (pm_oRi 0 P st G) := pm_dn_eq (i := .ireturn) (len := 1) rfl
theorem u_142_113 (P : PL) (st : List PV) (G : PW) : pm_dn pm_sM 142 113 P st G = pm_go pm_sM 142 G (pm_oAL 0 114 P st G) := pm_dn_eq (i := .aload_n 0) (len := 1) rfl
theorem u_142_114 (P : PL) (st : List PV) (G : PW) : pm_dn pm_sM 142 114 P st G = pm_go pm_sM 142 G (pm_oIL 1 115 P st G) := pm_dn_eq (i := .iload_n 1) (len := 1) rfl
theorem u_142_115 (P : PL) (st : List PV) (G : PW) : pm_dn pm_sM 142 115 P st G = pm_go pm_sM 142 G (pm_oCv pm_sM 131 1 2 6 118 P st G) := pm_dn_eq (i := .invokevirtual 180) (len := 3) rfl
theorem u_142_118 (P : PL) (st : List PV) (G : PW) : pm_dn pm_sM 142 118 P st G = pm_go pm_sM 142 G (pm_oIf .eq (some 126) 121 P st G) := pm_dn_eq (i := .ifCond .eq 8) (len := 3) rfl
theorem u_142_121 (P : PL) (st : List PV) (G : PW) : pm_dn pm_sM 142 121 P st G = pm_go pm_sM 142 G (pm_oK (-6) 123 P st G) := pm_dn_eq (i := .bipush (-6)) (len := 2) rfl
theorem u_142_123 (P : PL) (st : List PV) (G : PW) : pm_dn pm_sM 142 123 P st G = pm_go pm_sM 142 G (pm_oGo (some 131) P st G) := pm_dn_eq (i := .goto 8) (len := 3) rfl
theorem u_142_126 (P : PL) (st : List PV) (G : PW) : pm_dn pm_sM 142 126 P st G = pm_go pm_sM 142 G (pm_oAL 0 127 P st G) := pm_dn_eq (i := .aload_n 0) (len := 1) rfl
theorem u_142_127 (P : PL) (st : List PV) (G : PW) : pm_dn pm_sM 142 127 P st G = pm_go pm_sM 142 G (pm_oIL 1 128 P st G) := pm_dn_eq (i := .iload_n 1) (len := 1) rfl
theorem u_142_128 (P : PL) (st : List PV) (G : PW) : pm_dn pm_sM 142 128 P st G = pm_go pm_sM 142 G (pm_oCv pm_sM 141 1 3 6 131 P st G) := pm_dn_eq (i := .invokevirtual 190) (len := 3) rfl
theorem u_142_131 (P : PL) (st : List PV) (G : PW) : pm_dn pm_sM 142 131 P st G = pm_go pm_sM 142 G (pm_oRi 0 P st G) := pm_dn_eq (i := .ireturn) (len := 1) rfl
theorem u_142_132 (P : PL) (st : List PV) (G : PW) : pm_dn pm_sM 142 132 P st G = pm_go pm_sM 142 G (pm_oAL 0 133 P st G) := pm_dn_eq (i := .aload_n 0) (len := 1) rfl
theorem u_142_133 (P : PL) (st : List PV) (G : PW) : pm_dn pm_sM 142 133 P st G = pm_go pm_sM 142 G (pm_oIL 1 134 P st G) := pm_dn_eq (i := .iload_n 1) (len := 1) rfl
theorem u_142_134 (P : PL) (st : List PV) (G : PW) : pm_dn pm_sM 142 134 P st G = pm_go pm_sM 142 G (pm_oK 0 135 P st G) := pm_dn_eq (i := .iconst 0) (len := 1) rfl
theorem u_142_135 (P : PL) (st : List PV) (G : PW) : pm_dn pm_sM 142 135 P st G = pm_go pm_sM 142 G (pm_oCv pm_sM 132 2 6 6 138 P st G) := pm_dn_eq (i := .invokevirtual 193) (len := 3) rfl
theorem u_142_138 (P : PL) (st : List PV) (G : PW) : pm_dn pm_sM 142 138 P st G = pm_go pm_sM 142 G (pm_oRi 0 P st G) := pm_dn_eq (i := .ireturn) (len := 1) rfl
theorem u_142_139 (P : PL) (st : List PV) (G : PW) : pm_dn pm_sM 142 139 P st G = pm_go pm_sM 142 G (pm_oAL 0 140 P st G) := pm_dn_eq (i := .aload_n 0) (len := 1) rfl
theorem u_142_140 (P : PL) (st : List PV) (G : PW) : pm_dn pm_sM 142 140 P st G = pm_go pm_sM 142 G (pm_oIL 1 141 P st G) := pm_dn_eq (i := .iload_n 1) (len := 1) rfl
theorem u_142_141 (P : PL) (st : List PV) (G : PW) : pm_dn pm_sM 142 141 P st G = pm_go pm_sM 142 G (pm_oK 1 142 P st G) := pm_dn_eq (i := .iconst 1) (len := 1) rfl
theorem u_142_142 (P : PL) (st : List PV) (G : PW) : pm_dn pm_sM 142 142 P st G = pm_go pm_sM 142 G (pm_oCv pm_sM 132 2 6 6 145 P st G) := pm_dn_eq (i := .invokevirtual 193) (len := 3) rfl
theorem u_142_145 (P : PL) (st : List PV) (G : PW) : pm_dn pm_sM 142 145 P st G = pm_go pm_sM 142 G (pm_oRi 0 P st G) := pm_dn_eq (i := .ireturn) (len := 1) rfl
theorem u_142_146 (P : PL) (st : List PV) (G : PW) : pm_dn pm_sM 142 146 P st G = pm_go pm_sM 142 G (pm_oK (-2) 148 P st G) := pm_dn_eq (i := .bipush (-2)) (len := 2) rfl
theorem u_142_148 (P : PL) (st : List PV) (G : PW) : pm_dn pm_sM 142 148 P st G = pm_go pm_sM 142 G (pm_oRi 0 P st G) := pm_dn_eq (i := .ireturn) (len := 1) rfl
theorem ue_143 (a0 : Nat) (a1 : Int) (G : PW) : pm_ca pm_sM 143 [.inr (.inr a0), .inl a1] G = pm_dn pm_sM 143 0 [some (.inr (.inr a0)), some (.inl a1), none, none] [] G := rfl
theorem u_143_0 (P : PL) (st : List PV) (G : PW) : pm_dn pm_sM 143 0 P st G = pm_go pm_sM 143 G (pm_oIL 1 1 P st G) := pm_dn_eq (i := .iload_n 1) (len := 1) rfl
theorem u_143_1 (P : PL) (st : List PV) (G : PW) : pm_dn pm_sM 143 1 P st G = pm_go pm_sM 143 G (pm_oIS 2 2 P st G) := pm_dn_eq (i := .istore_n 2) (len := 1) rfl
theorem u_143_2 (P : PL) (st : List PV) (G : PW) : pm_dn pm_sM 143 2 P st G = pm_go pm_sM 143 G (pm_oK 0 3 P st G) := pm_dn_eq (i := .iconst 0) (len := 1) rfl
theorem u_143_3 (P : PL) (st : List PV) (G : PW) : pm_dn pm_sM 143 3 P st G = pm_go pm_sM 143 G (pm_oIS 3 4 P st G) := pm_dn_eq (i := .istore_n 3) (len := 1) rfl
theorem u_143_4 (P : PL) (st : List PV) (G : PW) : pm_dn pm_sM 143 4 P st G = pm_go pm_sM 143 G (pm_oIL 3 5 P st G) := pm_dn_eq (i := .iload_n 3) (len := 1) rfl
theorem u_143_5 (P : PL) (st : List PV) (G : PW) : pm_dn pm_sM 143 5 P st G = pm_go pm_sM 143 G (pm_oAL 0 6 P st G) := pm_dn_eq (i := .aload_n 0) (len := 1) rfl
theorem u_143_6 (P : PL) (st : List PV) (G : PW) : pm_dn pm_sM 143 6 P st G = pm_go pm_sM 143 G (pm_oGf pm_sM 6 7 9 P st G) := pm_dn_eq (i := .getfield 97) (len := 3) rfl
theorem u_143_9 (P : PL) (st : List PV) (G : PW) : pm_dn pm_sM 143 9 P st G = pm_go pm_sM 143 G (pm_oIc .ge (some 35) 12 P st G) := pm_dn_eq (i := .if_icmp .ge 26) (len := 3) rfl
theorem u_143_12 (P : PL) (st : List PV) (G : PW) : pm_dn pm_sM 143 12 P st G = pm_go pm_sM 143 G (pm_oAL 0 13 P st G) := pm_dn_eq (i := .aload_n 0) (len := 1) rfl
theorem u_143_13 (P : PL) (st : List PV) (G : PW) : pm_dn pm_sM 143 13 P st G = pm_go pm_sM 143 G (pm_oIL 3 14 P st G) := pm_dn_eq (i := .iload_n 3) (len := 1) rfl
theorem u_143_14 (P : PL) (st : List PV) (G : PW) : pm_dn pm_sM 143 14 P st G = pm_go pm_sM 143 G (pm_oCv pm_sM 127 1 2 6 17 P st G) := pm_dn_eq (i := .invokevirtual 174) (len := 3) rfl
theorem u_143_17 (P : PL) (st : List PV) (G : PW) : pm_dn pm_sM 143 17 P st G = pm_go pm_sM 143 G (pm_oIf .eq (some 29) 20 P st G) := pm_dn_eq (i := .ifCond .eq 12) (len := 3) rfl
theorem u_143_20 (P : PL) (st : List PV) (G : PW) : pm_dn pm_sM 143 20 P st G = pm_go pm_sM 143 G (pm_oIL 2 21 P st G) := pm_dn_eq (i := .iload_n 2) (len := 1) rfl
theorem u_143_21 (P : PL) (st : List PV) (G : PW) : pm_dn pm_sM 143 21 P st G = pm_go pm_sM 143 G (pm_oIf .ne (some 26) 24 P st G) := pm_dn_eq (i := .ifCond .ne 5) (len := 3) rfl
theorem u_143_24 (P : PL) (st : List PV) (G : PW) : pm_dn pm_sM 143 24 P st G = pm_go pm_sM 143 G (pm_oIL 3 25 P st G) := pm_dn_eq (i := .iload_n 3) (len := 1) rfl
theorem u_143_25 (P : PL) (st : List PV) (G : PW) : pm_dn pm_sM 143 25 P st G = pm_go pm_sM 143 G (pm_oRi 0 P st G) := pm_dn_eq (i := .ireturn) (len := 1) rfl
theorem u_143_26 (P : PL) (st : List PV) (G : PW) : pm_dn pm_sM 143 26 P st G = pm_go pm_sM 143 G (pm_oInc 2 (-1) 29 P st G) := pm_dn_eq (i := .iinc 2 (-1)) (len := 3) rfl
theorem u_143_29 (P : PL) (st : List PV) (G : PW) : pm_dn pm_sM 143 29 P st G = pm_go pm_sM 143 G (pm_oInc 3 1 32 P st G) := pm_dn_eq (i := .iinc 3 1) (len := 3) rfl
theorem u_143_32 (P : PL) (st : List PV) (G : PW) : pm_dn pm_sM 143 32 P st G = pm_go pm_sM 143 G (pm_oGo (some 4) P st G) := pm_dn_eq (i := .goto (-28)) (len := 3) rfl
theorem u_143_35 (P : PL) (st : List PV) (G : PW) : pm_dn pm_sM 143 35 P st G = pm_go pm_sM 143 G (pm_oK (-6) 37 P st G) := pm_dn_eq (i := .bipush (-6)) (len := 2) rfl
theorem u_143_37 (P : PL) (st : List PV) (G : PW) : pm_dn pm_sM 143 37 P st G = pm_go pm_sM 143 G (pm_oRi 0 P st G) := pm_dn_eq (i := .ireturn) (len := 1) rfl
theorem ue_144 (a0 : Nat) (a1 : Int) (G : PW) : pm_ca pm_sM 144 [.inr (.inr a0), .inl a1] G = pm_dn pm_sM 144 0 [some (.inr (.inr a0)), some (.inl a1)] [] G := rfl
theorem u_144_0 (P : PL) (st : List PV) (G : PW) : pm_dn pm_sM 144 0 P st G = pm_go pm_sM 144 G (pm_oAL 0 1 P st G) := pm_dn_eq (i := .aload_n 0) (len := 1) rfl
theorem u_144_1 (P : PL) (st : List PV) (G : PW) : pm_dn pm_sM 144 1 P st G = pm_go pm_sM 144 G (pm_oCv pm_sM 124 0 1 6 4 P st G) := pm_dn_eq (i := .invokevirtual 171) (len := 3) rfl
theorem u_144_4 (P : PL) (st : List PV) (G : PW) : pm_dn pm_sM 144 4 P st G = pm_go pm_sM 144 G (pm_oIL 1 5 P st G) := pm_dn_eq (i := .iload_n 1) (len := 1) rfl
theorem u_144_5 (P : PL) (st : List PV) (G : PW) : pm_dn pm_sM 144 5 P st G = pm_go pm_sM 144 G (pm_oIf .ge (some 13) 8 P st G) := pm_dn_eq (i := .ifCond .ge 8) (len := 3) rfl
theorem u_144_8 (P : PL) (st : List PV) (G : PW) : pm_dn pm_sM 144 8 P st G = pm_go pm_sM 144 G (pm_oK (-6) 10 P st G) := pm_dn_eq (i := .bipush (-6)) (len := 2) rfl
theorem u_144_10 (P : PL) (st : List PV) (G : PW) : pm_dn pm_sM 144 10 P st G = pm_go pm_sM 144 G (pm_oGo (some 18) P st G) := pm_dn_eq (i := .goto 8) (len := 3) rfl
theorem u_144_13 (P : PL) (st : List PV) (G : PW) : pm_dn pm_sM 144 13 P st G = pm_go pm_sM 144 G (pm_oAL 0 14 P st G) := pm_dn_eq (i := .aload_n 0) (len := 1) rfl
theorem u_144_14 (P : PL) (st : List PV) (G : PW) : pm_dn pm_sM 144 14 P st G = pm_go pm_sM 144 G (pm_oIL 1 15 P st G) := pm_dn_eq (i := .iload_n 1) (len := 1) rfl
theorem u_144_15 (P : PL) (st : List PV) (G : PW) : pm_dn pm_sM 144 15 P st G = pm_go pm_sM 144 G (pm_oCv pm_sM 143 1 4 6 18 P st G) := pm_dn_eq (i := .invokevirtual 197) (len := 3) rfl
theorem u_144_18 (P : PL) (st : List PV) (G : PW) : pm_dn pm_sM 144 18 P st G = pm_go pm_sM 144 G (pm_oRi 0 P st G) := pm_dn_eq (i := .ireturn) (len := 1) rfl
theorem ue_145 (a0 : Nat) (a1 : Int) (G : PW) : pm_ca pm_sM 145 [.inr (.inr a0), .inl a1] G = pm_dn pm_sM 145 0 [some (.inr (.inr a0)), some (.inl a1), none, none] [] G := rfl
theorem u_145_0 (P : PL) (st : List PV) (G : PW) : pm_dn pm_sM 145 0 P st G = pm_go pm_sM 145 G (pm_oK 0 1 P st G) := pm_dn_eq (i := .iconst 0) (len := 1) rfl
theorem u_145_1 (P : PL) (st : List PV) (G : PW) : pm_dn pm_sM 145 1 P st G = pm_go pm_sM 145 G (pm_oIS 2 2 P st G) := pm_dn_eq (i := .istore_n 2) (len := 1) rfl
theorem u_145_2 (P : PL) (st : List PV) (G : PW) : pm_dn pm_sM 145 2 P st G = pm_go pm_sM 145 G (pm_oK 0 3 P st G) := pm_dn_eq (i := .iconst 0) (len := 1) rfl
theorem u_145_3 (P : PL) (st : List PV) (G : PW) : pm_dn pm_sM 145 3 P st G = pm_go pm_sM 145 G (pm_oIS 3 4 P st G) := pm_dn_eq (i := .istore_n 3) (len := 1) rfl
theorem u_145_4 (P : PL) (st : List PV) (G : PW) : pm_dn pm_sM 145 4 P st G = pm_go pm_sM 145 G (pm_oIL 3 5 P st G) := pm_dn_eq (i := .iload_n 3) (len := 1) rfl
theorem u_145_5 (P : PL) (st : List PV) (G : PW) : pm_dn pm_sM 145 5 P st G = pm_go pm_sM 145 G (pm_oAL 0 6 P st G) := pm_dn_eq (i := .aload_n 0) (len := 1) rfl
theorem u_145_6 (P : PL) (st : List PV) (G : PW) : pm_dn pm_sM 145 6 P st G = pm_go pm_sM 145 G (pm_oGf pm_sM 6 7 9 P st G) := pm_dn_eq (i := .getfield 97) (len := 3) rfl
theorem u_145_9 (P : PL) (st : List PV) (G : PW) : pm_dn pm_sM 145 9 P st G = pm_go pm_sM 145 G (pm_oIc .ge (some 36) 12 P st G) := pm_dn_eq (i := .if_icmp .ge 27) (len := 3) rfl
theorem u_145_12 (P : PL) (st : List PV) (G : PW) : pm_dn pm_sM 145 12 P st G = pm_go pm_sM 145 G (pm_oIL 2 13 P st G) := pm_dn_eq (i := .iload_n 2) (len := 1) rfl
theorem u_145_13 (P : PL) (st : List PV) (G : PW) : pm_dn pm_sM 145 13 P st G = pm_go pm_sM 145 G (pm_oAL 0 14 P st G) := pm_dn_eq (i := .aload_n 0) (len := 1) rfl
theorem u_145_14 (P : PL) (st : List PV) (G : PW) : pm_dn pm_sM 145 14 P st G = pm_go pm_sM 145 G (pm_oGf pm_sM 6 23 17 P st G) := pm_dn_eq (i := .getfield 68) (len := 3) rfl
theorem u_145_17 (P : PL) (st : List PV) (G : PW) : pm_dn pm_sM 145 17 P st G = pm_go pm_sM 145 G (pm_oIL 3 18 P st G) := pm_dn_eq (i := .iload_n 3) (len := 1) rfl
theorem u_145_18 (P : PL) (st : List PV) (G : PW) : pm_dn pm_sM 145 18 P st G = pm_go pm_sM 145 G (pm_oAld pm_sM 0 19 P st G) := pm_dn_eq (i := .iaload) (len := 1) rfl
theorem u_145_19 (P : PL) (st : List PV) (G : PW) : pm_dn pm_sM 145 19 P st G = pm_go pm_sM 145 G (pm_oIL 1 20 P st G) := pm_dn_eq (i := .iload_n 1) (len := 1) rfl
theorem u_145_20 (P : PL) (st : List PV) (G : PW) : pm_dn pm_sM 145 20 P st G = pm_go pm_sM 145 G (pm_oIc .ne (some 27) 23 P st G) := pm_dn_eq (i := .if_icmp .ne 7) (len := 3) rfl
theorem u_145_23 (P : PL) (st : List PV) (G : PW) : pm_dn pm_sM 145 23 P st G = pm_go pm_sM 145 G (pm_oK 1 24 P st G) := pm_dn_eq (i := .iconst 1) (len := 1) rfl
theorem u_145_24 (P : PL) (st : List PV) (G : PW) : pm_dn pm_sM 145 24 P st G = pm_go pm_sM 145 G (pm_oGo (some 28) P st G) := pm_dn_eq (i := .goto 4) (len := 3) rfl
theorem u_145_27 (P : PL) (st : List PV) (G : PW) : pm_dn pm_sM 145 27 P st G = pm_go pm_sM 145 G (pm_oK 0 28 P st G) := pm_dn_eq (i := .iconst 0) (len := 1) rfl
theorem u_145_28 (P : PL) (st : List PV) (G : PW) : pm_dn pm_sM 145 28 P st G = pm_go pm_sM 145 G (pm_oAdd 29 P st G) := pm_dn_eq (i := .iadd) (len := 1) rfl
theorem u_145_29 (P : PL) (st : List PV) (G : PW) : pm_dn pm_sM 145 29 P st G = pm_go pm_sM 145 G (pm_oIS 2 30 P st G) := pm_dn_eq (i := .istore_n 2) (len := 1) rfl
theorem u_145_30 (P : PL) (st : List PV) (G : PW) : pm_dn pm_sM 145 30 P st G = pm_go pm_sM 145 G (pm_oInc 3 1 33 P st G) := pm_dn_eq (i := .iinc 3 1) (len := 3) rfl
theorem u_145_33 (P : PL) (st : List PV) (G : PW) : pm_dn pm_sM 145 33 P st G = pm_go pm_sM 145 G (pm_oGo (some 4) P st G) := pm_dn_eq (i := .goto (-29)) (len := 3) rfl
theorem u_145_36 (P : PL) (st : List PV) (G : PW) : pm_dn pm_sM 145 36 P st G = pm_go pm_sM 145 G (pm_oIL 2 37 P st G) := pm_dn_eq (i := .iload_n 2) (len := 1) rfl
theorem u_145_37 (P : PL) (st : List PV) (G : PW) : pm_dn pm_sM 145 37 P st G = pm_go pm_sM 145 G (pm_oRi 0 P st G) := pm_dn_eq (i := .ireturn) (len := 1) rfl
theorem ue_146 (a0 : Nat) (G : PW) : pm_ca pm_sM 146 [.inr (.inr a0)] G = pm_dn pm_sM 146 0 [some (.inr (.inr a0)), none, none] [] G := rfl
theorem u_146_0 (P : PL) (st : List PV) (G : PW) : pm_dn pm_sM 146 0 P st G = pm_go pm_sM 146 G (pm_oK 0 1 P st G) := pm_dn_eq (i := .iconst 0) (len := 1) rfl
theorem u_146_1 (P : PL) (st : List PV) (G : PW) : pm_dn pm_sM 146 1 P st G = pm_go pm_sM 146 G (pm_oIS 1 2 P st G) := pm_dn_eq (i := .istore_n 1) (len := 1) rfl
theorem u_146_2 (P : PL) (st : List PV) (G : PW) : pm_dn pm_sM 146 2 P st G = pm_go pm_sM 146 G (pm_oK 0 3 P st G) := pm_dn_eq (i := .iconst 0) (len := 1) rfl
theorem u_146_3 (P : PL) (st : List PV) (G : PW) : pm_dn pm_sM 146 3 P st G = pm_go pm_sM 146 G (pm_oIS 2 4 P st G) := pm_dn_eq (i := .istore_n 2) (len := 1) rfl
theorem u_146_4 (P : PL) (st : List PV) (G : PW) : pm_dn pm_sM 146 4 P st G = pm_go pm_sM 146 G (pm_oIL 2 5 P st G) := pm_dn_eq (i := .iload_n 2) (len := 1) rfl
theorem u_146_5 (P : PL) (st : List PV) (G : PW) : pm_dn pm_sM 146 5 P st G = pm_go pm_sM 146 G (pm_oAL 0 6 P st G) := pm_dn_eq (i := .aload_n 0) (len := 1) rfl
theorem u_146_6 (P : PL) (st : List PV) (G : PW) : pm_dn pm_sM 146 6 P st G = pm_go pm_sM 146 G (pm_oGf pm_sM 6 7 9 P st G) := pm_dn_eq (i := .getfield 97) (len := 3) rfl
theorem u_146_9 (P : PL) (st : List PV) (G : PW) : pm_dn pm_sM 146 9 P st G = pm_go pm_sM 146 G (pm_oIc .ge (some 34) 12 P st G) := pm_dn_eq (i := .if_icmp .ge 25) (len := 3) rfl
theorem u_146_12 (P : PL) (st : List PV) (G : PW) : pm_dn pm_sM 146 12 P st G = pm_go pm_sM 146 G (pm_oIL 1 13 P st G) := pm_dn_eq (i := .iload_n 1) (len := 1) rfl
theorem u_146_13 (P : PL) (st : List PV) (G : PW) : pm_dn pm_sM 146 13 P st G = pm_go pm_sM 146 G (pm_oAL 0 14 P st G) := pm_dn_eq (i := .aload_n 0) (len := 1) rfl
theorem u_146_14 (P : PL) (st : List PV) (G : PW) : pm_dn pm_sM 146 14 P st G = pm_go pm_sM 146 G (pm_oIL 2 15 P st G) := pm_dn_eq (i := .iload_n 2) (len := 1) rfl
theorem u_146_15 (P : PL) (st : List PV) (G : PW) : pm_dn pm_sM 146 15 P st G = pm_go pm_sM 146 G (pm_oCv pm_sM 127 1 2 6 18 P st G) := pm_dn_eq (i := .invokevirtual 174) (len := 3) rfl
theorem u_146_18 (P : PL) (st : List PV) (G : PW) : pm_dn pm_sM 146 18 P st G = pm_go pm_sM 146 G (pm_oIf .eq (some 25) 21 P st G) := pm_dn_eq (i := .ifCond .eq 7) (len := 3) rfl
theorem u_146_21 (P : PL) (st : List PV) (G : PW) : pm_dn pm_sM 146 21 P st G = pm_go pm_sM 146 G (pm_oK 1 22 P st G) := pm_dn_eq (i := .iconst 1) (len := 1) rfl
theorem u_146_22 (P : PL) (st : List PV) (G : PW) : pm_dn pm_sM 146 22 P st G = pm_go pm_sM 146 G (pm_oGo (some 26) P st G) := pm_dn_eq (i := .goto 4) (len := 3) rfl
theorem u_146_25 (P : PL) (st : List PV) (G : PW) : pm_dn pm_sM 146 25 P st G = pm_go pm_sM 146 G (pm_oK 0 26 P st G) := pm_dn_eq (i := .iconst 0) (len := 1) rfl
theorem u_146_26 (P : PL) (st : List PV) (G : PW) : pm_dn pm_sM 146 26 P st G = pm_go pm_sM 146 G (pm_oAdd 27 P st G) := pm_dn_eq (i := .iadd) (len := 1) rfl
theorem u_146_27 (P : PL) (st : List PV) (G : PW) : pm_dn pm_sM 146 27 P st G = pm_go pm_sM 146 G (pm_oIS 1 28 P st G) := pm_dn_eq (i := .istore_n 1) (len := 1) rfl
theorem u_146_28 (P : PL) (st : List PV) (G : PW) : pm_dn pm_sM 146 28 P st G = pm_go pm_sM 146 G (pm_oInc 2 1 31 P st G) := pm_dn_eq (i := .iinc 2 1) (len := 3) rfl
theorem u_146_31 (P : PL) (st : List PV) (G : PW) : pm_dn pm_sM 146 31 P st G = pm_go pm_sM 146 G (pm_oGo (some 4) P st G) := pm_dn_eq (i := .goto (-27)) (len := 3) rfl
theorem u_146_34 (P : PL) (st : List PV) (G : PW) : pm_dn pm_sM 146 34 P st G = pm_go pm_sM 146 G (pm_oIL 1 35 P st G) := pm_dn_eq (i := .iload_n 1) (len := 1) rfl
theorem u_146_35 (P : PL) (st : List PV) (G : PW) : pm_dn pm_sM 146 35 P st G = pm_go pm_sM 146 G (pm_oRi 0 P st G) := pm_dn_eq (i := .ireturn) (len := 1) rfl
theorem ue_147 (a0 : Nat) (G : PW) : pm_ca pm_sM 147 [.inr (.inr a0)] G = pm_dn pm_sM 147 0 [some (.inr (.inr a0)), none, none] [] G := rfl
theorem u_147_0 (P : PL) (st : List PV) (G : PW) : pm_dn pm_sM 147 0 P st G = pm_go pm_sM 147 G (pm_oK 0 1 P st G) := pm_dn_eq (i := .iconst 0) (len := 1) rfl
theorem u_147_1 (P : PL) (st : List PV) (G : PW) : pm_dn pm_sM 147 1 P st G = pm_go pm_sM 147 G (pm_oIS 1 2 P st G) := pm_dn_eq (i := .istore_n 1) (len := 1) rfl
theorem u_147_2 (P : PL) (st : List PV) (G : PW) : pm_dn pm_sM 147 2 P st G = pm_go pm_sM 147 G (pm_oK 0 3 P st G) := pm_dn_eq (i := .iconst 0) (len := 1) rfl
theorem u_147_3 (P : PL) (st : List PV) (G : PW) : pm_dn pm_sM 147 3 P st G = pm_go pm_sM 147 G (pm_oIS 2 4 P st G) := pm_dn_eq (i := .istore_n 2) (len := 1) rfl
theorem u_147_4 (P : PL) (st : List PV) (G : PW) : pm_dn pm_sM 147 4 P st G = pm_go pm_sM 147 G (pm_oIL 2 5 P st G) := pm_dn_eq (i := .iload_n 2) (len := 1) rfl
theorem u_147_5 (P : PL) (st : List PV) (G : PW) : pm_dn pm_sM 147 5 P st G = pm_go pm_sM 147 G (pm_oAL 0 6 P st G) := pm_dn_eq (i := .aload_n 0) (len := 1) rfl
theorem u_147_6 (P : PL) (st : List PV) (G : PW) : pm_dn pm_sM 147 6 P st G = pm_go pm_sM 147 G (pm_oGf pm_sM 6 0 9 P st G) := pm_dn_eq (i := .getfield 7) (len := 3) rfl
theorem u_147_9 (P : PL) (st : List PV) (G : PW) : pm_dn pm_sM 147 9 P st G = pm_go pm_sM 147 G (pm_oK 0 10 P st G) := pm_dn_eq (i := .iconst 0) (len := 1) rfl
theorem u_147_10 (P : PL) (st : List PV) (G : PW) : pm_dn pm_sM 147 10 P st G = pm_go pm_sM 147 G (pm_oAld pm_sM 0 11 P st G) := pm_dn_eq (i := .iaload) (len := 1) rfl
theorem u_147_11 (P : PL) (st : List PV) (G : PW) : pm_dn pm_sM 147 11 P st G = pm_go pm_sM 147 G (pm_oIc .ge (some 36) 14 P st G) := pm_dn_eq (i := .if_icmp .ge 25) (len := 3) rfl
theorem u_147_14 (P : PL) (st : List PV) (G : PW) : pm_dn pm_sM 147 14 P st G = pm_go pm_sM 147 G (pm_oIL 1 15 P st G) := pm_dn_eq (i := .iload_n 1) (len := 1) rfl
theorem u_147_15 (P : PL) (st : List PV) (G : PW) : pm_dn pm_sM 147 15 P st G = pm_go pm_sM 147 G (pm_oAL 0 16 P st G) := pm_dn_eq (i := .aload_n 0) (len := 1) rfl
theorem u_147_16 (P : PL) (st : List PV) (G : PW) : pm_dn pm_sM 147 16 P st G = pm_go pm_sM 147 G (pm_oIL 2 17 P st G) := pm_dn_eq (i := .iload_n 2) (len := 1) rfl
theorem u_147_17 (P : PL) (st : List PV) (G : PW) : pm_dn pm_sM 147 17 P st G = pm_go pm_sM 147 G (pm_oCv pm_sM 131 1 2 6 20 P st G) := pm_dn_eq (i := .invokevirtual 180) (len := 3) rfl
theorem u_147_20 (P : PL) (st : List PV) (G : PW) : pm_dn pm_sM 147 20 P st G = pm_go pm_sM 147 G (pm_oIf .eq (some 27) 23 P st G) := pm_dn_eq (i := .ifCond .eq 7) (len := 3) rfl
theorem u_147_23 (P : PL) (st : List PV) (G : PW) : pm_dn pm_sM 147 23 P st G = pm_go pm_sM 147 G (pm_oK 1 24 P st G) := pm_dn_eq (i := .iconst 1) (len := 1) rfl
theorem u_147_24 (P : PL) (st : List PV) (G : PW) : pm_dn pm_sM 147 24 P st G = pm_go pm_sM 147 G (pm_oGo (some 28) P st G) := pm_dn_eq (i := .goto 4) (len := 3) rfl
theorem u_147_27 (P : PL) (st : List PV) (G : PW) : pm_dn pm_sM 147 27 P st G = pm_go pm_sM 147 G (pm_oK 0 28 P st G) := pm_dn_eq (i := .iconst 0) (len := 1) rfl
theorem u_147_28 (P : PL) (st : List PV) (G : PW) : pm_dn pm_sM 147 28 P st G = pm_go pm_sM 147 G (pm_oAdd 29 P st G) := pm_dn_eq (i := .iadd) (len := 1) rfl
theorem u_147_29 (P : PL) (st : List PV) (G : PW) : pm_dn pm_sM 147 29 P st G = pm_go pm_sM 147 G (pm_oIS 1 30 P st G) := pm_dn_eq (i := .istore_n 1) (len := 1) rfl
theorem u_147_30 (P : PL) (st : List PV) (G : PW) : pm_dn pm_sM 147 30 P st G = pm_go pm_sM 147 G (pm_oInc 2 1 33 P st G) := pm_dn_eq (i := .iinc 2 1) (len := 3) rfl
theorem u_147_33 (P : PL) (st : List PV) (G : PW) : pm_dn pm_sM 147 33 P st G = pm_go pm_sM 147 G (pm_oGo (some 4) P st G) := pm_dn_eq (i := .goto (-29)) (len := 3) rfl
theorem u_147_36 (P : PL) (st : List PV) (G : PW) : pm_dn pm_sM 147 36 P st G = pm_go pm_sM 147 G (pm_oIL 1 37 P st G) := pm_dn_eq (i := .iload_n 1) (len := 1) rfl
theorem u_147_37 (P : PL) (st : List PV) (G : PW) : pm_dn pm_sM 147 37 P st G = pm_go pm_sM 147 G (pm_oRi 0 P st G) := pm_dn_eq (i := .ireturn) (len := 1) rfl
theorem ue_148 (a0 : Nat) (a1 : Int) (G : PW) : pm_ca pm_sM 148 [.inr (.inr a0), .inl a1] G = pm_dn pm_sM 148 0 [some (.inr (.inr a0)), some (.inl a1), none, none, none, none, none, none, none] [] G := rfl
theorem u_148_0 (P : PL) (st : List PV) (G : PW) : pm_dn pm_sM 148 0 P st G = pm_go pm_sM 148 G (pm_oAL 0 1 P st G) := pm_dn_eq (i := .aload_n 0) (len := 1) rfl
theorem u_148_1 (P : PL) (st : List PV) (G : PW) : pm_dn pm_sM 148 1 P st G = pm_go pm_sM 148 G (pm_oCv pm_sM 125 0 2 6 4 P st G) := pm_dn_eq (i := .invokevirtual 150) (len := 3) rfl
theorem u_148_4 (P : PL) (st : List PV) (G : PW) : pm_dn pm_sM 148 4 P st G = pm_go pm_sM 148 G (pm_oK (-6) 6 P st G) := pm_dn_eq (i := .bipush (-6)) (len := 2) rfl
theorem u_148_6 (P : PL) (st : List PV) (G : PW) : pm_dn pm_sM 148 6 P st G = pm_go pm_sM 148 G (pm_oIc .eq (some 11) 9 P st G) := pm_dn_eq (i := .if_icmp .eq 5) (len := 3) rfl
theorem u_148_9 (P : PL) (st : List PV) (G : PW) : pm_dn pm_sM 148 9 P st G = pm_go pm_sM 148 G (pm_oK 0 10 P st G) := pm_dn_eq (i := .iconst 0) (len := 1) rfl
theorem u_148_10 (P : PL) (st : List PV) (G : PW) : pm_dn pm_sM 148 10 P st G = pm_go pm_sM 148 G (pm_oRi 0 P st G) := pm_dn_eq (i := .ireturn) (len := 1) rfl
theorem u_148_11 (P : PL) (st : List PV) (G : PW) : pm_dn pm_sM 148 11 P st G = pm_go pm_sM 148 G (pm_oK 0 12 P st G) := pm_dn_eq (i := .iconst 0) (len := 1) rfl
theorem u_148_12 (P : PL) (st : List PV) (G : PW) : pm_dn pm_sM 148 12 P st G = pm_go pm_sM 148 G (pm_oIS 2 13 P st G) := pm_dn_eq (i := .istore_n 2) (len := 1) rfl
theorem u_148_13 (P : PL) (st : List PV) (G : PW) : pm_dn pm_sM 148 13 P st G = pm_go pm_sM 148 G (pm_oK 0 14 P st G) := pm_dn_eq (i := .iconst 0) (len := 1) rfl
theorem u_148_14 (P : PL) (st : List PV) (G : PW) : pm_dn pm_sM 148 14 P st G = pm_go pm_sM 148 G (pm_oIS 3 15 P st G) := pm_dn_eq (i := .istore_n 3) (len := 1) rfl
theorem u_148_15 (P : PL) (st : List PV) (G : PW) : pm_dn pm_sM 148 15 P st G = pm_go pm_sM 148 G (pm_oK 0 16 P st G) := pm_dn_eq (i := .iconst 0) (len := 1) rfl
theorem u_148_16 (P : PL) (st : List PV) (G : PW) : pm_dn pm_sM 148 16 P st G = pm_go pm_sM 148 G (pm_oIS 4 18 P st G) := pm_dn_eq (i := .istore 4) (len := 2) rfl
theorem u_148_18 (P : PL) (st : List PV) (G : PW) : pm_dn pm_sM 148 18 P st G = pm_go pm_sM 148 G (pm_oK 0 19 P st G) := pm_dn_eq (i := .iconst 0) (len := 1) rfl
theorem u_148_19 (P : PL) (st : List PV) (G : PW) : pm_dn pm_sM 148 19 P st G = pm_go pm_sM 148 G (pm_oIS 5 21 P st G) := pm_dn_eq (i := .istore 5) (len := 2) rfl
theorem u_148_21 (P : PL) (st : List PV) (G : PW) : pm_dn pm_sM 148 21 P st G = pm_go pm_sM 148 G (pm_oK 0 22 P st G) := pm_dn_eq (i := .iconst 0) (len := 1) rfl
theorem u_148_22 (P : PL) (st : List PV) (G : PW) : pm_dn pm_sM 148 22 P st G = pm_go pm_sM 148 G (pm_oIS 6 24 P st G) := pm_dn_eq (i := .istore 6) (len := 2) rfl
theorem u_148_24 (P : PL) (st : List PV) (G : PW) : pm_dn pm_sM 148 24 P st G = pm_go pm_sM 148 G (pm_oK 0 25 P st G) := pm_dn_eq (i := .iconst 0) (len := 1) rfl
theorem u_148_25 (P : PL) (st : List PV) (G : PW) : pm_dn pm_sM 148 25 P st G = pm_go pm_sM 148 G (pm_oIS 7 27 P st G) := pm_dn_eq (i := .istore 7) (len := 2) rfl
theorem u_148_27 (P : PL) (st : List PV) (G : PW) : pm_dn pm_sM 148 27 P st G = pm_go pm_sM 148 G (pm_oIL 7 29 P st G) := pm_dn_eq (i := .iload 7) (len := 2) rfl
theorem u_148_29 (P : PL) (st : List PV) (G : PW) : pm_dn pm_sM 148 29 P st G = pm_go pm_sM 148 G (pm_oAL 0 30 P st G) := pm_dn_eq (i := .aload_n 0) (len := 1) rfl
theorem u_148_30 (P : PL) (st : List PV) (G : PW) : pm_dn pm_sM 148 30 P st G = pm_go pm_sM 148 G (pm_oGf pm_sM 6 0 33 P st G) := pm_dn_eq (i := .getfield 7) (len := 3) rfl
theorem u_148_33 (P : PL) (st : List PV) (G : PW) : pm_dn pm_sM 148 33 P st G = pm_go pm_sM 148 G (pm_oK 0 34 P st G) := pm_dn_eq (i := .iconst 0) (len := 1) rfl
theorem u_148_34 (P : PL) (st : List PV) (G : PW) : pm_dn pm_sM 148 34 P st G = pm_go pm_sM 148 G (pm_oAld pm_sM 0 35 P st G) := pm_dn_eq (i := .iaload) (len := 1) rfl
theorem u_148_35 (P : PL) (st : List PV) (G : PW) : pm_dn pm_sM 148 35 P st G = pm_go pm_sM 148 G (pm_oIc .ge (some 117) 38 P st G) := pm_dn_eq (i := .if_icmp .ge 82) (len := 3) rfl
theorem u_148_38 (P : PL) (st : List PV) (G : PW) : pm_dn pm_sM 148 38 P st G = pm_go pm_sM 148 G (pm_oAL 0 39 P st G) := pm_dn_eq (i := .aload_n 0) (len := 1) rfl
theorem u_148_39 (P : PL) (st : List PV) (G : PW) : pm_dn pm_sM 148 39 P st G = pm_go pm_sM 148 G (pm_oIL 7 41 P st G) := pm_dn_eq (i := .iload 7) (len := 2) rfl
theorem u_148_41 (P : PL) (st : List PV) (G : PW) : pm_dn pm_sM 148 41 P st G = pm_go pm_sM 148 G (pm_oK 2 42 P st G) := pm_dn_eq (i := .iconst 2) (len := 1) rfl
theorem u_148_42 (P : PL) (st : List PV) (G : PW) : pm_dn pm_sM 148 42 P st G = pm_go pm_sM 148 G (pm_oCv pm_sM 140 2 7 6 45 P st G) := pm_dn_eq (i := .invokevirtual 186) (len := 3) rfl
theorem u_148_45 (P : PL) (st : List PV) (G : PW) : pm_dn pm_sM 148 45 P st G = pm_go pm_sM 148 G (pm_oIS 8 47 P st G) := pm_dn_eq (i := .istore 8) (len := 2) rfl
theorem u_148_47 (P : PL) (st : List PV) (G : PW) : pm_dn pm_sM 148 47 P st G = pm_go pm_sM 148 G (pm_oIL 2 48 P st G) := pm_dn_eq (i := .iload_n 2) (len := 1) rfl
theorem u_148_48 (P : PL) (st : List PV) (G : PW) : pm_dn pm_sM 148 48 P st G = pm_go pm_sM 148 G (pm_oIL 8 50 P st G) := pm_dn_eq (i := .iload 8) (len := 2) rfl
theorem u_148_50 (P : PL) (st : List PV) (G : PW) : pm_dn pm_sM 148 50 P st G = pm_go pm_sM 148 G (pm_oAdd 51 P st G) := pm_dn_eq (i := .iadd) (len := 1) rfl
theorem u_148_51 (P : PL) (st : List PV) (G : PW) : pm_dn pm_sM 148 51 P st G = pm_go pm_sM 148 G (pm_oIS 2 52 P st G) := pm_dn_eq (i := .istore_n 2) (len := 1) rfl
theorem u_148_52 (P : PL) (st : List PV) (G : PW) : pm_dn pm_sM 148 52 P st G = pm_go pm_sM 148 G (pm_oAL 0 53 P st G) := pm_dn_eq (i := .aload_n 0) (len := 1) rfl
theorem u_148_53 (P : PL) (st : List PV) (G : PW) : pm_dn pm_sM 148 53 P st G = pm_go pm_sM 148 G (pm_oIL 7 55 P st G) := pm_dn_eq (i := .iload 7) (len := 2) rfl
theorem u_148_55 (P : PL) (st : List PV) (G : PW) : pm_dn pm_sM 148 55 P st G = pm_go pm_sM 148 G (pm_oCv pm_sM 131 1 2 6 58 P st G) := pm_dn_eq (i := .invokevirtual 180) (len := 3) rfl
theorem u_148_58 (P : PL) (st : List PV) (G : PW) : pm_dn pm_sM 148 58 P st G = pm_go pm_sM 148 G (pm_oIf .ne (some 80) 61 P st G) := pm_dn_eq (i := .ifCond .ne 22) (len := 3) rfl
theorem u_148_61 (P : PL) (st : List PV) (G : PW) : pm_dn pm_sM 148 61 P st G = pm_go pm_sM 148 G (pm_oAL 0 62 P st G) := pm_dn_eq (i := .aload_n 0) (len := 1) rfl
theorem u_148_62 (P : PL) (st : List PV) (G : PW) : pm_dn pm_sM 148 62 P st G = pm_go pm_sM 148 G (pm_oIL 7 64 P st G) := pm_dn_eq (i := .iload 7) (len := 2) rfl
theorem u_148_64 (P : PL) (st : List PV) (G : PW) : pm_dn pm_sM 148 64 P st G = pm_go pm_sM 148 G (pm_oCv pm_sM 119 1 2 6 67 P st G) := pm_dn_eq (i := .invokevirtual 120) (len := 3) rfl
theorem u_148_67 (P : PL) (st : List PV) (G : PW) : pm_dn pm_sM 148 67 P st G = pm_go pm_sM 148 G (pm_oIf .eq (some 80) 70 P st G) := pm_dn_eq (i := .ifCond .eq 13) (len := 3) rfl
theorem u_148_70 (P : PL) (st : List PV) (G : PW) : pm_dn pm_sM 148 70 P st G = pm_go pm_sM 148 G (pm_oIL 3 71 P st G) := pm_dn_eq (i := .iload_n 3) (len := 1) rfl
theorem u_148_71 (P : PL) (st : List PV) (G : PW) : pm_dn pm_sM 148 71 P st G = pm_go pm_sM 148 G (pm_oK 2 72 P st G) := pm_dn_eq (i := .iconst 2) (len := 1) rfl
theorem u_148_72 (P : PL) (st : List PV) (G : PW) : pm_dn pm_sM 148 72 P st G = pm_go pm_sM 148 G (pm_oIL 8 74 P st G) := pm_dn_eq (i := .iload 8) (len := 2) rfl
theorem u_148_74 (P : PL) (st : List PV) (G : PW) : pm_dn pm_sM 148 74 P st G = pm_go pm_sM 148 G (pm_oSub 75 P st G) := pm_dn_eq (i := .isub) (len := 1) rfl
theorem u_148_75 (P : PL) (st : List PV) (G : PW) : pm_dn pm_sM 148 75 P st G = pm_go pm_sM 148 G (pm_oAdd 76 P st G) := pm_dn_eq (i := .iadd) (len := 1) rfl
theorem u_148_76 (P : PL) (st : List PV) (G : PW) : pm_dn pm_sM 148 76 P st G = pm_go pm_sM 148 G (pm_oIS 3 77 P st G) := pm_dn_eq (i := .istore_n 3) (len := 1) rfl
theorem u_148_77 (P : PL) (st : List PV) (G : PW) : pm_dn pm_sM 148 77 P st G = pm_go pm_sM 148 G (pm_oGo (some 111) P st G) := pm_dn_eq (i := .goto 34) (len := 3) rfl
theorem u_148_80 (P : PL) (st : List PV) (G : PW) : pm_dn pm_sM 148 80 P st G = pm_go pm_sM 148 G (pm_oAL 0 81 P st G) := pm_dn_eq (i := .aload_n 0) (len := 1) rfl
theorem u_148_81 (P : PL) (st : List PV) (G : PW) : pm_dn pm_sM 148 81 P st G = pm_go pm_sM 148 G (pm_oIL 7 83 P st G) := pm_dn_eq (i := .iload 7) (len := 2) rfl
theorem u_148_83 (P : PL) (st : List PV) (G : PW) : pm_dn pm_sM 148 83 P st G = pm_go pm_sM 148 G (pm_oCv pm_sM 131 1 2 6 86 P st G) := pm_dn_eq (i := .invokevirtual 180) (len := 3) rfl
theorem u_148_86 (P : PL) (st : List PV) (G : PW) : pm_dn pm_sM 148 86 P st G = pm_go pm_sM 148 G (pm_oIf .ne (some 111) 89 P st G) := pm_dn_eq (i := .ifCond .ne 25) (len := 3) rfl
theorem u_148_89 (P : PL) (st : List PV) (G : PW) : pm_dn pm_sM 148 89 P st G = pm_go pm_sM 148 G (pm_oInc 4 1 92 P st G) := pm_dn_eq (i := .iinc 4 1) (len := 3) rfl
theorem u_148_92 (P : PL) (st : List PV) (G : PW) : pm_dn pm_sM 148 92 P st G = pm_go pm_sM 148 G (pm_oIL 5 94 P st G) := pm_dn_eq (i := .iload 5) (len := 2) rfl
theorem u_148_94 (P : PL) (st : List PV) (G : PW) : pm_dn pm_sM 148 94 P st G = pm_go pm_sM 148 G (pm_oIL 8 96 P st G) := pm_dn_eq (i := .iload 8) (len := 2) rfl
theorem u_148_96 (P : PL) (st : List PV) (G : PW) : pm_dn pm_sM 148 96 P st G = pm_go pm_sM 148 G (pm_oIf .ne (some 103) 99 P st G) := pm_dn_eq (i := .ifCond .ne 7) (len := 3) rfl
theorem u_148_99 (P : PL) (st : List PV) (G : PW) : pm_dn pm_sM 148 99 P st G = pm_go pm_sM 148 G (pm_oK 1 100 P st G) := pm_dn_eq (i := .iconst 1) (len := 1) rfl
theorem u_148_100 (P : PL) (st : List PV) (G : PW) : pm_dn pm_sM 148 100 P st G = pm_go pm_sM 148 G (pm_oGo (some 104) P st G) := pm_dn_eq (i := .goto 4) (len := 3) rfl
theorem u_148_103 (P : PL) (st : List PV) (G : PW) : pm_dn pm_sM 148 103 P st G = pm_go pm_sM 148 G (pm_oK 0 104 P st G) := pm_dn_eq (i := .iconst 0) (len := 1) rfl
theorem u_148_104 (P : PL) (st : List PV) (G : PW) : pm_dn pm_sM 148 104 P st G = pm_go pm_sM 148 G (pm_oAdd 105 P st G) := pm_dn_eq (i := .iadd) (len := 1) rfl
theorem u_148_105 (P : PL) (st : List PV) (G : PW) : pm_dn pm_sM 148 105 P st G = pm_go pm_sM 148 G (pm_oIS 5 107 P st G) := pm_dn_eq (i := .istore 5) (len := 2) rfl
theorem u_148_107 (P : PL) (st : List PV) (G : PW) : pm_dn pm_sM 148 107 P st G = pm_go pm_sM 148 G (pm_oIL 8 109 P st G) := pm_dn_eq (i := .iload 8) (len := 2) rfl
theorem u_148_109 (P : PL) (st : List PV) (G : PW) : pm_dn pm_sM 148 109 P st G = pm_go pm_sM 148 G (pm_oIS 6 111 P st G) := pm_dn_eq (i := .istore 6) (len := 2) rfl
theorem u_148_111 (P : PL) (st : List PV) (G : PW) : pm_dn pm_sM 148 111 P st G = pm_go pm_sM 148 G (pm_oInc 7 1 114 P st G) := pm_dn_eq (i := .iinc 7 1) (len := 3) rfl
theorem u_148_114 (P : PL) (st : List PV) (G : PW) : pm_dn pm_sM 148 114 P st G = pm_go pm_sM 148 G (pm_oGo (some 27) P st G) := pm_dn_eq (i := .goto (-87)) (len := 3) rfl
theorem u_148_117 (P : PL) (st : List PV) (G : PW) : pm_dn pm_sM 148 117 P st G = pm_go pm_sM 148 G (pm_oIL 4 119 P st G) := pm_dn_eq (i := .iload 4) (len := 2) rfl
theorem u_148_119 (P : PL) (st : List PV) (G : PW) : pm_dn pm_sM 148 119 P st G = pm_go pm_sM 148 G (pm_oK 1 120 P st G) := pm_dn_eq (i := .iconst 1) (len := 1) rfl
theorem u_148_120 (P : PL) (st : List PV) (G : PW) : pm_dn pm_sM 148 120 P st G = pm_go pm_sM 148 G (pm_oIc .ne (some 128) 123 P st G) := pm_dn_eq (i := .if_icmp .ne 8) (len := 3) rfl
theorem u_148_123 (P : PL) (st : List PV) (G : PW) : pm_dn pm_sM 148 123 P st G = pm_go pm_sM 148 G (pm_oIL 6 125 P st G) := pm_dn_eq (i := .iload 6) (len := 2) rfl
theorem u_148_125 (P : PL) (st : List PV) (G : PW) : pm_dn pm_sM 148 125 P st G = pm_go pm_sM 148 G (pm_oGo (some 142) P st G) := pm_dn_eq (i := .goto 17) (len := 3) rfl
theorem u_148_128 (P : PL) (st : List PV) (G : PW) : pm_dn pm_sM 148 128 P st G = pm_go pm_sM 148 G (pm_oIL 5 130 P st G) := pm_dn_eq (i := .iload 5) (len := 2) rfl
theorem u_148_130 (P : PL) (st : List PV) (G : PW) : pm_dn pm_sM 148 130 P st G = pm_go pm_sM 148 G (pm_oIf .eq (some 137) 133 P st G) := pm_dn_eq (i := .ifCond .eq 7) (len := 3) rfl
theorem u_148_133 (P : PL) (st : List PV) (G : PW) : pm_dn pm_sM 148 133 P st G = pm_go pm_sM 148 G (pm_oIL 1 134 P st G) := pm_dn_eq (i := .iload_n 1) (len := 1) rfl
theorem u_148_134 (P : PL) (st : List PV) (G : PW) : pm_dn pm_sM 148 134 P st G = pm_go pm_sM 148 G (pm_oIf .eq (some 141) 137 P st G) := pm_dn_eq (i := .ifCond .eq 7) (len := 3) rfl
theorem u_148_137 (P : PL) (st : List PV) (G : PW) : pm_dn pm_sM 148 137 P st G = pm_go pm_sM 148 G (pm_oK 1 138 P st G) := pm_dn_eq (i := .iconst 1) (len := 1) rfl
theorem u_148_138 (P : PL) (st : List PV) (G : PW) : pm_dn pm_sM 148 138 P st G = pm_go pm_sM 148 G (pm_oGo (some 142) P st G) := pm_dn_eq (i := .goto 4) (len := 3) rfl
theorem u_148_141 (P : PL) (st : List PV) (G : PW) : pm_dn pm_sM 148 141 P st G = pm_go pm_sM 148 G (pm_oK 0 142 P st G) := pm_dn_eq (i := .iconst 0) (len := 1) rfl
theorem u_148_142 (P : PL) (st : List PV) (G : PW) : pm_dn pm_sM 148 142 P st G = pm_go pm_sM 148 G (pm_oIS 7 144 P st G) := pm_dn_eq (i := .istore 7) (len := 2) rfl
theorem u_148_144 (P : PL) (st : List PV) (G : PW) : pm_dn pm_sM 148 144 P st G = pm_go pm_sM 148 G (pm_oK 2 145 P st G) := pm_dn_eq (i := .iconst 2) (len := 1) rfl
theorem u_148_145 (P : PL) (st : List PV) (G : PW) : pm_dn pm_sM 148 145 P st G = pm_go pm_sM 148 G (pm_oAL 0 146 P st G) := pm_dn_eq (i := .aload_n 0) (len := 1) rfl
theorem u_148_146 (P : PL) (st : List PV) (G : PW) : pm_dn pm_sM 148 146 P st G = pm_go pm_sM 148 G (pm_oGf pm_sM 6 0 149 P st G) := pm_dn_eq (i := .getfield 7) (len := 3) rfl
theorem u_148_149 (P : PL) (st : List PV) (G : PW) : pm_dn pm_sM 148 149 P st G = pm_go pm_sM 148 G (pm_oK 0 150 P st G) := pm_dn_eq (i := .iconst 0) (len := 1) rfl
theorem u_148_150 (P : PL) (st : List PV) (G : PW) : pm_dn pm_sM 148 150 P st G = pm_go pm_sM 148 G (pm_oAld pm_sM 0 151 P st G) := pm_dn_eq (i := .iaload) (len := 1) rfl
theorem u_148_151 (P : PL) (st : List PV) (G : PW) : pm_dn pm_sM 148 151 P st G = pm_go pm_sM 148 G (pm_oMul 152 P st G) := pm_dn_eq (i := .imul) (len := 1) rfl
theorem u_148_152 (P : PL) (st : List PV) (G : PW) : pm_dn pm_sM 148 152 P st G = pm_go pm_sM 148 G (pm_oK 2 153 P st G) := pm_dn_eq (i := .iconst 2) (len := 1) rfl
theorem u_148_153 (P : PL) (st : List PV) (G : PW) : pm_dn pm_sM 148 153 P st G = pm_go pm_sM 148 G (pm_oSub 154 P st G) := pm_dn_eq (i := .isub) (len := 1) rfl
theorem u_148_154 (P : PL) (st : List PV) (G : PW) : pm_dn pm_sM 148 154 P st G = pm_go pm_sM 148 G (pm_oIL 7 156 P st G) := pm_dn_eq (i := .iload 7) (len := 2) rfl
theorem u_148_156 (P : PL) (st : List PV) (G : PW) : pm_dn pm_sM 148 156 P st G = pm_go pm_sM 148 G (pm_oAdd 157 P st G) := pm_dn_eq (i := .iadd) (len := 1) rfl
theorem u_148_157 (P : PL) (st : List PV) (G : PW) : pm_dn pm_sM 148 157 P st G = pm_go pm_sM 148 G (pm_oIL 2 158 P st G) := pm_dn_eq (i := .iload_n 2) (len := 1) rfl
theorem u_148_158 (P : PL) (st : List PV) (G : PW) : pm_dn pm_sM 148 158 P st G = pm_go pm_sM 148 G (pm_oSub 159 P st G) := pm_dn_eq (i := .isub) (len := 1) rfl
theorem u_148_159 (P : PL) (st : List PV) (G : PW) : pm_dn pm_sM 148 159 P st G = pm_go pm_sM 148 G (pm_oIL 3 160 P st G) := pm_dn_eq (i := .iload_n 3) (len := 1) rfl
theorem u_148_160 (P : PL) (st : List PV) (G : PW) : pm_dn pm_sM 148 160 P st G = pm_go pm_sM 148 G (pm_oSub 161 P st G) := pm_dn_eq (i := .isub) (len := 1) rfl
theorem u_148_161 (P : PL) (st : List PV) (G : PW) : pm_dn pm_sM 148 161 P st G = pm_go pm_sM 148 G (pm_oRi 0 P st G) := pm_dn_eq (i := .ireturn) (len := 1) rfl
theorem ue_149 (a0 : Nat) (a1 : Int) (G : PW) : pm_ca pm_sM 149 [.inr (.inr a0), .inl a1] G = pm_dn pm_sM 149 0 [some (.inr (.inr a0)), some (.inl a1)] [] G := rfl
theorem u_149_0 (P : PL) (st : List PV) (G : PW) : pm_dn pm_sM 149 0 P st G = pm_go pm_sM 149 G (pm_oAL 0 1 P st G) := pm_dn_eq (i := .aload_n 0) (len := 1) rfl
theorem u_149_1 (P : PL) (st : List PV) (G : PW) : pm_dn pm_sM 149 1 P st G = pm_go pm_sM 149 G (pm_oCv pm_sM 124 0 1 6 4 P st G) := pm_dn_eq (i := .invokevirtual 171) (len := 3) rfl
theorem u_149_4 (P : PL) (st : List PV) (G : PW) : pm_dn pm_sM 149 4 P st G = pm_go pm_sM 149 G (pm_oIL 1 5 P st G) := pm_dn_eq (i := .iload_n 1) (len := 1) rfl
theorem u_149_5 (P : PL) (st : List PV) (G : PW) : pm_dn pm_sM 149 5 P st G = pm_go pm_sM 149 G (pm_oSw 0 13 (some 157) (some [76, 83, 88, 93, 100, 106, 112, 118, 123, 128, 133, 139, 145, 150]) P st G) := pm_dn_eq (i := .tableswitch 152 0 13 #[71, 78, 83, 88, 95, 101, 107, 113, 118, 123, 128, 134, 140, 145]) (len := 71) rfl
theorem u_149_76 (P : PL) (st : List PV) (G : PW) : pm_dn pm_sM 149 76 P st G = pm_go pm_sM 149 G (pm_oAL 0 77 P st G) := pm_dn_eq (i := .aload_n 0) (len := 1) rfl
theorem u_149_77 (P : PL) (st : List PV) (G : PW) : pm_dn pm_sM 149 77 P st G = pm_go pm_sM 149 G (pm_oGf pm_sM 6 0 80 P st G) := pm_dn_eq (i := .getfield 7) (len := 3) rfl
theorem u_149_80 (P : PL) (st : List PV) (G : PW) : pm_dn pm_sM 149 80 P st G = pm_go pm_sM 149 G (pm_oK 0 81 P st G) := pm_dn_eq (i := .iconst 0) (len := 1) rfl
theorem u_149_81 (P : PL) (st : List PV) (G : PW) : pm_dn pm_sM 149 81 P st G = pm_go pm_sM 149 G (pm_oAld pm_sM 0 82 P st G) := pm_dn_eq (i := .iaload) (len := 1) rfl
theorem u_149_82 (P : PL) (st : List PV) (G : PW) : pm_dn pm_sM 149 82 P st G = pm_go pm_sM 149 G (pm_oRi 0 P st G) := pm_dn_eq (i := .ireturn) (len := 1) rfl
theorem u_149_83 (P : PL) (st : List PV) (G : PW) : pm_dn pm_sM 149 83 P st G = pm_go pm_sM 149 G (pm_oAL 0 84 P st G) := pm_dn_eq (i := .aload_n 0) (len := 1) rfl
theorem u_149_84 (P : PL) (st : List PV) (G : PW) : pm_dn pm_sM 149 84 P st G = pm_go pm_sM 149 G (pm_oGf pm_sM 6 5 87 P st G) := pm_dn_eq (i := .getfield 90) (len := 3) rfl
theorem u_149_87 (P : PL) (st : List PV) (G : PW) : pm_dn pm_sM 149 87 P st G = pm_go pm_sM 149 G (pm_oRi 0 P st G) := pm_dn_eq (i := .ireturn) (len := 1) rfl
theorem u_149_88 (P : PL) (st : List PV) (G : PW) : pm_dn pm_sM 149 88 P st G = pm_go pm_sM 149 G (pm_oAL 0 89 P st G) := pm_dn_eq (i := .aload_n 0) (len := 1) rfl
theorem u_149_89 (P : PL) (st : List PV) (G : PW) : pm_dn pm_sM 149 89 P st G = pm_go pm_sM 149 G (pm_oGf pm_sM 6 7 92 P st G) := pm_dn_eq (i := .getfield 97) (len := 3) rfl
theorem u_149_92 (P : PL) (st : List PV) (G : PW) : pm_dn pm_sM 149 92 P st G = pm_go pm_sM 149 G (pm_oRi 0 P st G) := pm_dn_eq (i := .ireturn) (len := 1) rfl
theorem u_149_93 (P : PL) (st : List PV) (G : PW) : pm_dn pm_sM 149 93 P st G = pm_go pm_sM 149 G (pm_oAL 0 94 P st G) := pm_dn_eq (i := .aload_n 0) (len := 1) rfl
theorem u_149_94 (P : PL) (st : List PV) (G : PW) : pm_dn pm_sM 149 94 P st G = pm_go pm_sM 149 G (pm_oGf pm_sM 6 0 97 P st G) := pm_dn_eq (i := .getfield 7) (len := 3) rfl
theorem u_149_97 (P : PL) (st : List PV) (G : PW) : pm_dn pm_sM 149 97 P st G = pm_go pm_sM 149 G (pm_oK 1 98 P st G) := pm_dn_eq (i := .iconst 1) (len := 1) rfl
theorem u_149_98 (P : PL) (st : List PV) (G : PW) : pm_dn pm_sM 149 98 P st G = pm_go pm_sM 149 G (pm_oAld pm_sM 0 99 P st G) := pm_dn_eq (i := .iaload) (len := 1) rfl
theorem u_149_99 (P : PL) (st : List PV) (G : PW) : pm_dn pm_sM 149 99 P st G = pm_go pm_sM 149 G (pm_oRi 0 P st G) := pm_dn_eq (i := .ireturn) (len := 1) rfl
theorem u_149_100 (P : PL) (st : List PV) (G : PW) : pm_dn pm_sM 149 100 P st G = pm_go pm_sM 149 G (pm_oAL 0 101 P st G) := pm_dn_eq (i := .aload_n 0) (len := 1) rfl
theorem u_149_101 (P : PL) (st : List PV) (G : PW) : pm_dn pm_sM 149 101 P st G = pm_go pm_sM 149 G (pm_oK 3 102 P st G) := pm_dn_eq (i := .iconst 3) (len := 1) rfl
theorem u_149_102 (P : PL) (st : List PV) (G : PW) : pm_dn pm_sM 149 102 P st G = pm_go pm_sM 149 G (pm_oCv pm_sM 145 1 4 6 105 P st G) := pm_dn_eq (i := .invokevirtual 200) (len := 3) rfl
theorem u_149_105 (P : PL) (st : List PV) (G : PW) : pm_dn pm_sM 149 105 P st G = pm_go pm_sM 149 G (pm_oRi 0 P st G) := pm_dn_eq (i := .ireturn) (len := 1) rfl
theorem u_149_106 (P : PL) (st : List PV) (G : PW) : pm_dn pm_sM 149 106 P st G = pm_go pm_sM 149 G (pm_oAL 0 107 P st G) := pm_dn_eq (i := .aload_n 0) (len := 1) rfl
theorem u_149_107 (P : PL) (st : List PV) (G : PW) : pm_dn pm_sM 149 107 P st G = pm_go pm_sM 149 G (pm_oK 2 108 P st G) := pm_dn_eq (i := .iconst 2) (len := 1) rfl
theorem u_149_108 (P : PL) (st : List PV) (G : PW) : pm_dn pm_sM 149 108 P st G = pm_go pm_sM 149 G (pm_oCv pm_sM 145 1 4 6 111 P st G) := pm_dn_eq (i := .invokevirtual 200) (len := 3) rfl
theorem u_149_111 (P : PL) (st : List PV) (G : PW) : pm_dn pm_sM 149 111 P st G = pm_go pm_sM 149 G (pm_oRi 0 P st G) := pm_dn_eq (i := .ireturn) (len := 1) rfl
theorem u_149_112 (P : PL) (st : List PV) (G : PW) : pm_dn pm_sM 149 112 P st G = pm_go pm_sM 149 G (pm_oAL 0 113 P st G) := pm_dn_eq (i := .aload_n 0) (len := 1) rfl
theorem u_149_113 (P : PL) (st : List PV) (G : PW) : pm_dn pm_sM 149 113 P st G = pm_go pm_sM 149 G (pm_oK 1 114 P st G) := pm_dn_eq (i := .iconst 1) (len := 1) rfl
theorem u_149_114 (P : PL) (st : List PV) (G : PW) : pm_dn pm_sM 149 114 P st G = pm_go pm_sM 149 G (pm_oCv pm_sM 145 1 4 6 117 P st G) := pm_dn_eq (i := .invokevirtual 200) (len := 3) rfl
theorem u_149_117 (P : PL) (st : List PV) (G : PW) : pm_dn pm_sM 149 117 P st G = pm_go pm_sM 149 G (pm_oRi 0 P st G) := pm_dn_eq (i := .ireturn) (len := 1) rfl
theorem u_149_118 (P : PL) (st : List PV) (G : PW) : pm_dn pm_sM 149 118 P st G = pm_go pm_sM 149 G (pm_oAL 0 119 P st G) := pm_dn_eq (i := .aload_n 0) (len := 1) rfl
theorem u_149_119 (P : PL) (st : List PV) (G : PW) : pm_dn pm_sM 149 119 P st G = pm_go pm_sM 149 G (pm_oCv pm_sM 146 0 3 6 122 P st G) := pm_dn_eq (i := .invokevirtual 203) (len := 3) rfl
theorem u_149_122 (P : PL) (st : List PV) (G : PW) : pm_dn pm_sM 149 122 P st G = pm_go pm_sM 149 G (pm_oRi 0 P st G) := pm_dn_eq (i := .ireturn) (len := 1) rfl
theorem u_149_123 (P : PL) (st : List PV) (G : PW) : pm_dn pm_sM 149 123 P st G = pm_go pm_sM 149 G (pm_oAL 0 124 P st G) := pm_dn_eq (i := .aload_n 0) (len := 1) rfl
theorem u_149_124 (P : PL) (st : List PV) (G : PW) : pm_dn pm_sM 149 124 P st G = pm_go pm_sM 149 G (pm_oCv pm_sM 125 0 2 6 127 P st G) := pm_dn_eq (i := .invokevirtual 150) (len := 3) rfl
theorem u_149_127 (P : PL) (st : List PV) (G : PW) : pm_dn pm_sM 149 127 P st G = pm_go pm_sM 149 G (pm_oRi 0 P st G) := pm_dn_eq (i := .ireturn) (len := 1) rfl
theorem u_149_128 (P : PL) (st : List PV) (G : PW) : pm_dn pm_sM 149 128 P st G = pm_go pm_sM 149 G (pm_oAL 0 129 P st G) := pm_dn_eq (i := .aload_n 0) (len := 1) rfl
theorem u_149_129 (P : PL) (st : List PV) (G : PW) : pm_dn pm_sM 149 129 P st G = pm_go pm_sM 149 G (pm_oCv pm_sM 147 0 3 6 132 P st G) := pm_dn_eq (i := .invokevirtual 206) (len := 3) rfl
theorem u_149_132 (P : PL) (st : List PV) (G : PW) : pm_dn pm_sM 149 132 P st G = pm_go pm_sM 149 G (pm_oRi 0 P st G) := pm_dn_eq (i := .ireturn) (len := 1) rfl
theorem u_149_133 (P : PL) (st : List PV) (G : PW) : pm_dn pm_sM 149 133 P st G = pm_go pm_sM 149 G (pm_oAL 0 134 P st G) := pm_dn_eq (i := .aload_n 0) (len := 1) rfl
theorem u_149_134 (P : PL) (st : List PV) (G : PW) : pm_dn pm_sM 149 134 P st G = pm_go pm_sM 149 G (pm_oK 0 135 P st G) := pm_dn_eq (i := .iconst 0) (len := 1) rfl
theorem u_149_135 (P : PL) (st : List PV) (G : PW) : pm_dn pm_sM 149 135 P st G = pm_go pm_sM 149 G (pm_oCv pm_sM 148 1 9 6 138 P st G) := pm_dn_eq (i := .invokevirtual 209) (len := 3) rfl
theorem u_149_138 (P : PL) (st : List PV) (G : PW) : pm_dn pm_sM 149 138 P st G = pm_go pm_sM 149 G (pm_oRi 0 P st G) := pm_dn_eq (i := .ireturn) (len := 1) rfl
theorem u_149_139 (P : PL) (st : List PV) (G : PW) : pm_dn pm_sM 149 139 P st G = pm_go pm_sM 149 G (pm_oAL 0 140 P st G) := pm_dn_eq (i := .aload_n 0) (len := 1) rfl
theorem u_149_140 (P : PL) (st : List PV) (G : PW) : pm_dn pm_sM 149 140 P st G = pm_go pm_sM 149 G (pm_oK 1 141 P st G) := pm_dn_eq (i := .iconst 1) (len := 1) rfl
theorem u_149_141 (P : PL) (st : List PV) (G : PW) : pm_dn pm_sM 149 141 P st G = pm_go pm_sM 149 G (pm_oCv pm_sM 148 1 9 6 144 P st G) := pm_dn_eq (i := .invokevirtual 209) (len := 3) rfl
theorem u_149_144 (P : PL) (st : List PV) (G : PW) : pm_dn pm_sM 149 144 P st G = pm_go pm_sM 149 G (pm_oRi 0 P st G) := pm_dn_eq (i := .ireturn) (len := 1) rfl
theorem u_149_145 (P : PL) (st : List PV) (G : PW) : pm_dn pm_sM 149 145 P st G = pm_go pm_sM 149 G (pm_oAL 0 146 P st G) := pm_dn_eq (i := .aload_n 0) (len := 1) rfl
theorem u_149_146 (P : PL) (st : List PV) (G : PW) : pm_dn pm_sM 149 146 P st G = pm_go pm_sM 149 G (pm_oGf pm_sM 6 4 149 P st G) := pm_dn_eq (i := .getfield 213) (len := 3) rfl
theorem u_149_149 (P : PL) (st : List PV) (G : PW) : pm_dn pm_sM 149 149 P st G = pm_go pm_sM 149 G (pm_oRi 0 P st G) := pm_dn_eq (i := .ireturn) (len := 1) rfl
theorem u_149_150 (P : PL) (st : List PV) (G : PW) : pm_dn pm_sM 149 150 P st G = pm_go pm_sM 149 G (pm_oAL 0 151 P st G) := pm_dn_eq (i := .aload_n 0) (len := 1) rfl
theorem u_149_151 (P : PL) (st : List PV) (G : PW) : pm_dn pm_sM 149 151 P st G = pm_go pm_sM 149 G (pm_oGf pm_sM 6 0 154 P st G) := pm_dn_eq (i := .getfield 7) (len := 3) rfl
theorem u_149_154 (P : PL) (st : List PV) (G : PW) : pm_dn pm_sM 149 154 P st G = pm_go pm_sM 149 G (pm_oK 2 155 P st G) := pm_dn_eq (i := .iconst 2) (len := 1) rfl
theorem u_149_155 (P : PL) (st : List PV) (G : PW) : pm_dn pm_sM 149 155 P st G = pm_go pm_sM 149 G (pm_oAld pm_sM 0 156 P st G) := pm_dn_eq (i := .iaload) (len := 1) rfl
theorem u_149_156 (P : PL) (st : List PV) (G : PW) : pm_dn pm_sM 149 156 P st G = pm_go pm_sM 149 G (pm_oRi 0 P st G) := pm_dn_eq (i := .ireturn) (len := 1) rfl
theorem u_149_157 (P : PL) (st : List PV) (G : PW) : pm_dn pm_sM 149 157 P st G = pm_go pm_sM 149 G (pm_oK (-2) 159 P st G) := pm_dn_eq (i := .bipush (-2)) (len := 2) rfl
theorem u_149_159 (P : PL) (st : List PV) (G : PW) : pm_dn pm_sM 149 159 P st G = pm_go pm_sM 149 G (pm_oRi 0 P st G) := pm_dn_eq (i := .ireturn) (len := 1) rfl
theorem ue_150 (a0 : Nat) (G : PW) : pm_ca pm_sM 150 [.inr (.inr a0)] G = pm_dn pm_sM 150 0 [some (.inr (.inr a0))] [] G := rfl
theorem u_150_0 (P : PL) (st : List PV) (G : PW) : pm_dn pm_sM 150 0 P st G = pm_go pm_sM 150 G (pm_oAL 0 1 P st G) := pm_dn_eq (i := .aload_n 0) (len := 1) rfl
theorem u_150_1 (P : PL) (st : List PV) (G : PW) : pm_dn pm_sM 150 1 P st G = pm_go pm_sM 150 G (pm_oK 1 2 P st G) := pm_dn_eq (i := .iconst 1) (len := 1) rfl
theorem u_150_2 (P : PL) (st : List PV) (G : PW) : pm_dn pm_sM 150 2 P st G = pm_go pm_sM 150 G (pm_oK (-6) 4 P st G) := pm_dn_eq (i := .bipush (-6)) (len := 2) rfl
theorem u_150_4 (P : PL) (st : List PV) (G : PW) : pm_dn pm_sM 150 4 P st G = pm_go pm_sM 150 G (pm_oCv pm_sM 123 2 4 6 7 P st G) := pm_dn_eq (i := .invokevirtual 147) (len := 3) rfl
theorem u_150_7 (P : PL) (st : List PV) (G : PW) : pm_dn pm_sM 150 7 P st G = pm_go pm_sM 150 G (pm_oAL 0 8 P st G) := pm_dn_eq (i := .aload_n 0) (len := 1) rfl
theorem u_150_8 (P : PL) (st : List PV) (G : PW) : pm_dn pm_sM 150 8 P st G = pm_go pm_sM 150 G (pm_oCv pm_sM 125 0 2 6 11 P st G) := pm_dn_eq (i := .invokevirtual 150) (len := 3) rfl
theorem u_150_11 (P : PL) (st : List PV) (G : PW) : pm_dn pm_sM 150 11 P st G = pm_go pm_sM 150 G (pm_oRi 0 P st G) := pm_dn_eq (i := .ireturn) (len := 1) rfl
theorem ue_151 (a0 : Nat) (a1 : Int) (G : PW) : pm_ca pm_sM 151 [.inr (.inr a0), .inl a1] G = pm_dn pm_sM 151 0 [some (.inr (.inr a0)), some (.inl a1), none, none, none] [] G := rfl
theorem u_151_0 (P : PL) (st : List PV) (G : PW) : pm_dn pm_sM 151 0 P st G = pm_go pm_sM 151 G (pm_oAL 0 1 P st G) := pm_dn_eq (i := .aload_n 0) (len := 1) rfl
theorem u_151_1 (P : PL) (st : List PV) (G : PW) : pm_dn pm_sM 151 1 P st G = pm_go pm_sM 151 G (pm_oIL 1 2 P st G) := pm_dn_eq (i := .iload_n 1) (len := 1) rfl
theorem u_151_2 (P : PL) (st : List PV) (G : PW) : pm_dn pm_sM 151 2 P st G = pm_go pm_sM 151 G (pm_oCv pm_sM 134 1 2 6 5 P st G) := pm_dn_eq (i := .invokevirtual 168) (len := 3) rfl
theorem u_151_5 (P : PL) (st : List PV) (G : PW) : pm_dn pm_sM 151 5 P st G = pm_go pm_sM 151 G (pm_oIf .ne (some 10) 8 P st G) := pm_dn_eq (i := .ifCond .ne 5) (len := 3) rfl
theorem u_151_8 (P : PL) (st : List PV) (G : PW) : pm_dn pm_sM 151 8 P st G = pm_go pm_sM 151 G (pm_oK (-1) 9 P st G) := pm_dn_eq (i := .iconst (-1)) (len := 1) rfl
theorem u_151_9 (P : PL) (st : List PV) (G : PW) : pm_dn pm_sM 151 9 P st G = pm_go pm_sM 151 G (pm_oRi 0 P st G) := pm_dn_eq (i := .ireturn) (len := 1) rfl
theorem u_151_10 (P : PL) (st : List PV) (G : PW) : pm_dn pm_sM 151 10 P st G = pm_go pm_sM 151 G (pm_oAL 0 11 P st G) := pm_dn_eq (i := .aload_n 0) (len := 1) rfl
theorem u_151_11 (P : PL) (st : List PV) (G : PW) : pm_dn pm_sM 151 11 P st G = pm_go pm_sM 151 G (pm_oCv pm_sM 124 0 1 6 14 P st G) := pm_dn_eq (i := .invokevirtual 171) (len := 3) rfl
theorem u_151_14 (P : PL) (st : List PV) (G : PW) : pm_dn pm_sM 151 14 P st G = pm_go pm_sM 151 G (pm_oAL 0 15 P st G) := pm_dn_eq (i := .aload_n 0) (len := 1) rfl
theorem u_151_15 (P : PL) (st : List PV) (G : PW) : pm_dn pm_sM 151 15 P st G = pm_go pm_sM 151 G (pm_oIL 1 16 P st G) := pm_dn_eq (i := .iload_n 1) (len := 1) rfl
theorem u_151_16 (P : PL) (st : List PV) (G : PW) : pm_dn pm_sM 151 16 P st G = pm_go pm_sM 151 G (pm_oCv pm_sM 119 1 2 6 19 P st G) := pm_dn_eq (i := .invokevirtual 120) (len := 3) rfl
theorem u_151_19 (P : PL) (st : List PV) (G : PW) : pm_dn pm_sM 151 19 P st G = pm_go pm_sM 151 G (pm_oIf .ne (some 38) 22 P st G) := pm_dn_eq (i := .ifCond .ne 19) (len := 3) rfl
theorem u_151_22 (P : PL) (st : List PV) (G : PW) : pm_dn pm_sM 151 22 P st G = pm_go pm_sM 151 G (pm_oAL 0 23 P st G) := pm_dn_eq (i := .aload_n 0) (len := 1) rfl
theorem u_151_23 (P : PL) (st : List PV) (G : PW) : pm_dn pm_sM 151 23 P st G = pm_go pm_sM 151 G (pm_oIL 1 24 P st G) := pm_dn_eq (i := .iload_n 1) (len := 1) rfl
theorem u_151_24 (P : PL) (st : List PV) (G : PW) : pm_dn pm_sM 151 24 P st G = pm_go pm_sM 151 G (pm_oCv pm_sM 131 1 2 6 27 P st G) := pm_dn_eq (i := .invokevirtual 180) (len := 3) rfl
theorem u_151_27 (P : PL) (st : List PV) (G : PW) : pm_dn pm_sM 151 27 P st G = pm_go pm_sM 151 G (pm_oIf .eq (some 41) 30 P st G) := pm_dn_eq (i := .ifCond .eq 14) (len := 3) rfl
theorem u_151_30 (P : PL) (st : List PV) (G : PW) : pm_dn pm_sM 151 30 P st G = pm_go pm_sM 151 G (pm_oAL 0 31 P st G) := pm_dn_eq (i := .aload_n 0) (len := 1) rfl
theorem u_151_31 (P : PL) (st : List PV) (G : PW) : pm_dn pm_sM 151 31 P st G = pm_go pm_sM 151 G (pm_oCv pm_sM 125 0 2 6 34 P st G) := pm_dn_eq (i := .invokevirtual 150) (len := 3) rfl
theorem u_151_34 (P : PL) (st : List PV) (G : PW) : pm_dn pm_sM 151 34 P st G = pm_go pm_sM 151 G (pm_oIL 1 35 P st G) := pm_dn_eq (i := .iload_n 1) (len := 1) rfl
theorem u_151_35 (P : PL) (st : List PV) (G : PW) : pm_dn pm_sM 151 35 P st G = pm_go pm_sM 151 G (pm_oIc .eq (some 41) 38 P st G) := pm_dn_eq (i := .if_icmp .eq 6) (len := 3) rfl
theorem u_151_38 (P : PL) (st : List PV) (G : PW) : pm_dn pm_sM 151 38 P st G = pm_go pm_sM 151 G (pm_oK (-5) 40 P st G) := pm_dn_eq (i := .bipush (-5)) (len := 2) rfl
theorem u_151_40 (P : PL) (st : List PV) (G : PW) : pm_dn pm_sM 151 40 P st G = pm_go pm_sM 151 G (pm_oRi 0 P st G) := pm_dn_eq (i := .ireturn) (len := 1) rfl
theorem u_151_41 (P : PL) (st : List PV) (G : PW) : pm_dn pm_sM 151 41 P st G = pm_go pm_sM 151 G (pm_oAL 0 42 P st G) := pm_dn_eq (i := .aload_n 0) (len := 1) rfl
theorem u_151_42 (P : PL) (st : List PV) (G : PW) : pm_dn pm_sM 151 42 P st G = pm_go pm_sM 151 G (pm_oK 1 43 P st G) := pm_dn_eq (i := .iconst 1) (len := 1) rfl
theorem u_151_43 (P : PL) (st : List PV) (G : PW) : pm_dn pm_sM 151 43 P st G = pm_go pm_sM 151 G (pm_oIL 1 44 P st G) := pm_dn_eq (i := .iload_n 1) (len := 1) rfl
theorem u_151_44 (P : PL) (st : List PV) (G : PW) : pm_dn pm_sM 151 44 P st G = pm_go pm_sM 151 G (pm_oCv pm_sM 123 2 4 6 47 P st G) := pm_dn_eq (i := .invokevirtual 147) (len := 3) rfl
theorem u_151_47 (P : PL) (st : List PV) (G : PW) : pm_dn pm_sM 151 47 P st G = pm_go pm_sM 151 G (pm_oK 0 48 P st G) := pm_dn_eq (i := .iconst 0) (len := 1) rfl
theorem u_151_48 (P : PL) (st : List PV) (G : PW) : pm_dn pm_sM 151 48 P st G = pm_go pm_sM 151 G (pm_oIS 2 49 P st G) := pm_dn_eq (i := .istore_n 2) (len := 1) rfl
theorem u_151_49 (P : PL) (st : List PV) (G : PW) : pm_dn pm_sM 151 49 P st G = pm_go pm_sM 151 G (pm_oK 0 50 P st G) := pm_dn_eq (i := .iconst 0) (len := 1) rfl
theorem u_151_50 (P : PL) (st : List PV) (G : PW) : pm_dn pm_sM 151 50 P st G = pm_go pm_sM 151 G (pm_oIS 3 51 P st G) := pm_dn_eq (i := .istore_n 3) (len := 1) rfl
theorem u_151_51 (P : PL) (st : List PV) (G : PW) : pm_dn pm_sM 151 51 P st G = pm_go pm_sM 151 G (pm_oIL 3 52 P st G) := pm_dn_eq (i := .iload_n 3) (len := 1) rfl
theorem u_151_52 (P : PL) (st : List PV) (G : PW) : pm_dn pm_sM 151 52 P st G = pm_go pm_sM 151 G (pm_oAL 0 53 P st G) := pm_dn_eq (i := .aload_n 0) (len := 1) rfl
theorem u_151_53 (P : PL) (st : List PV) (G : PW) : pm_dn pm_sM 151 53 P st G = pm_go pm_sM 151 G (pm_oGf pm_sM 6 7 56 P st G) := pm_dn_eq (i := .getfield 97) (len := 3) rfl
theorem u_151_56 (P : PL) (st : List PV) (G : PW) : pm_dn pm_sM 151 56 P st G = pm_go pm_sM 151 G (pm_oIc .ge (some 130) 59 P st G) := pm_dn_eq (i := .if_icmp .ge 74) (len := 3) rfl
theorem u_151_59 (P : PL) (st : List PV) (G : PW) : pm_dn pm_sM 151 59 P st G = pm_go pm_sM 151 G (pm_oAL 0 60 P st G) := pm_dn_eq (i := .aload_n 0) (len := 1) rfl
theorem u_151_60 (P : PL) (st : List PV) (G : PW) : pm_dn pm_sM 151 60 P st G = pm_go pm_sM 151 G (pm_oGf pm_sM 6 23 63 P st G) := pm_dn_eq (i := .getfield 68) (len := 3) rfl
theorem u_151_63 (P : PL) (st : List PV) (G : PW) : pm_dn pm_sM 151 63 P st G = pm_go pm_sM 151 G (pm_oIL 3 64 P st G) := pm_dn_eq (i := .iload_n 3) (len := 1) rfl
theorem u_151_64 (P : PL) (st : List PV) (G : PW) : pm_dn pm_sM 151 64 P st G = pm_go pm_sM 151 G (pm_oAld pm_sM 0 65 P st G) := pm_dn_eq (i := .iaload) (len := 1) rfl
theorem u_151_65 (P : PL) (st : List PV) (G : PW) : pm_dn pm_sM 151 65 P st G = pm_go pm_sM 151 G (pm_oK 3 66 P st G) := pm_dn_eq (i := .iconst 3) (len := 1) rfl
theorem u_151_66 (P : PL) (st : List PV) (G : PW) : pm_dn pm_sM 151 66 P st G = pm_go pm_sM 151 G (pm_oIc .ne (some 84) 69 P st G) := pm_dn_eq (i := .if_icmp .ne 18) (len := 3) rfl
theorem u_151_69 (P : PL) (st : List PV) (G : PW) : pm_dn pm_sM 151 69 P st G = pm_go pm_sM 151 G (pm_oAL 0 70 P st G) := pm_dn_eq (i := .aload_n 0) (len := 1) rfl
theorem u_151_70 (P : PL) (st : List PV) (G : PW) : pm_dn pm_sM 151 70 P st G = pm_go pm_sM 151 G (pm_oGf pm_sM 6 24 73 P st G) := pm_dn_eq (i := .getfield 71) (len := 3) rfl
theorem u_151_73 (P : PL) (st : List PV) (G : PW) : pm_dn pm_sM 151 73 P st G = pm_go pm_sM 151 G (pm_oIL 3 74 P st G) := pm_dn_eq (i := .iload_n 3) (len := 1) rfl
theorem u_151_74 (P : PL) (st : List PV) (G : PW) : pm_dn pm_sM 151 74 P st G = pm_go pm_sM 151 G (pm_oAld pm_sM 0 75 P st G) := pm_dn_eq (i := .iaload) (len := 1) rfl
theorem u_151_75 (P : PL) (st : List PV) (G : PW) : pm_dn pm_sM 151 75 P st G = pm_go pm_sM 151 G (pm_oK (-6) 77 P st G) := pm_dn_eq (i := .bipush (-6)) (len := 2) rfl
theorem u_151_77 (P : PL) (st : List PV) (G : PW) : pm_dn pm_sM 151 77 P st G = pm_go pm_sM 151 G (pm_oIc .ne (some 84) 80 P st G) := pm_dn_eq (i := .if_icmp .ne 7) (len := 3) rfl
theorem u_151_80 (P : PL) (st : List PV) (G : PW) : pm_dn pm_sM 151 80 P st G = pm_go pm_sM 151 G (pm_oK 1 81 P st G) := pm_dn_eq (i := .iconst 1) (len := 1) rfl
theorem u_151_81 (P : PL) (st : List PV) (G : PW) : pm_dn pm_sM 151 81 P st G = pm_go pm_sM 151 G (pm_oGo (some 85) P st G) := pm_dn_eq (i := .goto 4) (len := 3) rfl
theorem u_151_84 (P : PL) (st : List PV) (G : PW) : pm_dn pm_sM 151 84 P st G = pm_go pm_sM 151 G (pm_oK 0 85 P st G) := pm_dn_eq (i := .iconst 0) (len := 1) rfl
theorem u_151_85 (P : PL) (st : List PV) (G : PW) : pm_dn pm_sM 151 85 P st G = pm_go pm_sM 151 G (pm_oIS 4 87 P st G) := pm_dn_eq (i := .istore 4) (len := 2) rfl
theorem u_151_87 (P : PL) (st : List PV) (G : PW) : pm_dn pm_sM 151 87 P st G = pm_go pm_sM 151 G (pm_oIL 2 88 P st G) := pm_dn_eq (i := .iload_n 2) (len := 1) rfl
theorem u_151_88 (P : PL) (st : List PV) (G : PW) : pm_dn pm_sM 151 88 P st G = pm_go pm_sM 151 G (pm_oIL 4 90 P st G) := pm_dn_eq (i := .iload 4) (len := 2) rfl
theorem u_151_90 (P : PL) (st : List PV) (G : PW) : pm_dn pm_sM 151 90 P st G = pm_go pm_sM 151 G (pm_oIf .eq (some 121) 93 P st G) := pm_dn_eq (i := .ifCond .eq 31) (len := 3) rfl
theorem u_151_93 (P : PL) (st : List PV) (G : PW) : pm_dn pm_sM 151 93 P st G = pm_go pm_sM 151 G (pm_oAL 0 94 P st G) := pm_dn_eq (i := .aload_n 0) (len := 1) rfl
theorem u_151_94 (P : PL) (st : List PV) (G : PW) : pm_dn pm_sM 151 94 P st G = pm_go pm_sM 151 G (pm_oGf pm_sM 6 21 97 P st G) := pm_dn_eq (i := .getfield 62) (len := 3) rfl
theorem u_151_97 (P : PL) (st : List PV) (G : PW) : pm_dn pm_sM 151 97 P st G = pm_go pm_sM 151 G (pm_oIL 3 98 P st G) := pm_dn_eq (i := .iload_n 3) (len := 1) rfl
theorem u_151_98 (P : PL) (st : List PV) (G : PW) : pm_dn pm_sM 151 98 P st G = pm_go pm_sM 151 G (pm_oAld pm_sM 0 99 P st G) := pm_dn_eq (i := .iaload) (len := 1) rfl
theorem u_151_99 (P : PL) (st : List PV) (G : PW) : pm_dn pm_sM 151 99 P st G = pm_go pm_sM 151 G (pm_oIL 1 100 P st G) := pm_dn_eq (i := .iload_n 1) (len := 1) rfl
theorem u_151_100 (P : PL) (st : List PV) (G : PW) : pm_dn pm_sM 151 100 P st G = pm_go pm_sM 151 G (pm_oIc .ne (some 121) 103 P st G) := pm_dn_eq (i := .if_icmp .ne 21) (len := 3) rfl
theorem u_151_103 (P : PL) (st : List PV) (G : PW) : pm_dn pm_sM 151 103 P st G = pm_go pm_sM 151 G (pm_oAL 0 104 P st G) := pm_dn_eq (i := .aload_n 0) (len := 1) rfl
theorem u_151_104 (P : PL) (st : List PV) (G : PW) : pm_dn pm_sM 151 104 P st G = pm_go pm_sM 151 G (pm_oAL 0 105 P st G) := pm_dn_eq (i := .aload_n 0) (len := 1) rfl
theorem u_151_105 (P : PL) (st : List PV) (G : PW) : pm_dn pm_sM 151 105 P st G = pm_go pm_sM 151 G (pm_oGf pm_sM 6 22 108 P st G) := pm_dn_eq (i := .getfield 65) (len := 3) rfl
theorem u_151_108 (P : PL) (st : List PV) (G : PW) : pm_dn pm_sM 151 108 P st G = pm_go pm_sM 151 G (pm_oIL 3 109 P st G) := pm_dn_eq (i := .iload_n 3) (len := 1) rfl
theorem u_151_109 (P : PL) (st : List PV) (G : PW) : pm_dn pm_sM 151 109 P st G = pm_go pm_sM 151 G (pm_oAld pm_sM 0 110 P st G) := pm_dn_eq (i := .iaload) (len := 1) rfl
theorem u_151_110 (P : PL) (st : List PV) (G : PW) : pm_dn pm_sM 151 110 P st G = pm_go pm_sM 151 G (pm_oIL 1 111 P st G) := pm_dn_eq (i := .iload_n 1) (len := 1) rfl
theorem u_151_111 (P : PL) (st : List PV) (G : PW) : pm_dn pm_sM 151 111 P st G = pm_go pm_sM 151 G (pm_oCv pm_sM 117 2 5 6 114 P st G) := pm_dn_eq (i := .invokevirtual 130) (len := 3) rfl
theorem u_151_114 (P : PL) (st : List PV) (G : PW) : pm_dn pm_sM 151 114 P st G = pm_go pm_sM 151 G (pm_oIf .eq (some 121) 117 P st G) := pm_dn_eq (i := .ifCond .eq 7) (len := 3) rfl
theorem u_151_117 (P : PL) (st : List PV) (G : PW) : pm_dn pm_sM 151 117 P st G = pm_go pm_sM 151 G (pm_oK 1 118 P st G) := pm_dn_eq (i := .iconst 1) (len := 1) rfl
theorem u_151_118 (P : PL) (st : List PV) (G : PW) : pm_dn pm_sM 151 118 P st G = pm_go pm_sM 151 G (pm_oGo (some 122) P st G) := pm_dn_eq (i := .goto 4) (len := 3) rfl
theorem u_151_121 (P : PL) (st : List PV) (G : PW) : pm_dn pm_sM 151 121 P st G = pm_go pm_sM 151 G (pm_oK 0 122 P st G) := pm_dn_eq (i := .iconst 0) (len := 1) rfl
theorem u_151_122 (P : PL) (st : List PV) (G : PW) : pm_dn pm_sM 151 122 P st G = pm_go pm_sM 151 G (pm_oAdd 123 P st G) := pm_dn_eq (i := .iadd) (len := 1) rfl
theorem u_151_123 (P : PL) (st : List PV) (G : PW) : pm_dn pm_sM 151 123 P st G = pm_go pm_sM 151 G (pm_oIS 2 124 P st G) := pm_dn_eq (i := .istore_n 2) (len := 1) rfl
theorem u_151_124 (P : PL) (st : List PV) (G : PW) : pm_dn pm_sM 151 124 P st G = pm_go pm_sM 151 G (pm_oInc 3 1 127 P st G) := pm_dn_eq (i := .iinc 3 1) (len := 3) rfl
theorem u_151_127 (P : PL) (st : List PV) (G : PW) : pm_dn pm_sM 151 127 P st G = pm_go pm_sM 151 G (pm_oGo (some 51) P st G) := pm_dn_eq (i := .goto (-76)) (len := 3) rfl
theorem u_151_130 (P : PL) (st : List PV) (G : PW) : pm_dn pm_sM 151 130 P st G = pm_go pm_sM 151 G (pm_oIL 2 131 P st G) := pm_dn_eq (i := .iload_n 2) (len := 1) rfl
theorem u_151_131 (P : PL) (st : List PV) (G : PW) : pm_dn pm_sM 151 131 P st G = pm_go pm_sM 151 G (pm_oRi 0 P st G) := pm_dn_eq (i := .ireturn) (len := 1) rfl
theorem ue_152 (a0 : Nat) (a1 : Int) (G : PW) : pm_ca pm_sM 152 [.inr (.inr a0), .inl a1] G = pm_dn pm_sM 152 0 [some (.inr (.inr a0)), some (.inl a1), none, none] [] G := rfl
theorem u_152_0 (P : PL) (st : List PV) (G : PW) : pm_dn pm_sM 152 0 P st G = pm_go pm_sM 152 G (pm_oIL 1 1 P st G) := pm_dn_eq (i := .iload_n 1) (len := 1) rfl
theorem u_152_1 (P : PL) (st : List PV) (G : PW) : pm_dn pm_sM 152 1 P st G = pm_go pm_sM 152 G (pm_oIS 2 2 P st G) := pm_dn_eq (i := .istore_n 2) (len := 1) rfl
theorem u_152_2 (P : PL) (st : List PV) (G : PW) : pm_dn pm_sM 152 2 P st G = pm_go pm_sM 152 G (pm_oK 0 3 P st G) := pm_dn_eq (i := .iconst 0) (len := 1) rfl
theorem u_152_3 (P : PL) (st : List PV) (G : PW) : pm_dn pm_sM 152 3 P st G = pm_go pm_sM 152 G (pm_oIS 3 4 P st G) := pm_dn_eq (i := .istore_n 3) (len := 1) rfl
theorem u_152_4 (P : PL) (st : List PV) (G : PW) : pm_dn pm_sM 152 4 P st G = pm_go pm_sM 152 G (pm_oIL 3 5 P st G) := pm_dn_eq (i := .iload_n 3) (len := 1) rfl
theorem u_152_5 (P : PL) (st : List PV) (G : PW) : pm_dn pm_sM 152 5 P st G = pm_go pm_sM 152 G (pm_oAL 0 6 P st G) := pm_dn_eq (i := .aload_n 0) (len := 1) rfl
theorem u_152_6 (P : PL) (st : List PV) (G : PW) : pm_dn pm_sM 152 6 P st G = pm_go pm_sM 152 G (pm_oGf pm_sM 6 7 9 P st G) := pm_dn_eq (i := .getfield 97) (len := 3) rfl
theorem u_152_9 (P : PL) (st : List PV) (G : PW) : pm_dn pm_sM 152 9 P st G = pm_go pm_sM 152 G (pm_oIc .ge (some 69) 12 P st G) := pm_dn_eq (i := .if_icmp .ge 60) (len := 3) rfl
theorem u_152_12 (P : PL) (st : List PV) (G : PW) : pm_dn pm_sM 152 12 P st G = pm_go pm_sM 152 G (pm_oAL 0 13 P st G) := pm_dn_eq (i := .aload_n 0) (len := 1) rfl
theorem u_152_13 (P : PL) (st : List PV) (G : PW) : pm_dn pm_sM 152 13 P st G = pm_go pm_sM 152 G (pm_oIL 3 14 P st G) := pm_dn_eq (i := .iload_n 3) (len := 1) rfl
theorem u_152_14 (P : PL) (st : List PV) (G : PW) : pm_dn pm_sM 152 14 P st G = pm_go pm_sM 152 G (pm_oCv pm_sM 127 1 2 6 17 P st G) := pm_dn_eq (i := .invokevirtual 174) (len := 3) rfl
theorem u_152_17 (P : PL) (st : List PV) (G : PW) : pm_dn pm_sM 152 17 P st G = pm_go pm_sM 152 G (pm_oIf .eq (some 63) 20 P st G) := pm_dn_eq (i := .ifCond .eq 46) (len := 3) rfl
theorem u_152_20 (P : PL) (st : List PV) (G : PW) : pm_dn pm_sM 152 20 P st G = pm_go pm_sM 152 G (pm_oIL 2 21 P st G) := pm_dn_eq (i := .iload_n 2) (len := 1) rfl
theorem u_152_21 (P : PL) (st : List PV) (G : PW) : pm_dn pm_sM 152 21 P st G = pm_go pm_sM 152 G (pm_oIf .le (some 63) 24 P st G) := pm_dn_eq (i := .ifCond .le 42) (len := 3) rfl
theorem u_152_24 (P : PL) (st : List PV) (G : PW) : pm_dn pm_sM 152 24 P st G = pm_go pm_sM 152 G (pm_oAL 0 25 P st G) := pm_dn_eq (i := .aload_n 0) (len := 1) rfl
theorem u_152_25 (P : PL) (st : List PV) (G : PW) : pm_dn pm_sM 152 25 P st G = pm_go pm_sM 152 G (pm_oGf pm_sM 6 24 28 P st G) := pm_dn_eq (i := .getfield 71) (len := 3) rfl
theorem u_152_28 (P : PL) (st : List PV) (G : PW) : pm_dn pm_sM 152 28 P st G = pm_go pm_sM 152 G (pm_oIL 3 29 P st G) := pm_dn_eq (i := .iload_n 3) (len := 1) rfl
theorem u_152_29 (P : PL) (st : List PV) (G : PW) : pm_dn pm_sM 152 29 P st G = pm_go pm_sM 152 G (pm_oAL 0 30 P st G) := pm_dn_eq (i := .aload_n 0) (len := 1) rfl
theorem u_152_30 (P : PL) (st : List PV) (G : PW) : pm_dn pm_sM 152 30 P st G = pm_go pm_sM 152 G (pm_oAL 0 31 P st G) := pm_dn_eq (i := .aload_n 0) (len := 1) rfl
theorem u_152_31 (P : PL) (st : List PV) (G : PW) : pm_dn pm_sM 152 31 P st G = pm_go pm_sM 152 G (pm_oGf pm_sM 6 20 34 P st G) := pm_dn_eq (i := .getfield 59) (len := 3) rfl
theorem u_152_34 (P : PL) (st : List PV) (G : PW) : pm_dn pm_sM 152 34 P st G = pm_go pm_sM 152 G (pm_oK 2 35 P st G) := pm_dn_eq (i := .iconst 2) (len := 1) rfl
theorem u_152_35 (P : PL) (st : List PV) (G : PW) : pm_dn pm_sM 152 35 P st G = pm_go pm_sM 152 G (pm_oIL 3 36 P st G) := pm_dn_eq (i := .iload_n 3) (len := 1) rfl
theorem u_152_36 (P : PL) (st : List PV) (G : PW) : pm_dn pm_sM 152 36 P st G = pm_go pm_sM 152 G (pm_oMul 37 P st G) := pm_dn_eq (i := .imul) (len := 1) rfl
theorem u_152_37 (P : PL) (st : List PV) (G : PW) : pm_dn pm_sM 152 37 P st G = pm_go pm_sM 152 G (pm_oAld pm_sM 0 38 P st G) := pm_dn_eq (i := .iaload) (len := 1) rfl
theorem u_152_38 (P : PL) (st : List PV) (G : PW) : pm_dn pm_sM 152 38 P st G = pm_go pm_sM 152 G (pm_oAL 0 39 P st G) := pm_dn_eq (i := .aload_n 0) (len := 1) rfl
theorem u_152_39 (P : PL) (st : List PV) (G : PW) : pm_dn pm_sM 152 39 P st G = pm_go pm_sM 152 G (pm_oGf pm_sM 6 20 42 P st G) := pm_dn_eq (i := .getfield 59) (len := 3) rfl
theorem u_152_42 (P : PL) (st : List PV) (G : PW) : pm_dn pm_sM 152 42 P st G = pm_go pm_sM 152 G (pm_oK 2 43 P st G) := pm_dn_eq (i := .iconst 2) (len := 1) rfl
theorem u_152_43 (P : PL) (st : List PV) (G : PW) : pm_dn pm_sM 152 43 P st G = pm_go pm_sM 152 G (pm_oIL 3 44 P st G) := pm_dn_eq (i := .iload_n 3) (len := 1) rfl
theorem u_152_44 (P : PL) (st : List PV) (G : PW) : pm_dn pm_sM 152 44 P st G = pm_go pm_sM 152 G (pm_oMul 45 P st G) := pm_dn_eq (i := .imul) (len := 1) rfl
theorem u_152_45 (P : PL) (st : List PV) (G : PW) : pm_dn pm_sM 152 45 P st G = pm_go pm_sM 152 G (pm_oK 1 46 P st G) := pm_dn_eq (i := .iconst 1) (len := 1) rfl
theorem u_152_46 (P : PL) (st : List PV) (G : PW) : pm_dn pm_sM 152 46 P st G = pm_go pm_sM 152 G (pm_oAdd 47 P st G) := pm_dn_eq (i := .iadd) (len := 1) rfl
theorem u_152_47 (P : PL) (st : List PV) (G : PW) : pm_dn pm_sM 152 47 P st G = pm_go pm_sM 152 G (pm_oAld pm_sM 0 48 P st G) := pm_dn_eq (i := .iaload) (len := 1) rfl
theorem u_152_48 (P : PL) (st : List PV) (G : PW) : pm_dn pm_sM 152 48 P st G = pm_go pm_sM 152 G (pm_oCv pm_sM 117 2 5 6 51 P st G) := pm_dn_eq (i := .invokevirtual 130) (len := 3) rfl
theorem u_152_51 (P : PL) (st : List PV) (G : PW) : pm_dn pm_sM 152 51 P st G = pm_go pm_sM 152 G (pm_oIf .eq (some 58) 54 P st G) := pm_dn_eq (i := .ifCond .eq 7) (len := 3) rfl
theorem u_152_54 (P : PL) (st : List PV) (G : PW) : pm_dn pm_sM 152 54 P st G = pm_go pm_sM 152 G (pm_oK 0 55 P st G) := pm_dn_eq (i := .iconst 0) (len := 1) rfl
theorem u_152_55 (P : PL) (st : List PV) (G : PW) : pm_dn pm_sM 152 55 P st G = pm_go pm_sM 152 G (pm_oGo (some 59) P st G) := pm_dn_eq (i := .goto 4) (len := 3) rfl
theorem u_152_58 (P : PL) (st : List PV) (G : PW) : pm_dn pm_sM 152 58 P st G = pm_go pm_sM 152 G (pm_oK 1 59 P st G) := pm_dn_eq (i := .iconst 1) (len := 1) rfl
theorem u_152_59 (P : PL) (st : List PV) (G : PW) : pm_dn pm_sM 152 59 P st G = pm_go pm_sM 152 G (pm_oAst pm_sM 0 60 P st G) := pm_dn_eq (i := .iastore) (len := 1) rfl
theorem u_152_60 (P : PL) (st : List PV) (G : PW) : pm_dn pm_sM 152 60 P st G = pm_go pm_sM 152 G (pm_oInc 2 (-1) 63 P st G) := pm_dn_eq (i := .iinc 2 (-1)) (len := 3) rfl
theorem u_152_63 (P : PL) (st : List PV) (G : PW) : pm_dn pm_sM 152 63 P st G = pm_go pm_sM 152 G (pm_oInc 3 1 66 P st G) := pm_dn_eq (i := .iinc 3 1) (len := 3) rfl
theorem u_152_66 (P : PL) (st : List PV) (G : PW) : pm_dn pm_sM 152 66 P st G = pm_go pm_sM 152 G (pm_oGo (some 4) P st G) := pm_dn_eq (i := .goto (-62)) (len := 3) rfl
theorem u_152_69 (P : PL) (st : List PV) (G : PW) : pm_dn pm_sM 152 69 P st G = pm_go pm_sM 152 G (pm_oRv P st G) := pm_dn_eq (i := .return_) (len := 1) rfl
theorem ue_153 (a0 : Nat) (a1 : Int) (G : PW) : pm_ca pm_sM 153 [.inr (.inr a0), .inl a1] G = pm_dn pm_sM 153 0 [some (.inr (.inr a0)), some (.inl a1), none] [] G := rfl
theorem u_153_0 (P : PL) (st : List PV) (G : PW) : pm_dn pm_sM 153 0 P st G = pm_go pm_sM 153 G (pm_oIL 1 1 P st G) := pm_dn_eq (i := .iload_n 1) (len := 1) rfl
theorem u_153_1 (P : PL) (st : List PV) (G : PW) : pm_dn pm_sM 153 1 P st G = pm_go pm_sM 153 G (pm_oK 1 2 P st G) := pm_dn_eq (i := .iconst 1) (len := 1) rfl
theorem u_153_2 (P : PL) (st : List PV) (G : PW) : pm_dn pm_sM 153 2 P st G = pm_go pm_sM 153 G (pm_oK 8 4 P st G) := pm_dn_eq (i := .bipush 8) (len := 2) rfl
theorem u_153_4 (P : PL) (st : List PV) (G : PW) : pm_dn pm_sM 153 4 P st G = pm_go pm_sM 153 G (pm_oCs 109 3 3 7 P st G) := pm_dn_eq (i := .invokestatic 164) (len := 3) rfl
theorem u_153_7 (P : PL) (st : List PV) (G : PW) : pm_dn pm_sM 153 7 P st G = pm_go pm_sM 153 G (pm_oIf .ne (some 13) 10 P st G) := pm_dn_eq (i := .ifCond .ne 6) (len := 3) rfl
theorem u_153_10 (P : PL) (st : List PV) (G : PW) : pm_dn pm_sM 153 10 P st G = pm_go pm_sM 153 G (pm_oK (-2) 12 P st G) := pm_dn_eq (i := .bipush (-2)) (len := 2) rfl
theorem u_153_12 (P : PL) (st : List PV) (G : PW) : pm_dn pm_sM 153 12 P st G = pm_go pm_sM 153 G (pm_oRi 0 P st G) := pm_dn_eq (i := .ireturn) (len := 1) rfl
theorem u_153_13 (P : PL) (st : List PV) (G : PW) : pm_dn pm_sM 153 13 P st G = pm_go pm_sM 153 G (pm_oAL 0 14 P st G) := pm_dn_eq (i := .aload_n 0) (len := 1) rfl
theorem u_153_14 (P : PL) (st : List PV) (G : PW) : pm_dn pm_sM 153 14 P st G = pm_go pm_sM 153 G (pm_oCv pm_sM 124 0 1 6 17 P st G) := pm_dn_eq (i := .invokevirtual 171) (len := 3) rfl
theorem u_153_17 (P : PL) (st : List PV) (G : PW) : pm_dn pm_sM 153 17 P st G = pm_go pm_sM 153 G (pm_oK 0 18 P st G) := pm_dn_eq (i := .iconst 0) (len := 1) rfl
theorem u_153_18 (P : PL) (st : List PV) (G : PW) : pm_dn pm_sM 153 18 P st G = pm_go pm_sM 153 G (pm_oIS 2 19 P st G) := pm_dn_eq (i := .istore_n 2) (len := 1) rfl
theorem u_153_19 (P : PL) (st : List PV) (G : PW) : pm_dn pm_sM 153 19 P st G = pm_go pm_sM 153 G (pm_oAL 0 20 P st G) := pm_dn_eq (i := .aload_n 0) (len := 1) rfl
theorem u_153_20 (P : PL) (st : List PV) (G : PW) : pm_dn pm_sM 153 20 P st G = pm_go pm_sM 153 G (pm_oCv pm_sM 125 0 2 6 23 P st G) := pm_dn_eq (i := .invokevirtual 150) (len := 3) rfl
theorem u_153_23 (P : PL) (st : List PV) (G : PW) : pm_dn pm_sM 153 23 P st G = pm_go pm_sM 153 G (pm_oK (-6) 25 P st G) := pm_dn_eq (i := .bipush (-6)) (len := 2) rfl
theorem u_153_25 (P : PL) (st : List PV) (G : PW) : pm_dn pm_sM 153 25 P st G = pm_go pm_sM 153 G (pm_oIc .ne (some 46) 28 P st G) := pm_dn_eq (i := .if_icmp .ne 21) (len := 3) rfl
theorem u_153_28 (P : PL) (st : List PV) (G : PW) : pm_dn pm_sM 153 28 P st G = pm_go pm_sM 153 G (pm_oAL 0 29 P st G) := pm_dn_eq (i := .aload_n 0) (len := 1) rfl
theorem u_153_29 (P : PL) (st : List PV) (G : PW) : pm_dn pm_sM 153 29 P st G = pm_go pm_sM 153 G (pm_oIL 1 30 P st G) := pm_dn_eq (i := .iload_n 1) (len := 1) rfl
theorem u_153_30 (P : PL) (st : List PV) (G : PW) : pm_dn pm_sM 153 30 P st G = pm_go pm_sM 153 G (pm_oCv pm_sM 152 1 4 6 33 P st G) := pm_dn_eq (i := .invokevirtual 216) (len := 3) rfl
theorem u_153_33 (P : PL) (st : List PV) (G : PW) : pm_dn pm_sM 153 33 P st G = pm_go pm_sM 153 G (pm_oAL 0 34 P st G) := pm_dn_eq (i := .aload_n 0) (len := 1) rfl
theorem u_153_34 (P : PL) (st : List PV) (G : PW) : pm_dn pm_sM 153 34 P st G = pm_go pm_sM 153 G (pm_oK 0 35 P st G) := pm_dn_eq (i := .iconst 0) (len := 1) rfl
theorem u_153_35 (P : PL) (st : List PV) (G : PW) : pm_dn pm_sM 153 35 P st G = pm_go pm_sM 153 G (pm_oK (-6) 37 P st G) := pm_dn_eq (i := .bipush (-6)) (len := 2) rfl
theorem u_153_37 (P : PL) (st : List PV) (G : PW) : pm_dn pm_sM 153 37 P st G = pm_go pm_sM 153 G (pm_oCv pm_sM 122 2 4 6 40 P st G) := pm_dn_eq (i := .invokevirtual 144) (len := 3) rfl
theorem u_153_40 (P : PL) (st : List PV) (G : PW) : pm_dn pm_sM 153 40 P st G = pm_go pm_sM 153 G (pm_oInc 2 1 43 P st G) := pm_dn_eq (i := .iinc 2 1) (len := 3) rfl
theorem u_153_43 (P : PL) (st : List PV) (G : PW) : pm_dn pm_sM 153 43 P st G = pm_go pm_sM 153 G (pm_oGo (some 19) P st G) := pm_dn_eq (i := .goto (-24)) (len := 3) rfl
theorem u_153_46 (P : PL) (st : List PV) (G : PW) : pm_dn pm_sM 153 46 P st G = pm_go pm_sM 153 G (pm_oIL 2 47 P st G) := pm_dn_eq (i := .iload_n 2) (len := 1) rfl
theorem u_153_47 (P : PL) (st : List PV) (G : PW) : pm_dn pm_sM 153 47 P st G = pm_go pm_sM 153 G (pm_oRi 0 P st G) := pm_dn_eq (i := .ireturn) (len := 1) rfl
theorem ue_154 (a0 : Nat) (a1 : Int) (a2 : Int) (G : PW) : pm_ca pm_sM 154 [.inr (.inr a0), .inl a1, .inl a2] G = pm_dn pm_sM 154 0 [some (.inr (.inr a0)), some (.inl a1), some (.inl a2), none, none] [] G := rfl
theorem u_154_0 (P : PL) (st : List PV) (G : PW) : pm_dn pm_sM 154 0 P st G = pm_go pm_sM 154 G (pm_oAL 0 1 P st G) := pm_dn_eq (i := .aload_n 0) (len := 1) rfl
theorem u_154_1 (P : PL) (st : List PV) (G : PW) : pm_dn pm_sM 154 1 P st G = pm_go pm_sM 154 G (pm_oIL 1 2 P st G) := pm_dn_eq (i := .iload_n 1) (len := 1) rfl
theorem u_154_2 (P : PL) (st : List PV) (G : PW) : pm_dn pm_sM 154 2 P st G = pm_go pm_sM 154 G (pm_oCv pm_sM 134 1 2 6 5 P st G) := pm_dn_eq (i := .invokevirtual 168) (len := 3) rfl
theorem u_154_5 (P : PL) (st : List PV) (G : PW) : pm_dn pm_sM 154 5 P st G = pm_go pm_sM 154 G (pm_oIf .eq (some 16) 8 P st G) := pm_dn_eq (i := .ifCond .eq 11) (len := 3) rfl
theorem u_154_8 (P : PL) (st : List PV) (G : PW) : pm_dn pm_sM 154 8 P st G = pm_go pm_sM 154 G (pm_oAL 0 9 P st G) := pm_dn_eq (i := .aload_n 0) (len := 1) rfl
theorem u_154_9 (P : PL) (st : List PV) (G : PW) : pm_dn pm_sM 154 9 P st G = pm_go pm_sM 154 G (pm_oIL 2 10 P st G) := pm_dn_eq (i := .iload_n 2) (len := 1) rfl
theorem u_154_10 (P : PL) (st : List PV) (G : PW) : pm_dn pm_sM 154 10 P st G = pm_go pm_sM 154 G (pm_oCv pm_sM 134 1 2 6 13 P st G) := pm_dn_eq (i := .invokevirtual 168) (len := 3) rfl
theorem u_154_13 (P : PL) (st : List PV) (G : PW) : pm_dn pm_sM 154 13 P st G = pm_go pm_sM 154 G (pm_oIf .ne (some 18) 16 P st G) := pm_dn_eq (i := .ifCond .ne 5) (len := 3) rfl
theorem u_154_16 (P : PL) (st : List PV) (G : PW) : pm_dn pm_sM 154 16 P st G = pm_go pm_sM 154 G (pm_oK (-1) 17 P st G) := pm_dn_eq (i := .iconst (-1)) (len := 1) rfl
theorem u_154_17 (P : PL) (st : List PV) (G : PW) : pm_dn pm_sM 154 17 P st G = pm_go pm_sM 154 G (pm_oRi 0 P st G) := pm_dn_eq (i := .ireturn) (len := 1) rfl
theorem u_154_18 (P : PL) (st : List PV) (G : PW) : pm_dn pm_sM 154 18 P st G = pm_go pm_sM 154 G (pm_oIL 1 19 P st G) := pm_dn_eq (i := .iload_n 1) (len := 1) rfl
theorem u_154_19 (P : PL) (st : List PV) (G : PW) : pm_dn pm_sM 154 19 P st G = pm_go pm_sM 154 G (pm_oIL 2 20 P st G) := pm_dn_eq (i := .iload_n 2) (len := 1) rfl
theorem u_154_20 (P : PL) (st : List PV) (G : PW) : pm_dn pm_sM 154 20 P st G = pm_go pm_sM 154 G (pm_oIc .ne (some 26) 23 P st G) := pm_dn_eq (i := .if_icmp .ne 6) (len := 3) rfl
theorem u_154_23 (P : PL) (st : List PV) (G : PW) : pm_dn pm_sM 154 23 P st G = pm_go pm_sM 154 G (pm_oK (-2) 25 P st G) := pm_dn_eq (i := .bipush (-2)) (len := 2) rfl
theorem u_154_25 (P : PL) (st : List PV) (G : PW) : pm_dn pm_sM 154 25 P st G = pm_go pm_sM 154 G (pm_oRi 0 P st G) := pm_dn_eq (i := .ireturn) (len := 1) rfl
theorem u_154_26 (P : PL) (st : List PV) (G : PW) : pm_dn pm_sM 154 26 P st G = pm_go pm_sM 154 G (pm_oAL 0 27 P st G) := pm_dn_eq (i := .aload_n 0) (len := 1) rfl
theorem u_154_27 (P : PL) (st : List PV) (G : PW) : pm_dn pm_sM 154 27 P st G = pm_go pm_sM 154 G (pm_oCv pm_sM 124 0 1 6 30 P st G) := pm_dn_eq (i := .invokevirtual 171) (len := 3) rfl
theorem u_154_30 (P : PL) (st : List PV) (G : PW) : pm_dn pm_sM 154 30 P st G = pm_go pm_sM 154 G (pm_oAL 0 31 P st G) := pm_dn_eq (i := .aload_n 0) (len := 1) rfl
theorem u_154_31 (P : PL) (st : List PV) (G : PW) : pm_dn pm_sM 154 31 P st G = pm_go pm_sM 154 G (pm_oIL 1 32 P st G) := pm_dn_eq (i := .iload_n 1) (len := 1) rfl
theorem u_154_32 (P : PL) (st : List PV) (G : PW) : pm_dn pm_sM 154 32 P st G = pm_go pm_sM 154 G (pm_oCv pm_sM 119 1 2 6 35 P st G) := pm_dn_eq (i := .invokevirtual 120) (len := 3) rfl
theorem u_154_35 (P : PL) (st : List PV) (G : PW) : pm_dn pm_sM 154 35 P st G = pm_go pm_sM 154 G (pm_oIf .ne (some 62) 38 P st G) := pm_dn_eq (i := .ifCond .ne 27) (len := 3) rfl
theorem u_154_38 (P : PL) (st : List PV) (G : PW) : pm_dn pm_sM 154 38 P st G = pm_go pm_sM 154 G (pm_oAL 0 39 P st G) := pm_dn_eq (i := .aload_n 0) (len := 1) rfl
theorem u_154_39 (P : PL) (st : List PV) (G : PW) : pm_dn pm_sM 154 39 P st G = pm_go pm_sM 154 G (pm_oIL 2 40 P st G) := pm_dn_eq (i := .iload_n 2) (len := 1) rfl
theorem u_154_40 (P : PL) (st : List PV) (G : PW) : pm_dn pm_sM 154 40 P st G = pm_go pm_sM 154 G (pm_oCv pm_sM 119 1 2 6 43 P st G) := pm_dn_eq (i := .invokevirtual 120) (len := 3) rfl
theorem u_154_43 (P : PL) (st : List PV) (G : PW) : pm_dn pm_sM 154 43 P st G = pm_go pm_sM 154 G (pm_oIf .ne (some 62) 46 P st G) := pm_dn_eq (i := .ifCond .ne 19) (len := 3) rfl
theorem u_154_46 (P : PL) (st : List PV) (G : PW) : pm_dn pm_sM 154 46 P st G = pm_go pm_sM 154 G (pm_oAL 0 47 P st G) := pm_dn_eq (i := .aload_n 0) (len := 1) rfl
theorem u_154_47 (P : PL) (st : List PV) (G : PW) : pm_dn pm_sM 154 47 P st G = pm_go pm_sM 154 G (pm_oIL 1 48 P st G) := pm_dn_eq (i := .iload_n 1) (len := 1) rfl
theorem u_154_48 (P : PL) (st : List PV) (G : PW) : pm_dn pm_sM 154 48 P st G = pm_go pm_sM 154 G (pm_oCv pm_sM 131 1 2 6 51 P st G) := pm_dn_eq (i := .invokevirtual 180) (len := 3) rfl
theorem u_154_51 (P : PL) (st : List PV) (G : PW) : pm_dn pm_sM 154 51 P st G = pm_go pm_sM 154 G (pm_oIf .ne (some 62) 54 P st G) := pm_dn_eq (i := .ifCond .ne 11) (len := 3) rfl
theorem u_154_54 (P : PL) (st : List PV) (G : PW) : pm_dn pm_sM 154 54 P st G = pm_go pm_sM 154 G (pm_oAL 0 55 P st G) := pm_dn_eq (i := .aload_n 0) (len := 1) rfl
theorem u_154_55 (P : PL) (st : List PV) (G : PW) : pm_dn pm_sM 154 55 P st G = pm_go pm_sM 154 G (pm_oIL 2 56 P st G) := pm_dn_eq (i := .iload_n 2) (len := 1) rfl
theorem u_154_56 (P : PL) (st : List PV) (G : PW) : pm_dn pm_sM 154 56 P st G = pm_go pm_sM 154 G (pm_oCv pm_sM 131 1 2 6 59 P st G) := pm_dn_eq (i := .invokevirtual 180) (len := 3) rfl
theorem u_154_59 (P : PL) (st : List PV) (G : PW) : pm_dn pm_sM 154 59 P st G = pm_go pm_sM 154 G (pm_oIf .eq (some 65) 62 P st G) := pm_dn_eq (i := .ifCond .eq 6) (len := 3) rfl
theorem u_154_62 (P : PL) (st : List PV) (G : PW) : pm_dn pm_sM 154 62 P st G = pm_go pm_sM 154 G (pm_oK (-6) 64 P st G) := pm_dn_eq (i := .bipush (-6)) (len := 2) rfl
theorem u_154_64 (P : PL) (st : List PV) (G : PW) : pm_dn pm_sM 154 64 P st G = pm_go pm_sM 154 G (pm_oRi 0 P st G) := pm_dn_eq (i := .ireturn) (len := 1) rfl
theorem u_154_65 (P : PL) (st : List PV) (G : PW) : pm_dn pm_sM 154 65 P st G = pm_go pm_sM 154 G (pm_oAL 0 66 P st G) := pm_dn_eq (i := .aload_n 0) (len := 1) rfl
theorem u_154_66 (P : PL) (st : List PV) (G : PW) : pm_dn pm_sM 154 66 P st G = pm_go pm_sM 154 G (pm_oIL 1 67 P st G) := pm_dn_eq (i := .iload_n 1) (len := 1) rfl
theorem u_154_67 (P : PL) (st : List PV) (G : PW) : pm_dn pm_sM 154 67 P st G = pm_go pm_sM 154 G (pm_oCv pm_sM 141 1 3 6 70 P st G) := pm_dn_eq (i := .invokevirtual 190) (len := 3) rfl
theorem u_154_70 (P : PL) (st : List PV) (G : PW) : pm_dn pm_sM 154 70 P st G = pm_go pm_sM 154 G (pm_oIS 3 71 P st G) := pm_dn_eq (i := .istore_n 3) (len := 1) rfl
theorem u_154_71 (P : PL) (st : List PV) (G : PW) : pm_dn pm_sM 154 71 P st G = pm_go pm_sM 154 G (pm_oIL 3 72 P st G) := pm_dn_eq (i := .iload_n 3) (len := 1) rfl
theorem u_154_72 (P : PL) (st : List PV) (G : PW) : pm_dn pm_sM 154 72 P st G = pm_go pm_sM 154 G (pm_oK (-6) 74 P st G) := pm_dn_eq (i := .bipush (-6)) (len := 2) rfl
theorem u_154_74 (P : PL) (st : List PV) (G : PW) : pm_dn pm_sM 154 74 P st G = pm_go pm_sM 154 G (pm_oIc .eq (some 121) 77 P st G) := pm_dn_eq (i := .if_icmp .eq 47) (len := 3) rfl
theorem u_154_77 (P : PL) (st : List PV) (G : PW) : pm_dn pm_sM 154 77 P st G = pm_go pm_sM 154 G (pm_oAL 0 78 P st G) := pm_dn_eq (i := .aload_n 0) (len := 1) rfl
theorem u_154_78 (P : PL) (st : List PV) (G : PW) : pm_dn pm_sM 154 78 P st G = pm_go pm_sM 154 G (pm_oIL 2 79 P st G) := pm_dn_eq (i := .iload_n 2) (len := 1) rfl
theorem u_154_79 (P : PL) (st : List PV) (G : PW) : pm_dn pm_sM 154 79 P st G = pm_go pm_sM 154 G (pm_oCv pm_sM 141 1 3 6 82 P st G) := pm_dn_eq (i := .invokevirtual 190) (len := 3) rfl
theorem u_154_82 (P : PL) (st : List PV) (G : PW) : pm_dn pm_sM 154 82 P st G = pm_go pm_sM 154 G (pm_oIS 4 84 P st G) := pm_dn_eq (i := .istore 4) (len := 2) rfl
theorem u_154_84 (P : PL) (st : List PV) (G : PW) : pm_dn pm_sM 154 84 P st G = pm_go pm_sM 154 G (pm_oIL 4 86 P st G) := pm_dn_eq (i := .iload 4) (len := 2) rfl
theorem u_154_86 (P : PL) (st : List PV) (G : PW) : pm_dn pm_sM 154 86 P st G = pm_go pm_sM 154 G (pm_oK (-6) 88 P st G) := pm_dn_eq (i := .bipush (-6)) (len := 2) rfl
theorem u_154_88 (P : PL) (st : List PV) (G : PW) : pm_dn pm_sM 154 88 P st G = pm_go pm_sM 154 G (pm_oIc .eq (some 111) 91 P st G) := pm_dn_eq (i := .if_icmp .eq 23) (len := 3) rfl
theorem u_154_91 (P : PL) (st : List PV) (G : PW) : pm_dn pm_sM 154 91 P st G = pm_go pm_sM 154 G (pm_oIL 3 92 P st G) := pm_dn_eq (i := .iload_n 3) (len := 1) rfl
theorem u_154_92 (P : PL) (st : List PV) (G : PW) : pm_dn pm_sM 154 92 P st G = pm_go pm_sM 154 G (pm_oIL 4 94 P st G) := pm_dn_eq (i := .iload 4) (len := 2) rfl
theorem u_154_94 (P : PL) (st : List PV) (G : PW) : pm_dn pm_sM 154 94 P st G = pm_go pm_sM 154 G (pm_oIc .ne (some 99) 97 P st G) := pm_dn_eq (i := .if_icmp .ne 5) (len := 3) rfl
theorem u_154_97 (P : PL) (st : List PV) (G : PW) : pm_dn pm_sM 154 97 P st G = pm_go pm_sM 154 G (pm_oIL 3 98 P st G) := pm_dn_eq (i := .iload_n 3) (len := 1) rfl
theorem u_154_98 (P : PL) (st : List PV) (G : PW) : pm_dn pm_sM 154 98 P st G = pm_go pm_sM 154 G (pm_oRi 0 P st G) := pm_dn_eq (i := .ireturn) (len := 1) rfl
theorem u_154_99 (P : PL) (st : List PV) (G : PW) : pm_dn pm_sM 154 99 P st G = pm_go pm_sM 154 G (pm_oAL 0 100 P st G) := pm_dn_eq (i := .aload_n 0) (len := 1) rfl
theorem u_154_100 (P : PL) (st : List PV) (G : PW) : pm_dn pm_sM 154 100 P st G = pm_go pm_sM 154 G (pm_oGf pm_sM 6 11 103 P st G) := pm_dn_eq (i := .getfield 32) (len := 3) rfl
theorem u_154_103 (P : PL) (st : List PV) (G : PW) : pm_dn pm_sM 154 103 P st G = pm_go pm_sM 154 G (pm_oIL 4 105 P st G) := pm_dn_eq (i := .iload 4) (len := 2) rfl
theorem u_154_105 (P : PL) (st : List PV) (G : PW) : pm_dn pm_sM 154 105 P st G = pm_go pm_sM 154 G (pm_oAld pm_sM 0 106 P st G) := pm_dn_eq (i := .iaload) (len := 1) rfl
theorem u_154_106 (P : PL) (st : List PV) (G : PW) : pm_dn pm_sM 154 106 P st G = pm_go pm_sM 154 G (pm_oIS 4 108 P st G) := pm_dn_eq (i := .istore 4) (len := 2) rfl
theorem u_154_108 (P : PL) (st : List PV) (G : PW) : pm_dn pm_sM 154 108 P st G = pm_go pm_sM 154 G (pm_oGo (some 84) P st G) := pm_dn_eq (i := .goto (-24)) (len := 3) rfl
theorem u_154_111 (P : PL) (st : List PV) (G : PW) : pm_dn pm_sM 154 111 P st G = pm_go pm_sM 154 G (pm_oAL 0 112 P st G) := pm_dn_eq (i := .aload_n 0) (len := 1) rfl
theorem u_154_112 (P : PL) (st : List PV) (G : PW) : pm_dn pm_sM 154 112 P st G = pm_go pm_sM 154 G (pm_oGf pm_sM 6 11 115 P st G) := pm_dn_eq (i := .getfield 32) (len := 3) rfl
theorem u_154_115 (P : PL) (st : List PV) (G : PW) : pm_dn pm_sM 154 115 P st G = pm_go pm_sM 154 G (pm_oIL 3 116 P st G) := pm_dn_eq (i := .iload_n 3) (len := 1) rfl
theorem u_154_116 (P : PL) (st : List PV) (G : PW) : pm_dn pm_sM 154 116 P st G = pm_go pm_sM 154 G (pm_oAld pm_sM 0 117 P st G) := pm_dn_eq (i := .iaload) (len := 1) rfl
theorem u_154_117 (P : PL) (st : List PV) (G : PW) : pm_dn pm_sM 154 117 P st G = pm_go pm_sM 154 G (pm_oIS 3 118 P st G) := pm_dn_eq (i := .istore_n 3) (len := 1) rfl
theorem u_154_118 (P : PL) (st : List PV) (G : PW) : pm_dn pm_sM 154 118 P st G = pm_go pm_sM 154 G (pm_oGo (some 71) P st G) := pm_dn_eq (i := .goto (-47)) (len := 3) rfl
theorem u_154_121 (P : PL) (st : List PV) (G : PW) : pm_dn pm_sM 154 121 P st G = pm_go pm_sM 154 G (pm_oK (-6) 123 P st G) := pm_dn_eq (i := .bipush (-6)) (len := 2) rfl
theorem u_154_123 (P : PL) (st : List PV) (G : PW) : pm_dn pm_sM 154 123 P st G = pm_go pm_sM 154 G (pm_oRi 0 P st G) := pm_dn_eq (i := .ireturn) (len := 1) rfl
theorem ue_155 (a0 : Nat) (a1 : Int64) (G : PW) : pm_ca pm_sM 155 [.inr (.inr a0), .inr (.inl a1)] G = pm_dn pm_sM 155 0 [some (.inr (.inr a0)), some (.inr (.inl a1)), none, none, none, none, none] [] G := rfl
theorem u_155_0 (P : PL) (st : List PV) (G : PW) : pm_dn pm_sM 155 0 P st G = pm_go pm_sM 155 G (pm_oK 0 1 P st G) := pm_dn_eq (i := .iconst 0) (len := 1) rfl
theorem u_155_1 (P : PL) (st : List PV) (G : PW) : pm_dn pm_sM 155 1 P st G = pm_go pm_sM 155 G (pm_oIS 3 2 P st G) := pm_dn_eq (i := .istore_n 3) (len := 1) rfl
theorem u_155_2 (P : PL) (st : List PV) (G : PW) : pm_dn pm_sM 155 2 P st G = pm_go pm_sM 155 G (pm_oLL 1 3 P st G) := pm_dn_eq (i := .lload_n 1) (len := 1) rfl
theorem u_155_3 (P : PL) (st : List PV) (G : PW) : pm_dn pm_sM 155 3 P st G = pm_go pm_sM 155 G (pm_oLS 4 5 P st G) := pm_dn_eq (i := .lstore 4) (len := 2) rfl
theorem u_155_5 (P : PL) (st : List PV) (G : PW) : pm_dn pm_sM 155 5 P st G = pm_go pm_sM 155 G (pm_oIL 3 6 P st G) := pm_dn_eq (i := .iload_n 3) (len := 1) rfl
theorem u_155_6 (P : PL) (st : List PV) (G : PW) : pm_dn pm_sM 155 6 P st G = pm_go pm_sM 155 G (pm_oK 8 8 P st G) := pm_dn_eq (i := .bipush 8) (len := 2) rfl
theorem u_155_8 (P : PL) (st : List PV) (G : PW) : pm_dn pm_sM 155 8 P st G = pm_go pm_sM 155 G (pm_oIc .ge (some 55) 11 P st G) := pm_dn_eq (i := .if_icmp .ge 47) (len := 3) rfl
theorem u_155_11 (P : PL) (st : List PV) (G : PW) : pm_dn pm_sM 155 11 P st G = pm_go pm_sM 155 G (pm_oLL 4 13 P st G) := pm_dn_eq (i := .lload 4) (len := 2) rfl
theorem u_155_13 (P : PL) (st : List PV) (G : PW) : pm_dn pm_sM 155 13 P st G = pm_go pm_sM 155 G (pm_oKL 255 16 P st G) := pm_dn_eq (i := .ldc2_w 219) (len := 3) rfl
theorem u_155_16 (P : PL) (st : List PV) (G : PW) : pm_dn pm_sM 155 16 P st G = pm_go pm_sM 155 G (pm_oLand 17 P st G) := pm_dn_eq (i := .land) (len := 1) rfl
theorem u_155_17 (P : PL) (st : List PV) (G : PW) : pm_dn pm_sM 155 17 P st G = pm_go pm_sM 155 G (pm_oKL 0 18 P st G) := pm_dn_eq (i := .lconst 0) (len := 1) rfl
theorem u_155_18 (P : PL) (st : List PV) (G : PW) : pm_dn pm_sM 155 18 P st G = pm_go pm_sM 155 G (pm_oLcm 19 P st G) := pm_dn_eq (i := .lcmp) (len := 1) rfl
theorem u_155_19 (P : PL) (st : List PV) (G : PW) : pm_dn pm_sM 155 19 P st G = pm_go pm_sM 155 G (pm_oIf .eq (some 55) 22 P st G) := pm_dn_eq (i := .ifCond .eq 36) (len := 3) rfl
theorem u_155_22 (P : PL) (st : List PV) (G : PW) : pm_dn pm_sM 155 22 P st G = pm_go pm_sM 155 G (pm_oLL 4 24 P st G) := pm_dn_eq (i := .lload 4) (len := 2) rfl
theorem u_155_24 (P : PL) (st : List PV) (G : PW) : pm_dn pm_sM 155 24 P st G = pm_go pm_sM 155 G (pm_oKL 255 27 P st G) := pm_dn_eq (i := .ldc2_w 219) (len := 3) rfl
theorem u_155_27 (P : PL) (st : List PV) (G : PW) : pm_dn pm_sM 155 27 P st G = pm_go pm_sM 155 G (pm_oLand 28 P st G) := pm_dn_eq (i := .land) (len := 1) rfl
theorem u_155_28 (P : PL) (st : List PV) (G : PW) : pm_dn pm_sM 155 28 P st G = pm_go pm_sM 155 G (pm_oL2i 29 P st G) := pm_dn_eq (i := .l2i) (len := 1) rfl
theorem u_155_29 (P : PL) (st : List PV) (G : PW) : pm_dn pm_sM 155 29 P st G = pm_go pm_sM 155 G (pm_oK 33 31 P st G) := pm_dn_eq (i := .bipush 33) (len := 2) rfl
theorem u_155_31 (P : PL) (st : List PV) (G : PW) : pm_dn pm_sM 155 31 P st G = pm_go pm_sM 155 G (pm_oK 126 33 P st G) := pm_dn_eq (i := .bipush 126) (len := 2) rfl
theorem u_155_33 (P : PL) (st : List PV) (G : PW) : pm_dn pm_sM 155 33 P st G = pm_go pm_sM 155 G (pm_oCs 109 3 3 36 P st G) := pm_dn_eq (i := .invokestatic 164) (len := 3) rfl
theorem u_155_36 (P : PL) (st : List PV) (G : PW) : pm_dn pm_sM 155 36 P st G = pm_go pm_sM 155 G (pm_oIf .ne (some 42) 39 P st G) := pm_dn_eq (i := .ifCond .ne 6) (len := 3) rfl
theorem u_155_39 (P : PL) (st : List PV) (G : PW) : pm_dn pm_sM 155 39 P st G = pm_go pm_sM 155 G (pm_oK (-2) 41 P st G) := pm_dn_eq (i := .bipush (-2)) (len := 2) rfl
theorem u_155_41 (P : PL) (st : List PV) (G : PW) : pm_dn pm_sM 155 41 P st G = pm_go pm_sM 155 G (pm_oRi 0 P st G) := pm_dn_eq (i := .ireturn) (len := 1) rfl
theorem u_155_42 (P : PL) (st : List PV) (G : PW) : pm_dn pm_sM 155 42 P st G = pm_go pm_sM 155 G (pm_oInc 3 1 45 P st G) := pm_dn_eq (i := .iinc 3 1) (len := 3) rfl
theorem u_155_45 (P : PL) (st : List PV) (G : PW) : pm_dn pm_sM 155 45 P st G = pm_go pm_sM 155 G (pm_oLL 4 47 P st G) := pm_dn_eq (i := .lload 4) (len := 2) rfl
theorem u_155_47 (P : PL) (st : List PV) (G : PW) : pm_dn pm_sM 155 47 P st G = pm_go pm_sM 155 G (pm_oK 8 49 P st G) := pm_dn_eq (i := .bipush 8) (len := 2) rfl
theorem u_155_49 (P : PL) (st : List PV) (G : PW) : pm_dn pm_sM 155 49 P st G = pm_go pm_sM 155 G (pm_oLus 50 P st G) := pm_dn_eq (i := .lushr) (len := 1) rfl
theorem u_155_50 (P : PL) (st : List PV) (G : PW) : pm_dn pm_sM 155 50 P st G = pm_go pm_sM 155 G (pm_oLS 4 52 P st G) := pm_dn_eq (i := .lstore 4) (len := 2) rfl
theorem u_155_52 (P : PL) (st : List PV) (G : PW) : pm_dn pm_sM 155 52 P st G = pm_go pm_sM 155 G (pm_oGo (some 5) P st G) := pm_dn_eq (i := .goto (-47)) (len := 3) rfl
theorem u_155_55 (P : PL) (st : List PV) (G : PW) : pm_dn pm_sM 155 55 P st G = pm_go pm_sM 155 G (pm_oIL 3 56 P st G) := pm_dn_eq (i := .iload_n 3) (len := 1) rfl
theorem u_155_56 (P : PL) (st : List PV) (G : PW) : pm_dn pm_sM 155 56 P st G = pm_go pm_sM 155 G (pm_oIf .eq (some 66) 59 P st G) := pm_dn_eq (i := .ifCond .eq 10) (len := 3) rfl
theorem u_155_59 (P : PL) (st : List PV) (G : PW) : pm_dn pm_sM 155 59 P st G = pm_go pm_sM 155 G (pm_oLL 4 61 P st G) := pm_dn_eq (i := .lload 4) (len := 2) rfl
theorem u_155_61 (P : PL) (st : List PV) (G : PW) : pm_dn pm_sM 155 61 P st G = pm_go pm_sM 155 G (pm_oKL 0 62 P st G) := pm_dn_eq (i := .lconst 0) (len := 1) rfl
theorem u_155_62 (P : PL) (st : List PV) (G : PW) : pm_dn pm_sM 155 62 P st G = pm_go pm_sM 155 G (pm_oLcm 63 P st G) := pm_dn_eq (i := .lcmp) (len := 1) rfl
theorem u_155_63 (P : PL) (st : List PV) (G : PW) : pm_dn pm_sM 155 63 P st G = pm_go pm_sM 155 G (pm_oIf .eq (some 69) 66 P st G) := pm_dn_eq (i := .ifCond .eq 6) (len := 3) rfl
theorem u_155_66 (P : PL) (st : List PV) (G : PW) : pm_dn pm_sM 155 66 P st G = pm_go pm_sM 155 G (pm_oK (-2) 68 P st G) := pm_dn_eq (i := .bipush (-2)) (len := 2) rfl
theorem u_155_68 (P : PL) (st : List PV) (G : PW) : pm_dn pm_sM 155 68 P st G = pm_go pm_sM 155 G (pm_oRi 0 P st G) := pm_dn_eq (i := .ireturn) (len := 1) rfl
theorem u_155_69 (P : PL) (st : List PV) (G : PW) : pm_dn pm_sM 155 69 P st G = pm_go pm_sM 155 G (pm_oAL 0 70 P st G) := pm_dn_eq (i := .aload_n 0) (len := 1) rfl
theorem u_155_70 (P : PL) (st : List PV) (G : PW) : pm_dn pm_sM 155 70 P st G = pm_go pm_sM 155 G (pm_oGf pm_sM 6 4 73 P st G) := pm_dn_eq (i := .getfield 213) (len := 3) rfl
theorem u_155_73 (P : PL) (st : List PV) (G : PW) : pm_dn pm_sM 155 73 P st G = pm_go pm_sM 155 G (pm_oIL 3 74 P st G) := pm_dn_eq (i := .iload_n 3) (len := 1) rfl
theorem u_155_74 (P : PL) (st : List PV) (G : PW) : pm_dn pm_sM 155 74 P st G = pm_go pm_sM 155 G (pm_oAdd 75 P st G) := pm_dn_eq (i := .iadd) (len := 1) rfl
theorem u_155_75 (P : PL) (st : List PV) (G : PW) : pm_dn pm_sM 155 75 P st G = pm_go pm_sM 155 G (pm_oK 60 77 P st G) := pm_dn_eq (i := .bipush 60) (len := 2) rfl
theorem u_155_77 (P : PL) (st : List PV) (G : PW) : pm_dn pm_sM 155 77 P st G = pm_go pm_sM 155 G (pm_oIc .le (some 83) 80 P st G) := pm_dn_eq (i := .if_icmp .le 6) (len := 3) rfl
theorem u_155_80 (P : PL) (st : List PV) (G : PW) : pm_dn pm_sM 155 80 P st G = pm_go pm_sM 155 G (pm_oK (-4) 82 P st G) := pm_dn_eq (i := .bipush (-4)) (len := 2) rfl
theorem u_155_82 (P : PL) (st : List PV) (G : PW) : pm_dn pm_sM 155 82 P st G = pm_go pm_sM 155 G (pm_oRi 0 P st G) := pm_dn_eq (i := .ireturn) (len := 1) rfl
theorem u_155_83 (P : PL) (st : List PV) (G : PW) : pm_dn pm_sM 155 83 P st G = pm_go pm_sM 155 G (pm_oK 0 84 P st G) := pm_dn_eq (i := .iconst 0) (len := 1) rfl
theorem u_155_84 (P : PL) (st : List PV) (G : PW) : pm_dn pm_sM 155 84 P st G = pm_go pm_sM 155 G (pm_oIS 6 86 P st G) := pm_dn_eq (i := .istore 6) (len := 2) rfl
theorem u_155_86 (P : PL) (st : List PV) (G : PW) : pm_dn pm_sM 155 86 P st G = pm_go pm_sM 155 G (pm_oIL 6 88 P st G) := pm_dn_eq (i := .iload 6) (len := 2) rfl
theorem u_155_88 (P : PL) (st : List PV) (G : PW) : pm_dn pm_sM 155 88 P st G = pm_go pm_sM 155 G (pm_oIL 3 89 P st G) := pm_dn_eq (i := .iload_n 3) (len := 1) rfl
theorem u_155_89 (P : PL) (st : List PV) (G : PW) : pm_dn pm_sM 155 89 P st G = pm_go pm_sM 155 G (pm_oIc .ge (some 126) 92 P st G) := pm_dn_eq (i := .if_icmp .ge 37) (len := 3) rfl
theorem u_155_92 (P : PL) (st : List PV) (G : PW) : pm_dn pm_sM 155 92 P st G = pm_go pm_sM 155 G (pm_oAL 0 93 P st G) := pm_dn_eq (i := .aload_n 0) (len := 1) rfl
theorem u_155_93 (P : PL) (st : List PV) (G : PW) : pm_dn pm_sM 155 93 P st G = pm_go pm_sM 155 G (pm_oGf pm_sM 6 3 96 P st G) := pm_dn_eq (i := .getfield 20) (len := 3) rfl
theorem u_155_96 (P : PL) (st : List PV) (G : PW) : pm_dn pm_sM 155 96 P st G = pm_go pm_sM 155 G (pm_oAL 0 97 P st G) := pm_dn_eq (i := .aload_n 0) (len := 1) rfl
theorem u_155_97 (P : PL) (st : List PV) (G : PW) : pm_dn pm_sM 155 97 P st G = pm_go pm_sM 155 G (pm_oGf pm_sM 6 4 100 P st G) := pm_dn_eq (i := .getfield 213) (len := 3) rfl
theorem u_155_100 (P : PL) (st : List PV) (G : PW) : pm_dn pm_sM 155 100 P st G = pm_go pm_sM 155 G (pm_oIL 6 102 P st G) := pm_dn_eq (i := .iload 6) (len := 2) rfl
theorem u_155_102 (P : PL) (st : List PV) (G : PW) : pm_dn pm_sM 155 102 P st G = pm_go pm_sM 155 G (pm_oAdd 103 P st G) := pm_dn_eq (i := .iadd) (len := 1) rfl
theorem u_155_103 (P : PL) (st : List PV) (G : PW) : pm_dn pm_sM 155 103 P st G = pm_go pm_sM 155 G (pm_oLL 1 104 P st G) := pm_dn_eq (i := .lload_n 1) (len := 1) rfl
theorem u_155_104 (P : PL) (st : List PV) (G : PW) : pm_dn pm_sM 155 104 P st G = pm_go pm_sM 155 G (pm_oK 8 106 P st G) := pm_dn_eq (i := .bipush 8) (len := 2) rfl
theorem u_155_106 (P : PL) (st : List PV) (G : PW) : pm_dn pm_sM 155 106 P st G = pm_go pm_sM 155 G (pm_oIL 3 107 P st G) := pm_dn_eq (i := .iload_n 3) (len := 1) rfl
theorem u_155_107 (P : PL) (st : List PV) (G : PW) : pm_dn pm_sM 155 107 P st G = pm_go pm_sM 155 G (pm_oK 1 108 P st G) := pm_dn_eq (i := .iconst 1) (len := 1) rfl
theorem u_155_108 (P : PL) (st : List PV) (G : PW) : pm_dn pm_sM 155 108 P st G = pm_go pm_sM 155 G (pm_oSub 109 P st G) := pm_dn_eq (i := .isub) (len := 1) rfl
theorem u_155_109 (P : PL) (st : List PV) (G : PW) : pm_dn pm_sM 155 109 P st G = pm_go pm_sM 155 G (pm_oIL 6 111 P st G) := pm_dn_eq (i := .iload 6) (len := 2) rfl
theorem u_155_111 (P : PL) (st : List PV) (G : PW) : pm_dn pm_sM 155 111 P st G = pm_go pm_sM 155 G (pm_oSub 112 P st G) := pm_dn_eq (i := .isub) (len := 1) rfl
theorem u_155_112 (P : PL) (st : List PV) (G : PW) : pm_dn pm_sM 155 112 P st G = pm_go pm_sM 155 G (pm_oMul 113 P st G) := pm_dn_eq (i := .imul) (len := 1) rfl
theorem u_155_113 (P : PL) (st : List PV) (G : PW) : pm_dn pm_sM 155 113 P st G = pm_go pm_sM 155 G (pm_oLsh 114 P st G) := pm_dn_eq (i := .lshr) (len := 1) rfl
theorem u_155_114 (P : PL) (st : List PV) (G : PW) : pm_dn pm_sM 155 114 P st G = pm_go pm_sM 155 G (pm_oKL 255 117 P st G) := pm_dn_eq (i := .ldc2_w 219) (len := 3) rfl
theorem u_155_117 (P : PL) (st : List PV) (G : PW) : pm_dn pm_sM 155 117 P st G = pm_go pm_sM 155 G (pm_oLand 118 P st G) := pm_dn_eq (i := .land) (len := 1) rfl
theorem u_155_118 (P : PL) (st : List PV) (G : PW) : pm_dn pm_sM 155 118 P st G = pm_go pm_sM 155 G (pm_oL2i 119 P st G) := pm_dn_eq (i := .l2i) (len := 1) rfl
theorem u_155_119 (P : PL) (st : List PV) (G : PW) : pm_dn pm_sM 155 119 P st G = pm_go pm_sM 155 G (pm_oAst pm_sM 0 120 P st G) := pm_dn_eq (i := .iastore) (len := 1) rfl
theorem u_155_120 (P : PL) (st : List PV) (G : PW) : pm_dn pm_sM 155 120 P st G = pm_go pm_sM 155 G (pm_oInc 6 1 123 P st G) := pm_dn_eq (i := .iinc 6 1) (len := 3) rfl
theorem u_155_123 (P : PL) (st : List PV) (G : PW) : pm_dn pm_sM 155 123 P st G = pm_go pm_sM 155 G (pm_oGo (some 86) P st G) := pm_dn_eq (i := .goto (-37)) (len := 3) rfl
theorem u_155_126 (P : PL) (st : List PV) (G : PW) : pm_dn pm_sM 155 126 P st G = pm_go pm_sM 155 G (pm_oAL 0 127 P st G) := pm_dn_eq (i := .aload_n 0) (len := 1) rfl
theorem u_155_127 (P : PL) (st : List PV) (G : PW) : pm_dn pm_sM 155 127 P st G = pm_go pm_sM 155 G (pm_oDup 128 P st G) := pm_dn_eq (i := .dup) (len := 1) rfl
theorem u_155_128 (P : PL) (st : List PV) (G : PW) : pm_dn pm_sM 155 128 P st G = pm_go pm_sM 155 G (pm_oGf pm_sM 6 4 131 P st G) := pm_dn_eq (i := .getfield 213) (len := 3) rfl
theorem u_155_131 (P : PL) (st : List PV) (G : PW) : pm_dn pm_sM 155 131 P st G = pm_go pm_sM 155 G (pm_oIL 3 132 P st G) := pm_dn_eq (i := .iload_n 3) (len := 1) rfl
theorem u_155_132 (P : PL) (st : List PV) (G : PW) : pm_dn pm_sM 155 132 P st G = pm_go pm_sM 155 G (pm_oAdd 133 P st G) := pm_dn_eq (i := .iadd) (len := 1) rfl
theorem u_155_133 (P : PL) (st : List PV) (G : PW) : pm_dn pm_sM 155 133 P st G = pm_go pm_sM 155 G (pm_oPf pm_sM 6 4 0 136 P st G) := pm_dn_eq (i := .putfield 213) (len := 3) rfl
theorem u_155_136 (P : PL) (st : List PV) (G : PW) : pm_dn pm_sM 155 136 P st G = pm_go pm_sM 155 G (pm_oAL 0 137 P st G) := pm_dn_eq (i := .aload_n 0) (len := 1) rfl
theorem u_155_137 (P : PL) (st : List PV) (G : PW) : pm_dn pm_sM 155 137 P st G = pm_go pm_sM 155 G (pm_oGf pm_sM 6 4 140 P st G) := pm_dn_eq (i := .getfield 213) (len := 3) rfl
theorem u_155_140 (P : PL) (st : List PV) (G : PW) : pm_dn pm_sM 155 140 P st G = pm_go pm_sM 155 G (pm_oRi 0 P st G) := pm_dn_eq (i := .ireturn) (len := 1) rfl
theorem ue_156 (a0 : Nat) (G : PW) : pm_ca pm_sM 156 [.inr (.inr a0)] G = pm_dn pm_sM 156 0 [some (.inr (.inr a0)), none] [] G := rfl
theorem u_156_0 (P : PL) (st : List PV) (G : PW) : pm_dn pm_sM 156 0 P st G = pm_go pm_sM 156 G (pm_oAL 0 1 P st G) := pm_dn_eq (i := .aload_n 0) (len := 1) rfl
theorem u_156_1 (P : PL) (st : List PV) (G : PW) : pm_dn pm_sM 156 1 P st G = pm_go pm_sM 156 G (pm_oGf pm_sM 6 4 4 P st G) := pm_dn_eq (i := .getfield 213) (len := 3) rfl
theorem u_156_4 (P : PL) (st : List PV) (G : PW) : pm_dn pm_sM 156 4 P st G = pm_go pm_sM 156 G (pm_oIS 1 5 P st G) := pm_dn_eq (i := .istore_n 1) (len := 1) rfl
theorem u_156_5 (P : PL) (st : List PV) (G : PW) : pm_dn pm_sM 156 5 P st G = pm_go pm_sM 156 G (pm_oAL 0 6 P st G) := pm_dn_eq (i := .aload_n 0) (len := 1) rfl
theorem u_156_6 (P : PL) (st : List PV) (G : PW) : pm_dn pm_sM 156 6 P st G = pm_go pm_sM 156 G (pm_oK 0 7 P st G) := pm_dn_eq (i := .iconst 0) (len := 1) rfl
theorem u_156_7 (P : PL) (st : List PV) (G : PW) : pm_dn pm_sM 156 7 P st G = pm_go pm_sM 156 G (pm_oPf pm_sM 6 4 0 10 P st G) := pm_dn_eq (i := .putfield 213) (len := 3) rfl
theorem u_156_10 (P : PL) (st : List PV) (G : PW) : pm_dn pm_sM 156 10 P st G = pm_go pm_sM 156 G (pm_oIL 1 11 P st G) := pm_dn_eq (i := .iload_n 1) (len := 1) rfl
theorem u_156_11 (P : PL) (st : List PV) (G : PW) : pm_dn pm_sM 156 11 P st G = pm_go pm_sM 156 G (pm_oRi 0 P st G) := pm_dn_eq (i := .ireturn) (len := 1) rfl
theorem ue_157 (a0 : Nat) (G : PW) : pm_ca pm_sM 157 [.inr (.inr a0)] G = pm_dn pm_sM 157 0 [some (.inr (.inr a0))] [] G := rfl
theorem u_157_0 (P : PL) (st : List PV) (G : PW) : pm_dn pm_sM 157 0 P st G = pm_go pm_sM 157 G (pm_oAL 0 1 P st G) := pm_dn_eq (i := .aload_n 0) (len := 1) rfl
theorem u_157_1 (P : PL) (st : List PV) (G : PW) : pm_dn pm_sM 157 1 P st G = pm_go pm_sM 157 G (pm_oGf pm_sM 6 29 4 P st G) := pm_dn_eq (i := .getfield 221) (len := 3) rfl
theorem u_157_4 (P : PL) (st : List PV) (G : PW) : pm_dn pm_sM 157 4 P st G = pm_go pm_sM 157 G (pm_oAL 0 5 P st G) := pm_dn_eq (i := .aload_n 0) (len := 1) rfl
theorem u_157_5 (P : PL) (st : List PV) (G : PW) : pm_dn pm_sM 157 5 P st G = pm_go pm_sM 157 G (pm_oGf pm_sM 6 4 8 P st G) := pm_dn_eq (i := .getfield 213) (len := 3) rfl
theorem u_157_8 (P : PL) (st : List PV) (G : PW) : pm_dn pm_sM 157 8 P st G = pm_go pm_sM 157 G (pm_oIc .ge (some 23) 11 P st G) := pm_dn_eq (i := .if_icmp .ge 15) (len := 3) rfl
theorem u_157_11 (P : PL) (st : List PV) (G : PW) : pm_dn pm_sM 157 11 P st G = pm_go pm_sM 157 G (pm_oAL 0 12 P st G) := pm_dn_eq (i := .aload_n 0) (len := 1) rfl
theorem u_157_12 (P : PL) (st : List PV) (G : PW) : pm_dn pm_sM 157 12 P st G = pm_go pm_sM 157 G (pm_oGf pm_sM 6 3 15 P st G) := pm_dn_eq (i := .getfield 20) (len := 3) rfl
theorem u_157_15 (P : PL) (st : List PV) (G : PW) : pm_dn pm_sM 157 15 P st G = pm_go pm_sM 157 G (pm_oAL 0 16 P st G) := pm_dn_eq (i := .aload_n 0) (len := 1) rfl
theorem u_157_16 (P : PL) (st : List PV) (G : PW) : pm_dn pm_sM 157 16 P st G = pm_go pm_sM 157 G (pm_oGf pm_sM 6 29 19 P st G) := pm_dn_eq (i := .getfield 221) (len := 3) rfl
theorem u_157_19 (P : PL) (st : List PV) (G : PW) : pm_dn pm_sM 157 19 P st G = pm_go pm_sM 157 G (pm_oAld pm_sM 0 20 P st G) := pm_dn_eq (i := .iaload) (len := 1) rfl
theorem u_157_20 (P : PL) (st : List PV) (G : PW) : pm_dn pm_sM 157 20 P st G = pm_go pm_sM 157 G (pm_oGo (some 24) P st G) := pm_dn_eq (i := .goto 4) (len := 3) rfl
theorem u_157_23 (P : PL) (st : List PV) (G : PW) : pm_dn pm_sM 157 23 P st G = pm_go pm_sM 157 G (pm_oK 0 24 P st G) := pm_dn_eq (i := .iconst 0) (len := 1) rfl
theorem u_157_24 (P : PL) (st : List PV) (G : PW) : pm_dn pm_sM 157 24 P st G = pm_go pm_sM 157 G (pm_oRi 0 P st G) := pm_dn_eq (i := .ireturn) (len := 1) rfl
theorem ue_158 (a0 : Nat) (a1 : Int) (G : PW) : pm_ca pm_sM 158 [.inr (.inr a0), .inl a1] G = pm_dn pm_sM 158 0 [some (.inr (.inr a0)), some (.inl a1), none] [] G := rfl
theorem u_158_0 (P : PL) (st : List PV) (G : PW) : pm_dn pm_sM 158 0 P st G = pm_go pm_sM 158 G (pm_oAL 0 1 P st G) := pm_dn_eq (i := .aload_n 0) (len := 1) rfl
theorem u_158_1 (P : PL) (st : List PV) (G : PW) : pm_dn pm_sM 158 1 P st G = pm_go pm_sM 158 G (pm_oCv pm_sM 157 0 1 6 4 P st G) := pm_dn_eq (i := .invokevirtual 224) (len := 3) rfl
theorem u_158_4 (P : PL) (st : List PV) (G : PW) : pm_dn pm_sM 158 4 P st G = pm_go pm_sM 158 G (pm_oK 48 6 P st G) := pm_dn_eq (i := .bipush 48) (len := 2) rfl
theorem u_158_6 (P : PL) (st : List PV) (G : PW) : pm_dn pm_sM 158 6 P st G = pm_go pm_sM 158 G (pm_oK 57 8 P st G) := pm_dn_eq (i := .bipush 57) (len := 2) rfl
theorem u_158_8 (P : PL) (st : List PV) (G : PW) : pm_dn pm_sM 158 8 P st G = pm_go pm_sM 158 G (pm_oCs 109 3 3 11 P st G) := pm_dn_eq (i := .invokestatic 164) (len := 3) rfl
theorem u_158_11 (P : PL) (st : List PV) (G : PW) : pm_dn pm_sM 158 11 P st G = pm_go pm_sM 158 G (pm_oIf .ne (some 21) 14 P st G) := pm_dn_eq (i := .ifCond .ne 10) (len := 3) rfl
theorem u_158_14 (P : PL) (st : List PV) (G : PW) : pm_dn pm_sM 158 14 P st G = pm_go pm_sM 158 G (pm_oAL 0 15 P st G) := pm_dn_eq (i := .aload_n 0) (len := 1) rfl
theorem u_158_15 (P : PL) (st : List PV) (G : PW) : pm_dn pm_sM 158 15 P st G = pm_go pm_sM 158 G (pm_oK 1 16 P st G) := pm_dn_eq (i := .iconst 1) (len := 1) rfl
theorem u_158_16 (P : PL) (st : List PV) (G : PW) : pm_dn pm_sM 158 16 P st G = pm_go pm_sM 158 G (pm_oPf pm_sM 6 30 2 19 P st G) := pm_dn_eq (i := .putfield 227) (len := 3) rfl
theorem u_158_19 (P : PL) (st : List PV) (G : PW) : pm_dn pm_sM 158 19 P st G = pm_go pm_sM 158 G (pm_oK 0 20 P st G) := pm_dn_eq (i := .iconst 0) (len := 1) rfl
theorem u_158_20 (P : PL) (st : List PV) (G : PW) : pm_dn pm_sM 158 20 P st G = pm_go pm_sM 158 G (pm_oRi 0 P st G) := pm_dn_eq (i := .ireturn) (len := 1) rfl
theorem u_158_21 (P : PL) (st : List PV) (G : PW) : pm_dn pm_sM 158 21 P st G = pm_go pm_sM 158 G (pm_oAL 0 22 P st G) := pm_dn_eq (i := .aload_n 0) (len := 1) rfl
theorem u_158_22 (P : PL) (st : List PV) (G : PW) : pm_dn pm_sM 158 22 P st G = pm_go pm_sM 158 G (pm_oCv pm_sM 157 0 1 6 25 P st G) := pm_dn_eq (i := .invokevirtual 224) (len := 3) rfl
theorem u_158_25 (P : PL) (st : List PV) (G : PW) : pm_dn pm_sM 158 25 P st G = pm_go pm_sM 158 G (pm_oK 48 27 P st G) := pm_dn_eq (i := .bipush 48) (len := 2) rfl
theorem u_158_27 (P : PL) (st : List PV) (G : PW) : pm_dn pm_sM 158 27 P st G = pm_go pm_sM 158 G (pm_oSub 28 P st G) := pm_dn_eq (i := .isub) (len := 1) rfl
theorem u_158_28 (P : PL) (st : List PV) (G : PW) : pm_dn pm_sM 158 28 P st G = pm_go pm_sM 158 G (pm_oIS 2 29 P st G) := pm_dn_eq (i := .istore_n 2) (len := 1) rfl
theorem u_158_29 (P : PL) (st : List PV) (G : PW) : pm_dn pm_sM 158 29 P st G = pm_go pm_sM 158 G (pm_oAL 0 30 P st G) := pm_dn_eq (i := .aload_n 0) (len := 1) rfl
theorem u_158_30 (P : PL) (st : List PV) (G : PW) : pm_dn pm_sM 158 30 P st G = pm_go pm_sM 158 G (pm_oDup 31 P st G) := pm_dn_eq (i := .dup) (len := 1) rfl
theorem u_158_31 (P : PL) (st : List PV) (G : PW) : pm_dn pm_sM 158 31 P st G = pm_go pm_sM 158 G (pm_oGf pm_sM 6 29 34 P st G) := pm_dn_eq (i := .getfield 221) (len := 3) rfl
theorem u_158_34 (P : PL) (st : List PV) (G : PW) : pm_dn pm_sM 158 34 P st G = pm_go pm_sM 158 G (pm_oK 1 35 P st G) := pm_dn_eq (i := .iconst 1) (len := 1) rfl
theorem u_158_35 (P : PL) (st : List PV) (G : PW) : pm_dn pm_sM 158 35 P st G = pm_go pm_sM 158 G (pm_oAdd 36 P st G) := pm_dn_eq (i := .iadd) (len := 1) rfl
theorem u_158_36 (P : PL) (st : List PV) (G : PW) : pm_dn pm_sM 158 36 P st G = pm_go pm_sM 158 G (pm_oPf pm_sM 6 29 0 39 P st G) := pm_dn_eq (i := .putfield 221) (len := 3) rfl
theorem u_158_39 (P : PL) (st : List PV) (G : PW) : pm_dn pm_sM 158 39 P st G = pm_go pm_sM 158 G (pm_oIL 2 40 P st G) := pm_dn_eq (i := .iload_n 2) (len := 1) rfl
theorem u_158_40 (P : PL) (st : List PV) (G : PW) : pm_dn pm_sM 158 40 P st G = pm_go pm_sM 158 G (pm_oIf .le (some 99) 43 P st G) := pm_dn_eq (i := .ifCond .le 59) (len := 3) rfl
theorem u_158_43 (P : PL) (st : List PV) (G : PW) : pm_dn pm_sM 158 43 P st G = pm_go pm_sM 158 G (pm_oAL 0 44 P st G) := pm_dn_eq (i := .aload_n 0) (len := 1) rfl
theorem u_158_44 (P : PL) (st : List PV) (G : PW) : pm_dn pm_sM 158 44 P st G = pm_go pm_sM 158 G (pm_oCv pm_sM 157 0 1 6 47 P st G) := pm_dn_eq (i := .invokevirtual 224) (len := 3) rfl
theorem u_158_47 (P : PL) (st : List PV) (G : PW) : pm_dn pm_sM 158 47 P st G = pm_go pm_sM 158 G (pm_oK 48 49 P st G) := pm_dn_eq (i := .bipush 48) (len := 2) rfl
theorem u_158_49 (P : PL) (st : List PV) (G : PW) : pm_dn pm_sM 158 49 P st G = pm_go pm_sM 158 G (pm_oK 57 51 P st G) := pm_dn_eq (i := .bipush 57) (len := 2) rfl
theorem u_158_51 (P : PL) (st : List PV) (G : PW) : pm_dn pm_sM 158 51 P st G = pm_go pm_sM 158 G (pm_oCs 109 3 3 54 P st G) := pm_dn_eq (i := .invokestatic 164) (len := 3) rfl
theorem u_158_54 (P : PL) (st : List PV) (G : PW) : pm_dn pm_sM 158 54 P st G = pm_go pm_sM 158 G (pm_oIf .eq (some 99) 57 P st G) := pm_dn_eq (i := .ifCond .eq 45) (len := 3) rfl
theorem u_158_57 (P : PL) (st : List PV) (G : PW) : pm_dn pm_sM 158 57 P st G = pm_go pm_sM 158 G (pm_oK 10 59 P st G) := pm_dn_eq (i := .bipush 10) (len := 2) rfl
theorem u_158_59 (P : PL) (st : List PV) (G : PW) : pm_dn pm_sM 158 59 P st G = pm_go pm_sM 158 G (pm_oIL 2 60 P st G) := pm_dn_eq (i := .iload_n 2) (len := 1) rfl
theorem u_158_60 (P : PL) (st : List PV) (G : PW) : pm_dn pm_sM 158 60 P st G = pm_go pm_sM 158 G (pm_oMul 61 P st G) := pm_dn_eq (i := .imul) (len := 1) rfl
theorem u_158_61 (P : PL) (st : List PV) (G : PW) : pm_dn pm_sM 158 61 P st G = pm_go pm_sM 158 G (pm_oAL 0 62 P st G) := pm_dn_eq (i := .aload_n 0) (len := 1) rfl
theorem u_158_62 (P : PL) (st : List PV) (G : PW) : pm_dn pm_sM 158 62 P st G = pm_go pm_sM 158 G (pm_oCv pm_sM 157 0 1 6 65 P st G) := pm_dn_eq (i := .invokevirtual 224) (len := 3) rfl
theorem u_158_65 (P : PL) (st : List PV) (G : PW) : pm_dn pm_sM 158 65 P st G = pm_go pm_sM 158 G (pm_oAdd 66 P st G) := pm_dn_eq (i := .iadd) (len := 1) rfl
theorem u_158_66 (P : PL) (st : List PV) (G : PW) : pm_dn pm_sM 158 66 P st G = pm_go pm_sM 158 G (pm_oK 48 68 P st G) := pm_dn_eq (i := .bipush 48) (len := 2) rfl
theorem u_158_68 (P : PL) (st : List PV) (G : PW) : pm_dn pm_sM 158 68 P st G = pm_go pm_sM 158 G (pm_oSub 69 P st G) := pm_dn_eq (i := .isub) (len := 1) rfl
theorem u_158_69 (P : PL) (st : List PV) (G : PW) : pm_dn pm_sM 158 69 P st G = pm_go pm_sM 158 G (pm_oIL 1 70 P st G) := pm_dn_eq (i := .iload_n 1) (len := 1) rfl
theorem u_158_70 (P : PL) (st : List PV) (G : PW) : pm_dn pm_sM 158 70 P st G = pm_go pm_sM 158 G (pm_oIc .gt (some 99) 73 P st G) := pm_dn_eq (i := .if_icmp .gt 29) (len := 3) rfl
theorem u_158_73 (P : PL) (st : List PV) (G : PW) : pm_dn pm_sM 158 73 P st G = pm_go pm_sM 158 G (pm_oK 10 75 P st G) := pm_dn_eq (i := .bipush 10) (len := 2) rfl
theorem u_158_75 (P : PL) (st : List PV) (G : PW) : pm_dn pm_sM 158 75 P st G = pm_go pm_sM 158 G (pm_oIL 2 76 P st G) := pm_dn_eq (i := .iload_n 2) (len := 1) rfl
theorem u_158_76 (P : PL) (st : List PV) (G : PW) : pm_dn pm_sM 158 76 P st G = pm_go pm_sM 158 G (pm_oMul 77 P st G) := pm_dn_eq (i := .imul) (len := 1) rfl
theorem u_158_77 (P : PL) (st : List PV) (G : PW) : pm_dn pm_sM 158 77 P st G = pm_go pm_sM 158 G (pm_oAL 0 78 P st G) := pm_dn_eq (i := .aload_n 0) (len := 1) rfl
theorem u_158_78 (P : PL) (st : List PV) (G : PW) : pm_dn pm_sM 158 78 P st G = pm_go pm_sM 158 G (pm_oCv pm_sM 157 0 1 6 81 P st G) := pm_dn_eq (i := .invokevirtual 224) (len := 3) rfl
theorem u_158_81 (P : PL) (st : List PV) (G : PW) : pm_dn pm_sM 158 81 P st G = pm_go pm_sM 158 G (pm_oAdd 82 P st G) := pm_dn_eq (i := .iadd) (len := 1) rfl
theorem u_158_82 (P : PL) (st : List PV) (G : PW) : pm_dn pm_sM 158 82 P st G = pm_go pm_sM 158 G (pm_oK 48 84 P st G) := pm_dn_eq (i := .bipush 48) (len := 2) rfl
theorem u_158_84 (P : PL) (st : List PV) (G : PW) : pm_dn pm_sM 158 84 P st G = pm_go pm_sM 158 G (pm_oSub 85 P st G) := pm_dn_eq (i := .isub) (len := 1) rfl
theorem u_158_85 (P : PL) (st : List PV) (G : PW) : pm_dn pm_sM 158 85 P st G = pm_go pm_sM 158 G (pm_oIS 2 86 P st G) := pm_dn_eq (i := .istore_n 2) (len := 1) rfl
theorem u_158_86 (P : PL) (st : List PV) (G : PW) : pm_dn pm_sM 158 86 P st G = pm_go pm_sM 158 G (pm_oAL 0 87 P st G) := pm_dn_eq (i := .aload_n 0) (len := 1) rfl
theorem u_158_87 (P : PL) (st : List PV) (G : PW) : pm_dn pm_sM 158 87 P st G = pm_go pm_sM 158 G (pm_oDup 88 P st G) := pm_dn_eq (i := .dup) (len := 1) rfl
theorem u_158_88 (P : PL) (st : List PV) (G : PW) : pm_dn pm_sM 158 88 P st G = pm_go pm_sM 158 G (pm_oGf pm_sM 6 29 91 P st G) := pm_dn_eq (i := .getfield 221) (len := 3) rfl
theorem u_158_91 (P : PL) (st : List PV) (G : PW) : pm_dn pm_sM 158 91 P st G = pm_go pm_sM 158 G (pm_oK 1 92 P st G) := pm_dn_eq (i := .iconst 1) (len := 1) rfl
theorem u_158_92 (P : PL) (st : List PV) (G : PW) : pm_dn pm_sM 158 92 P st G = pm_go pm_sM 158 G (pm_oAdd 93 P st G) := pm_dn_eq (i := .iadd) (len := 1) rfl
theorem u_158_93 (P : PL) (st : List PV) (G : PW) : pm_dn pm_sM 158 93 P st G = pm_go pm_sM 158 G (pm_oPf pm_sM 6 29 0 96 P st G) := pm_dn_eq (i := .putfield 221) (len := 3) rfl
theorem u_158_96 (P : PL) (st : List PV) (G : PW) : pm_dn pm_sM 158 96 P st G = pm_go pm_sM 158 G (pm_oGo (some 39) P st G) := pm_dn_eq (i := .goto (-57)) (len := 3) rfl
theorem u_158_99 (P : PL) (st : List PV) (G : PW) : pm_dn pm_sM 158 99 P st G = pm_go pm_sM 158 G (pm_oIL 2 100 P st G) := pm_dn_eq (i := .iload_n 2) (len := 1) rfl
theorem u_158_100 (P : PL) (st : List PV) (G : PW) : pm_dn pm_sM 158 100 P st G = pm_go pm_sM 158 G (pm_oRi 0 P st G) := pm_dn_eq (i := .ireturn) (len := 1) rfl
theorem ue_159 (a0 : Nat) (G : PW) : pm_ca pm_sM 159 [.inr (.inr a0)] G = pm_dn pm_sM 159 0 [some (.inr (.inr a0)), none, none] [] G := rfl
theorem u_159_0 (P : PL) (st : List PV) (G : PW) : pm_dn pm_sM 159 0 P st G = pm_go pm_sM 159 G (pm_oK 0 1 P st G) := pm_dn_eq (i := .iconst 0) (len := 1) rfl
theorem u_159_1 (P : PL) (st : List PV) (G : PW) : pm_dn pm_sM 159 1 P st G = pm_go pm_sM 159 G (pm_oIS 1 2 P st G) := pm_dn_eq (i := .istore_n 1) (len := 1) rfl
theorem u_159_2 (P : PL) (st : List PV) (G : PW) : pm_dn pm_sM 159 2 P st G = pm_go pm_sM 159 G (pm_oK 0 3 P st G) := pm_dn_eq (i := .iconst 0) (len := 1) rfl
theorem u_159_3 (P : PL) (st : List PV) (G : PW) : pm_dn pm_sM 159 3 P st G = pm_go pm_sM 159 G (pm_oIS 2 4 P st G) := pm_dn_eq (i := .istore_n 2) (len := 1) rfl
theorem u_159_4 (P : PL) (st : List PV) (G : PW) : pm_dn pm_sM 159 4 P st G = pm_go pm_sM 159 G (pm_oAL 0 5 P st G) := pm_dn_eq (i := .aload_n 0) (len := 1) rfl
theorem u_159_5 (P : PL) (st : List PV) (G : PW) : pm_dn pm_sM 159 5 P st G = pm_go pm_sM 159 G (pm_oCv pm_sM 157 0 1 6 8 P st G) := pm_dn_eq (i := .invokevirtual 224) (len := 3) rfl
theorem u_159_8 (P : PL) (st : List PV) (G : PW) : pm_dn pm_sM 159 8 P st G = pm_go pm_sM 159 G (pm_oK 119 10 P st G) := pm_dn_eq (i := .bipush 119) (len := 2) rfl
theorem u_159_10 (P : PL) (st : List PV) (G : PW) : pm_dn pm_sM 159 10 P st G = pm_go pm_sM 159 G (pm_oIc .ne (some 36) 13 P st G) := pm_dn_eq (i := .if_icmp .ne 26) (len := 3) rfl
theorem u_159_13 (P : PL) (st : List PV) (G : PW) : pm_dn pm_sM 159 13 P st G = pm_go pm_sM 159 G (pm_oAL 0 14 P st G) := pm_dn_eq (i := .aload_n 0) (len := 1) rfl
theorem u_159_14 (P : PL) (st : List PV) (G : PW) : pm_dn pm_sM 159 14 P st G = pm_go pm_sM 159 G (pm_oDup 15 P st G) := pm_dn_eq (i := .dup) (len := 1) rfl
theorem u_159_15 (P : PL) (st : List PV) (G : PW) : pm_dn pm_sM 159 15 P st G = pm_go pm_sM 159 G (pm_oGf pm_sM 6 29 18 P st G) := pm_dn_eq (i := .getfield 221) (len := 3) rfl
theorem u_159_18 (P : PL) (st : List PV) (G : PW) : pm_dn pm_sM 159 18 P st G = pm_go pm_sM 159 G (pm_oK 1 19 P st G) := pm_dn_eq (i := .iconst 1) (len := 1) rfl
theorem u_159_19 (P : PL) (st : List PV) (G : PW) : pm_dn pm_sM 159 19 P st G = pm_go pm_sM 159 G (pm_oAdd 20 P st G) := pm_dn_eq (i := .iadd) (len := 1) rfl
theorem u_159_20 (P : PL) (st : List PV) (G : PW) : pm_dn pm_sM 159 20 P st G = pm_go pm_sM 159 G (pm_oPf pm_sM 6 29 0 23 P st G) := pm_dn_eq (i := .putfield 221) (len := 3) rfl
theorem u_159_23 (P : PL) (st : List PV) (G : PW) : pm_dn pm_sM 159 23 P st G = pm_go pm_sM 159 G (pm_oK 100 25 P st G) := pm_dn_eq (i := .bipush 100) (len := 2) rfl
theorem u_159_25 (P : PL) (st : List PV) (G : PW) : pm_dn pm_sM 159 25 P st G = pm_go pm_sM 159 G (pm_oAL 0 26 P st G) := pm_dn_eq (i := .aload_n 0) (len := 1) rfl
theorem u_159_26 (P : PL) (st : List PV) (G : PW) : pm_dn pm_sM 159 26 P st G = pm_go pm_sM 159 G (pm_oK 15 28 P st G) := pm_dn_eq (i := .bipush 15) (len := 2) rfl
theorem u_159_28 (P : PL) (st : List PV) (G : PW) : pm_dn pm_sM 159 28 P st G = pm_go pm_sM 159 G (pm_oCv pm_sM 158 1 3 6 31 P st G) := pm_dn_eq (i := .invokevirtual 231) (len := 3) rfl
theorem u_159_31 (P : PL) (st : List PV) (G : PW) : pm_dn pm_sM 159 31 P st G = pm_go pm_sM 159 G (pm_oAdd 32 P st G) := pm_dn_eq (i := .iadd) (len := 1) rfl
theorem u_159_32 (P : PL) (st : List PV) (G : PW) : pm_dn pm_sM 159 32 P st G = pm_go pm_sM 159 G (pm_oIS 2 33 P st G) := pm_dn_eq (i := .istore_n 2) (len := 1) rfl
theorem u_159_33 (P : PL) (st : List PV) (G : PW) : pm_dn pm_sM 159 33 P st G = pm_go pm_sM 159 G (pm_oGo (some 113) P st G) := pm_dn_eq (i := .goto 80) (len := 3) rfl
theorem u_159_36 (P : PL) (st : List PV) (G : PW) : pm_dn pm_sM 159 36 P st G = pm_go pm_sM 159 G (pm_oAL 0 37 P st G) := pm_dn_eq (i := .aload_n 0) (len := 1) rfl
theorem u_159_37 (P : PL) (st : List PV) (G : PW) : pm_dn pm_sM 159 37 P st G = pm_go pm_sM 159 G (pm_oK 30 39 P st G) := pm_dn_eq (i := .bipush 30) (len := 2) rfl
theorem u_159_39 (P : PL) (st : List PV) (G : PW) : pm_dn pm_sM 159 39 P st G = pm_go pm_sM 159 G (pm_oCv pm_sM 158 1 3 6 42 P st G) := pm_dn_eq (i := .invokevirtual 231) (len := 3) rfl
theorem u_159_42 (P : PL) (st : List PV) (G : PW) : pm_dn pm_sM 159 42 P st G = pm_go pm_sM 159 G (pm_oIS 2 43 P st G) := pm_dn_eq (i := .istore_n 2) (len := 1) rfl
theorem u_159_43 (P : PL) (st : List PV) (G : PW) : pm_dn pm_sM 159 43 P st G = pm_go pm_sM 159 G (pm_oAL 0 44 P st G) := pm_dn_eq (i := .aload_n 0) (len := 1) rfl
theorem u_159_44 (P : PL) (st : List PV) (G : PW) : pm_dn pm_sM 159 44 P st G = pm_go pm_sM 159 G (pm_oCv pm_sM 157 0 1 6 47 P st G) := pm_dn_eq (i := .invokevirtual 224) (len := 3) rfl
theorem u_159_47 (P : PL) (st : List PV) (G : PW) : pm_dn pm_sM 159 47 P st G = pm_go pm_sM 159 G (pm_oK 98 49 P st G) := pm_dn_eq (i := .bipush 98) (len := 2) rfl
theorem u_159_49 (P : PL) (st : List PV) (G : PW) : pm_dn pm_sM 159 49 P st G = pm_go pm_sM 159 G (pm_oIc .ne (some 56) 52 P st G) := pm_dn_eq (i := .if_icmp .ne 7) (len := 3) rfl
theorem u_159_52 (P : PL) (st : List PV) (G : PW) : pm_dn pm_sM 159 52 P st G = pm_go pm_sM 159 G (pm_oK 1 53 P st G) := pm_dn_eq (i := .iconst 1) (len := 1) rfl
theorem u_159_53 (P : PL) (st : List PV) (G : PW) : pm_dn pm_sM 159 53 P st G = pm_go pm_sM 159 G (pm_oGo (some 57) P st G) := pm_dn_eq (i := .goto 4) (len := 3) rfl
theorem u_159_56 (P : PL) (st : List PV) (G : PW) : pm_dn pm_sM 159 56 P st G = pm_go pm_sM 159 G (pm_oK 0 57 P st G) := pm_dn_eq (i := .iconst 0) (len := 1) rfl
theorem u_159_57 (P : PL) (st : List PV) (G : PW) : pm_dn pm_sM 159 57 P st G = pm_go pm_sM 159 G (pm_oIS 1 58 P st G) := pm_dn_eq (i := .istore_n 1) (len := 1) rfl
theorem u_159_58 (P : PL) (st : List PV) (G : PW) : pm_dn pm_sM 159 58 P st G = pm_go pm_sM 159 G (pm_oAL 0 59 P st G) := pm_dn_eq (i := .aload_n 0) (len := 1) rfl
theorem u_159_59 (P : PL) (st : List PV) (G : PW) : pm_dn pm_sM 159 59 P st G = pm_go pm_sM 159 G (pm_oAL 0 60 P st G) := pm_dn_eq (i := .aload_n 0) (len := 1) rfl
theorem u_159_60 (P : PL) (st : List PV) (G : PW) : pm_dn pm_sM 159 60 P st G = pm_go pm_sM 159 G (pm_oGf pm_sM 6 30 63 P st G) := pm_dn_eq (i := .getfield 227) (len := 3) rfl
theorem u_159_63 (P : PL) (st : List PV) (G : PW) : pm_dn pm_sM 159 63 P st G = pm_go pm_sM 159 G (pm_oIf .ne (some 84) 66 P st G) := pm_dn_eq (i := .ifCond .ne 21) (len := 3) rfl
theorem u_159_66 (P : PL) (st : List PV) (G : PW) : pm_dn pm_sM 159 66 P st G = pm_go pm_sM 159 G (pm_oAL 0 67 P st G) := pm_dn_eq (i := .aload_n 0) (len := 1) rfl
theorem u_159_67 (P : PL) (st : List PV) (G : PW) : pm_dn pm_sM 159 67 P st G = pm_go pm_sM 159 G (pm_oCv pm_sM 157 0 1 6 70 P st G) := pm_dn_eq (i := .invokevirtual 224) (len := 3) rfl
theorem u_159_70 (P : PL) (st : List PV) (G : PW) : pm_dn pm_sM 159 70 P st G = pm_go pm_sM 159 G (pm_oK 97 72 P st G) := pm_dn_eq (i := .bipush 97) (len := 2) rfl
theorem u_159_72 (P : PL) (st : List PV) (G : PW) : pm_dn pm_sM 159 72 P st G = pm_go pm_sM 159 G (pm_oIc .eq (some 88) 75 P st G) := pm_dn_eq (i := .if_icmp .eq 16) (len := 3) rfl
theorem u_159_75 (P : PL) (st : List PV) (G : PW) : pm_dn pm_sM 159 75 P st G = pm_go pm_sM 159 G (pm_oAL 0 76 P st G) := pm_dn_eq (i := .aload_n 0) (len := 1) rfl
theorem u_159_76 (P : PL) (st : List PV) (G : PW) : pm_dn pm_sM 159 76 P st G = pm_go pm_sM 159 G (pm_oCv pm_sM 157 0 1 6 79 P st G) := pm_dn_eq (i := .invokevirtual 224) (len := 3) rfl
theorem u_159_79 (P : PL) (st : List PV) (G : PW) : pm_dn pm_sM 159 79 P st G = pm_go pm_sM 159 G (pm_oK 98 81 P st G) := pm_dn_eq (i := .bipush 98) (len := 2) rfl
theorem u_159_81 (P : PL) (st : List PV) (G : PW) : pm_dn pm_sM 159 81 P st G = pm_go pm_sM 159 G (pm_oIc .eq (some 88) 84 P st G) := pm_dn_eq (i := .if_icmp .eq 7) (len := 3) rfl
theorem u_159_84 (P : PL) (st : List PV) (G : PW) : pm_dn pm_sM 159 84 P st G = pm_go pm_sM 159 G (pm_oK 1 85 P st G) := pm_dn_eq (i := .iconst 1) (len := 1) rfl
theorem u_159_85 (P : PL) (st : List PV) (G : PW) : pm_dn pm_sM 159 85 P st G = pm_go pm_sM 159 G (pm_oGo (some 89) P st G) := pm_dn_eq (i := .goto 4) (len := 3) rfl
theorem u_159_88 (P : PL) (st : List PV) (G : PW) : pm_dn pm_sM 159 88 P st G = pm_go pm_sM 159 G (pm_oK 0 89 P st G) := pm_dn_eq (i := .iconst 0) (len := 1) rfl
theorem u_159_89 (P : PL) (st : List PV) (G : PW) : pm_dn pm_sM 159 89 P st G = pm_go pm_sM 159 G (pm_oPf pm_sM 6 30 2 92 P st G) := pm_dn_eq (i := .putfield 227) (len := 3) rfl
theorem u_159_92 (P : PL) (st : List PV) (G : PW) : pm_dn pm_sM 159 92 P st G = pm_go pm_sM 159 G (pm_oAL 0 93 P st G) := pm_dn_eq (i := .aload_n 0) (len := 1) rfl
theorem u_159_93 (P : PL) (st : List PV) (G : PW) : pm_dn pm_sM 159 93 P st G = pm_go pm_sM 159 G (pm_oDup 94 P st G) := pm_dn_eq (i := .dup) (len := 1) rfl
theorem u_159_94 (P : PL) (st : List PV) (G : PW) : pm_dn pm_sM 159 94 P st G = pm_go pm_sM 159 G (pm_oGf pm_sM 6 29 97 P st G) := pm_dn_eq (i := .getfield 221) (len := 3) rfl
theorem u_159_97 (P : PL) (st : List PV) (G : PW) : pm_dn pm_sM 159 97 P st G = pm_go pm_sM 159 G (pm_oAL 0 98 P st G) := pm_dn_eq (i := .aload_n 0) (len := 1) rfl
theorem u_159_98 (P : PL) (st : List PV) (G : PW) : pm_dn pm_sM 159 98 P st G = pm_go pm_sM 159 G (pm_oGf pm_sM 6 30 101 P st G) := pm_dn_eq (i := .getfield 227) (len := 3) rfl
theorem u_159_101 (P : PL) (st : List PV) (G : PW) : pm_dn pm_sM 159 101 P st G = pm_go pm_sM 159 G (pm_oIf .eq (some 108) 104 P st G) := pm_dn_eq (i := .ifCond .eq 7) (len := 3) rfl
theorem u_159_104 (P : PL) (st : List PV) (G : PW) : pm_dn pm_sM 159 104 P st G = pm_go pm_sM 159 G (pm_oK 0 105 P st G) := pm_dn_eq (i := .iconst 0) (len := 1) rfl
theorem u_159_105 (P : PL) (st : List PV) (G : PW) : pm_dn pm_sM 159 105 P st G = pm_go pm_sM 159 G (pm_oGo (some 109) P st G) := pm_dn_eq (i := .goto 4) (len := 3) rfl
theorem u_159_108 (P : PL) (st : List PV) (G : PW) : pm_dn pm_sM 159 108 P st G = pm_go pm_sM 159 G (pm_oK 1 109 P st G) := pm_dn_eq (i := .iconst 1) (len := 1) rfl
theorem u_159_109 (P : PL) (st : List PV) (G : PW) : pm_dn pm_sM 159 109 P st G = pm_go pm_sM 159 G (pm_oAdd 110 P st G) := pm_dn_eq (i := .iadd) (len := 1) rfl
theorem u_159_110 (P : PL) (st : List PV) (G : PW) : pm_dn pm_sM 159 110 P st G = pm_go pm_sM 159 G (pm_oPf pm_sM 6 29 0 113 P st G) := pm_dn_eq (i := .putfield 221) (len := 3) rfl
theorem u_159_113 (P : PL) (st : List PV) (G : PW) : pm_dn pm_sM 159 113 P st G = pm_go pm_sM 159 G (pm_oAL 0 114 P st G) := pm_dn_eq (i := .aload_n 0) (len := 1) rfl
theorem u_159_114 (P : PL) (st : List PV) (G : PW) : pm_dn pm_sM 159 114 P st G = pm_go pm_sM 159 G (pm_oGf pm_sM 6 31 117 P st G) := pm_dn_eq (i := .getfield 80) (len := 3) rfl
theorem u_159_117 (P : PL) (st : List PV) (G : PW) : pm_dn pm_sM 159 117 P st G = pm_go pm_sM 159 G (pm_oAL 0 118 P st G) := pm_dn_eq (i := .aload_n 0) (len := 1) rfl
theorem u_159_118 (P : PL) (st : List PV) (G : PW) : pm_dn pm_sM 159 118 P st G = pm_go pm_sM 159 G (pm_oGf pm_sM 6 33 121 P st G) := pm_dn_eq (i := .getfield 234) (len := 3) rfl
theorem u_159_121 (P : PL) (st : List PV) (G : PW) : pm_dn pm_sM 159 121 P st G = pm_go pm_sM 159 G (pm_oIL 2 122 P st G) := pm_dn_eq (i := .iload_n 2) (len := 1) rfl
theorem u_159_122 (P : PL) (st : List PV) (G : PW) : pm_dn pm_sM 159 122 P st G = pm_go pm_sM 159 G (pm_oAst pm_sM 0 123 P st G) := pm_dn_eq (i := .iastore) (len := 1) rfl
theorem u_159_123 (P : PL) (st : List PV) (G : PW) : pm_dn pm_sM 159 123 P st G = pm_go pm_sM 159 G (pm_oAL 0 124 P st G) := pm_dn_eq (i := .aload_n 0) (len := 1) rfl
theorem u_159_124 (P : PL) (st : List PV) (G : PW) : pm_dn pm_sM 159 124 P st G = pm_go pm_sM 159 G (pm_oGf pm_sM 6 32 127 P st G) := pm_dn_eq (i := .getfield 83) (len := 3) rfl
theorem u_159_127 (P : PL) (st : List PV) (G : PW) : pm_dn pm_sM 159 127 P st G = pm_go pm_sM 159 G (pm_oAL 0 128 P st G) := pm_dn_eq (i := .aload_n 0) (len := 1) rfl
theorem u_159_128 (P : PL) (st : List PV) (G : PW) : pm_dn pm_sM 159 128 P st G = pm_go pm_sM 159 G (pm_oGf pm_sM 6 33 131 P st G) := pm_dn_eq (i := .getfield 234) (len := 3) rfl
theorem u_159_131 (P : PL) (st : List PV) (G : PW) : pm_dn pm_sM 159 131 P st G = pm_go pm_sM 159 G (pm_oIL 1 132 P st G) := pm_dn_eq (i := .iload_n 1) (len := 1) rfl
theorem u_159_132 (P : PL) (st : List PV) (G : PW) : pm_dn pm_sM 159 132 P st G = pm_go pm_sM 159 G (pm_oAst pm_sM 0 133 P st G) := pm_dn_eq (i := .iastore) (len := 1) rfl
theorem u_159_133 (P : PL) (st : List PV) (G : PW) : pm_dn pm_sM 159 133 P st G = pm_go pm_sM 159 G (pm_oAL 0 134 P st G) := pm_dn_eq (i := .aload_n 0) (len := 1) rfl
theorem u_159_134 (P : PL) (st : List PV) (G : PW) : pm_dn pm_sM 159 134 P st G = pm_go pm_sM 159 G (pm_oDup 135 P st G) := pm_dn_eq (i := .dup) (len := 1) rfl
theorem u_159_135 (P : PL) (st : List PV) (G : PW) : pm_dn pm_sM 159 135 P st G = pm_go pm_sM 159 G (pm_oGf pm_sM 6 33 138 P st G) := pm_dn_eq (i := .getfield 234) (len := 3) rfl
theorem u_159_138 (P : PL) (st : List PV) (G : PW) : pm_dn pm_sM 159 138 P st G = pm_go pm_sM 159 G (pm_oK 1 139 P st G) := pm_dn_eq (i := .iconst 1) (len := 1) rfl
theorem u_159_139 (P : PL) (st : List PV) (G : PW) : pm_dn pm_sM 159 139 P st G = pm_go pm_sM 159 G (pm_oAdd 140 P st G) := pm_dn_eq (i := .iadd) (len := 1) rfl
theorem u_159_140 (P : PL) (st : List PV) (G : PW) : pm_dn pm_sM 159 140 P st G = pm_go pm_sM 159 G (pm_oPf pm_sM 6 33 0 143 P st G) := pm_dn_eq (i := .putfield 234) (len := 3) rfl
theorem u_159_143 (P : PL) (st : List PV) (G : PW) : pm_dn pm_sM 159 143 P st G = pm_go pm_sM 159 G (pm_oRv P st G) := pm_dn_eq (i := .return_) (len := 1) rfl
theorem ue_160 (a0 : Nat) (G : PW) : pm_ca pm_sM 160 [.inr (.inr a0)] G = pm_dn pm_sM 160 0 [some (.inr (.inr a0))] [] G := rfl
theorem u_160_0 (P : PL) (st : List PV) (G : PW) : pm_dn pm_sM 160 0 P st G = pm_go pm_sM 160 G (pm_oAL 0 1 P st G) := pm_dn_eq (i := .aload_n 0) (len := 1) rfl
theorem u_160_1 (P : PL) (st : List PV) (G : PW) : pm_dn pm_sM 160 1 P st G = pm_go pm_sM 160 G (pm_oK 0 2 P st G) := pm_dn_eq (i := .iconst 0) (len := 1) rfl
theorem u_160_2 (P : PL) (st : List PV) (G : PW) : pm_dn pm_sM 160 2 P st G = pm_go pm_sM 160 G (pm_oPf pm_sM 6 29 0 5 P st G) := pm_dn_eq (i := .putfield 221) (len := 3) rfl
theorem u_160_5 (P : PL) (st : List PV) (G : PW) : pm_dn pm_sM 160 5 P st G = pm_go pm_sM 160 G (pm_oAL 0 6 P st G) := pm_dn_eq (i := .aload_n 0) (len := 1) rfl
theorem u_160_6 (P : PL) (st : List PV) (G : PW) : pm_dn pm_sM 160 6 P st G = pm_go pm_sM 160 G (pm_oK 0 7 P st G) := pm_dn_eq (i := .iconst 0) (len := 1) rfl
theorem u_160_7 (P : PL) (st : List PV) (G : PW) : pm_dn pm_sM 160 7 P st G = pm_go pm_sM 160 G (pm_oPf pm_sM 6 30 2 10 P st G) := pm_dn_eq (i := .putfield 227) (len := 3) rfl
theorem u_160_10 (P : PL) (st : List PV) (G : PW) : pm_dn pm_sM 160 10 P st G = pm_go pm_sM 160 G (pm_oAL 0 11 P st G) := pm_dn_eq (i := .aload_n 0) (len := 1) rfl
theorem u_160_11 (P : PL) (st : List PV) (G : PW) : pm_dn pm_sM 160 11 P st G = pm_go pm_sM 160 G (pm_oK 0 12 P st G) := pm_dn_eq (i := .iconst 0) (len := 1) rfl
theorem u_160_12 (P : PL) (st : List PV) (G : PW) : pm_dn pm_sM 160 12 P st G = pm_go pm_sM 160 G (pm_oPf pm_sM 6 33 0 15 P st G) := pm_dn_eq (i := .putfield 234) (len := 3) rfl
theorem u_160_15 (P : PL) (st : List PV) (G : PW) : pm_dn pm_sM 160 15 P st G = pm_go pm_sM 160 G (pm_oAL 0 16 P st G) := pm_dn_eq (i := .aload_n 0) (len := 1) rfl
theorem u_160_16 (P : PL) (st : List PV) (G : PW) : pm_dn pm_sM 160 16 P st G = pm_go pm_sM 160 G (pm_oCv pm_sM 159 0 3 6 19 P st G) := pm_dn_eq (i := .invokevirtual 237) (len := 3) rfl
theorem u_160_19 (P : PL) (st : List PV) (G : PW) : pm_dn pm_sM 160 19 P st G = pm_go pm_sM 160 G (pm_oAL 0 20 P st G) := pm_dn_eq (i := .aload_n 0) (len := 1) rfl
theorem u_160_20 (P : PL) (st : List PV) (G : PW) : pm_dn pm_sM 160 20 P st G = pm_go pm_sM 160 G (pm_oGf pm_sM 6 30 23 P st G) := pm_dn_eq (i := .getfield 227) (len := 3) rfl
theorem u_160_23 (P : PL) (st : List PV) (G : PW) : pm_dn pm_sM 160 23 P st G = pm_go pm_sM 160 G (pm_oIf .ne (some 52) 26 P st G) := pm_dn_eq (i := .ifCond .ne 29) (len := 3) rfl
theorem u_160_26 (P : PL) (st : List PV) (G : PW) : pm_dn pm_sM 160 26 P st G = pm_go pm_sM 160 G (pm_oAL 0 27 P st G) := pm_dn_eq (i := .aload_n 0) (len := 1) rfl
theorem u_160_27 (P : PL) (st : List PV) (G : PW) : pm_dn pm_sM 160 27 P st G = pm_go pm_sM 160 G (pm_oCv pm_sM 157 0 1 6 30 P st G) := pm_dn_eq (i := .invokevirtual 224) (len := 3) rfl
theorem u_160_30 (P : PL) (st : List PV) (G : PW) : pm_dn pm_sM 160 30 P st G = pm_go pm_sM 160 G (pm_oK 44 32 P st G) := pm_dn_eq (i := .bipush 44) (len := 2) rfl
theorem u_160_32 (P : PL) (st : List PV) (G : PW) : pm_dn pm_sM 160 32 P st G = pm_go pm_sM 160 G (pm_oIc .ne (some 52) 35 P st G) := pm_dn_eq (i := .if_icmp .ne 20) (len := 3) rfl
theorem u_160_35 (P : PL) (st : List PV) (G : PW) : pm_dn pm_sM 160 35 P st G = pm_go pm_sM 160 G (pm_oAL 0 36 P st G) := pm_dn_eq (i := .aload_n 0) (len := 1) rfl
theorem u_160_36 (P : PL) (st : List PV) (G : PW) : pm_dn pm_sM 160 36 P st G = pm_go pm_sM 160 G (pm_oDup 37 P st G) := pm_dn_eq (i := .dup) (len := 1) rfl
theorem u_160_37 (P : PL) (st : List PV) (G : PW) : pm_dn pm_sM 160 37 P st G = pm_go pm_sM 160 G (pm_oGf pm_sM 6 29 40 P st G) := pm_dn_eq (i := .getfield 221) (len := 3) rfl
theorem u_160_40 (P : PL) (st : List PV) (G : PW) : pm_dn pm_sM 160 40 P st G = pm_go pm_sM 160 G (pm_oK 1 41 P st G) := pm_dn_eq (i := .iconst 1) (len := 1) rfl
theorem u_160_41 (P : PL) (st : List PV) (G : PW) : pm_dn pm_sM 160 41 P st G = pm_go pm_sM 160 G (pm_oAdd 42 P st G) := pm_dn_eq (i := .iadd) (len := 1) rfl
theorem u_160_42 (P : PL) (st : List PV) (G : PW) : pm_dn pm_sM 160 42 P st G = pm_go pm_sM 160 G (pm_oPf pm_sM 6 29 0 45 P st G) := pm_dn_eq (i := .putfield 221) (len := 3) rfl
theorem u_160_45 (P : PL) (st : List PV) (G : PW) : pm_dn pm_sM 160 45 P st G = pm_go pm_sM 160 G (pm_oAL 0 46 P st G) := pm_dn_eq (i := .aload_n 0) (len := 1) rfl
theorem u_160_46 (P : PL) (st : List PV) (G : PW) : pm_dn pm_sM 160 46 P st G = pm_go pm_sM 160 G (pm_oCv pm_sM 159 0 3 6 49 P st G) := pm_dn_eq (i := .invokevirtual 237) (len := 3) rfl
theorem u_160_49 (P : PL) (st : List PV) (G : PW) : pm_dn pm_sM 160 49 P st G = pm_go pm_sM 160 G (pm_oGo (some 19) P st G) := pm_dn_eq (i := .goto (-30)) (len := 3) rfl
theorem u_160_52 (P : PL) (st : List PV) (G : PW) : pm_dn pm_sM 160 52 P st G = pm_go pm_sM 160 G (pm_oAL 0 53 P st G) := pm_dn_eq (i := .aload_n 0) (len := 1) rfl
theorem u_160_53 (P : PL) (st : List PV) (G : PW) : pm_dn pm_sM 160 53 P st G = pm_go pm_sM 160 G (pm_oGf pm_sM 6 30 56 P st G) := pm_dn_eq (i := .getfield 227) (len := 3) rfl
theorem u_160_56 (P : PL) (st : List PV) (G : PW) : pm_dn pm_sM 160 56 P st G = pm_go pm_sM 160 G (pm_oIf .ne (some 70) 59 P st G) := pm_dn_eq (i := .ifCond .ne 14) (len := 3) rfl
theorem u_160_59 (P : PL) (st : List PV) (G : PW) : pm_dn pm_sM 160 59 P st G = pm_go pm_sM 160 G (pm_oAL 0 60 P st G) := pm_dn_eq (i := .aload_n 0) (len := 1) rfl
theorem u_160_60 (P : PL) (st : List PV) (G : PW) : pm_dn pm_sM 160 60 P st G = pm_go pm_sM 160 G (pm_oGf pm_sM 6 29 63 P st G) := pm_dn_eq (i := .getfield 221) (len := 3) rfl
theorem u_160_63 (P : PL) (st : List PV) (G : PW) : pm_dn pm_sM 160 63 P st G = pm_go pm_sM 160 G (pm_oAL 0 64 P st G) := pm_dn_eq (i := .aload_n 0) (len := 1) rfl
theorem u_160_64 (P : PL) (st : List PV) (G : PW) : pm_dn pm_sM 160 64 P st G = pm_go pm_sM 160 G (pm_oGf pm_sM 6 4 67 P st G) := pm_dn_eq (i := .getfield 213) (len := 3) rfl
theorem u_160_67 (P : PL) (st : List PV) (G : PW) : pm_dn pm_sM 160 67 P st G = pm_go pm_sM 160 G (pm_oIc .ge (some 77) 70 P st G) := pm_dn_eq (i := .if_icmp .ge 10) (len := 3) rfl
theorem u_160_70 (P : PL) (st : List PV) (G : PW) : pm_dn pm_sM 160 70 P st G = pm_go pm_sM 160 G (pm_oAL 0 71 P st G) := pm_dn_eq (i := .aload_n 0) (len := 1) rfl
theorem u_160_71 (P : PL) (st : List PV) (G : PW) : pm_dn pm_sM 160 71 P st G = pm_go pm_sM 160 G (pm_oGf pm_sM 6 29 74 P st G) := pm_dn_eq (i := .getfield 221) (len := 3) rfl
theorem u_160_74 (P : PL) (st : List PV) (G : PW) : pm_dn pm_sM 160 74 P st G = pm_go pm_sM 160 G (pm_oGo (some 79) P st G) := pm_dn_eq (i := .goto 5) (len := 3) rfl
theorem u_160_77 (P : PL) (st : List PV) (G : PW) : pm_dn pm_sM 160 77 P st G = pm_go pm_sM 160 G (pm_oK (-6) 79 P st G) := pm_dn_eq (i := .bipush (-6)) (len := 2) rfl
theorem u_160_79 (P : PL) (st : List PV) (G : PW) : pm_dn pm_sM 160 79 P st G = pm_go pm_sM 160 G (pm_oRi 0 P st G) := pm_dn_eq (i := .ireturn) (len := 1) rfl
theorem ue_161 (a0 : Nat) (G : PW) : pm_ca pm_sM 161 [.inr (.inr a0)] G = pm_dn pm_sM 161 0 [some (.inr (.inr a0)), none, none, none] [] G := rfl
theorem u_161_0 (P : PL) (st : List PV) (G : PW) : pm_dn pm_sM 161 0 P st G = pm_go pm_sM 161 G (pm_oAL 0 1 P st G) := pm_dn_eq (i := .aload_n 0) (len := 1) rfl
theorem u_161_1 (P : PL) (st : List PV) (G : PW) : pm_dn pm_sM 161 1 P st G = pm_go pm_sM 161 G (pm_oCv pm_sM 160 0 1 6 4 P st G) := pm_dn_eq (i := .invokevirtual 240) (len := 3) rfl
theorem u_161_4 (P : PL) (st : List PV) (G : PW) : pm_dn pm_sM 161 4 P st G = pm_go pm_sM 161 G (pm_oK (-6) 6 P st G) := pm_dn_eq (i := .bipush (-6)) (len := 2) rfl
theorem u_161_6 (P : PL) (st : List PV) (G : PW) : pm_dn pm_sM 161 6 P st G = pm_go pm_sM 161 G (pm_oIc .eq (some 12) 9 P st G) := pm_dn_eq (i := .if_icmp .eq 6) (len := 3) rfl
theorem u_161_9 (P : PL) (st : List PV) (G : PW) : pm_dn pm_sM 161 9 P st G = pm_go pm_sM 161 G (pm_oK (-3) 11 P st G) := pm_dn_eq (i := .bipush (-3)) (len := 2) rfl
theorem u_161_11 (P : PL) (st : List PV) (G : PW) : pm_dn pm_sM 161 11 P st G = pm_go pm_sM 161 G (pm_oRi 0 P st G) := pm_dn_eq (i := .ireturn) (len := 1) rfl
theorem u_161_12 (P : PL) (st : List PV) (G : PW) : pm_dn pm_sM 161 12 P st G = pm_go pm_sM 161 G (pm_oK 0 13 P st G) := pm_dn_eq (i := .iconst 0) (len := 1) rfl
theorem u_161_13 (P : PL) (st : List PV) (G : PW) : pm_dn pm_sM 161 13 P st G = pm_go pm_sM 161 G (pm_oIS 1 14 P st G) := pm_dn_eq (i := .istore_n 1) (len := 1) rfl
theorem u_161_14 (P : PL) (st : List PV) (G : PW) : pm_dn pm_sM 161 14 P st G = pm_go pm_sM 161 G (pm_oK 1 15 P st G) := pm_dn_eq (i := .iconst 1) (len := 1) rfl
theorem u_161_15 (P : PL) (st : List PV) (G : PW) : pm_dn pm_sM 161 15 P st G = pm_go pm_sM 161 G (pm_oIS 2 16 P st G) := pm_dn_eq (i := .istore_n 2) (len := 1) rfl
theorem u_161_16 (P : PL) (st : List PV) (G : PW) : pm_dn pm_sM 161 16 P st G = pm_go pm_sM 161 G (pm_oIL 2 17 P st G) := pm_dn_eq (i := .iload_n 2) (len := 1) rfl
theorem u_161_17 (P : PL) (st : List PV) (G : PW) : pm_dn pm_sM 161 17 P st G = pm_go pm_sM 161 G (pm_oIf .eq (some 87) 20 P st G) := pm_dn_eq (i := .ifCond .eq 70) (len := 3) rfl
theorem u_161_20 (P : PL) (st : List PV) (G : PW) : pm_dn pm_sM 161 20 P st G = pm_go pm_sM 161 G (pm_oIL 1 21 P st G) := pm_dn_eq (i := .iload_n 1) (len := 1) rfl
theorem u_161_21 (P : PL) (st : List PV) (G : PW) : pm_dn pm_sM 161 21 P st G = pm_go pm_sM 161 G (pm_oAL 0 22 P st G) := pm_dn_eq (i := .aload_n 0) (len := 1) rfl
theorem u_161_22 (P : PL) (st : List PV) (G : PW) : pm_dn pm_sM 161 22 P st G = pm_go pm_sM 161 G (pm_oGf pm_sM 6 33 25 P st G) := pm_dn_eq (i := .getfield 234) (len := 3) rfl
theorem u_161_25 (P : PL) (st : List PV) (G : PW) : pm_dn pm_sM 161 25 P st G = pm_go pm_sM 161 G (pm_oIc .ge (some 87) 28 P st G) := pm_dn_eq (i := .if_icmp .ge 62) (len := 3) rfl
theorem u_161_28 (P : PL) (st : List PV) (G : PW) : pm_dn pm_sM 161 28 P st G = pm_go pm_sM 161 G (pm_oAL 0 29 P st G) := pm_dn_eq (i := .aload_n 0) (len := 1) rfl
theorem u_161_29 (P : PL) (st : List PV) (G : PW) : pm_dn pm_sM 161 29 P st G = pm_go pm_sM 161 G (pm_oGf pm_sM 6 31 32 P st G) := pm_dn_eq (i := .getfield 80) (len := 3) rfl
theorem u_161_32 (P : PL) (st : List PV) (G : PW) : pm_dn pm_sM 161 32 P st G = pm_go pm_sM 161 G (pm_oIL 1 33 P st G) := pm_dn_eq (i := .iload_n 1) (len := 1) rfl
theorem u_161_33 (P : PL) (st : List PV) (G : PW) : pm_dn pm_sM 161 33 P st G = pm_go pm_sM 161 G (pm_oAld pm_sM 0 34 P st G) := pm_dn_eq (i := .iaload) (len := 1) rfl
theorem u_161_34 (P : PL) (st : List PV) (G : PW) : pm_dn pm_sM 161 34 P st G = pm_go pm_sM 161 G (pm_oIS 3 35 P st G) := pm_dn_eq (i := .istore_n 3) (len := 1) rfl
theorem u_161_35 (P : PL) (st : List PV) (G : PW) : pm_dn pm_sM 161 35 P st G = pm_go pm_sM 161 G (pm_oIL 3 36 P st G) := pm_dn_eq (i := .iload_n 3) (len := 1) rfl
theorem u_161_36 (P : PL) (st : List PV) (G : PW) : pm_dn pm_sM 161 36 P st G = pm_go pm_sM 161 G (pm_oK 100 38 P st G) := pm_dn_eq (i := .bipush 100) (len := 2) rfl
theorem u_161_38 (P : PL) (st : List PV) (G : PW) : pm_dn pm_sM 161 38 P st G = pm_go pm_sM 161 G (pm_oIc .lt (some 52) 41 P st G) := pm_dn_eq (i := .if_icmp .lt 14) (len := 3) rfl
theorem u_161_41 (P : PL) (st : List PV) (G : PW) : pm_dn pm_sM 161 41 P st G = pm_go pm_sM 161 G (pm_oAL 0 42 P st G) := pm_dn_eq (i := .aload_n 0) (len := 1) rfl
theorem u_161_42 (P : PL) (st : List PV) (G : PW) : pm_dn pm_sM 161 42 P st G = pm_go pm_sM 161 G (pm_oIL 3 43 P st G) := pm_dn_eq (i := .iload_n 3) (len := 1) rfl
theorem u_161_43 (P : PL) (st : List PV) (G : PW) : pm_dn pm_sM 161 43 P st G = pm_go pm_sM 161 G (pm_oK 100 45 P st G) := pm_dn_eq (i := .bipush 100) (len := 2) rfl
theorem u_161_45 (P : PL) (st : List PV) (G : PW) : pm_dn pm_sM 161 45 P st G = pm_go pm_sM 161 G (pm_oSub 46 P st G) := pm_dn_eq (i := .isub) (len := 1) rfl
theorem u_161_46 (P : PL) (st : List PV) (G : PW) : pm_dn pm_sM 161 46 P st G = pm_go pm_sM 161 G (pm_oCv pm_sM 138 1 3 6 49 P st G) := pm_dn_eq (i := .invokevirtual 243) (len := 3) rfl
theorem u_161_49 (P : PL) (st : List PV) (G : PW) : pm_dn pm_sM 161 49 P st G = pm_go pm_sM 161 G (pm_oGo (some 63) P st G) := pm_dn_eq (i := .goto 14) (len := 3) rfl
theorem u_161_52 (P : PL) (st : List PV) (G : PW) : pm_dn pm_sM 161 52 P st G = pm_go pm_sM 161 G (pm_oAL 0 53 P st G) := pm_dn_eq (i := .aload_n 0) (len := 1) rfl
theorem u_161_53 (P : PL) (st : List PV) (G : PW) : pm_dn pm_sM 161 53 P st G = pm_go pm_sM 161 G (pm_oIL 3 54 P st G) := pm_dn_eq (i := .iload_n 3) (len := 1) rfl
theorem u_161_54 (P : PL) (st : List PV) (G : PW) : pm_dn pm_sM 161 54 P st G = pm_go pm_sM 161 G (pm_oAL 0 55 P st G) := pm_dn_eq (i := .aload_n 0) (len := 1) rfl
theorem u_161_55 (P : PL) (st : List PV) (G : PW) : pm_dn pm_sM 161 55 P st G = pm_go pm_sM 161 G (pm_oGf pm_sM 6 32 58 P st G) := pm_dn_eq (i := .getfield 83) (len := 3) rfl
theorem u_161_58 (P : PL) (st : List PV) (G : PW) : pm_dn pm_sM 161 58 P st G = pm_go pm_sM 161 G (pm_oIL 1 59 P st G) := pm_dn_eq (i := .iload_n 1) (len := 1) rfl
theorem u_161_59 (P : PL) (st : List PV) (G : PW) : pm_dn pm_sM 161 59 P st G = pm_go pm_sM 161 G (pm_oAld pm_sM 0 60 P st G) := pm_dn_eq (i := .iaload) (len := 1) rfl
theorem u_161_60 (P : PL) (st : List PV) (G : PW) : pm_dn pm_sM 161 60 P st G = pm_go pm_sM 161 G (pm_oCv pm_sM 137 2 3 6 63 P st G) := pm_dn_eq (i := .invokevirtual 246) (len := 3) rfl
theorem u_161_63 (P : PL) (st : List PV) (G : PW) : pm_dn pm_sM 161 63 P st G = pm_go pm_sM 161 G (pm_oIf .lt (some 70) 66 P st G) := pm_dn_eq (i := .ifCond .lt 7) (len := 3) rfl
theorem u_161_66 (P : PL) (st : List PV) (G : PW) : pm_dn pm_sM 161 66 P st G = pm_go pm_sM 161 G (pm_oK 1 67 P st G) := pm_dn_eq (i := .iconst 1) (len := 1) rfl
theorem u_161_67 (P : PL) (st : List PV) (G : PW) : pm_dn pm_sM 161 67 P st G = pm_go pm_sM 161 G (pm_oGo (some 71) P st G) := pm_dn_eq (i := .goto 4) (len := 3) rfl
theorem u_161_70 (P : PL) (st : List PV) (G : PW) : pm_dn pm_sM 161 70 P st G = pm_go pm_sM 161 G (pm_oK 0 71 P st G) := pm_dn_eq (i := .iconst 0) (len := 1) rfl
theorem u_161_71 (P : PL) (st : List PV) (G : PW) : pm_dn pm_sM 161 71 P st G = pm_go pm_sM 161 G (pm_oIS 2 72 P st G) := pm_dn_eq (i := .istore_n 2) (len := 1) rfl
theorem u_161_72 (P : PL) (st : List PV) (G : PW) : pm_dn pm_sM 161 72 P st G = pm_go pm_sM 161 G (pm_oIL 1 73 P st G) := pm_dn_eq (i := .iload_n 1) (len := 1) rfl
theorem u_161_73 (P : PL) (st : List PV) (G : PW) : pm_dn pm_sM 161 73 P st G = pm_go pm_sM 161 G (pm_oIL 2 74 P st G) := pm_dn_eq (i := .iload_n 2) (len := 1) rfl
theorem u_161_74 (P : PL) (st : List PV) (G : PW) : pm_dn pm_sM 161 74 P st G = pm_go pm_sM 161 G (pm_oIf .eq (some 81) 77 P st G) := pm_dn_eq (i := .ifCond .eq 7) (len := 3) rfl
theorem u_161_77 (P : PL) (st : List PV) (G : PW) : pm_dn pm_sM 161 77 P st G = pm_go pm_sM 161 G (pm_oK 1 78 P st G) := pm_dn_eq (i := .iconst 1) (len := 1) rfl
theorem u_161_78 (P : PL) (st : List PV) (G : PW) : pm_dn pm_sM 161 78 P st G = pm_go pm_sM 161 G (pm_oGo (some 82) P st G) := pm_dn_eq (i := .goto 4) (len := 3) rfl
theorem u_161_81 (P : PL) (st : List PV) (G : PW) : pm_dn pm_sM 161 81 P st G = pm_go pm_sM 161 G (pm_oK 0 82 P st G) := pm_dn_eq (i := .iconst 0) (len := 1) rfl
theorem u_161_82 (P : PL) (st : List PV) (G : PW) : pm_dn pm_sM 161 82 P st G = pm_go pm_sM 161 G (pm_oAdd 83 P st G) := pm_dn_eq (i := .iadd) (len := 1) rfl
theorem u_161_83 (P : PL) (st : List PV) (G : PW) : pm_dn pm_sM 161 83 P st G = pm_go pm_sM 161 G (pm_oIS 1 84 P st G) := pm_dn_eq (i := .istore_n 1) (len := 1) rfl
theorem u_161_84 (P : PL) (st : List PV) (G : PW) : pm_dn pm_sM 161 84 P st G = pm_go pm_sM 161 G (pm_oGo (some 16) P st G) := pm_dn_eq (i := .goto (-68)) (len := 3) rfl
theorem u_161_87 (P : PL) (st : List PV) (G : PW) : pm_dn pm_sM 161 87 P st G = pm_go pm_sM 161 G (pm_oAL 0 88 P st G) := pm_dn_eq (i := .aload_n 0) (len := 1) rfl
theorem u_161_88 (P : PL) (st : List PV) (G : PW) : pm_dn pm_sM 161 88 P st G = pm_go pm_sM 161 G (pm_oK 0 89 P st G) := pm_dn_eq (i := .iconst 0) (len := 1) rfl
theorem u_161_89 (P : PL) (st : List PV) (G : PW) : pm_dn pm_sM 161 89 P st G = pm_go pm_sM 161 G (pm_oPf pm_sM 6 4 0 92 P st G) := pm_dn_eq (i := .putfield 213) (len := 3) rfl
theorem u_161_92 (P : PL) (st : List PV) (G : PW) : pm_dn pm_sM 161 92 P st G = pm_go pm_sM 161 G (pm_oIL 1 93 P st G) := pm_dn_eq (i := .iload_n 1) (len := 1) rfl
theorem u_161_93 (P : PL) (st : List PV) (G : PW) : pm_dn pm_sM 161 93 P st G = pm_go pm_sM 161 G (pm_oRi 0 P st G) := pm_dn_eq (i := .ireturn) (len := 1) rfl
theorem ue_162 (a0 : Nat) (G : PW) : pm_ca pm_sM 162 [.inr (.inr a0)] G = pm_dn pm_sM 162 0 [some (.inr (.inr a0)), none] [] G := rfl
theorem u_162_0 (P : PL) (st : List PV) (G : PW) : pm_dn pm_sM 162 0 P st G = pm_go pm_sM 162 G (pm_oAL 0 1 P st G) := pm_dn_eq (i := .aload_n 0) (len := 1) rfl
theorem u_162_1 (P : PL) (st : List PV) (G : PW) : pm_dn pm_sM 162 1 P st G = pm_go pm_sM 162 G (pm_oGf pm_sM 6 0 4 P st G) := pm_dn_eq (i := .getfield 7) (len := 3) rfl
theorem u_162_4 (P : PL) (st : List PV) (G : PW) : pm_dn pm_sM 162 4 P st G = pm_go pm_sM 162 G (pm_oK 2 5 P st G) := pm_dn_eq (i := .iconst 2) (len := 1) rfl
theorem u_162_5 (P : PL) (st : List PV) (G : PW) : pm_dn pm_sM 162 5 P st G = pm_go pm_sM 162 G (pm_oAld pm_sM 0 6 P st G) := pm_dn_eq (i := .iaload) (len := 1) rfl
theorem u_162_6 (P : PL) (st : List PV) (G : PW) : pm_dn pm_sM 162 6 P st G = pm_go pm_sM 162 G (pm_oIf .ne (some 12) 9 P st G) := pm_dn_eq (i := .ifCond .ne 6) (len := 3) rfl
theorem u_162_9 (P : PL) (st : List PV) (G : PW) : pm_dn pm_sM 162 9 P st G = pm_go pm_sM 162 G (pm_oK (-5) 11 P st G) := pm_dn_eq (i := .bipush (-5)) (len := 2) rfl
theorem u_162_11 (P : PL) (st : List PV) (G : PW) : pm_dn pm_sM 162 11 P st G = pm_go pm_sM 162 G (pm_oRi 0 P st G) := pm_dn_eq (i := .ireturn) (len := 1) rfl
theorem u_162_12 (P : PL) (st : List PV) (G : PW) : pm_dn pm_sM 162 12 P st G = pm_go pm_sM 162 G (pm_oAL 0 13 P st G) := pm_dn_eq (i := .aload_n 0) (len := 1) rfl
theorem u_162_13 (P : PL) (st : List PV) (G : PW) : pm_dn pm_sM 162 13 P st G = pm_go pm_sM 162 G (pm_oGf pm_sM 6 0 16 P st G) := pm_dn_eq (i := .getfield 7) (len := 3) rfl
theorem u_162_16 (P : PL) (st : List PV) (G : PW) : pm_dn pm_sM 162 16 P st G = pm_go pm_sM 162 G (pm_oK 2 17 P st G) := pm_dn_eq (i := .iconst 2) (len := 1) rfl
theorem u_162_17 (P : PL) (st : List PV) (G : PW) : pm_dn pm_sM 162 17 P st G = pm_go pm_sM 162 G (pm_oDu2 18 P st G) := pm_dn_eq (i := .dup2) (len := 1) rfl
theorem u_162_18 (P : PL) (st : List PV) (G : PW) : pm_dn pm_sM 162 18 P st G = pm_go pm_sM 162 G (pm_oAld pm_sM 0 19 P st G) := pm_dn_eq (i := .iaload) (len := 1) rfl
theorem u_162_19 (P : PL) (st : List PV) (G : PW) : pm_dn pm_sM 162 19 P st G = pm_go pm_sM 162 G (pm_oK 1 20 P st G) := pm_dn_eq (i := .iconst 1) (len := 1) rfl
theorem u_162_20 (P : PL) (st : List PV) (G : PW) : pm_dn pm_sM 162 20 P st G = pm_go pm_sM 162 G (pm_oSub 21 P st G) := pm_dn_eq (i := .isub) (len := 1) rfl
theorem u_162_21 (P : PL) (st : List PV) (G : PW) : pm_dn pm_sM 162 21 P st G = pm_go pm_sM 162 G (pm_oAst pm_sM 0 22 P st G) := pm_dn_eq (i := .iastore) (len := 1) rfl
theorem u_162_22 (P : PL) (st : List PV) (G : PW) : pm_dn pm_sM 162 22 P st G = pm_go pm_sM 162 G (pm_oAL 0 23 P st G) := pm_dn_eq (i := .aload_n 0) (len := 1) rfl
theorem u_162_23 (P : PL) (st : List PV) (G : PW) : pm_dn pm_sM 162 23 P st G = pm_go pm_sM 162 G (pm_oGf pm_sM 6 0 26 P st G) := pm_dn_eq (i := .getfield 7) (len := 3) rfl
theorem u_162_26 (P : PL) (st : List PV) (G : PW) : pm_dn pm_sM 162 26 P st G = pm_go pm_sM 162 G (pm_oK 66 28 P st G) := pm_dn_eq (i := .bipush 66) (len := 2) rfl
theorem u_162_28 (P : PL) (st : List PV) (G : PW) : pm_dn pm_sM 162 28 P st G = pm_go pm_sM 162 G (pm_oAL 0 29 P st G) := pm_dn_eq (i := .aload_n 0) (len := 1) rfl
theorem u_162_29 (P : PL) (st : List PV) (G : PW) : pm_dn pm_sM 162 29 P st G = pm_go pm_sM 162 G (pm_oGf pm_sM 6 0 32 P st G) := pm_dn_eq (i := .getfield 7) (len := 3) rfl
theorem u_162_32 (P : PL) (st : List PV) (G : PW) : pm_dn pm_sM 162 32 P st G = pm_go pm_sM 162 G (pm_oK 2 33 P st G) := pm_dn_eq (i := .iconst 2) (len := 1) rfl
theorem u_162_33 (P : PL) (st : List PV) (G : PW) : pm_dn pm_sM 162 33 P st G = pm_go pm_sM 162 G (pm_oAld pm_sM 0 34 P st G) := pm_dn_eq (i := .iaload) (len := 1) rfl
theorem u_162_34 (P : PL) (st : List PV) (G : PW) : pm_dn pm_sM 162 34 P st G = pm_go pm_sM 162 G (pm_oAdd 35 P st G) := pm_dn_eq (i := .iadd) (len := 1) rfl
theorem u_162_35 (P : PL) (st : List PV) (G : PW) : pm_dn pm_sM 162 35 P st G = pm_go pm_sM 162 G (pm_oAld pm_sM 0 36 P st G) := pm_dn_eq (i := .iaload) (len := 1) rfl
theorem u_162_36 (P : PL) (st : List PV) (G : PW) : pm_dn pm_sM 162 36 P st G = pm_go pm_sM 162 G (pm_oIS 1 37 P st G) := pm_dn_eq (i := .istore_n 1) (len := 1) rfl
theorem u_162_37 (P : PL) (st : List PV) (G : PW) : pm_dn pm_sM 162 37 P st G = pm_go pm_sM 162 G (pm_oIL 1 38 P st G) := pm_dn_eq (i := .iload_n 1) (len := 1) rfl
theorem u_162_38 (P : PL) (st : List PV) (G : PW) : pm_dn pm_sM 162 38 P st G = pm_go pm_sM 162 G (pm_oK 100 40 P st G) := pm_dn_eq (i := .bipush 100) (len := 2) rfl
theorem u_162_40 (P : PL) (st : List PV) (G : PW) : pm_dn pm_sM 162 40 P st G = pm_go pm_sM 162 G (pm_oIc .lt (some 59) 43 P st G) := pm_dn_eq (i := .if_icmp .lt 19) (len := 3) rfl
theorem u_162_43 (P : PL) (st : List PV) (G : PW) : pm_dn pm_sM 162 43 P st G = pm_go pm_sM 162 G (pm_oAL 0 44 P st G) := pm_dn_eq (i := .aload_n 0) (len := 1) rfl
theorem u_162_44 (P : PL) (st : List PV) (G : PW) : pm_dn pm_sM 162 44 P st G = pm_go pm_sM 162 G (pm_oGf pm_sM 6 0 47 P st G) := pm_dn_eq (i := .getfield 7) (len := 3) rfl
theorem u_162_47 (P : PL) (st : List PV) (G : PW) : pm_dn pm_sM 162 47 P st G = pm_go pm_sM 162 G (pm_oK 50 49 P st G) := pm_dn_eq (i := .bipush 50) (len := 2) rfl
theorem u_162_49 (P : PL) (st : List PV) (G : PW) : pm_dn pm_sM 162 49 P st G = pm_go pm_sM 162 G (pm_oIL 1 50 P st G) := pm_dn_eq (i := .iload_n 1) (len := 1) rfl
theorem u_162_50 (P : PL) (st : List PV) (G : PW) : pm_dn pm_sM 162 50 P st G = pm_go pm_sM 162 G (pm_oAdd 51 P st G) := pm_dn_eq (i := .iadd) (len := 1) rfl
theorem u_162_51 (P : PL) (st : List PV) (G : PW) : pm_dn pm_sM 162 51 P st G = pm_go pm_sM 162 G (pm_oK 100 53 P st G) := pm_dn_eq (i := .bipush 100) (len := 2) rfl
theorem u_162_53 (P : PL) (st : List PV) (G : PW) : pm_dn pm_sM 162 53 P st G = pm_go pm_sM 162 G (pm_oSub 54 P st G) := pm_dn_eq (i := .isub) (len := 1) rfl
theorem u_162_54 (P : PL) (st : List PV) (G : PW) : pm_dn pm_sM 162 54 P st G = pm_go pm_sM 162 G (pm_oK 0 55 P st G) := pm_dn_eq (i := .iconst 0) (len := 1) rfl
theorem u_162_55 (P : PL) (st : List PV) (G : PW) : pm_dn pm_sM 162 55 P st G = pm_go pm_sM 162 G (pm_oAst pm_sM 0 56 P st G) := pm_dn_eq (i := .iastore) (len := 1) rfl
theorem u_162_56 (P : PL) (st : List PV) (G : PW) : pm_dn pm_sM 162 56 P st G = pm_go pm_sM 162 G (pm_oGo (some 70) P st G) := pm_dn_eq (i := .goto 14) (len := 3) rfl
theorem u_162_59 (P : PL) (st : List PV) (G : PW) : pm_dn pm_sM 162 59 P st G = pm_go pm_sM 162 G (pm_oAL 0 60 P st G) := pm_dn_eq (i := .aload_n 0) (len := 1) rfl
theorem u_162_60 (P : PL) (st : List PV) (G : PW) : pm_dn pm_sM 162 60 P st G = pm_go pm_sM 162 G (pm_oGf pm_sM 6 0 63 P st G) := pm_dn_eq (i := .getfield 7) (len := 3) rfl
theorem u_162_63 (P : PL) (st : List PV) (G : PW) : pm_dn pm_sM 162 63 P st G = pm_go pm_sM 162 G (pm_oK 19 65 P st G) := pm_dn_eq (i := .bipush 19) (len := 2) rfl
theorem u_162_65 (P : PL) (st : List PV) (G : PW) : pm_dn pm_sM 162 65 P st G = pm_go pm_sM 162 G (pm_oIL 1 66 P st G) := pm_dn_eq (i := .iload_n 1) (len := 1) rfl
theorem u_162_66 (P : PL) (st : List PV) (G : PW) : pm_dn pm_sM 162 66 P st G = pm_go pm_sM 162 G (pm_oAdd 67 P st G) := pm_dn_eq (i := .iadd) (len := 1) rfl
theorem u_162_67 (P : PL) (st : List PV) (G : PW) : pm_dn pm_sM 162 67 P st G = pm_go pm_sM 162 G (pm_oK (-6) 69 P st G) := pm_dn_eq (i := .bipush (-6)) (len := 2) rfl
theorem u_162_69 (P : PL) (st : List PV) (G : PW) : pm_dn pm_sM 162 69 P st G = pm_go pm_sM 162 G (pm_oAst pm_sM 0 70 P st G) := pm_dn_eq (i := .iastore) (len := 1) rfl
theorem u_162_70 (P : PL) (st : List PV) (G : PW) : pm_dn pm_sM 162 70 P st G = pm_go pm_sM 162 G (pm_oAL 0 71 P st G) := pm_dn_eq (i := .aload_n 0) (len := 1) rfl
theorem u_162_71 (P : PL) (st : List PV) (G : PW) : pm_dn pm_sM 162 71 P st G = pm_go pm_sM 162 G (pm_oGf pm_sM 6 0 74 P st G) := pm_dn_eq (i := .getfield 7) (len := 3) rfl
theorem u_162_74 (P : PL) (st : List PV) (G : PW) : pm_dn pm_sM 162 74 P st G = pm_go pm_sM 162 G (pm_oK 2 75 P st G) := pm_dn_eq (i := .iconst 2) (len := 1) rfl
theorem u_162_75 (P : PL) (st : List PV) (G : PW) : pm_dn pm_sM 162 75 P st G = pm_go pm_sM 162 G (pm_oAld pm_sM 0 76 P st G) := pm_dn_eq (i := .iaload) (len := 1) rfl
theorem u_162_76 (P : PL) (st : List PV) (G : PW) : pm_dn pm_sM 162 76 P st G = pm_go pm_sM 162 G (pm_oRi 0 P st G) := pm_dn_eq (i := .ireturn) (len := 1) rfl
theorem ue_163 (a0 : Nat) (G : PW) : pm_ca pm_sM 163 [.inr (.inr a0)] G = pm_dn pm_sM 163 0 [some (.inr (.inr a0))] [] G := rfl
theorem u_163_0 (P : PL) (st : List PV) (G : PW) : pm_dn pm_sM 163 0 P st G = pm_go pm_sM 163 G (pm_oAL 0 1 P st G) := pm_dn_eq (i := .aload_n 0) (len := 1) rfl
theorem u_163_1 (P : PL) (st : List PV) (G : PW) : pm_dn pm_sM 163 1 P st G = pm_go pm_sM 163 G (pm_oCv pm_sM 124 0 1 6 4 P st G) := pm_dn_eq (i := .invokevirtual 171) (len := 3) rfl
theorem u_163_4 (P : PL) (st : List PV) (G : PW) : pm_dn pm_sM 163 4 P st G = pm_go pm_sM 163 G (pm_oAL 0 5 P st G) := pm_dn_eq (i := .aload_n 0) (len := 1) rfl
theorem u_163_5 (P : PL) (st : List PV) (G : PW) : pm_dn pm_sM 163 5 P st G = pm_go pm_sM 163 G (pm_oK 3 6 P st G) := pm_dn_eq (i := .iconst 3) (len := 1) rfl
theorem u_163_6 (P : PL) (st : List PV) (G : PW) : pm_dn pm_sM 163 6 P st G = pm_go pm_sM 163 G (pm_oCv pm_sM 145 1 4 6 9 P st G) := pm_dn_eq (i := .invokevirtual 200) (len := 3) rfl
theorem u_163_9 (P : PL) (st : List PV) (G : PW) : pm_dn pm_sM 163 9 P st G = pm_go pm_sM 163 G (pm_oRi 0 P st G) := pm_dn_eq (i := .ireturn) (len := 1) rfl
theorem ue_164 (a0 : Nat) (a1 : Int) (G : PW) : pm_ca pm_sM 164 [.inr (.inr a0), .inl a1] G = pm_dn pm_sM 164 0 [some (.inr (.inr a0)), some (.inl a1), none] [] G := rfl
theorem u_164_0 (P : PL) (st : List PV) (G : PW) : pm_dn pm_sM 164 0 P st G = pm_go pm_sM 164 G (pm_oIL 1 1 P st G) := pm_dn_eq (i := .iload_n 1) (len := 1) rfl
theorem u_164_1 (P : PL) (st : List PV) (G : PW) : pm_dn pm_sM 164 1 P st G = pm_go pm_sM 164 G (pm_oK 0 2 P st G) := pm_dn_eq (i := .iconst 0) (len := 1) rfl
theorem u_164_2 (P : PL) (st : List PV) (G : PW) : pm_dn pm_sM 164 2 P st G = pm_go pm_sM 164 G (pm_oK 1 3 P st G) := pm_dn_eq (i := .iconst 1) (len := 1) rfl
theorem u_164_3 (P : PL) (st : List PV) (G : PW) : pm_dn pm_sM 164 3 P st G = pm_go pm_sM 164 G (pm_oCs 109 3 3 6 P st G) := pm_dn_eq (i := .invokestatic 164) (len := 3) rfl
theorem u_164_6 (P : PL) (st : List PV) (G : PW) : pm_dn pm_sM 164 6 P st G = pm_go pm_sM 164 G (pm_oIf .ne (some 12) 9 P st G) := pm_dn_eq (i := .ifCond .ne 6) (len := 3) rfl
theorem u_164_9 (P : PL) (st : List PV) (G : PW) : pm_dn pm_sM 164 9 P st G = pm_go pm_sM 164 G (pm_oK (-2) 11 P st G) := pm_dn_eq (i := .bipush (-2)) (len := 2) rfl
theorem u_164_11 (P : PL) (st : List PV) (G : PW) : pm_dn pm_sM 164 11 P st G = pm_go pm_sM 164 G (pm_oRi 0 P st G) := pm_dn_eq (i := .ireturn) (len := 1) rfl
theorem u_164_12 (P : PL) (st : List PV) (G : PW) : pm_dn pm_sM 164 12 P st G = pm_go pm_sM 164 G (pm_oK 0 13 P st G) := pm_dn_eq (i := .iconst 0) (len := 1) rfl
theorem u_164_13 (P : PL) (st : List PV) (G : PW) : pm_dn pm_sM 164 13 P st G = pm_go pm_sM 164 G (pm_oIS 2 14 P st G) := pm_dn_eq (i := .istore_n 2) (len := 1) rfl
theorem u_164_14 (P : PL) (st : List PV) (G : PW) : pm_dn pm_sM 164 14 P st G = pm_go pm_sM 164 G (pm_oIL 2 15 P st G) := pm_dn_eq (i := .iload_n 2) (len := 1) rfl
theorem u_164_15 (P : PL) (st : List PV) (G : PW) : pm_dn pm_sM 164 15 P st G = pm_go pm_sM 164 G (pm_oK 113 17 P st G) := pm_dn_eq (i := .bipush 113) (len := 2) rfl
theorem u_164_17 (P : PL) (st : List PV) (G : PW) : pm_dn pm_sM 164 17 P st G = pm_go pm_sM 164 G (pm_oIc .ge (some 43) 20 P st G) := pm_dn_eq (i := .if_icmp .ge 26) (len := 3) rfl
theorem u_164_20 (P : PL) (st : List PV) (G : PW) : pm_dn pm_sM 164 20 P st G = pm_go pm_sM 164 G (pm_oAL 0 21 P st G) := pm_dn_eq (i := .aload_n 0) (len := 1) rfl
theorem u_164_21 (P : PL) (st : List PV) (G : PW) : pm_dn pm_sM 164 21 P st G = pm_go pm_sM 164 G (pm_oGf pm_sM 6 1 24 P st G) := pm_dn_eq (i := .getfield 13) (len := 3) rfl
theorem u_164_24 (P : PL) (st : List PV) (G : PW) : pm_dn pm_sM 164 24 P st G = pm_go pm_sM 164 G (pm_oK 113 26 P st G) := pm_dn_eq (i := .bipush 113) (len := 2) rfl
theorem u_164_26 (P : PL) (st : List PV) (G : PW) : pm_dn pm_sM 164 26 P st G = pm_go pm_sM 164 G (pm_oIL 1 27 P st G) := pm_dn_eq (i := .iload_n 1) (len := 1) rfl
theorem u_164_27 (P : PL) (st : List PV) (G : PW) : pm_dn pm_sM 164 27 P st G = pm_go pm_sM 164 G (pm_oMul 28 P st G) := pm_dn_eq (i := .imul) (len := 1) rfl
theorem u_164_28 (P : PL) (st : List PV) (G : PW) : pm_dn pm_sM 164 28 P st G = pm_go pm_sM 164 G (pm_oIL 2 29 P st G) := pm_dn_eq (i := .iload_n 2) (len := 1) rfl
theorem u_164_29 (P : PL) (st : List PV) (G : PW) : pm_dn pm_sM 164 29 P st G = pm_go pm_sM 164 G (pm_oAdd 30 P st G) := pm_dn_eq (i := .iadd) (len := 1) rfl
theorem u_164_30 (P : PL) (st : List PV) (G : PW) : pm_dn pm_sM 164 30 P st G = pm_go pm_sM 164 G (pm_oAL 0 31 P st G) := pm_dn_eq (i := .aload_n 0) (len := 1) rfl
theorem u_164_31 (P : PL) (st : List PV) (G : PW) : pm_dn pm_sM 164 31 P st G = pm_go pm_sM 164 G (pm_oGf pm_sM 6 0 34 P st G) := pm_dn_eq (i := .getfield 7) (len := 3) rfl
theorem u_164_34 (P : PL) (st : List PV) (G : PW) : pm_dn pm_sM 164 34 P st G = pm_go pm_sM 164 G (pm_oIL 2 35 P st G) := pm_dn_eq (i := .iload_n 2) (len := 1) rfl
theorem u_164_35 (P : PL) (st : List PV) (G : PW) : pm_dn pm_sM 164 35 P st G = pm_go pm_sM 164 G (pm_oAld pm_sM 0 36 P st G) := pm_dn_eq (i := .iaload) (len := 1) rfl
theorem u_164_36 (P : PL) (st : List PV) (G : PW) : pm_dn pm_sM 164 36 P st G = pm_go pm_sM 164 G (pm_oAst pm_sM 0 37 P st G) := pm_dn_eq (i := .iastore) (len := 1) rfl
theorem u_164_37 (P : PL) (st : List PV) (G : PW) : pm_dn pm_sM 164 37 P st G = pm_go pm_sM 164 G (pm_oInc 2 1 40 P st G) := pm_dn_eq (i := .iinc 2 1) (len := 3) rfl
theorem u_164_40 (P : PL) (st : List PV) (G : PW) : pm_dn pm_sM 164 40 P st G = pm_go pm_sM 164 G (pm_oGo (some 14) P st G) := pm_dn_eq (i := .goto (-26)) (len := 3) rfl
theorem u_164_43 (P : PL) (st : List PV) (G : PW) : pm_dn pm_sM 164 43 P st G = pm_go pm_sM 164 G (pm_oAL 0 44 P st G) := pm_dn_eq (i := .aload_n 0) (len := 1) rfl
theorem u_164_44 (P : PL) (st : List PV) (G : PW) : pm_dn pm_sM 164 44 P st G = pm_go pm_sM 164 G (pm_oGf pm_sM 6 2 47 P st G) := pm_dn_eq (i := .getfield 16) (len := 3) rfl
theorem u_164_47 (P : PL) (st : List PV) (G : PW) : pm_dn pm_sM 164 47 P st G = pm_go pm_sM 164 G (pm_oIL 1 48 P st G) := pm_dn_eq (i := .iload_n 1) (len := 1) rfl
theorem u_164_48 (P : PL) (st : List PV) (G : PW) : pm_dn pm_sM 164 48 P st G = pm_go pm_sM 164 G (pm_oK 1 49 P st G) := pm_dn_eq (i := .iconst 1) (len := 1) rfl
theorem u_164_49 (P : PL) (st : List PV) (G : PW) : pm_dn pm_sM 164 49 P st G = pm_go pm_sM 164 G (pm_oAst pm_sM 2 50 P st G) := pm_dn_eq (i := .bastore) (len := 1) rfl
theorem u_164_50 (P : PL) (st : List PV) (G : PW) : pm_dn pm_sM 164 50 P st G = pm_go pm_sM 164 G (pm_oAL 0 51 P st G) := pm_dn_eq (i := .aload_n 0) (len := 1) rfl
theorem u_164_51 (P : PL) (st : List PV) (G : PW) : pm_dn pm_sM 164 51 P st G = pm_go pm_sM 164 G (pm_oCv pm_sM 163 0 1 6 54 P st G) := pm_dn_eq (i := .invokevirtual 249) (len := 3) rfl
theorem u_164_54 (P : PL) (st : List PV) (G : PW) : pm_dn pm_sM 164 54 P st G = pm_go pm_sM 164 G (pm_oRi 0 P st G) := pm_dn_eq (i := .ireturn) (len := 1) rfl
theorem ue_165 (a0 : Nat) (a1 : Int) (G : PW) : pm_ca pm_sM 165 [.inr (.inr a0), .inl a1] G = pm_dn pm_sM 165 0 [some (.inr (.inr a0)), some (.inl a1), none] [] G := rfl
theorem u_165_0 (P : PL) (st : List PV) (G : PW) : pm_dn pm_sM 165 0 P st G = pm_go pm_sM 165 G (pm_oIL 1 1 P st G) := pm_dn_eq (i := .iload_n 1) (len := 1) rfl
theorem u_165_1 (P : PL) (st : List PV) (G : PW) : pm_dn pm_sM 165 1 P st G = pm_go pm_sM 165 G (pm_oK 0 2 P st G) := pm_dn_eq (i := .iconst 0) (len := 1) rfl
theorem u_165_2 (P : PL) (st : List PV) (G : PW) : pm_dn pm_sM 165 2 P st G = pm_go pm_sM 165 G (pm_oK 1 3 P st G) := pm_dn_eq (i := .iconst 1) (len := 1) rfl
theorem u_165_3 (P : PL) (st : List PV) (G : PW) : pm_dn pm_sM 165 3 P st G = pm_go pm_sM 165 G (pm_oCs 109 3 3 6 P st G) := pm_dn_eq (i := .invokestatic 164) (len := 3) rfl
theorem u_165_6 (P : PL) (st : List PV) (G : PW) : pm_dn pm_sM 165 6 P st G = pm_go pm_sM 165 G (pm_oIf .ne (some 12) 9 P st G) := pm_dn_eq (i := .ifCond .ne 6) (len := 3) rfl
theorem u_165_9 (P : PL) (st : List PV) (G : PW) : pm_dn pm_sM 165 9 P st G = pm_go pm_sM 165 G (pm_oK (-2) 11 P st G) := pm_dn_eq (i := .bipush (-2)) (len := 2) rfl
theorem u_165_11 (P : PL) (st : List PV) (G : PW) : pm_dn pm_sM 165 11 P st G = pm_go pm_sM 165 G (pm_oRi 0 P st G) := pm_dn_eq (i := .ireturn) (len := 1) rfl
theorem u_165_12 (P : PL) (st : List PV) (G : PW) : pm_dn pm_sM 165 12 P st G = pm_go pm_sM 165 G (pm_oAL 0 13 P st G) := pm_dn_eq (i := .aload_n 0) (len := 1) rfl
theorem u_165_13 (P : PL) (st : List PV) (G : PW) : pm_dn pm_sM 165 13 P st G = pm_go pm_sM 165 G (pm_oGf pm_sM 6 2 16 P st G) := pm_dn_eq (i := .getfield 16) (len := 3) rfl
theorem u_165_16 (P : PL) (st : List PV) (G : PW) : pm_dn pm_sM 165 16 P st G = pm_go pm_sM 165 G (pm_oIL 1 17 P st G) := pm_dn_eq (i := .iload_n 1) (len := 1) rfl
theorem u_165_17 (P : PL) (st : List PV) (G : PW) : pm_dn pm_sM 165 17 P st G = pm_go pm_sM 165 G (pm_oAld pm_sM 2 18 P st G) := pm_dn_eq (i := .baload) (len := 1) rfl
theorem u_165_18 (P : PL) (st : List PV) (G : PW) : pm_dn pm_sM 165 18 P st G = pm_go pm_sM 165 G (pm_oIf .ne (some 24) 21 P st G) := pm_dn_eq (i := .ifCond .ne 6) (len := 3) rfl
theorem u_165_21 (P : PL) (st : List PV) (G : PW) : pm_dn pm_sM 165 21 P st G = pm_go pm_sM 165 G (pm_oK (-5) 23 P st G) := pm_dn_eq (i := .bipush (-5)) (len := 2) rfl
theorem u_165_23 (P : PL) (st : List PV) (G : PW) : pm_dn pm_sM 165 23 P st G = pm_go pm_sM 165 G (pm_oRi 0 P st G) := pm_dn_eq (i := .ireturn) (len := 1) rfl
theorem u_165_24 (P : PL) (st : List PV) (G : PW) : pm_dn pm_sM 165 24 P st G = pm_go pm_sM 165 G (pm_oK 0 25 P st G) := pm_dn_eq (i := .iconst 0) (len := 1) rfl
theorem u_165_25 (P : PL) (st : List PV) (G : PW) : pm_dn pm_sM 165 25 P st G = pm_go pm_sM 165 G (pm_oIS 2 26 P st G) := pm_dn_eq (i := .istore_n 2) (len := 1) rfl
theorem u_165_26 (P : PL) (st : List PV) (G : PW) : pm_dn pm_sM 165 26 P st G = pm_go pm_sM 165 G (pm_oIL 2 27 P st G) := pm_dn_eq (i := .iload_n 2) (len := 1) rfl
theorem u_165_27 (P : PL) (st : List PV) (G : PW) : pm_dn pm_sM 165 27 P st G = pm_go pm_sM 165 G (pm_oK 113 29 P st G) := pm_dn_eq (i := .bipush 113) (len := 2) rfl
theorem u_165_29 (P : PL) (st : List PV) (G : PW) : pm_dn pm_sM 165 29 P st G = pm_go pm_sM 165 G (pm_oIc .ge (some 55) 32 P st G) := pm_dn_eq (i := .if_icmp .ge 26) (len := 3) rfl
theorem u_165_32 (P : PL) (st : List PV) (G : PW) : pm_dn pm_sM 165 32 P st G = pm_go pm_sM 165 G (pm_oAL 0 33 P st G) := pm_dn_eq (i := .aload_n 0) (len := 1) rfl
theorem u_165_33 (P : PL) (st : List PV) (G : PW) : pm_dn pm_sM 165 33 P st G = pm_go pm_sM 165 G (pm_oGf pm_sM 6 0 36 P st G) := pm_dn_eq (i := .getfield 7) (len := 3) rfl
theorem u_165_36 (P : PL) (st : List PV) (G : PW) : pm_dn pm_sM 165 36 P st G = pm_go pm_sM 165 G (pm_oIL 2 37 P st G) := pm_dn_eq (i := .iload_n 2) (len := 1) rfl
theorem u_165_37 (P : PL) (st : List PV) (G : PW) : pm_dn pm_sM 165 37 P st G = pm_go pm_sM 165 G (pm_oAL 0 38 P st G) := pm_dn_eq (i := .aload_n 0) (len := 1) rfl
theorem u_165_38 (P : PL) (st : List PV) (G : PW) : pm_dn pm_sM 165 38 P st G = pm_go pm_sM 165 G (pm_oGf pm_sM 6 1 41 P st G) := pm_dn_eq (i := .getfield 13) (len := 3) rfl
theorem u_165_41 (P : PL) (st : List PV) (G : PW) : pm_dn pm_sM 165 41 P st G = pm_go pm_sM 165 G (pm_oK 113 43 P st G) := pm_dn_eq (i := .bipush 113) (len := 2) rfl
theorem u_165_43 (P : PL) (st : List PV) (G : PW) : pm_dn pm_sM 165 43 P st G = pm_go pm_sM 165 G (pm_oIL 1 44 P st G) := pm_dn_eq (i := .iload_n 1) (len := 1) rfl
theorem u_165_44 (P : PL) (st : List PV) (G : PW) : pm_dn pm_sM 165 44 P st G = pm_go pm_sM 165 G (pm_oMul 45 P st G) := pm_dn_eq (i := .imul) (len := 1) rfl
theorem u_165_45 (P : PL) (st : List PV) (G : PW) : pm_dn pm_sM 165 45 P st G = pm_go pm_sM 165 G (pm_oIL 2 46 P st G) := pm_dn_eq (i := .iload_n 2) (len := 1) rfl
theorem u_165_46 (P : PL) (st : List PV) (G : PW) : pm_dn pm_sM 165 46 P st G = pm_go pm_sM 165 G (pm_oAdd 47 P st G) := pm_dn_eq (i := .iadd) (len := 1) rfl
theorem u_165_47 (P : PL) (st : List PV) (G : PW) : pm_dn pm_sM 165 47 P st G = pm_go pm_sM 165 G (pm_oAld pm_sM 0 48 P st G) := pm_dn_eq (i := .iaload) (len := 1) rfl
theorem u_165_48 (P : PL) (st : List PV) (G : PW) : pm_dn pm_sM 165 48 P st G = pm_go pm_sM 165 G (pm_oAst pm_sM 0 49 P st G) := pm_dn_eq (i := .iastore) (len := 1) rfl
theorem u_165_49 (P : PL) (st : List PV) (G : PW) : pm_dn pm_sM 165 49 P st G = pm_go pm_sM 165 G (pm_oInc 2 1 52 P st G) := pm_dn_eq (i := .iinc 2 1) (len := 3) rfl
theorem u_165_52 (P : PL) (st : List PV) (G : PW) : pm_dn pm_sM 165 52 P st G = pm_go pm_sM 165 G (pm_oGo (some 26) P st G) := pm_dn_eq (i := .goto (-26)) (len := 3) rfl
theorem u_165_55 (P : PL) (st : List PV) (G : PW) : pm_dn pm_sM 165 55 P st G = pm_go pm_sM 165 G (pm_oAL 0 56 P st G) := pm_dn_eq (i := .aload_n 0) (len := 1) rfl
theorem u_165_56 (P : PL) (st : List PV) (G : PW) : pm_dn pm_sM 165 56 P st G = pm_go pm_sM 165 G (pm_oCv pm_sM 163 0 1 6 59 P st G) := pm_dn_eq (i := .invokevirtual 249) (len := 3) rfl
theorem u_165_59 (P : PL) (st : List PV) (G : PW) : pm_dn pm_sM 165 59 P st G = pm_go pm_sM 165 G (pm_oRi 0 P st G) := pm_dn_eq (i := .ireturn) (len := 1) rfl
