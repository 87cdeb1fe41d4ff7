/-! printed by gen09.py: what each instruction does, pc by pc -/
theorem ue_86 (a0 : Nat) (a1 : Int) (G : PW) : pm_ca pm_sF 86 [.inr (.inr a0), .inl a1] G = pm_dn pm_sF 86 0 [some (.inr (.inr a0)), some (.inl a1), none, none, none, none, none, none, none, none, none, none, none] [] G := rfl
theorem u_86_0 (P : PL) (st : List PV) (G : PW) : pm_dn pm_sF 86 0 P st G = pm_go pm_sF 86 G (pm_oK 17 2 P st G) := pm_dn_eq (i := .bipush 17) (len := 2) rfl
theorem u_86_4 (P : PL) (st : List PV) (G : PW) : pm_dn pm_sF 86 4 P st G = pm_go pm_sF 86 G (pm_oAS 2 5 P st G) := pm_dn_eq (i := .astore_n 2) (len := 1) rfl
theorem u_86_5 (P : PL) (st : List PV) (G : PW) : pm_dn pm_sF 86 5 P st G = pm_go pm_sF 86 G (pm_oK 17 7 P st G) := pm_dn_eq (i := .bipush 17) (len := 2) rfl
theorem u_86_9 (P : PL) (st : List PV) (G : PW) : pm_dn pm_sF 86 9 P st G = pm_go pm_sF 86 G (pm_oAS 3 10 P st G) := pm_dn_eq (i := .astore_n 3) (len := 1) rfl
theorem u_86_10 (P : PL) (st : List PV) (G : PW) : pm_dn pm_sF 86 10 P st G = pm_go pm_sF 86 G (pm_oK 17 12 P st G) := pm_dn_eq (i := .bipush 17) (len := 2) rfl
theorem u_86_14 (P : PL) (st : List PV) (G : PW) : pm_dn pm_sF 86 14 P st G = pm_go pm_sF 86 G (pm_oAS 4 16 P st G) := pm_dn_eq (i := .astore 4) (len := 2) rfl
theorem u_86_16 (P : PL) (st : List PV) (G : PW) : pm_dn pm_sF 86 16 P st G = pm_go pm_sF 86 G (pm_oK 4 17 P st G) := pm_dn_eq (i := .iconst 4) (len := 1) rfl
theorem u_86_19 (P : PL) (st : List PV) (G : PW) : pm_dn pm_sF 86 19 P st G = pm_go pm_sF 86 G (pm_oAS 5 21 P st G) := pm_dn_eq (i := .astore 5) (len := 2) rfl
theorem u_86_21 (P : PL) (st : List PV) (G : PW) : pm_dn pm_sF 86 21 P st G = pm_go pm_sF 86 G (pm_oK 0 22 P st G) := pm_dn_eq (i := .iconst 0) (len := 1) rfl
theorem u_86_22 (P : PL) (st : List PV) (G : PW) : pm_dn pm_sF 86 22 P st G = pm_go pm_sF 86 G (pm_oIS 6 24 P st G) := pm_dn_eq (i := .istore 6) (len := 2) rfl
theorem u_86_24 (P : PL) (st : List PV) (G : PW) : pm_dn pm_sF 86 24 P st G = pm_go pm_sF 86 G (pm_oIL 6 26 P st G) := pm_dn_eq (i := .iload 6) (len := 2) rfl
theorem u_86_26 (P : PL) (st : List PV) (G : PW) : pm_dn pm_sF 86 26 P st G = pm_go pm_sF 86 G (pm_oAL 0 27 P st G) := pm_dn_eq (i := .aload_n 0) (len := 1) rfl
theorem u_86_27 (P : PL) (st : List PV) (G : PW) : pm_dn pm_sF 86 27 P st G = pm_go pm_sF 86 G (pm_oK 2 28 P st G) := pm_dn_eq (i := .iconst 2) (len := 1) rfl
theorem u_86_28 (P : PL) (st : List PV) (G : PW) : pm_dn pm_sF 86 28 P st G = pm_go pm_sF 86 G (pm_oCv pm_sF 60 1 2 5 31 P st G) := pm_dn_eq (i := .invokevirtual 8) (len := 3) rfl
theorem u_86_31 (P : PL) (st : List PV) (G : PW) : pm_dn pm_sF 86 31 P st G = pm_go pm_sF 86 G (pm_oIc .ge (some 439) 34 P st G) := pm_dn_eq (i := .if_icmp .ge 408) (len := 3) rfl
theorem u_86_34 (P : PL) (st : List PV) (G : PW) : pm_dn pm_sF 86 34 P st G = pm_go pm_sF 86 G (pm_oAL 0 35 P st G) := pm_dn_eq (i := .aload_n 0) (len := 1) rfl
theorem u_86_35 (P : PL) (st : List PV) (G : PW) : pm_dn pm_sF 86 35 P st G = pm_go pm_sF 86 G (pm_oIL 6 37 P st G) := pm_dn_eq (i := .iload 6) (len := 2) rfl
theorem u_86_37 (P : PL) (st : List PV) (G : PW) : pm_dn pm_sF 86 37 P st G = pm_go pm_sF 86 G (pm_oK 0 38 P st G) := pm_dn_eq (i := .iconst 0) (len := 1) rfl
theorem u_86_38 (P : PL) (st : List PV) (G : PW) : pm_dn pm_sF 86 38 P st G = pm_go pm_sF 86 G (pm_oCv pm_sF 57 2 4 5 41 P st G) := pm_dn_eq (i := .invokevirtual 14) (len := 3) rfl
theorem u_86_41 (P : PL) (st : List PV) (G : PW) : pm_dn pm_sF 86 41 P st G = pm_go pm_sF 86 G (pm_oIS 7 43 P st G) := pm_dn_eq (i := .istore 7) (len := 2) rfl
theorem u_86_43 (P : PL) (st : List PV) (G : PW) : pm_dn pm_sF 86 43 P st G = pm_go pm_sF 86 G (pm_oAL 0 44 P st G) := pm_dn_eq (i := .aload_n 0) (len := 1) rfl
theorem u_86_44 (P : PL) (st : List PV) (G : PW) : pm_dn pm_sF 86 44 P st G = pm_go pm_sF 86 G (pm_oIL 6 46 P st G) := pm_dn_eq (i := .iload 6) (len := 2) rfl
theorem u_86_46 (P : PL) (st : List PV) (G : PW) : pm_dn pm_sF 86 46 P st G = pm_go pm_sF 86 G (pm_oK 1 47 P st G) := pm_dn_eq (i := .iconst 1) (len := 1) rfl
theorem u_86_47 (P : PL) (st : List PV) (G : PW) : pm_dn pm_sF 86 47 P st G = pm_go pm_sF 86 G (pm_oCv pm_sF 57 2 4 5 50 P st G) := pm_dn_eq (i := .invokevirtual 14) (len := 3) rfl
theorem u_86_50 (P : PL) (st : List PV) (G : PW) : pm_dn pm_sF 86 50 P st G = pm_go pm_sF 86 G (pm_oIS 8 52 P st G) := pm_dn_eq (i := .istore 8) (len := 2) rfl
theorem u_86_52 (P : PL) (st : List PV) (G : PW) : pm_dn pm_sF 86 52 P st G = pm_go pm_sF 86 G (pm_oAL 0 53 P st G) := pm_dn_eq (i := .aload_n 0) (len := 1) rfl
theorem u_86_53 (P : PL) (st : List PV) (G : PW) : pm_dn pm_sF 86 53 P st G = pm_go pm_sF 86 G (pm_oIL 6 55 P st G) := pm_dn_eq (i := .iload 6) (len := 2) rfl
theorem u_86_55 (P : PL) (st : List PV) (G : PW) : pm_dn pm_sF 86 55 P st G = pm_go pm_sF 86 G (pm_oK 4 56 P st G) := pm_dn_eq (i := .iconst 4) (len := 1) rfl
theorem u_86_56 (P : PL) (st : List PV) (G : PW) : pm_dn pm_sF 86 56 P st G = pm_go pm_sF 86 G (pm_oCv pm_sF 57 2 4 5 59 P st G) := pm_dn_eq (i := .invokevirtual 14) (len := 3) rfl
theorem u_86_59 (P : PL) (st : List PV) (G : PW) : pm_dn pm_sF 86 59 P st G = pm_go pm_sF 86 G (pm_oIS 9 61 P st G) := pm_dn_eq (i := .istore 9) (len := 2) rfl
theorem u_86_61 (P : PL) (st : List PV) (G : PW) : pm_dn pm_sF 86 61 P st G = pm_go pm_sF 86 G (pm_oAL 0 62 P st G) := pm_dn_eq (i := .aload_n 0) (len := 1) rfl
theorem u_86_62 (P : PL) (st : List PV) (G : PW) : pm_dn pm_sF 86 62 P st G = pm_go pm_sF 86 G (pm_oIL 6 64 P st G) := pm_dn_eq (i := .iload 6) (len := 2) rfl
theorem u_86_64 (P : PL) (st : List PV) (G : PW) : pm_dn pm_sF 86 64 P st G = pm_go pm_sF 86 G (pm_oK 2 65 P st G) := pm_dn_eq (i := .iconst 2) (len := 1) rfl
theorem u_86_65 (P : PL) (st : List PV) (G : PW) : pm_dn pm_sF 86 65 P st G = pm_go pm_sF 86 G (pm_oCv pm_sF 57 2 4 5 68 P st G) := pm_dn_eq (i := .invokevirtual 14) (len := 3) rfl
theorem u_86_68 (P : PL) (st : List PV) (G : PW) : pm_dn pm_sF 86 68 P st G = pm_go pm_sF 86 G (pm_oIS 10 70 P st G) := pm_dn_eq (i := .istore 10) (len := 2) rfl
theorem u_86_70 (P : PL) (st : List PV) (G : PW) : pm_dn pm_sF 86 70 P st G = pm_go pm_sF 86 G (pm_oAL 0 71 P st G) := pm_dn_eq (i := .aload_n 0) (len := 1) rfl
theorem u_86_71 (P : PL) (st : List PV) (G : PW) : pm_dn pm_sF 86 71 P st G = pm_go pm_sF 86 G (pm_oIL 6 73 P st G) := pm_dn_eq (i := .iload 6) (len := 2) rfl
theorem u_86_73 (P : PL) (st : List PV) (G : PW) : pm_dn pm_sF 86 73 P st G = pm_go pm_sF 86 G (pm_oK 3 74 P st G) := pm_dn_eq (i := .iconst 3) (len := 1) rfl
theorem u_86_74 (P : PL) (st : List PV) (G : PW) : pm_dn pm_sF 86 74 P st G = pm_go pm_sF 86 G (pm_oCv pm_sF 57 2 4 5 77 P st G) := pm_dn_eq (i := .invokevirtual 14) (len := 3) rfl
theorem u_86_77 (P : PL) (st : List PV) (G : PW) : pm_dn pm_sF 86 77 P st G = pm_go pm_sF 86 G (pm_oIS 11 79 P st G) := pm_dn_eq (i := .istore 11) (len := 2) rfl
theorem u_86_79 (P : PL) (st : List PV) (G : PW) : pm_dn pm_sF 86 79 P st G = pm_go pm_sF 86 G (pm_oAL 5 81 P st G) := pm_dn_eq (i := .aload 5) (len := 2) rfl
theorem u_86_81 (P : PL) (st : List PV) (G : PW) : pm_dn pm_sF 86 81 P st G = pm_go pm_sF 86 G (pm_oIL 9 83 P st G) := pm_dn_eq (i := .iload 9) (len := 2) rfl
theorem u_86_83 (P : PL) (st : List PV) (G : PW) : pm_dn pm_sF 86 83 P st G = pm_go pm_sF 86 G (pm_oDu2 84 P st G) := pm_dn_eq (i := .dup2) (len := 1) rfl
theorem u_86_84 (P : PL) (st : List PV) (G : PW) : pm_dn pm_sF 86 84 P st G = pm_go pm_sF 86 G (pm_oAld pm_sF 0 85 P st G) := pm_dn_eq (i := .iaload) (len := 1) rfl
theorem u_86_85 (P : PL) (st : List PV) (G : PW) : pm_dn pm_sF 86 85 P st G = pm_go pm_sF 86 G (pm_oK 1 86 P st G) := pm_dn_eq (i := .iconst 1) (len := 1) rfl
theorem u_86_86 (P : PL) (st : List PV) (G : PW) : pm_dn pm_sF 86 86 P st G = pm_go pm_sF 86 G (pm_oAdd 87 P st G) := pm_dn_eq (i := .iadd) (len := 1) rfl
theorem u_86_87 (P : PL) (st : List PV) (G : PW) : pm_dn pm_sF 86 87 P st G = pm_go pm_sF 86 G (pm_oAst pm_sF 0 88 P st G) := pm_dn_eq (i := .iastore) (len := 1) rfl
theorem u_86_88 (P : PL) (st : List PV) (G : PW) : pm_dn pm_sF 86 88 P st G = pm_go pm_sF 86 G (pm_oIL 7 90 P st G) := pm_dn_eq (i := .iload 7) (len := 2) rfl
theorem u_86_90 (P : PL) (st : List PV) (G : PW) : pm_dn pm_sF 86 90 P st G = pm_go pm_sF 86 G (pm_oIf .lt (some 102) 93 P st G) := pm_dn_eq (i := .ifCond .lt 12) (len := 3) rfl
theorem u_86_93 (P : PL) (st : List PV) (G : PW) : pm_dn pm_sF 86 93 P st G = pm_go pm_sF 86 G (pm_oIL 8 95 P st G) := pm_dn_eq (i := .iload 8) (len := 2) rfl
theorem u_86_95 (P : PL) (st : List PV) (G : PW) : pm_dn pm_sF 86 95 P st G = pm_go pm_sF 86 G (pm_oIf .lt (some 102) 98 P st G) := pm_dn_eq (i := .ifCond .lt 7) (len := 3) rfl
theorem u_86_98 (P : PL) (st : List PV) (G : PW) : pm_dn pm_sF 86 98 P st G = pm_go pm_sF 86 G (pm_oK 1 99 P st G) := pm_dn_eq (i := .iconst 1) (len := 1) rfl
theorem u_86_99 (P : PL) (st : List PV) (G : PW) : pm_dn pm_sF 86 99 P st G = pm_go pm_sF 86 G (pm_oGo (some 103) P st G) := pm_dn_eq (i := .goto 4) (len := 3) rfl
theorem u_86_102 (P : PL) (st : List PV) (G : PW) : pm_dn pm_sF 86 102 P st G = pm_go pm_sF 86 G (pm_oK 0 103 P st G) := pm_dn_eq (i := .iconst 0) (len := 1) rfl
theorem u_86_103 (P : PL) (st : List PV) (G : PW) : pm_dn pm_sF 86 103 P st G = pm_go pm_sF 86 G (pm_oIS 12 105 P st G) := pm_dn_eq (i := .istore 12) (len := 2) rfl
theorem u_86_105 (P : PL) (st : List PV) (G : PW) : pm_dn pm_sF 86 105 P st G = pm_go pm_sF 86 G (pm_oIL 9 107 P st G) := pm_dn_eq (i := .iload 9) (len := 2) rfl
theorem u_86_107 (P : PL) (st : List PV) (G : PW) : pm_dn pm_sF 86 107 P st G = pm_go pm_sF 86 G (pm_oIf .le (some 114) 110 P st G) := pm_dn_eq (i := .ifCond .le 7) (len := 3) rfl
theorem u_86_110 (P : PL) (st : List PV) (G : PW) : pm_dn pm_sF 86 110 P st G = pm_go pm_sF 86 G (pm_oK 1 111 P st G) := pm_dn_eq (i := .iconst 1) (len := 1) rfl
theorem u_86_111 (P : PL) (st : List PV) (G : PW) : pm_dn pm_sF 86 111 P st G = pm_go pm_sF 86 G (pm_oGo (some 115) P st G) := pm_dn_eq (i := .goto 4) (len := 3) rfl
theorem u_86_114 (P : PL) (st : List PV) (G : PW) : pm_dn pm_sF 86 114 P st G = pm_go pm_sF 86 G (pm_oK 0 115 P st G) := pm_dn_eq (i := .iconst 0) (len := 1) rfl
theorem u_86_115 (P : PL) (st : List PV) (G : PW) : pm_dn pm_sF 86 115 P st G = pm_go pm_sF 86 G (pm_oIL 10 117 P st G) := pm_dn_eq (i := .iload 10) (len := 2) rfl
theorem u_86_117 (P : PL) (st : List PV) (G : PW) : pm_dn pm_sF 86 117 P st G = pm_go pm_sF 86 G (pm_oIf .lt (some 124) 120 P st G) := pm_dn_eq (i := .ifCond .lt 7) (len := 3) rfl
theorem u_86_120 (P : PL) (st : List PV) (G : PW) : pm_dn pm_sF 86 120 P st G = pm_go pm_sF 86 G (pm_oK 1 121 P st G) := pm_dn_eq (i := .iconst 1) (len := 1) rfl
theorem u_86_121 (P : PL) (st : List PV) (G : PW) : pm_dn pm_sF 86 121 P st G = pm_go pm_sF 86 G (pm_oGo (some 125) P st G) := pm_dn_eq (i := .goto 4) (len := 3) rfl
theorem u_86_124 (P : PL) (st : List PV) (G : PW) : pm_dn pm_sF 86 124 P st G = pm_go pm_sF 86 G (pm_oK 0 125 P st G) := pm_dn_eq (i := .iconst 0) (len := 1) rfl
theorem u_86_125 (P : PL) (st : List PV) (G : PW) : pm_dn pm_sF 86 125 P st G = pm_go pm_sF 86 G (pm_oIc .ne (some 232) 128 P st G) := pm_dn_eq (i := .if_icmp .ne 107) (len := 3) rfl
theorem u_86_128 (P : PL) (st : List PV) (G : PW) : pm_dn pm_sF 86 128 P st G = pm_go pm_sF 86 G (pm_oIL 9 130 P st G) := pm_dn_eq (i := .iload 9) (len := 2) rfl
theorem u_86_130 (P : PL) (st : List PV) (G : PW) : pm_dn pm_sF 86 130 P st G = pm_go pm_sF 86 G (pm_oIf .le (some 137) 133 P st G) := pm_dn_eq (i := .ifCond .le 7) (len := 3) rfl
theorem u_86_133 (P : PL) (st : List PV) (G : PW) : pm_dn pm_sF 86 133 P st G = pm_go pm_sF 86 G (pm_oK 1 134 P st G) := pm_dn_eq (i := .iconst 1) (len := 1) rfl
theorem u_86_134 (P : PL) (st : List PV) (G : PW) : pm_dn pm_sF 86 134 P st G = pm_go pm_sF 86 G (pm_oGo (some 138) P st G) := pm_dn_eq (i := .goto 4) (len := 3) rfl
theorem u_86_137 (P : PL) (st : List PV) (G : PW) : pm_dn pm_sF 86 137 P st G = pm_go pm_sF 86 G (pm_oK 0 138 P st G) := pm_dn_eq (i := .iconst 0) (len := 1) rfl
theorem u_86_138 (P : PL) (st : List PV) (G : PW) : pm_dn pm_sF 86 138 P st G = pm_go pm_sF 86 G (pm_oIL 11 140 P st G) := pm_dn_eq (i := .iload 11) (len := 2) rfl
theorem u_86_140 (P : PL) (st : List PV) (G : PW) : pm_dn pm_sF 86 140 P st G = pm_go pm_sF 86 G (pm_oIf .lt (some 147) 143 P st G) := pm_dn_eq (i := .ifCond .lt 7) (len := 3) rfl
theorem u_86_143 (P : PL) (st : List PV) (G : PW) : pm_dn pm_sF 86 143 P st G = pm_go pm_sF 86 G (pm_oK 1 144 P st G) := pm_dn_eq (i := .iconst 1) (len := 1) rfl
theorem u_86_144 (P : PL) (st : List PV) (G : PW) : pm_dn pm_sF 86 144 P st G = pm_go pm_sF 86 G (pm_oGo (some 148) P st G) := pm_dn_eq (i := .goto 4) (len := 3) rfl
theorem u_86_147 (P : PL) (st : List PV) (G : PW) : pm_dn pm_sF 86 147 P st G = pm_go pm_sF 86 G (pm_oK 0 148 P st G) := pm_dn_eq (i := .iconst 0) (len := 1) rfl
theorem u_86_148 (P : PL) (st : List PV) (G : PW) : pm_dn pm_sF 86 148 P st G = pm_go pm_sF 86 G (pm_oIc .ne (some 232) 151 P st G) := pm_dn_eq (i := .if_icmp .ne 84) (len := 3) rfl
theorem u_86_151 (P : PL) (st : List PV) (G : PW) : pm_dn pm_sF 86 151 P st G = pm_go pm_sF 86 G (pm_oIL 9 153 P st G) := pm_dn_eq (i := .iload 9) (len := 2) rfl
theorem u_86_153 (P : PL) (st : List PV) (G : PW) : pm_dn pm_sF 86 153 P st G = pm_go pm_sF 86 G (pm_oIf .le (some 184) 156 P st G) := pm_dn_eq (i := .ifCond .le 31) (len := 3) rfl
theorem u_86_156 (P : PL) (st : List PV) (G : PW) : pm_dn pm_sF 86 156 P st G = pm_go pm_sF 86 G (pm_oIL 10 158 P st G) := pm_dn_eq (i := .iload 10) (len := 2) rfl
theorem u_86_158 (P : PL) (st : List PV) (G : PW) : pm_dn pm_sF 86 158 P st G = pm_go pm_sF 86 G (pm_oIL 7 160 P st G) := pm_dn_eq (i := .iload 7) (len := 2) rfl
theorem u_86_160 (P : PL) (st : List PV) (G : PW) : pm_dn pm_sF 86 160 P st G = pm_go pm_sF 86 G (pm_oIc .ne (some 170) 163 P st G) := pm_dn_eq (i := .if_icmp .ne 10) (len := 3) rfl
theorem u_86_163 (P : PL) (st : List PV) (G : PW) : pm_dn pm_sF 86 163 P st G = pm_go pm_sF 86 G (pm_oIL 11 165 P st G) := pm_dn_eq (i := .iload 11) (len := 2) rfl
theorem u_86_165 (P : PL) (st : List PV) (G : PW) : pm_dn pm_sF 86 165 P st G = pm_go pm_sF 86 G (pm_oIL 8 167 P st G) := pm_dn_eq (i := .iload 8) (len := 2) rfl
theorem u_86_167 (P : PL) (st : List PV) (G : PW) : pm_dn pm_sF 86 167 P st G = pm_go pm_sF 86 G (pm_oIc .eq (some 184) 170 P st G) := pm_dn_eq (i := .if_icmp .eq 17) (len := 3) rfl
theorem u_86_170 (P : PL) (st : List PV) (G : PW) : pm_dn pm_sF 86 170 P st G = pm_go pm_sF 86 G (pm_oIL 10 172 P st G) := pm_dn_eq (i := .iload 10) (len := 2) rfl
theorem u_86_172 (P : PL) (st : List PV) (G : PW) : pm_dn pm_sF 86 172 P st G = pm_go pm_sF 86 G (pm_oIL 8 174 P st G) := pm_dn_eq (i := .iload 8) (len := 2) rfl
theorem u_86_174 (P : PL) (st : List PV) (G : PW) : pm_dn pm_sF 86 174 P st G = pm_go pm_sF 86 G (pm_oIc .ne (some 232) 177 P st G) := pm_dn_eq (i := .if_icmp .ne 58) (len := 3) rfl
theorem u_86_177 (P : PL) (st : List PV) (G : PW) : pm_dn pm_sF 86 177 P st G = pm_go pm_sF 86 G (pm_oIL 11 179 P st G) := pm_dn_eq (i := .iload 11) (len := 2) rfl
theorem u_86_179 (P : PL) (st : List PV) (G : PW) : pm_dn pm_sF 86 179 P st G = pm_go pm_sF 86 G (pm_oIL 7 181 P st G) := pm_dn_eq (i := .iload 7) (len := 2) rfl
theorem u_86_181 (P : PL) (st : List PV) (G : PW) : pm_dn pm_sF 86 181 P st G = pm_go pm_sF 86 G (pm_oIc .ne (some 232) 184 P st G) := pm_dn_eq (i := .if_icmp .ne 51) (len := 3) rfl
theorem u_86_184 (P : PL) (st : List PV) (G : PW) : pm_dn pm_sF 86 184 P st G = pm_go pm_sF 86 G (pm_oIL 12 186 P st G) := pm_dn_eq (i := .iload 12) (len := 2) rfl
theorem u_86_186 (P : PL) (st : List PV) (G : PW) : pm_dn pm_sF 86 186 P st G = pm_go pm_sF 86 G (pm_oIf .eq (some 222) 189 P st G) := pm_dn_eq (i := .ifCond .eq 36) (len := 3) rfl
theorem u_86_189 (P : PL) (st : List PV) (G : PW) : pm_dn pm_sF 86 189 P st G = pm_go pm_sF 86 G (pm_oIL 7 191 P st G) := pm_dn_eq (i := .iload 7) (len := 2) rfl
theorem u_86_191 (P : PL) (st : List PV) (G : PW) : pm_dn pm_sF 86 191 P st G = pm_go pm_sF 86 G (pm_oK 16 193 P st G) := pm_dn_eq (i := .bipush 16) (len := 2) rfl
theorem u_86_193 (P : PL) (st : List PV) (G : PW) : pm_dn pm_sF 86 193 P st G = pm_go pm_sF 86 G (pm_oIc .eq (some 203) 196 P st G) := pm_dn_eq (i := .if_icmp .eq 10) (len := 3) rfl
theorem u_86_196 (P : PL) (st : List PV) (G : PW) : pm_dn pm_sF 86 196 P st G = pm_go pm_sF 86 G (pm_oIL 8 198 P st G) := pm_dn_eq (i := .iload 8) (len := 2) rfl
theorem u_86_198 (P : PL) (st : List PV) (G : PW) : pm_dn pm_sF 86 198 P st G = pm_go pm_sF 86 G (pm_oK 16 200 P st G) := pm_dn_eq (i := .bipush 16) (len := 2) rfl
theorem u_86_200 (P : PL) (st : List PV) (G : PW) : pm_dn pm_sF 86 200 P st G = pm_go pm_sF 86 G (pm_oIc .ne (some 207) 203 P st G) := pm_dn_eq (i := .if_icmp .ne 7) (len := 3) rfl
theorem u_86_203 (P : PL) (st : List PV) (G : PW) : pm_dn pm_sF 86 203 P st G = pm_go pm_sF 86 G (pm_oK 1 204 P st G) := pm_dn_eq (i := .iconst 1) (len := 1) rfl
theorem u_86_204 (P : PL) (st : List PV) (G : PW) : pm_dn pm_sF 86 204 P st G = pm_go pm_sF 86 G (pm_oGo (some 208) P st G) := pm_dn_eq (i := .goto 4) (len := 3) rfl
theorem u_86_207 (P : PL) (st : List PV) (G : PW) : pm_dn pm_sF 86 207 P st G = pm_go pm_sF 86 G (pm_oK 0 208 P st G) := pm_dn_eq (i := .iconst 0) (len := 1) rfl
theorem u_86_208 (P : PL) (st : List PV) (G : PW) : pm_dn pm_sF 86 208 P st G = pm_go pm_sF 86 G (pm_oIL 9 210 P st G) := pm_dn_eq (i := .iload 9) (len := 2) rfl
theorem u_86_210 (P : PL) (st : List PV) (G : PW) : pm_dn pm_sF 86 210 P st G = pm_go pm_sF 86 G (pm_oK 1 211 P st G) := pm_dn_eq (i := .iconst 1) (len := 1) rfl
theorem u_86_211 (P : PL) (st : List PV) (G : PW) : pm_dn pm_sF 86 211 P st G = pm_go pm_sF 86 G (pm_oIc .ne (some 218) 214 P st G) := pm_dn_eq (i := .if_icmp .ne 7) (len := 3) rfl
theorem u_86_214 (P : PL) (st : List PV) (G : PW) : pm_dn pm_sF 86 214 P st G = pm_go pm_sF 86 G (pm_oK 1 215 P st G) := pm_dn_eq (i := .iconst 1) (len := 1) rfl
theorem u_86_215 (P : PL) (st : List PV) (G : PW) : pm_dn pm_sF 86 215 P st G = pm_go pm_sF 86 G (pm_oGo (some 219) P st G) := pm_dn_eq (i := .goto 4) (len := 3) rfl
theorem u_86_218 (P : PL) (st : List PV) (G : PW) : pm_dn pm_sF 86 218 P st G = pm_go pm_sF 86 G (pm_oK 0 219 P st G) := pm_dn_eq (i := .iconst 0) (len := 1) rfl
theorem u_86_219 (P : PL) (st : List PV) (G : PW) : pm_dn pm_sF 86 219 P st G = pm_go pm_sF 86 G (pm_oIc .ne (some 232) 222 P st G) := pm_dn_eq (i := .if_icmp .ne 13) (len := 3) rfl
theorem u_86_222 (P : PL) (st : List PV) (G : PW) : pm_dn pm_sF 86 222 P st G = pm_go pm_sF 86 G (pm_oIL 12 224 P st G) := pm_dn_eq (i := .iload 12) (len := 2) rfl
theorem u_86_224 (P : PL) (st : List PV) (G : PW) : pm_dn pm_sF 86 224 P st G = pm_go pm_sF 86 G (pm_oIf .ne (some 234) 227 P st G) := pm_dn_eq (i := .ifCond .ne 10) (len := 3) rfl
theorem u_86_227 (P : PL) (st : List PV) (G : PW) : pm_dn pm_sF 86 227 P st G = pm_go pm_sF 86 G (pm_oIL 9 229 P st G) := pm_dn_eq (i := .iload 9) (len := 2) rfl
theorem u_86_229 (P : PL) (st : List PV) (G : PW) : pm_dn pm_sF 86 229 P st G = pm_go pm_sF 86 G (pm_oIf .le (some 234) 232 P st G) := pm_dn_eq (i := .ifCond .le 5) (len := 3) rfl
theorem u_86_232 (P : PL) (st : List PV) (G : PW) : pm_dn pm_sF 86 232 P st G = pm_go pm_sF 86 G (pm_oK 0 233 P st G) := pm_dn_eq (i := .iconst 0) (len := 1) rfl
theorem u_86_233 (P : PL) (st : List PV) (G : PW) : pm_dn pm_sF 86 233 P st G = pm_go pm_sF 86 G (pm_oRi 2 P st G) := pm_dn_eq (i := .ireturn) (len := 1) rfl
theorem u_86_234 (P : PL) (st : List PV) (G : PW) : pm_dn pm_sF 86 234 P st G = pm_go pm_sF 86 G (pm_oIL 12 236 P st G) := pm_dn_eq (i := .iload 12) (len := 2) rfl
theorem u_86_236 (P : PL) (st : List PV) (G : PW) : pm_dn pm_sF 86 236 P st G = pm_go pm_sF 86 G (pm_oIf .eq (some 266) 239 P st G) := pm_dn_eq (i := .ifCond .eq 30) (len := 3) rfl
theorem u_86_239 (P : PL) (st : List PV) (G : PW) : pm_dn pm_sF 86 239 P st G = pm_go pm_sF 86 G (pm_oIL 9 241 P st G) := pm_dn_eq (i := .iload 9) (len := 2) rfl
theorem u_86_241 (P : PL) (st : List PV) (G : PW) : pm_dn pm_sF 86 241 P st G = pm_go pm_sF 86 G (pm_oIf .ne (some 266) 244 P st G) := pm_dn_eq (i := .ifCond .ne 25) (len := 3) rfl
theorem u_86_244 (P : PL) (st : List PV) (G : PW) : pm_dn pm_sF 86 244 P st G = pm_go pm_sF 86 G (pm_oAL 0 245 P st G) := pm_dn_eq (i := .aload_n 0) (len := 1) rfl
theorem u_86_245 (P : PL) (st : List PV) (G : PW) : pm_dn pm_sF 86 245 P st G = pm_go pm_sF 86 G (pm_oIL 7 247 P st G) := pm_dn_eq (i := .iload 7) (len := 2) rfl
theorem u_86_247 (P : PL) (st : List PV) (G : PW) : pm_dn pm_sF 86 247 P st G = pm_go pm_sF 86 G (pm_oK 3 248 P st G) := pm_dn_eq (i := .iconst 3) (len := 1) rfl
theorem u_86_248 (P : PL) (st : List PV) (G : PW) : pm_dn pm_sF 86 248 P st G = pm_go pm_sF 86 G (pm_oCv pm_sF 58 2 3 5 251 P st G) := pm_dn_eq (i := .invokevirtual 24) (len := 3) rfl
theorem u_86_251 (P : PL) (st : List PV) (G : PW) : pm_dn pm_sF 86 251 P st G = pm_go pm_sF 86 G (pm_oK 1 252 P st G) := pm_dn_eq (i := .iconst 1) (len := 1) rfl
theorem u_86_252 (P : PL) (st : List PV) (G : PW) : pm_dn pm_sF 86 252 P st G = pm_go pm_sF 86 G (pm_oIc .eq (some 282) 255 P st G) := pm_dn_eq (i := .if_icmp .eq 30) (len := 3) rfl
theorem u_86_255 (P : PL) (st : List PV) (G : PW) : pm_dn pm_sF 86 255 P st G = pm_go pm_sF 86 G (pm_oAL 0 256 P st G) := pm_dn_eq (i := .aload_n 0) (len := 1) rfl
theorem u_86_256 (P : PL) (st : List PV) (G : PW) : pm_dn pm_sF 86 256 P st G = pm_go pm_sF 86 G (pm_oIL 8 258 P st G) := pm_dn_eq (i := .iload 8) (len := 2) rfl
theorem u_86_258 (P : PL) (st : List PV) (G : PW) : pm_dn pm_sF 86 258 P st G = pm_go pm_sF 86 G (pm_oK 3 259 P st G) := pm_dn_eq (i := .iconst 3) (len := 1) rfl
theorem u_86_259 (P : PL) (st : List PV) (G : PW) : pm_dn pm_sF 86 259 P st G = pm_go pm_sF 86 G (pm_oCv pm_sF 58 2 3 5 262 P st G) := pm_dn_eq (i := .invokevirtual 24) (len := 3) rfl
theorem u_86_262 (P : PL) (st : List PV) (G : PW) : pm_dn pm_sF 86 262 P st G = pm_go pm_sF 86 G (pm_oK 1 263 P st G) := pm_dn_eq (i := .iconst 1) (len := 1) rfl
theorem u_86_263 (P : PL) (st : List PV) (G : PW) : pm_dn pm_sF 86 263 P st G = pm_go pm_sF 86 G (pm_oIc .eq (some 282) 266 P st G) := pm_dn_eq (i := .if_icmp .eq 19) (len := 3) rfl
theorem u_86_266 (P : PL) (st : List PV) (G : PW) : pm_dn pm_sF 86 266 P st G = pm_go pm_sF 86 G (pm_oIL 9 268 P st G) := pm_dn_eq (i := .iload 9) (len := 2) rfl
theorem u_86_268 (P : PL) (st : List PV) (G : PW) : pm_dn pm_sF 86 268 P st G = pm_go pm_sF 86 G (pm_oK 2 269 P st G) := pm_dn_eq (i := .iconst 2) (len := 1) rfl
theorem u_86_269 (P : PL) (st : List PV) (G : PW) : pm_dn pm_sF 86 269 P st G = pm_go pm_sF 86 G (pm_oIc .ne (some 284) 272 P st G) := pm_dn_eq (i := .if_icmp .ne 15) (len := 3) rfl
theorem u_86_272 (P : PL) (st : List PV) (G : PW) : pm_dn pm_sF 86 272 P st G = pm_go pm_sF 86 G (pm_oAL 0 273 P st G) := pm_dn_eq (i := .aload_n 0) (len := 1) rfl
theorem u_86_273 (P : PL) (st : List PV) (G : PW) : pm_dn pm_sF 86 273 P st G = pm_go pm_sF 86 G (pm_oIL 11 275 P st G) := pm_dn_eq (i := .iload 11) (len := 2) rfl
theorem u_86_275 (P : PL) (st : List PV) (G : PW) : pm_dn pm_sF 86 275 P st G = pm_go pm_sF 86 G (pm_oK 3 276 P st G) := pm_dn_eq (i := .iconst 3) (len := 1) rfl
theorem u_86_276 (P : PL) (st : List PV) (G : PW) : pm_dn pm_sF 86 276 P st G = pm_go pm_sF 86 G (pm_oCv pm_sF 58 2 3 5 279 P st G) := pm_dn_eq (i := .invokevirtual 24) (len := 3) rfl
theorem u_86_279 (P : PL) (st : List PV) (G : PW) : pm_dn pm_sF 86 279 P st G = pm_go pm_sF 86 G (pm_oIf .ne (some 284) 282 P st G) := pm_dn_eq (i := .ifCond .ne 5) (len := 3) rfl
theorem u_86_282 (P : PL) (st : List PV) (G : PW) : pm_dn pm_sF 86 282 P st G = pm_go pm_sF 86 G (pm_oK 0 283 P st G) := pm_dn_eq (i := .iconst 0) (len := 1) rfl
theorem u_86_283 (P : PL) (st : List PV) (G : PW) : pm_dn pm_sF 86 283 P st G = pm_go pm_sF 86 G (pm_oRi 2 P st G) := pm_dn_eq (i := .ireturn) (len := 1) rfl
theorem u_86_284 (P : PL) (st : List PV) (G : PW) : pm_dn pm_sF 86 284 P st G = pm_go pm_sF 86 G (pm_oIL 9 286 P st G) := pm_dn_eq (i := .iload 9) (len := 2) rfl
theorem u_86_286 (P : PL) (st : List PV) (G : PW) : pm_dn pm_sF 86 286 P st G = pm_go pm_sF 86 G (pm_oIf .le (some 325) 289 P st G) := pm_dn_eq (i := .ifCond .le 39) (len := 3) rfl
theorem u_86_289 (P : PL) (st : List PV) (G : PW) : pm_dn pm_sF 86 289 P st G = pm_go pm_sF 86 G (pm_oAL 0 290 P st G) := pm_dn_eq (i := .aload_n 0) (len := 1) rfl
theorem u_86_290 (P : PL) (st : List PV) (G : PW) : pm_dn pm_sF 86 290 P st G = pm_go pm_sF 86 G (pm_oIL 6 292 P st G) := pm_dn_eq (i := .iload 6) (len := 2) rfl
theorem u_86_292 (P : PL) (st : List PV) (G : PW) : pm_dn pm_sF 86 292 P st G = pm_go pm_sF 86 G (pm_oK 8 294 P st G) := pm_dn_eq (i := .bipush 8) (len := 2) rfl
theorem u_86_294 (P : PL) (st : List PV) (G : PW) : pm_dn pm_sF 86 294 P st G = pm_go pm_sF 86 G (pm_oCv pm_sF 57 2 4 5 297 P st G) := pm_dn_eq (i := .invokevirtual 14) (len := 3) rfl
theorem u_86_297 (P : PL) (st : List PV) (G : PW) : pm_dn pm_sF 86 297 P st G = pm_go pm_sF 86 G (pm_oIf .lt (some 325) 300 P st G) := pm_dn_eq (i := .ifCond .lt 28) (len := 3) rfl
theorem u_86_300 (P : PL) (st : List PV) (G : PW) : pm_dn pm_sF 86 300 P st G = pm_go pm_sF 86 G (pm_oAL 0 301 P st G) := pm_dn_eq (i := .aload_n 0) (len := 1) rfl
theorem u_86_301 (P : PL) (st : List PV) (G : PW) : pm_dn pm_sF 86 301 P st G = pm_go pm_sF 86 G (pm_oAL 0 302 P st G) := pm_dn_eq (i := .aload_n 0) (len := 1) rfl
theorem u_86_302 (P : PL) (st : List PV) (G : PW) : pm_dn pm_sF 86 302 P st G = pm_go pm_sF 86 G (pm_oIL 6 304 P st G) := pm_dn_eq (i := .iload 6) (len := 2) rfl
theorem u_86_304 (P : PL) (st : List PV) (G : PW) : pm_dn pm_sF 86 304 P st G = pm_go pm_sF 86 G (pm_oK 8 306 P st G) := pm_dn_eq (i := .bipush 8) (len := 2) rfl
theorem u_86_306 (P : PL) (st : List PV) (G : PW) : pm_dn pm_sF 86 306 P st G = pm_go pm_sF 86 G (pm_oCv pm_sF 57 2 4 5 309 P st G) := pm_dn_eq (i := .invokevirtual 14) (len := 3) rfl
theorem u_86_309 (P : PL) (st : List PV) (G : PW) : pm_dn pm_sF 86 309 P st G = pm_go pm_sF 86 G (pm_oAL 0 310 P st G) := pm_dn_eq (i := .aload_n 0) (len := 1) rfl
theorem u_86_310 (P : PL) (st : List PV) (G : PW) : pm_dn pm_sF 86 310 P st G = pm_go pm_sF 86 G (pm_oIL 6 312 P st G) := pm_dn_eq (i := .iload 6) (len := 2) rfl
theorem u_86_312 (P : PL) (st : List PV) (G : PW) : pm_dn pm_sF 86 312 P st G = pm_go pm_sF 86 G (pm_oK 10 314 P st G) := pm_dn_eq (i := .bipush 10) (len := 2) rfl
theorem u_86_314 (P : PL) (st : List PV) (G : PW) : pm_dn pm_sF 86 314 P st G = pm_go pm_sF 86 G (pm_oCv pm_sF 57 2 4 5 317 P st G) := pm_dn_eq (i := .invokevirtual 14) (len := 3) rfl
theorem u_86_317 (P : PL) (st : List PV) (G : PW) : pm_dn pm_sF 86 317 P st G = pm_go pm_sF 86 G (pm_oCv pm_sF 57 2 4 5 320 P st G) := pm_dn_eq (i := .invokevirtual 14) (len := 3) rfl
theorem u_86_320 (P : PL) (st : List PV) (G : PW) : pm_dn pm_sF 86 320 P st G = pm_go pm_sF 86 G (pm_oIL 10 322 P st G) := pm_dn_eq (i := .iload 10) (len := 2) rfl
theorem u_86_322 (P : PL) (st : List PV) (G : PW) : pm_dn pm_sF 86 322 P st G = pm_go pm_sF 86 G (pm_oIc .ne (some 366) 325 P st G) := pm_dn_eq (i := .if_icmp .ne 44) (len := 3) rfl
theorem u_86_325 (P : PL) (st : List PV) (G : PW) : pm_dn pm_sF 86 325 P st G = pm_go pm_sF 86 G (pm_oIL 9 327 P st G) := pm_dn_eq (i := .iload 9) (len := 2) rfl
theorem u_86_327 (P : PL) (st : List PV) (G : PW) : pm_dn pm_sF 86 327 P st G = pm_go pm_sF 86 G (pm_oIf .le (some 368) 330 P st G) := pm_dn_eq (i := .ifCond .le 41) (len := 3) rfl
theorem u_86_330 (P : PL) (st : List PV) (G : PW) : pm_dn pm_sF 86 330 P st G = pm_go pm_sF 86 G (pm_oAL 0 331 P st G) := pm_dn_eq (i := .aload_n 0) (len := 1) rfl
theorem u_86_331 (P : PL) (st : List PV) (G : PW) : pm_dn pm_sF 86 331 P st G = pm_go pm_sF 86 G (pm_oIL 6 333 P st G) := pm_dn_eq (i := .iload 6) (len := 2) rfl
theorem u_86_333 (P : PL) (st : List PV) (G : PW) : pm_dn pm_sF 86 333 P st G = pm_go pm_sF 86 G (pm_oK 9 335 P st G) := pm_dn_eq (i := .bipush 9) (len := 2) rfl
theorem u_86_335 (P : PL) (st : List PV) (G : PW) : pm_dn pm_sF 86 335 P st G = pm_go pm_sF 86 G (pm_oCv pm_sF 57 2 4 5 338 P st G) := pm_dn_eq (i := .invokevirtual 14) (len := 3) rfl
theorem u_86_338 (P : PL) (st : List PV) (G : PW) : pm_dn pm_sF 86 338 P st G = pm_go pm_sF 86 G (pm_oIf .lt (some 368) 341 P st G) := pm_dn_eq (i := .ifCond .lt 30) (len := 3) rfl
theorem u_86_341 (P : PL) (st : List PV) (G : PW) : pm_dn pm_sF 86 341 P st G = pm_go pm_sF 86 G (pm_oAL 0 342 P st G) := pm_dn_eq (i := .aload_n 0) (len := 1) rfl
theorem u_86_342 (P : PL) (st : List PV) (G : PW) : pm_dn pm_sF 86 342 P st G = pm_go pm_sF 86 G (pm_oAL 0 343 P st G) := pm_dn_eq (i := .aload_n 0) (len := 1) rfl
theorem u_86_343 (P : PL) (st : List PV) (G : PW) : pm_dn pm_sF 86 343 P st G = pm_go pm_sF 86 G (pm_oIL 6 345 P st G) := pm_dn_eq (i := .iload 6) (len := 2) rfl
theorem u_86_345 (P : PL) (st : List PV) (G : PW) : pm_dn pm_sF 86 345 P st G = pm_go pm_sF 86 G (pm_oK 9 347 P st G) := pm_dn_eq (i := .bipush 9) (len := 2) rfl
theorem u_86_347 (P : PL) (st : List PV) (G : PW) : pm_dn pm_sF 86 347 P st G = pm_go pm_sF 86 G (pm_oCv pm_sF 57 2 4 5 350 P st G) := pm_dn_eq (i := .invokevirtual 14) (len := 3) rfl
theorem u_86_350 (P : PL) (st : List PV) (G : PW) : pm_dn pm_sF 86 350 P st G = pm_go pm_sF 86 G (pm_oAL 0 351 P st G) := pm_dn_eq (i := .aload_n 0) (len := 1) rfl
theorem u_86_351 (P : PL) (st : List PV) (G : PW) : pm_dn pm_sF 86 351 P st G = pm_go pm_sF 86 G (pm_oIL 6 353 P st G) := pm_dn_eq (i := .iload 6) (len := 2) rfl
theorem u_86_353 (P : PL) (st : List PV) (G : PW) : pm_dn pm_sF 86 353 P st G = pm_go pm_sF 86 G (pm_oK 11 355 P st G) := pm_dn_eq (i := .bipush 11) (len := 2) rfl
theorem u_86_355 (P : PL) (st : List PV) (G : PW) : pm_dn pm_sF 86 355 P st G = pm_go pm_sF 86 G (pm_oCv pm_sF 57 2 4 5 358 P st G) := pm_dn_eq (i := .invokevirtual 14) (len := 3) rfl
theorem u_86_358 (P : PL) (st : List PV) (G : PW) : pm_dn pm_sF 86 358 P st G = pm_go pm_sF 86 G (pm_oCv pm_sF 57 2 4 5 361 P st G) := pm_dn_eq (i := .invokevirtual 14) (len := 3) rfl
theorem u_86_361 (P : PL) (st : List PV) (G : PW) : pm_dn pm_sF 86 361 P st G = pm_go pm_sF 86 G (pm_oIL 11 363 P st G) := pm_dn_eq (i := .iload 11) (len := 2) rfl
theorem u_86_363 (P : PL) (st : List PV) (G : PW) : pm_dn pm_sF 86 363 P st G = pm_go pm_sF 86 G (pm_oIc .eq (some 368) 366 P st G) := pm_dn_eq (i := .if_icmp .eq 5) (len := 3) rfl
theorem u_86_366 (P : PL) (st : List PV) (G : PW) : pm_dn pm_sF 86 366 P st G = pm_go pm_sF 86 G (pm_oK 0 367 P st G) := pm_dn_eq (i := .iconst 0) (len := 1) rfl
theorem u_86_367 (P : PL) (st : List PV) (G : PW) : pm_dn pm_sF 86 367 P st G = pm_go pm_sF 86 G (pm_oRi 2 P st G) := pm_dn_eq (i := .ireturn) (len := 1) rfl
theorem u_86_368 (P : PL) (st : List PV) (G : PW) : pm_dn pm_sF 86 368 P st G = pm_go pm_sF 86 G (pm_oIL 9 370 P st G) := pm_dn_eq (i := .iload 9) (len := 2) rfl
theorem u_86_370 (P : PL) (st : List PV) (G : PW) : pm_dn pm_sF 86 370 P st G = pm_go pm_sF 86 G (pm_oK 1 371 P st G) := pm_dn_eq (i := .iconst 1) (len := 1) rfl
theorem u_86_371 (P : PL) (st : List PV) (G : PW) : pm_dn pm_sF 86 371 P st G = pm_go pm_sF 86 G (pm_oIc .le (some 390) 374 P st G) := pm_dn_eq (i := .if_icmp .le 19) (len := 3) rfl
theorem u_86_374 (P : PL) (st : List PV) (G : PW) : pm_dn pm_sF 86 374 P st G = pm_go pm_sF 86 G (pm_oAL 2 375 P st G) := pm_dn_eq (i := .aload_n 2) (len := 1) rfl
theorem u_86_375 (P : PL) (st : List PV) (G : PW) : pm_dn pm_sF 86 375 P st G = pm_go pm_sF 86 G (pm_oIL 10 377 P st G) := pm_dn_eq (i := .iload 10) (len := 2) rfl
theorem u_86_377 (P : PL) (st : List PV) (G : PW) : pm_dn pm_sF 86 377 P st G = pm_go pm_sF 86 G (pm_oDu2 378 P st G) := pm_dn_eq (i := .dup2) (len := 1) rfl
theorem u_86_378 (P : PL) (st : List PV) (G : PW) : pm_dn pm_sF 86 378 P st G = pm_go pm_sF 86 G (pm_oAld pm_sF 0 379 P st G) := pm_dn_eq (i := .iaload) (len := 1) rfl
theorem u_86_379 (P : PL) (st : List PV) (G : PW) : pm_dn pm_sF 86 379 P st G = pm_go pm_sF 86 G (pm_oK 1 380 P st G) := pm_dn_eq (i := .iconst 1) (len := 1) rfl
theorem u_86_380 (P : PL) (st : List PV) (G : PW) : pm_dn pm_sF 86 380 P st G = pm_go pm_sF 86 G (pm_oAdd 381 P st G) := pm_dn_eq (i := .iadd) (len := 1) rfl
theorem u_86_381 (P : PL) (st : List PV) (G : PW) : pm_dn pm_sF 86 381 P st G = pm_go pm_sF 86 G (pm_oAst pm_sF 0 382 P st G) := pm_dn_eq (i := .iastore) (len := 1) rfl
theorem u_86_382 (P : PL) (st : List PV) (G : PW) : pm_dn pm_sF 86 382 P st G = pm_go pm_sF 86 G (pm_oAL 3 383 P st G) := pm_dn_eq (i := .aload_n 3) (len := 1) rfl
theorem u_86_383 (P : PL) (st : List PV) (G : PW) : pm_dn pm_sF 86 383 P st G = pm_go pm_sF 86 G (pm_oIL 11 385 P st G) := pm_dn_eq (i := .iload 11) (len := 2) rfl
theorem u_86_385 (P : PL) (st : List PV) (G : PW) : pm_dn pm_sF 86 385 P st G = pm_go pm_sF 86 G (pm_oDu2 386 P st G) := pm_dn_eq (i := .dup2) (len := 1) rfl
theorem u_86_386 (P : PL) (st : List PV) (G : PW) : pm_dn pm_sF 86 386 P st G = pm_go pm_sF 86 G (pm_oAld pm_sF 0 387 P st G) := pm_dn_eq (i := .iaload) (len := 1) rfl
theorem u_86_387 (P : PL) (st : List PV) (G : PW) : pm_dn pm_sF 86 387 P st G = pm_go pm_sF 86 G (pm_oK 1 388 P st G) := pm_dn_eq (i := .iconst 1) (len := 1) rfl
theorem u_86_388 (P : PL) (st : List PV) (G : PW) : pm_dn pm_sF 86 388 P st G = pm_go pm_sF 86 G (pm_oAdd 389 P st G) := pm_dn_eq (i := .iadd) (len := 1) rfl
theorem u_86_389 (P : PL) (st : List PV) (G : PW) : pm_dn pm_sF 86 389 P st G = pm_go pm_sF 86 G (pm_oAst pm_sF 0 390 P st G) := pm_dn_eq (i := .iastore) (len := 1) rfl
theorem u_86_390 (P : PL) (st : List PV) (G : PW) : pm_dn pm_sF 86 390 P st G = pm_go pm_sF 86 G (pm_oIL 9 392 P st G) := pm_dn_eq (i := .iload 9) (len := 2) rfl
theorem u_86_392 (P : PL) (st : List PV) (G : PW) : pm_dn pm_sF 86 392 P st G = pm_go pm_sF 86 G (pm_oIf .ne (some 433) 395 P st G) := pm_dn_eq (i := .ifCond .ne 41) (len := 3) rfl
theorem u_86_395 (P : PL) (st : List PV) (G : PW) : pm_dn pm_sF 86 395 P st G = pm_go pm_sF 86 G (pm_oAL 4 397 P st G) := pm_dn_eq (i := .aload 4) (len := 2) rfl
theorem u_86_397 (P : PL) (st : List PV) (G : PW) : pm_dn pm_sF 86 397 P st G = pm_go pm_sF 86 G (pm_oIL 7 399 P st G) := pm_dn_eq (i := .iload 7) (len := 2) rfl
theorem u_86_399 (P : PL) (st : List PV) (G : PW) : pm_dn pm_sF 86 399 P st G = pm_go pm_sF 86 G (pm_oIf .ge (some 407) 402 P st G) := pm_dn_eq (i := .ifCond .ge 8) (len := 3) rfl
theorem u_86_402 (P : PL) (st : List PV) (G : PW) : pm_dn pm_sF 86 402 P st G = pm_go pm_sF 86 G (pm_oK 16 404 P st G) := pm_dn_eq (i := .bipush 16) (len := 2) rfl
theorem u_86_404 (P : PL) (st : List PV) (G : PW) : pm_dn pm_sF 86 404 P st G = pm_go pm_sF 86 G (pm_oGo (some 409) P st G) := pm_dn_eq (i := .goto 5) (len := 3) rfl
theorem u_86_407 (P : PL) (st : List PV) (G : PW) : pm_dn pm_sF 86 407 P st G = pm_go pm_sF 86 G (pm_oIL 7 409 P st G) := pm_dn_eq (i := .iload 7) (len := 2) rfl
theorem u_86_409 (P : PL) (st : List PV) (G : PW) : pm_dn pm_sF 86 409 P st G = pm_go pm_sF 86 G (pm_oK 1 410 P st G) := pm_dn_eq (i := .iconst 1) (len := 1) rfl
theorem u_86_410 (P : PL) (st : List PV) (G : PW) : pm_dn pm_sF 86 410 P st G = pm_go pm_sF 86 G (pm_oIL 6 412 P st G) := pm_dn_eq (i := .iload 6) (len := 2) rfl
theorem u_86_412 (P : PL) (st : List PV) (G : PW) : pm_dn pm_sF 86 412 P st G = pm_go pm_sF 86 G (pm_oAdd 413 P st G) := pm_dn_eq (i := .iadd) (len := 1) rfl
theorem u_86_413 (P : PL) (st : List PV) (G : PW) : pm_dn pm_sF 86 413 P st G = pm_go pm_sF 86 G (pm_oAst pm_sF 0 414 P st G) := pm_dn_eq (i := .iastore) (len := 1) rfl
theorem u_86_414 (P : PL) (st : List PV) (G : PW) : pm_dn pm_sF 86 414 P st G = pm_go pm_sF 86 G (pm_oAL 4 416 P st G) := pm_dn_eq (i := .aload 4) (len := 2) rfl
theorem u_86_416 (P : PL) (st : List PV) (G : PW) : pm_dn pm_sF 86 416 P st G = pm_go pm_sF 86 G (pm_oIL 8 418 P st G) := pm_dn_eq (i := .iload 8) (len := 2) rfl
theorem u_86_418 (P : PL) (st : List PV) (G : PW) : pm_dn pm_sF 86 418 P st G = pm_go pm_sF 86 G (pm_oIf .ge (some 426) 421 P st G) := pm_dn_eq (i := .ifCond .ge 8) (len := 3) rfl
theorem u_86_421 (P : PL) (st : List PV) (G : PW) : pm_dn pm_sF 86 421 P st G = pm_go pm_sF 86 G (pm_oK 16 423 P st G) := pm_dn_eq (i := .bipush 16) (len := 2) rfl
theorem u_86_423 (P : PL) (st : List PV) (G : PW) : pm_dn pm_sF 86 423 P st G = pm_go pm_sF 86 G (pm_oGo (some 428) P st G) := pm_dn_eq (i := .goto 5) (len := 3) rfl
theorem u_86_426 (P : PL) (st : List PV) (G : PW) : pm_dn pm_sF 86 426 P st G = pm_go pm_sF 86 G (pm_oIL 8 428 P st G) := pm_dn_eq (i := .iload 8) (len := 2) rfl
theorem u_86_428 (P : PL) (st : List PV) (G : PW) : pm_dn pm_sF 86 428 P st G = pm_go pm_sF 86 G (pm_oK 1 429 P st G) := pm_dn_eq (i := .iconst 1) (len := 1) rfl
theorem u_86_429 (P : PL) (st : List PV) (G : PW) : pm_dn pm_sF 86 429 P st G = pm_go pm_sF 86 G (pm_oIL 6 431 P st G) := pm_dn_eq (i := .iload 6) (len := 2) rfl
theorem u_86_431 (P : PL) (st : List PV) (G : PW) : pm_dn pm_sF 86 431 P st G = pm_go pm_sF 86 G (pm_oAdd 432 P st G) := pm_dn_eq (i := .iadd) (len := 1) rfl
theorem u_86_432 (P : PL) (st : List PV) (G : PW) : pm_dn pm_sF 86 432 P st G = pm_go pm_sF 86 G (pm_oAst pm_sF 0 433 P st G) := pm_dn_eq (i := .iastore) (len := 1) rfl
theorem u_86_433 (P : PL) (st : List PV) (G : PW) : pm_dn pm_sF 86 433 P st G = pm_go pm_sF 86 G (pm_oInc 6 1 436 P st G) := pm_dn_eq (i := .iinc 6 1) (len := 3) rfl
theorem u_86_436 (P : PL) (st : List PV) (G : PW) : pm_dn pm_sF 86 436 P st G = pm_go pm_sF 86 G (pm_oGo (some 24) P st G) := pm_dn_eq (i := .goto (-412)) (len := 3) rfl
theorem u_86_439 (P : PL) (st : List PV) (G : PW) : pm_dn pm_sF 86 439 P st G = pm_go pm_sF 86 G (pm_oK 0 440 P st G) := pm_dn_eq (i := .iconst 0) (len := 1) rfl
theorem u_86_440 (P : PL) (st : List PV) (G : PW) : pm_dn pm_sF 86 440 P st G = pm_go pm_sF 86 G (pm_oIS 6 442 P st G) := pm_dn_eq (i := .istore 6) (len := 2) rfl
theorem u_86_442 (P : PL) (st : List PV) (G : PW) : pm_dn pm_sF 86 442 P st G = pm_go pm_sF 86 G (pm_oK 0 443 P st G) := pm_dn_eq (i := .iconst 0) (len := 1) rfl
theorem u_86_443 (P : PL) (st : List PV) (G : PW) : pm_dn pm_sF 86 443 P st G = pm_go pm_sF 86 G (pm_oIS 7 445 P st G) := pm_dn_eq (i := .istore 7) (len := 2) rfl
theorem u_86_445 (P : PL) (st : List PV) (G : PW) : pm_dn pm_sF 86 445 P st G = pm_go pm_sF 86 G (pm_oIL 7 447 P st G) := pm_dn_eq (i := .iload 7) (len := 2) rfl
theorem u_86_447 (P : PL) (st : List PV) (G : PW) : pm_dn pm_sF 86 447 P st G = pm_go pm_sF 86 G (pm_oIL 1 448 P st G) := pm_dn_eq (i := .iload_n 1) (len := 1) rfl
theorem u_86_448 (P : PL) (st : List PV) (G : PW) : pm_dn pm_sF 86 448 P st G = pm_go pm_sF 86 G (pm_oIc .ge (some 691) 451 P st G) := pm_dn_eq (i := .if_icmp .ge 243) (len := 3) rfl
theorem u_86_451 (P : PL) (st : List PV) (G : PW) : pm_dn pm_sF 86 451 P st G = pm_go pm_sF 86 G (pm_oAL 0 452 P st G) := pm_dn_eq (i := .aload_n 0) (len := 1) rfl
theorem u_86_452 (P : PL) (st : List PV) (G : PW) : pm_dn pm_sF 86 452 P st G = pm_go pm_sF 86 G (pm_oIL 7 454 P st G) := pm_dn_eq (i := .iload 7) (len := 2) rfl
theorem u_86_454 (P : PL) (st : List PV) (G : PW) : pm_dn pm_sF 86 454 P st G = pm_go pm_sF 86 G (pm_oK 6 456 P st G) := pm_dn_eq (i := .bipush 6) (len := 2) rfl
theorem u_86_456 (P : PL) (st : List PV) (G : PW) : pm_dn pm_sF 86 456 P st G = pm_go pm_sF 86 G (pm_oCv pm_sF 58 2 3 5 459 P st G) := pm_dn_eq (i := .invokevirtual 24) (len := 3) rfl
theorem u_86_459 (P : PL) (st : List PV) (G : PW) : pm_dn pm_sF 86 459 P st G = pm_go pm_sF 86 G (pm_oIS 8 461 P st G) := pm_dn_eq (i := .istore 8) (len := 2) rfl
theorem u_86_461 (P : PL) (st : List PV) (G : PW) : pm_dn pm_sF 86 461 P st G = pm_go pm_sF 86 G (pm_oIL 8 463 P st G) := pm_dn_eq (i := .iload 8) (len := 2) rfl
theorem u_86_463 (P : PL) (st : List PV) (G : PW) : pm_dn pm_sF 86 463 P st G = pm_go pm_sF 86 G (pm_oK 1 464 P st G) := pm_dn_eq (i := .iconst 1) (len := 1) rfl
theorem u_86_464 (P : PL) (st : List PV) (G : PW) : pm_dn pm_sF 86 464 P st G = pm_go pm_sF 86 G (pm_oIc .ne (some 471) 467 P st G) := pm_dn_eq (i := .if_icmp .ne 7) (len := 3) rfl
theorem u_86_467 (P : PL) (st : List PV) (G : PW) : pm_dn pm_sF 86 467 P st G = pm_go pm_sF 86 G (pm_oK 1 468 P st G) := pm_dn_eq (i := .iconst 1) (len := 1) rfl
theorem u_86_468 (P : PL) (st : List PV) (G : PW) : pm_dn pm_sF 86 468 P st G = pm_go pm_sF 86 G (pm_oGo (some 472) P st G) := pm_dn_eq (i := .goto 4) (len := 3) rfl
theorem u_86_471 (P : PL) (st : List PV) (G : PW) : pm_dn pm_sF 86 471 P st G = pm_go pm_sF 86 G (pm_oK 0 472 P st G) := pm_dn_eq (i := .iconst 0) (len := 1) rfl
theorem u_86_472 (P : PL) (st : List PV) (G : PW) : pm_dn pm_sF 86 472 P st G = pm_go pm_sF 86 G (pm_oIS 9 474 P st G) := pm_dn_eq (i := .istore 9) (len := 2) rfl
theorem u_86_474 (P : PL) (st : List PV) (G : PW) : pm_dn pm_sF 86 474 P st G = pm_go pm_sF 86 G (pm_oIL 6 476 P st G) := pm_dn_eq (i := .iload 6) (len := 2) rfl
theorem u_86_476 (P : PL) (st : List PV) (G : PW) : pm_dn pm_sF 86 476 P st G = pm_go pm_sF 86 G (pm_oIL 8 478 P st G) := pm_dn_eq (i := .iload 8) (len := 2) rfl
theorem u_86_478 (P : PL) (st : List PV) (G : PW) : pm_dn pm_sF 86 478 P st G = pm_go pm_sF 86 G (pm_oIf .lt (some 485) 481 P st G) := pm_dn_eq (i := .ifCond .lt 7) (len := 3) rfl
theorem u_86_481 (P : PL) (st : List PV) (G : PW) : pm_dn pm_sF 86 481 P st G = pm_go pm_sF 86 G (pm_oK 1 482 P st G) := pm_dn_eq (i := .iconst 1) (len := 1) rfl
theorem u_86_482 (P : PL) (st : List PV) (G : PW) : pm_dn pm_sF 86 482 P st G = pm_go pm_sF 86 G (pm_oGo (some 486) P st G) := pm_dn_eq (i := .goto 4) (len := 3) rfl
theorem u_86_485 (P : PL) (st : List PV) (G : PW) : pm_dn pm_sF 86 485 P st G = pm_go pm_sF 86 G (pm_oK 0 486 P st G) := pm_dn_eq (i := .iconst 0) (len := 1) rfl
theorem u_86_486 (P : PL) (st : List PV) (G : PW) : pm_dn pm_sF 86 486 P st G = pm_go pm_sF 86 G (pm_oAdd 487 P st G) := pm_dn_eq (i := .iadd) (len := 1) rfl
theorem u_86_487 (P : PL) (st : List PV) (G : PW) : pm_dn pm_sF 86 487 P st G = pm_go pm_sF 86 G (pm_oIS 6 489 P st G) := pm_dn_eq (i := .istore 6) (len := 2) rfl
theorem u_86_489 (P : PL) (st : List PV) (G : PW) : pm_dn pm_sF 86 489 P st G = pm_go pm_sF 86 G (pm_oAL 0 490 P st G) := pm_dn_eq (i := .aload_n 0) (len := 1) rfl
theorem u_86_490 (P : PL) (st : List PV) (G : PW) : pm_dn pm_sF 86 490 P st G = pm_go pm_sF 86 G (pm_oIL 7 492 P st G) := pm_dn_eq (i := .iload 7) (len := 2) rfl
theorem u_86_492 (P : PL) (st : List PV) (G : PW) : pm_dn pm_sF 86 492 P st G = pm_go pm_sF 86 G (pm_oK 1 493 P st G) := pm_dn_eq (i := .iconst 1) (len := 1) rfl
theorem u_86_493 (P : PL) (st : List PV) (G : PW) : pm_dn pm_sF 86 493 P st G = pm_go pm_sF 86 G (pm_oCv pm_sF 58 2 3 5 496 P st G) := pm_dn_eq (i := .invokevirtual 24) (len := 3) rfl
theorem u_86_496 (P : PL) (st : List PV) (G : PW) : pm_dn pm_sF 86 496 P st G = pm_go pm_sF 86 G (pm_oAL 2 497 P st G) := pm_dn_eq (i := .aload_n 2) (len := 1) rfl
theorem u_86_497 (P : PL) (st : List PV) (G : PW) : pm_dn pm_sF 86 497 P st G = pm_go pm_sF 86 G (pm_oIL 7 499 P st G) := pm_dn_eq (i := .iload 7) (len := 2) rfl
theorem u_86_499 (P : PL) (st : List PV) (G : PW) : pm_dn pm_sF 86 499 P st G = pm_go pm_sF 86 G (pm_oAld pm_sF 0 500 P st G) := pm_dn_eq (i := .iaload) (len := 1) rfl
theorem u_86_500 (P : PL) (st : List PV) (G : PW) : pm_dn pm_sF 86 500 P st G = pm_go pm_sF 86 G (pm_oIc .ne (some 683) 503 P st G) := pm_dn_eq (i := .if_icmp .ne 183) (len := 3) rfl
theorem u_86_503 (P : PL) (st : List PV) (G : PW) : pm_dn pm_sF 86 503 P st G = pm_go pm_sF 86 G (pm_oAL 0 504 P st G) := pm_dn_eq (i := .aload_n 0) (len := 1) rfl
theorem u_86_504 (P : PL) (st : List PV) (G : PW) : pm_dn pm_sF 86 504 P st G = pm_go pm_sF 86 G (pm_oIL 7 506 P st G) := pm_dn_eq (i := .iload 7) (len := 2) rfl
theorem u_86_506 (P : PL) (st : List PV) (G : PW) : pm_dn pm_sF 86 506 P st G = pm_go pm_sF 86 G (pm_oK 2 507 P st G) := pm_dn_eq (i := .iconst 2) (len := 1) rfl
theorem u_86_507 (P : PL) (st : List PV) (G : PW) : pm_dn pm_sF 86 507 P st G = pm_go pm_sF 86 G (pm_oCv pm_sF 58 2 3 5 510 P st G) := pm_dn_eq (i := .invokevirtual 24) (len := 3) rfl
theorem u_86_510 (P : PL) (st : List PV) (G : PW) : pm_dn pm_sF 86 510 P st G = pm_go pm_sF 86 G (pm_oAL 3 511 P st G) := pm_dn_eq (i := .aload_n 3) (len := 1) rfl
theorem u_86_511 (P : PL) (st : List PV) (G : PW) : pm_dn pm_sF 86 511 P st G = pm_go pm_sF 86 G (pm_oIL 7 513 P st G) := pm_dn_eq (i := .iload 7) (len := 2) rfl
theorem u_86_513 (P : PL) (st : List PV) (G : PW) : pm_dn pm_sF 86 513 P st G = pm_go pm_sF 86 G (pm_oAld pm_sF 0 514 P st G) := pm_dn_eq (i := .iaload) (len := 1) rfl
theorem u_86_514 (P : PL) (st : List PV) (G : PW) : pm_dn pm_sF 86 514 P st G = pm_go pm_sF 86 G (pm_oIc .ne (some 683) 517 P st G) := pm_dn_eq (i := .if_icmp .ne 169) (len := 3) rfl
theorem u_86_517 (P : PL) (st : List PV) (G : PW) : pm_dn pm_sF 86 517 P st G = pm_go pm_sF 86 G (pm_oAL 3 518 P st G) := pm_dn_eq (i := .aload_n 3) (len := 1) rfl
theorem u_86_518 (P : PL) (st : List PV) (G : PW) : pm_dn pm_sF 86 518 P st G = pm_go pm_sF 86 G (pm_oIL 7 520 P st G) := pm_dn_eq (i := .iload 7) (len := 2) rfl
theorem u_86_520 (P : PL) (st : List PV) (G : PW) : pm_dn pm_sF 86 520 P st G = pm_go pm_sF 86 G (pm_oAld pm_sF 0 521 P st G) := pm_dn_eq (i := .iaload) (len := 1) rfl
theorem u_86_521 (P : PL) (st : List PV) (G : PW) : pm_dn pm_sF 86 521 P st G = pm_go pm_sF 86 G (pm_oK 2 522 P st G) := pm_dn_eq (i := .iconst 2) (len := 1) rfl
theorem u_86_522 (P : PL) (st : List PV) (G : PW) : pm_dn pm_sF 86 522 P st G = pm_go pm_sF 86 G (pm_oIc .gt (some 683) 525 P st G) := pm_dn_eq (i := .if_icmp .gt 161) (len := 3) rfl
theorem u_86_525 (P : PL) (st : List PV) (G : PW) : pm_dn pm_sF 86 525 P st G = pm_go pm_sF 86 G (pm_oIL 8 527 P st G) := pm_dn_eq (i := .iload 8) (len := 2) rfl
theorem u_86_527 (P : PL) (st : List PV) (G : PW) : pm_dn pm_sF 86 527 P st G = pm_go pm_sF 86 G (pm_oK 1 528 P st G) := pm_dn_eq (i := .iconst 1) (len := 1) rfl
theorem u_86_528 (P : PL) (st : List PV) (G : PW) : pm_dn pm_sF 86 528 P st G = pm_go pm_sF 86 G (pm_oIc .le (some 535) 531 P st G) := pm_dn_eq (i := .if_icmp .le 7) (len := 3) rfl
theorem u_86_531 (P : PL) (st : List PV) (G : PW) : pm_dn pm_sF 86 531 P st G = pm_go pm_sF 86 G (pm_oK 1 532 P st G) := pm_dn_eq (i := .iconst 1) (len := 1) rfl
theorem u_86_532 (P : PL) (st : List PV) (G : PW) : pm_dn pm_sF 86 532 P st G = pm_go pm_sF 86 G (pm_oGo (some 536) P st G) := pm_dn_eq (i := .goto 4) (len := 3) rfl
theorem u_86_535 (P : PL) (st : List PV) (G : PW) : pm_dn pm_sF 86 535 P st G = pm_go pm_sF 86 G (pm_oK 0 536 P st G) := pm_dn_eq (i := .iconst 0) (len := 1) rfl
theorem u_86_536 (P : PL) (st : List PV) (G : PW) : pm_dn pm_sF 86 536 P st G = pm_go pm_sF 86 G (pm_oAL 3 537 P st G) := pm_dn_eq (i := .aload_n 3) (len := 1) rfl
theorem u_86_537 (P : PL) (st : List PV) (G : PW) : pm_dn pm_sF 86 537 P st G = pm_go pm_sF 86 G (pm_oIL 7 539 P st G) := pm_dn_eq (i := .iload 7) (len := 2) rfl
theorem u_86_539 (P : PL) (st : List PV) (G : PW) : pm_dn pm_sF 86 539 P st G = pm_go pm_sF 86 G (pm_oAld pm_sF 0 540 P st G) := pm_dn_eq (i := .iaload) (len := 1) rfl
theorem u_86_540 (P : PL) (st : List PV) (G : PW) : pm_dn pm_sF 86 540 P st G = pm_go pm_sF 86 G (pm_oK 2 541 P st G) := pm_dn_eq (i := .iconst 2) (len := 1) rfl
theorem u_86_541 (P : PL) (st : List PV) (G : PW) : pm_dn pm_sF 86 541 P st G = pm_go pm_sF 86 G (pm_oIc .ne (some 548) 544 P st G) := pm_dn_eq (i := .if_icmp .ne 7) (len := 3) rfl
theorem u_86_544 (P : PL) (st : List PV) (G : PW) : pm_dn pm_sF 86 544 P st G = pm_go pm_sF 86 G (pm_oK 1 545 P st G) := pm_dn_eq (i := .iconst 1) (len := 1) rfl
theorem u_86_545 (P : PL) (st : List PV) (G : PW) : pm_dn pm_sF 86 545 P st G = pm_go pm_sF 86 G (pm_oGo (some 549) P st G) := pm_dn_eq (i := .goto 4) (len := 3) rfl
theorem u_86_548 (P : PL) (st : List PV) (G : PW) : pm_dn pm_sF 86 548 P st G = pm_go pm_sF 86 G (pm_oK 0 549 P st G) := pm_dn_eq (i := .iconst 0) (len := 1) rfl
theorem u_86_549 (P : PL) (st : List PV) (G : PW) : pm_dn pm_sF 86 549 P st G = pm_go pm_sF 86 G (pm_oIc .eq (some 575) 552 P st G) := pm_dn_eq (i := .if_icmp .eq 26) (len := 3) rfl
theorem u_86_552 (P : PL) (st : List PV) (G : PW) : pm_dn pm_sF 86 552 P st G = pm_go pm_sF 86 G (pm_oIL 8 554 P st G) := pm_dn_eq (i := .iload 8) (len := 2) rfl
theorem u_86_554 (P : PL) (st : List PV) (G : PW) : pm_dn pm_sF 86 554 P st G = pm_go pm_sF 86 G (pm_oK 2 555 P st G) := pm_dn_eq (i := .iconst 2) (len := 1) rfl
theorem u_86_555 (P : PL) (st : List PV) (G : PW) : pm_dn pm_sF 86 555 P st G = pm_go pm_sF 86 G (pm_oIc .ne (some 683) 558 P st G) := pm_dn_eq (i := .if_icmp .ne 128) (len := 3) rfl
theorem u_86_558 (P : PL) (st : List PV) (G : PW) : pm_dn pm_sF 86 558 P st G = pm_go pm_sF 86 G (pm_oAL 3 559 P st G) := pm_dn_eq (i := .aload_n 3) (len := 1) rfl
theorem u_86_559 (P : PL) (st : List PV) (G : PW) : pm_dn pm_sF 86 559 P st G = pm_go pm_sF 86 G (pm_oIL 7 561 P st G) := pm_dn_eq (i := .iload 7) (len := 2) rfl
theorem u_86_561 (P : PL) (st : List PV) (G : PW) : pm_dn pm_sF 86 561 P st G = pm_go pm_sF 86 G (pm_oAld pm_sF 0 562 P st G) := pm_dn_eq (i := .iaload) (len := 1) rfl
theorem u_86_562 (P : PL) (st : List PV) (G : PW) : pm_dn pm_sF 86 562 P st G = pm_go pm_sF 86 G (pm_oK 1 563 P st G) := pm_dn_eq (i := .iconst 1) (len := 1) rfl
theorem u_86_563 (P : PL) (st : List PV) (G : PW) : pm_dn pm_sF 86 563 P st G = pm_go pm_sF 86 G (pm_oIc .ne (some 683) 566 P st G) := pm_dn_eq (i := .if_icmp .ne 120) (len := 3) rfl
theorem u_86_566 (P : PL) (st : List PV) (G : PW) : pm_dn pm_sF 86 566 P st G = pm_go pm_sF 86 G (pm_oAL 0 567 P st G) := pm_dn_eq (i := .aload_n 0) (len := 1) rfl
theorem u_86_567 (P : PL) (st : List PV) (G : PW) : pm_dn pm_sF 86 567 P st G = pm_go pm_sF 86 G (pm_oK 8 569 P st G) := pm_dn_eq (i := .bipush 8) (len := 2) rfl
theorem u_86_569 (P : PL) (st : List PV) (G : PW) : pm_dn pm_sF 86 569 P st G = pm_go pm_sF 86 G (pm_oCv pm_sF 60 1 2 5 572 P st G) := pm_dn_eq (i := .invokevirtual 8) (len := 3) rfl
theorem u_86_572 (P : PL) (st : List PV) (G : PW) : pm_dn pm_sF 86 572 P st G = pm_go pm_sF 86 G (pm_oIf .lt (some 683) 575 P st G) := pm_dn_eq (i := .ifCond .lt 111) (len := 3) rfl
theorem u_86_575 (P : PL) (st : List PV) (G : PW) : pm_dn pm_sF 86 575 P st G = pm_go pm_sF 86 G (pm_oIL 9 577 P st G) := pm_dn_eq (i := .iload 9) (len := 2) rfl
theorem u_86_577 (P : PL) (st : List PV) (G : PW) : pm_dn pm_sF 86 577 P st G = pm_go pm_sF 86 G (pm_oAL 0 578 P st G) := pm_dn_eq (i := .aload_n 0) (len := 1) rfl
theorem u_86_578 (P : PL) (st : List PV) (G : PW) : pm_dn pm_sF 86 578 P st G = pm_go pm_sF 86 G (pm_oK 8 580 P st G) := pm_dn_eq (i := .bipush 8) (len := 2) rfl
theorem u_86_580 (P : PL) (st : List PV) (G : PW) : pm_dn pm_sF 86 580 P st G = pm_go pm_sF 86 G (pm_oCv pm_sF 60 1 2 5 583 P st G) := pm_dn_eq (i := .invokevirtual 8) (len := 3) rfl
theorem u_86_583 (P : PL) (st : List PV) (G : PW) : pm_dn pm_sF 86 583 P st G = pm_go pm_sF 86 G (pm_oIL 7 585 P st G) := pm_dn_eq (i := .iload 7) (len := 2) rfl
theorem u_86_585 (P : PL) (st : List PV) (G : PW) : pm_dn pm_sF 86 585 P st G = pm_go pm_sF 86 G (pm_oIc .ne (some 592) 588 P st G) := pm_dn_eq (i := .if_icmp .ne 7) (len := 3) rfl
theorem u_86_588 (P : PL) (st : List PV) (G : PW) : pm_dn pm_sF 86 588 P st G = pm_go pm_sF 86 G (pm_oK 1 589 P st G) := pm_dn_eq (i := .iconst 1) (len := 1) rfl
theorem u_86_589 (P : PL) (st : List PV) (G : PW) : pm_dn pm_sF 86 589 P st G = pm_go pm_sF 86 G (pm_oGo (some 593) P st G) := pm_dn_eq (i := .goto 4) (len := 3) rfl
theorem u_86_592 (P : PL) (st : List PV) (G : PW) : pm_dn pm_sF 86 592 P st G = pm_go pm_sF 86 G (pm_oK 0 593 P st G) := pm_dn_eq (i := .iconst 0) (len := 1) rfl
theorem u_86_593 (P : PL) (st : List PV) (G : PW) : pm_dn pm_sF 86 593 P st G = pm_go pm_sF 86 G (pm_oIc .ne (some 683) 596 P st G) := pm_dn_eq (i := .if_icmp .ne 90) (len := 3) rfl
theorem u_86_596 (P : PL) (st : List PV) (G : PW) : pm_dn pm_sF 86 596 P st G = pm_go pm_sF 86 G (pm_oAL 0 597 P st G) := pm_dn_eq (i := .aload_n 0) (len := 1) rfl
theorem u_86_597 (P : PL) (st : List PV) (G : PW) : pm_dn pm_sF 86 597 P st G = pm_go pm_sF 86 G (pm_oIL 7 599 P st G) := pm_dn_eq (i := .iload 7) (len := 2) rfl
theorem u_86_599 (P : PL) (st : List PV) (G : PW) : pm_dn pm_sF 86 599 P st G = pm_go pm_sF 86 G (pm_oK 5 600 P st G) := pm_dn_eq (i := .iconst 5) (len := 1) rfl
theorem u_86_600 (P : PL) (st : List PV) (G : PW) : pm_dn pm_sF 86 600 P st G = pm_go pm_sF 86 G (pm_oCv pm_sF 58 2 3 5 603 P st G) := pm_dn_eq (i := .invokevirtual 24) (len := 3) rfl
theorem u_86_603 (P : PL) (st : List PV) (G : PW) : pm_dn pm_sF 86 603 P st G = pm_go pm_sF 86 G (pm_oAL 4 605 P st G) := pm_dn_eq (i := .aload 4) (len := 2) rfl
theorem u_86_605 (P : PL) (st : List PV) (G : PW) : pm_dn pm_sF 86 605 P st G = pm_go pm_sF 86 G (pm_oIL 7 607 P st G) := pm_dn_eq (i := .iload 7) (len := 2) rfl
theorem u_86_607 (P : PL) (st : List PV) (G : PW) : pm_dn pm_sF 86 607 P st G = pm_go pm_sF 86 G (pm_oAld pm_sF 0 608 P st G) := pm_dn_eq (i := .iaload) (len := 1) rfl
theorem u_86_608 (P : PL) (st : List PV) (G : PW) : pm_dn pm_sF 86 608 P st G = pm_go pm_sF 86 G (pm_oIf .ne (some 616) 611 P st G) := pm_dn_eq (i := .ifCond .ne 8) (len := 3) rfl
theorem u_86_611 (P : PL) (st : List PV) (G : PW) : pm_dn pm_sF 86 611 P st G = pm_go pm_sF 86 G (pm_oK (-6) 613 P st G) := pm_dn_eq (i := .bipush (-6)) (len := 2) rfl
theorem u_86_613 (P : PL) (st : List PV) (G : PW) : pm_dn pm_sF 86 613 P st G = pm_go pm_sF 86 G (pm_oGo (some 623) P st G) := pm_dn_eq (i := .goto 10) (len := 3) rfl
theorem u_86_616 (P : PL) (st : List PV) (G : PW) : pm_dn pm_sF 86 616 P st G = pm_go pm_sF 86 G (pm_oAL 4 618 P st G) := pm_dn_eq (i := .aload 4) (len := 2) rfl
theorem u_86_618 (P : PL) (st : List PV) (G : PW) : pm_dn pm_sF 86 618 P st G = pm_go pm_sF 86 G (pm_oIL 7 620 P st G) := pm_dn_eq (i := .iload 7) (len := 2) rfl
theorem u_86_620 (P : PL) (st : List PV) (G : PW) : pm_dn pm_sF 86 620 P st G = pm_go pm_sF 86 G (pm_oAld pm_sF 0 621 P st G) := pm_dn_eq (i := .iaload) (len := 1) rfl
theorem u_86_621 (P : PL) (st : List PV) (G : PW) : pm_dn pm_sF 86 621 P st G = pm_go pm_sF 86 G (pm_oK 1 622 P st G) := pm_dn_eq (i := .iconst 1) (len := 1) rfl
theorem u_86_622 (P : PL) (st : List PV) (G : PW) : pm_dn pm_sF 86 622 P st G = pm_go pm_sF 86 G (pm_oSub 623 P st G) := pm_dn_eq (i := .isub) (len := 1) rfl
theorem u_86_623 (P : PL) (st : List PV) (G : PW) : pm_dn pm_sF 86 623 P st G = pm_go pm_sF 86 G (pm_oIc .ne (some 683) 626 P st G) := pm_dn_eq (i := .if_icmp .ne 60) (len := 3) rfl
theorem u_86_626 (P : PL) (st : List PV) (G : PW) : pm_dn pm_sF 86 626 P st G = pm_go pm_sF 86 G (pm_oAL 4 628 P st G) := pm_dn_eq (i := .aload 4) (len := 2) rfl
theorem u_86_628 (P : PL) (st : List PV) (G : PW) : pm_dn pm_sF 86 628 P st G = pm_go pm_sF 86 G (pm_oIL 7 630 P st G) := pm_dn_eq (i := .iload 7) (len := 2) rfl
theorem u_86_630 (P : PL) (st : List PV) (G : PW) : pm_dn pm_sF 86 630 P st G = pm_go pm_sF 86 G (pm_oAld pm_sF 0 631 P st G) := pm_dn_eq (i := .iaload) (len := 1) rfl
theorem u_86_631 (P : PL) (st : List PV) (G : PW) : pm_dn pm_sF 86 631 P st G = pm_go pm_sF 86 G (pm_oIf .ne (some 638) 634 P st G) := pm_dn_eq (i := .ifCond .ne 7) (len := 3) rfl
theorem u_86_634 (P : PL) (st : List PV) (G : PW) : pm_dn pm_sF 86 634 P st G = pm_go pm_sF 86 G (pm_oK 1 635 P st G) := pm_dn_eq (i := .iconst 1) (len := 1) rfl
theorem u_86_635 (P : PL) (st : List PV) (G : PW) : pm_dn pm_sF 86 635 P st G = pm_go pm_sF 86 G (pm_oGo (some 639) P st G) := pm_dn_eq (i := .goto 4) (len := 3) rfl
theorem u_86_638 (P : PL) (st : List PV) (G : PW) : pm_dn pm_sF 86 638 P st G = pm_go pm_sF 86 G (pm_oK 0 639 P st G) := pm_dn_eq (i := .iconst 0) (len := 1) rfl
theorem u_86_639 (P : PL) (st : List PV) (G : PW) : pm_dn pm_sF 86 639 P st G = pm_go pm_sF 86 G (pm_oIL 8 641 P st G) := pm_dn_eq (i := .iload 8) (len := 2) rfl
theorem u_86_641 (P : PL) (st : List PV) (G : PW) : pm_dn pm_sF 86 641 P st G = pm_go pm_sF 86 G (pm_oIf .lt (some 648) 644 P st G) := pm_dn_eq (i := .ifCond .lt 7) (len := 3) rfl
theorem u_86_644 (P : PL) (st : List PV) (G : PW) : pm_dn pm_sF 86 644 P st G = pm_go pm_sF 86 G (pm_oK 1 645 P st G) := pm_dn_eq (i := .iconst 1) (len := 1) rfl
theorem u_86_645 (P : PL) (st : List PV) (G : PW) : pm_dn pm_sF 86 645 P st G = pm_go pm_sF 86 G (pm_oGo (some 649) P st G) := pm_dn_eq (i := .goto 4) (len := 3) rfl
theorem u_86_648 (P : PL) (st : List PV) (G : PW) : pm_dn pm_sF 86 648 P st G = pm_go pm_sF 86 G (pm_oK 0 649 P st G) := pm_dn_eq (i := .iconst 0) (len := 1) rfl
theorem u_86_649 (P : PL) (st : List PV) (G : PW) : pm_dn pm_sF 86 649 P st G = pm_go pm_sF 86 G (pm_oIc .ne (some 683) 652 P st G) := pm_dn_eq (i := .if_icmp .ne 34) (len := 3) rfl
theorem u_86_652 (P : PL) (st : List PV) (G : PW) : pm_dn pm_sF 86 652 P st G = pm_go pm_sF 86 G (pm_oAL 0 653 P st G) := pm_dn_eq (i := .aload_n 0) (len := 1) rfl
theorem u_86_653 (P : PL) (st : List PV) (G : PW) : pm_dn pm_sF 86 653 P st G = pm_go pm_sF 86 G (pm_oIL 7 655 P st G) := pm_dn_eq (i := .iload 7) (len := 2) rfl
theorem u_86_655 (P : PL) (st : List PV) (G : PW) : pm_dn pm_sF 86 655 P st G = pm_go pm_sF 86 G (pm_oK 4 656 P st G) := pm_dn_eq (i := .iconst 4) (len := 1) rfl
theorem u_86_656 (P : PL) (st : List PV) (G : PW) : pm_dn pm_sF 86 656 P st G = pm_go pm_sF 86 G (pm_oCv pm_sF 58 2 3 5 659 P st G) := pm_dn_eq (i := .invokevirtual 24) (len := 3) rfl
theorem u_86_659 (P : PL) (st : List PV) (G : PW) : pm_dn pm_sF 86 659 P st G = pm_go pm_sF 86 G (pm_oIL 8 661 P st G) := pm_dn_eq (i := .iload 8) (len := 2) rfl
theorem u_86_661 (P : PL) (st : List PV) (G : PW) : pm_dn pm_sF 86 661 P st G = pm_go pm_sF 86 G (pm_oIf .lt (some 668) 664 P st G) := pm_dn_eq (i := .ifCond .lt 7) (len := 3) rfl
theorem u_86_664 (P : PL) (st : List PV) (G : PW) : pm_dn pm_sF 86 664 P st G = pm_go pm_sF 86 G (pm_oK 3 665 P st G) := pm_dn_eq (i := .iconst 3) (len := 1) rfl
theorem u_86_665 (P : PL) (st : List PV) (G : PW) : pm_dn pm_sF 86 665 P st G = pm_go pm_sF 86 G (pm_oGo (some 680) P st G) := pm_dn_eq (i := .goto 15) (len := 3) rfl
theorem u_86_668 (P : PL) (st : List PV) (G : PW) : pm_dn pm_sF 86 668 P st G = pm_go pm_sF 86 G (pm_oAL 0 669 P st G) := pm_dn_eq (i := .aload_n 0) (len := 1) rfl
theorem u_86_669 (P : PL) (st : List PV) (G : PW) : pm_dn pm_sF 86 669 P st G = pm_go pm_sF 86 G (pm_oAL 4 671 P st G) := pm_dn_eq (i := .aload 4) (len := 2) rfl
theorem u_86_671 (P : PL) (st : List PV) (G : PW) : pm_dn pm_sF 86 671 P st G = pm_go pm_sF 86 G (pm_oIL 7 673 P st G) := pm_dn_eq (i := .iload 7) (len := 2) rfl
theorem u_86_673 (P : PL) (st : List PV) (G : PW) : pm_dn pm_sF 86 673 P st G = pm_go pm_sF 86 G (pm_oAld pm_sF 0 674 P st G) := pm_dn_eq (i := .iaload) (len := 1) rfl
theorem u_86_674 (P : PL) (st : List PV) (G : PW) : pm_dn pm_sF 86 674 P st G = pm_go pm_sF 86 G (pm_oK 1 675 P st G) := pm_dn_eq (i := .iconst 1) (len := 1) rfl
theorem u_86_675 (P : PL) (st : List PV) (G : PW) : pm_dn pm_sF 86 675 P st G = pm_go pm_sF 86 G (pm_oSub 676 P st G) := pm_dn_eq (i := .isub) (len := 1) rfl
theorem u_86_676 (P : PL) (st : List PV) (G : PW) : pm_dn pm_sF 86 676 P st G = pm_go pm_sF 86 G (pm_oK 5 677 P st G) := pm_dn_eq (i := .iconst 5) (len := 1) rfl
theorem u_86_677 (P : PL) (st : List PV) (G : PW) : pm_dn pm_sF 86 677 P st G = pm_go pm_sF 86 G (pm_oCv pm_sF 57 2 4 5 680 P st G) := pm_dn_eq (i := .invokevirtual 14) (len := 3) rfl
theorem u_86_680 (P : PL) (st : List PV) (G : PW) : pm_dn pm_sF 86 680 P st G = pm_go pm_sF 86 G (pm_oIc .eq (some 685) 683 P st G) := pm_dn_eq (i := .if_icmp .eq 5) (len := 3) rfl
theorem u_86_683 (P : PL) (st : List PV) (G : PW) : pm_dn pm_sF 86 683 P st G = pm_go pm_sF 86 G (pm_oK 0 684 P st G) := pm_dn_eq (i := .iconst 0) (len := 1) rfl
theorem u_86_684 (P : PL) (st : List PV) (G : PW) : pm_dn pm_sF 86 684 P st G = pm_go pm_sF 86 G (pm_oRi 2 P st G) := pm_dn_eq (i := .ireturn) (len := 1) rfl
theorem u_86_685 (P : PL) (st : List PV) (G : PW) : pm_dn pm_sF 86 685 P st G = pm_go pm_sF 86 G (pm_oInc 7 1 688 P st G) := pm_dn_eq (i := .iinc 7 1) (len := 3) rfl
theorem u_86_688 (P : PL) (st : List PV) (G : PW) : pm_dn pm_sF 86 688 P st G = pm_go pm_sF 86 G (pm_oGo (some 445) P st G) := pm_dn_eq (i := .goto (-243)) (len := 3) rfl
theorem u_86_691 (P : PL) (st : List PV) (G : PW) : pm_dn pm_sF 86 691 P st G = pm_go pm_sF 86 G (pm_oAL 0 692 P st G) := pm_dn_eq (i := .aload_n 0) (len := 1) rfl
theorem u_86_692 (P : PL) (st : List PV) (G : PW) : pm_dn pm_sF 86 692 P st G = pm_go pm_sF 86 G (pm_oK 4 693 P st G) := pm_dn_eq (i := .iconst 4) (len := 1) rfl
theorem u_86_693 (P : PL) (st : List PV) (G : PW) : pm_dn pm_sF 86 693 P st G = pm_go pm_sF 86 G (pm_oCv pm_sF 60 1 2 5 696 P st G) := pm_dn_eq (i := .invokevirtual 8) (len := 3) rfl
theorem u_86_696 (P : PL) (st : List PV) (G : PW) : pm_dn pm_sF 86 696 P st G = pm_go pm_sF 86 G (pm_oAL 5 698 P st G) := pm_dn_eq (i := .aload 5) (len := 2) rfl
theorem u_86_698 (P : PL) (st : List PV) (G : PW) : pm_dn pm_sF 86 698 P st G = pm_go pm_sF 86 G (pm_oK 3 699 P st G) := pm_dn_eq (i := .iconst 3) (len := 1) rfl
theorem u_86_699 (P : PL) (st : List PV) (G : PW) : pm_dn pm_sF 86 699 P st G = pm_go pm_sF 86 G (pm_oAld pm_sF 0 700 P st G) := pm_dn_eq (i := .iaload) (len := 1) rfl
theorem u_86_700 (P : PL) (st : List PV) (G : PW) : pm_dn pm_sF 86 700 P st G = pm_go pm_sF 86 G (pm_oIc .ne (some 743) 703 P st G) := pm_dn_eq (i := .if_icmp .ne 43) (len := 3) rfl
theorem u_86_703 (P : PL) (st : List PV) (G : PW) : pm_dn pm_sF 86 703 P st G = pm_go pm_sF 86 G (pm_oAL 0 704 P st G) := pm_dn_eq (i := .aload_n 0) (len := 1) rfl
theorem u_86_704 (P : PL) (st : List PV) (G : PW) : pm_dn pm_sF 86 704 P st G = pm_go pm_sF 86 G (pm_oK 5 705 P st G) := pm_dn_eq (i := .iconst 5) (len := 1) rfl
theorem u_86_705 (P : PL) (st : List PV) (G : PW) : pm_dn pm_sF 86 705 P st G = pm_go pm_sF 86 G (pm_oCv pm_sF 60 1 2 5 708 P st G) := pm_dn_eq (i := .invokevirtual 8) (len := 3) rfl
theorem u_86_708 (P : PL) (st : List PV) (G : PW) : pm_dn pm_sF 86 708 P st G = pm_go pm_sF 86 G (pm_oAL 5 710 P st G) := pm_dn_eq (i := .aload 5) (len := 2) rfl
theorem u_86_710 (P : PL) (st : List PV) (G : PW) : pm_dn pm_sF 86 710 P st G = pm_go pm_sF 86 G (pm_oK 2 711 P st G) := pm_dn_eq (i := .iconst 2) (len := 1) rfl
theorem u_86_711 (P : PL) (st : List PV) (G : PW) : pm_dn pm_sF 86 711 P st G = pm_go pm_sF 86 G (pm_oAld pm_sF 0 712 P st G) := pm_dn_eq (i := .iaload) (len := 1) rfl
theorem u_86_712 (P : PL) (st : List PV) (G : PW) : pm_dn pm_sF 86 712 P st G = pm_go pm_sF 86 G (pm_oIc .ne (some 743) 715 P st G) := pm_dn_eq (i := .if_icmp .ne 31) (len := 3) rfl
theorem u_86_715 (P : PL) (st : List PV) (G : PW) : pm_dn pm_sF 86 715 P st G = pm_go pm_sF 86 G (pm_oAL 0 716 P st G) := pm_dn_eq (i := .aload_n 0) (len := 1) rfl
theorem u_86_716 (P : PL) (st : List PV) (G : PW) : pm_dn pm_sF 86 716 P st G = pm_go pm_sF 86 G (pm_oK 6 718 P st G) := pm_dn_eq (i := .bipush 6) (len := 2) rfl
theorem u_86_718 (P : PL) (st : List PV) (G : PW) : pm_dn pm_sF 86 718 P st G = pm_go pm_sF 86 G (pm_oCv pm_sF 60 1 2 5 721 P st G) := pm_dn_eq (i := .invokevirtual 8) (len := 3) rfl
theorem u_86_721 (P : PL) (st : List PV) (G : PW) : pm_dn pm_sF 86 721 P st G = pm_go pm_sF 86 G (pm_oAL 5 723 P st G) := pm_dn_eq (i := .aload 5) (len := 2) rfl
theorem u_86_723 (P : PL) (st : List PV) (G : PW) : pm_dn pm_sF 86 723 P st G = pm_go pm_sF 86 G (pm_oK 1 724 P st G) := pm_dn_eq (i := .iconst 1) (len := 1) rfl
theorem u_86_724 (P : PL) (st : List PV) (G : PW) : pm_dn pm_sF 86 724 P st G = pm_go pm_sF 86 G (pm_oAld pm_sF 0 725 P st G) := pm_dn_eq (i := .iaload) (len := 1) rfl
theorem u_86_725 (P : PL) (st : List PV) (G : PW) : pm_dn pm_sF 86 725 P st G = pm_go pm_sF 86 G (pm_oIc .ne (some 743) 728 P st G) := pm_dn_eq (i := .if_icmp .ne 18) (len := 3) rfl
theorem u_86_728 (P : PL) (st : List PV) (G : PW) : pm_dn pm_sF 86 728 P st G = pm_go pm_sF 86 G (pm_oAL 0 729 P st G) := pm_dn_eq (i := .aload_n 0) (len := 1) rfl
theorem u_86_729 (P : PL) (st : List PV) (G : PW) : pm_dn pm_sF 86 729 P st G = pm_go pm_sF 86 G (pm_oK 9 731 P st G) := pm_dn_eq (i := .bipush 9) (len := 2) rfl
theorem u_86_731 (P : PL) (st : List PV) (G : PW) : pm_dn pm_sF 86 731 P st G = pm_go pm_sF 86 G (pm_oCv pm_sF 60 1 2 5 734 P st G) := pm_dn_eq (i := .invokevirtual 8) (len := 3) rfl
theorem u_86_734 (P : PL) (st : List PV) (G : PW) : pm_dn pm_sF 86 734 P st G = pm_go pm_sF 86 G (pm_oIL 6 736 P st G) := pm_dn_eq (i := .iload 6) (len := 2) rfl
theorem u_86_736 (P : PL) (st : List PV) (G : PW) : pm_dn pm_sF 86 736 P st G = pm_go pm_sF 86 G (pm_oIc .ne (some 743) 739 P st G) := pm_dn_eq (i := .if_icmp .ne 7) (len := 3) rfl
theorem u_86_739 (P : PL) (st : List PV) (G : PW) : pm_dn pm_sF 86 739 P st G = pm_go pm_sF 86 G (pm_oK 1 740 P st G) := pm_dn_eq (i := .iconst 1) (len := 1) rfl
theorem u_86_740 (P : PL) (st : List PV) (G : PW) : pm_dn pm_sF 86 740 P st G = pm_go pm_sF 86 G (pm_oGo (some 744) P st G) := pm_dn_eq (i := .goto 4) (len := 3) rfl
theorem u_86_743 (P : PL) (st : List PV) (G : PW) : pm_dn pm_sF 86 743 P st G = pm_go pm_sF 86 G (pm_oK 0 744 P st G) := pm_dn_eq (i := .iconst 0) (len := 1) rfl
theorem u_86_744 (P : PL) (st : List PV) (G : PW) : pm_dn pm_sF 86 744 P st G = pm_go pm_sF 86 G (pm_oRi 2 P st G) := pm_dn_eq (i := .ireturn) (len := 1) rfl
theorem ue_87 (a0 : Nat) (a1 : Int) (G : PW) : pm_ca pm_sP 87 [.inr (.inr a0), .inl a1] G = pm_dn pm_sP 87 0 [some (.inr (.inr a0)), some (.inl a1), none, none, none, none, none] [] G := rfl
theorem u_87_0 (P : PL) (st : List PV) (G : PW) : pm_dn pm_sP 87 0 P st G = pm_go pm_sP 87 G (pm_oK 20 2 P st G) := pm_dn_eq (i := .bipush 20) (len := 2) rfl
theorem u_87_4 (P : PL) (st : List PV) (G : PW) : pm_dn pm_sP 87 4 P st G = pm_go pm_sP 87 G (pm_oAS 2 5 P st G) := pm_dn_eq (i := .astore_n 2) (len := 1) rfl
theorem u_87_5 (P : PL) (st : List PV) (G : PW) : pm_dn pm_sP 87 5 P st G = pm_go pm_sP 87 G (pm_oK 0 6 P st G) := pm_dn_eq (i := .iconst 0) (len := 1) rfl
theorem u_87_6 (P : PL) (st : List PV) (G : PW) : pm_dn pm_sP 87 6 P st G = pm_go pm_sP 87 G (pm_oIS 3 7 P st G) := pm_dn_eq (i := .istore_n 3) (len := 1) rfl
theorem u_87_7 (P : PL) (st : List PV) (G : PW) : pm_dn pm_sP 87 7 P st G = pm_go pm_sP 87 G (pm_oIL 3 8 P st G) := pm_dn_eq (i := .iload_n 3) (len := 1) rfl
theorem u_87_8 (P : PL) (st : List PV) (G : PW) : pm_dn pm_sP 87 8 P st G = pm_go pm_sP 87 G (pm_oIL 1 9 P st G) := pm_dn_eq (i := .iload_n 1) (len := 1) rfl
theorem u_87_9 (P : PL) (st : List PV) (G : PW) : pm_dn pm_sP 87 9 P st G = pm_go pm_sP 87 G (pm_oIc .ge (some 134) 12 P st G) := pm_dn_eq (i := .if_icmp .ge 125) (len := 3) rfl
theorem u_87_12 (P : PL) (st : List PV) (G : PW) : pm_dn pm_sP 87 12 P st G = pm_go pm_sP 87 G (pm_oAL 0 13 P st G) := pm_dn_eq (i := .aload_n 0) (len := 1) rfl
theorem u_87_13 (P : PL) (st : List PV) (G : PW) : pm_dn pm_sP 87 13 P st G = pm_go pm_sP 87 G (pm_oIL 3 14 P st G) := pm_dn_eq (i := .iload_n 3) (len := 1) rfl
theorem u_87_14 (P : PL) (st : List PV) (G : PW) : pm_dn pm_sP 87 14 P st G = pm_go pm_sP 87 G (pm_oK 6 16 P st G) := pm_dn_eq (i := .bipush 6) (len := 2) rfl
theorem u_87_16 (P : PL) (st : List PV) (G : PW) : pm_dn pm_sP 87 16 P st G = pm_go pm_sP 87 G (pm_oCv pm_sP 58 2 3 5 19 P st G) := pm_dn_eq (i := .invokevirtual 24) (len := 3) rfl
theorem u_87_19 (P : PL) (st : List PV) (G : PW) : pm_dn pm_sP 87 19 P st G = pm_go pm_sP 87 G (pm_oIS 4 21 P st G) := pm_dn_eq (i := .istore 4) (len := 2) rfl
theorem u_87_21 (P : PL) (st : List PV) (G : PW) : pm_dn pm_sP 87 21 P st G = pm_go pm_sP 87 G (pm_oAL 0 22 P st G) := pm_dn_eq (i := .aload_n 0) (len := 1) rfl
theorem u_87_22 (P : PL) (st : List PV) (G : PW) : pm_dn pm_sP 87 22 P st G = pm_go pm_sP 87 G (pm_oIL 3 23 P st G) := pm_dn_eq (i := .iload_n 3) (len := 1) rfl
theorem u_87_23 (P : PL) (st : List PV) (G : PW) : pm_dn pm_sP 87 23 P st G = pm_go pm_sP 87 G (pm_oK 7 25 P st G) := pm_dn_eq (i := .bipush 7) (len := 2) rfl
theorem u_87_25 (P : PL) (st : List PV) (G : PW) : pm_dn pm_sP 87 25 P st G = pm_go pm_sP 87 G (pm_oCv pm_sP 58 2 3 5 28 P st G) := pm_dn_eq (i := .invokevirtual 24) (len := 3) rfl
theorem u_87_28 (P : PL) (st : List PV) (G : PW) : pm_dn pm_sP 87 28 P st G = pm_go pm_sP 87 G (pm_oIS 5 30 P st G) := pm_dn_eq (i := .istore 5) (len := 2) rfl
theorem u_87_30 (P : PL) (st : List PV) (G : PW) : pm_dn pm_sP 87 30 P st G = pm_go pm_sP 87 G (pm_oIL 4 32 P st G) := pm_dn_eq (i := .iload 4) (len := 2) rfl
theorem u_87_32 (P : PL) (st : List PV) (G : PW) : pm_dn pm_sP 87 32 P st G = pm_go pm_sP 87 G (pm_oK 1 33 P st G) := pm_dn_eq (i := .iconst 1) (len := 1) rfl
theorem u_87_33 (P : PL) (st : List PV) (G : PW) : pm_dn pm_sP 87 33 P st G = pm_go pm_sP 87 G (pm_oIc .lt (some 49) 36 P st G) := pm_dn_eq (i := .if_icmp .lt 16) (len := 3) rfl
theorem u_87_36 (P : PL) (st : List PV) (G : PW) : pm_dn pm_sP 87 36 P st G = pm_go pm_sP 87 G (pm_oIL 5 38 P st G) := pm_dn_eq (i := .iload 5) (len := 2) rfl
theorem u_87_38 (P : PL) (st : List PV) (G : PW) : pm_dn pm_sP 87 38 P st G = pm_go pm_sP 87 G (pm_oIL 4 40 P st G) := pm_dn_eq (i := .iload 4) (len := 2) rfl
theorem u_87_40 (P : PL) (st : List PV) (G : PW) : pm_dn pm_sP 87 40 P st G = pm_go pm_sP 87 G (pm_oIc .lt (some 49) 43 P st G) := pm_dn_eq (i := .if_icmp .lt 9) (len := 3) rfl
theorem u_87_43 (P : PL) (st : List PV) (G : PW) : pm_dn pm_sP 87 43 P st G = pm_go pm_sP 87 G (pm_oIL 5 45 P st G) := pm_dn_eq (i := .iload 5) (len := 2) rfl
theorem u_87_45 (P : PL) (st : List PV) (G : PW) : pm_dn pm_sP 87 45 P st G = pm_go pm_sP 87 G (pm_oIL 1 46 P st G) := pm_dn_eq (i := .iload_n 1) (len := 1) rfl
theorem u_87_46 (P : PL) (st : List PV) (G : PW) : pm_dn pm_sP 87 46 P st G = pm_go pm_sP 87 G (pm_oIc .le (some 51) 49 P st G) := pm_dn_eq (i := .if_icmp .le 5) (len := 3) rfl
theorem u_87_49 (P : PL) (st : List PV) (G : PW) : pm_dn pm_sP 87 49 P st G = pm_go pm_sP 87 G (pm_oK 0 50 P st G) := pm_dn_eq (i := .iconst 0) (len := 1) rfl
theorem u_87_50 (P : PL) (st : List PV) (G : PW) : pm_dn pm_sP 87 50 P st G = pm_go pm_sP 87 G (pm_oRi 2 P st G) := pm_dn_eq (i := .ireturn) (len := 1) rfl
theorem u_87_51 (P : PL) (st : List PV) (G : PW) : pm_dn pm_sP 87 51 P st G = pm_go pm_sP 87 G (pm_oAL 2 52 P st G) := pm_dn_eq (i := .aload_n 2) (len := 1) rfl
theorem u_87_52 (P : PL) (st : List PV) (G : PW) : pm_dn pm_sP 87 52 P st G = pm_go pm_sP 87 G (pm_oIL 4 54 P st G) := pm_dn_eq (i := .iload 4) (len := 2) rfl
theorem u_87_54 (P : PL) (st : List PV) (G : PW) : pm_dn pm_sP 87 54 P st G = pm_go pm_sP 87 G (pm_oDu2 55 P st G) := pm_dn_eq (i := .dup2) (len := 1) rfl
theorem u_87_55 (P : PL) (st : List PV) (G : PW) : pm_dn pm_sP 87 55 P st G = pm_go pm_sP 87 G (pm_oAld pm_sP 0 56 P st G) := pm_dn_eq (i := .iaload) (len := 1) rfl
theorem u_87_56 (P : PL) (st : List PV) (G : PW) : pm_dn pm_sP 87 56 P st G = pm_go pm_sP 87 G (pm_oK 1 57 P st G) := pm_dn_eq (i := .iconst 1) (len := 1) rfl
theorem u_87_57 (P : PL) (st : List PV) (G : PW) : pm_dn pm_sP 87 57 P st G = pm_go pm_sP 87 G (pm_oAdd 58 P st G) := pm_dn_eq (i := .iadd) (len := 1) rfl
theorem u_87_58 (P : PL) (st : List PV) (G : PW) : pm_dn pm_sP 87 58 P st G = pm_go pm_sP 87 G (pm_oAst pm_sP 0 59 P st G) := pm_dn_eq (i := .iastore) (len := 1) rfl
theorem u_87_59 (P : PL) (st : List PV) (G : PW) : pm_dn pm_sP 87 59 P st G = pm_go pm_sP 87 G (pm_oK 0 60 P st G) := pm_dn_eq (i := .iconst 0) (len := 1) rfl
theorem u_87_60 (P : PL) (st : List PV) (G : PW) : pm_dn pm_sP 87 60 P st G = pm_go pm_sP 87 G (pm_oIS 6 62 P st G) := pm_dn_eq (i := .istore 6) (len := 2) rfl
theorem u_87_62 (P : PL) (st : List PV) (G : PW) : pm_dn pm_sP 87 62 P st G = pm_go pm_sP 87 G (pm_oIL 6 64 P st G) := pm_dn_eq (i := .iload 6) (len := 2) rfl
theorem u_87_64 (P : PL) (st : List PV) (G : PW) : pm_dn pm_sP 87 64 P st G = pm_go pm_sP 87 G (pm_oIL 1 65 P st G) := pm_dn_eq (i := .iload_n 1) (len := 1) rfl
theorem u_87_65 (P : PL) (st : List PV) (G : PW) : pm_dn pm_sP 87 65 P st G = pm_go pm_sP 87 G (pm_oIc .ge (some 128) 68 P st G) := pm_dn_eq (i := .if_icmp .ge 63) (len := 3) rfl
theorem u_87_68 (P : PL) (st : List PV) (G : PW) : pm_dn pm_sP 87 68 P st G = pm_go pm_sP 87 G (pm_oAL 0 69 P st G) := pm_dn_eq (i := .aload_n 0) (len := 1) rfl
theorem u_87_69 (P : PL) (st : List PV) (G : PW) : pm_dn pm_sP 87 69 P st G = pm_go pm_sP 87 G (pm_oIL 6 71 P st G) := pm_dn_eq (i := .iload 6) (len := 2) rfl
theorem u_87_71 (P : PL) (st : List PV) (G : PW) : pm_dn pm_sP 87 71 P st G = pm_go pm_sP 87 G (pm_oK 6 73 P st G) := pm_dn_eq (i := .bipush 6) (len := 2) rfl
theorem u_87_73 (P : PL) (st : List PV) (G : PW) : pm_dn pm_sP 87 73 P st G = pm_go pm_sP 87 G (pm_oCv pm_sP 58 2 3 5 76 P st G) := pm_dn_eq (i := .invokevirtual 24) (len := 3) rfl
theorem u_87_76 (P : PL) (st : List PV) (G : PW) : pm_dn pm_sP 87 76 P st G = pm_go pm_sP 87 G (pm_oIL 4 78 P st G) := pm_dn_eq (i := .iload 4) (len := 2) rfl
theorem u_87_78 (P : PL) (st : List PV) (G : PW) : pm_dn pm_sP 87 78 P st G = pm_go pm_sP 87 G (pm_oIc .ne (some 94) 81 P st G) := pm_dn_eq (i := .if_icmp .ne 16) (len := 3) rfl
theorem u_87_81 (P : PL) (st : List PV) (G : PW) : pm_dn pm_sP 87 81 P st G = pm_go pm_sP 87 G (pm_oAL 0 82 P st G) := pm_dn_eq (i := .aload_n 0) (len := 1) rfl
theorem u_87_82 (P : PL) (st : List PV) (G : PW) : pm_dn pm_sP 87 82 P st G = pm_go pm_sP 87 G (pm_oIL 6 84 P st G) := pm_dn_eq (i := .iload 6) (len := 2) rfl
theorem u_87_84 (P : PL) (st : List PV) (G : PW) : pm_dn pm_sP 87 84 P st G = pm_go pm_sP 87 G (pm_oK 7 86 P st G) := pm_dn_eq (i := .bipush 7) (len := 2) rfl
theorem u_87_86 (P : PL) (st : List PV) (G : PW) : pm_dn pm_sP 87 86 P st G = pm_go pm_sP 87 G (pm_oCv pm_sP 58 2 3 5 89 P st G) := pm_dn_eq (i := .invokevirtual 24) (len := 3) rfl
theorem u_87_89 (P : PL) (st : List PV) (G : PW) : pm_dn pm_sP 87 89 P st G = pm_go pm_sP 87 G (pm_oIL 5 91 P st G) := pm_dn_eq (i := .iload 5) (len := 2) rfl
theorem u_87_91 (P : PL) (st : List PV) (G : PW) : pm_dn pm_sP 87 91 P st G = pm_go pm_sP 87 G (pm_oIc .ne (some 120) 94 P st G) := pm_dn_eq (i := .if_icmp .ne 29) (len := 3) rfl
theorem u_87_94 (P : PL) (st : List PV) (G : PW) : pm_dn pm_sP 87 94 P st G = pm_go pm_sP 87 G (pm_oAL 0 95 P st G) := pm_dn_eq (i := .aload_n 0) (len := 1) rfl
theorem u_87_95 (P : PL) (st : List PV) (G : PW) : pm_dn pm_sP 87 95 P st G = pm_go pm_sP 87 G (pm_oIL 6 97 P st G) := pm_dn_eq (i := .iload 6) (len := 2) rfl
theorem u_87_97 (P : PL) (st : List PV) (G : PW) : pm_dn pm_sP 87 97 P st G = pm_go pm_sP 87 G (pm_oK 6 99 P st G) := pm_dn_eq (i := .bipush 6) (len := 2) rfl
theorem u_87_99 (P : PL) (st : List PV) (G : PW) : pm_dn pm_sP 87 99 P st G = pm_go pm_sP 87 G (pm_oCv pm_sP 58 2 3 5 102 P st G) := pm_dn_eq (i := .invokevirtual 24) (len := 3) rfl
theorem u_87_102 (P : PL) (st : List PV) (G : PW) : pm_dn pm_sP 87 102 P st G = pm_go pm_sP 87 G (pm_oIL 4 104 P st G) := pm_dn_eq (i := .iload 4) (len := 2) rfl
theorem u_87_104 (P : PL) (st : List PV) (G : PW) : pm_dn pm_sP 87 104 P st G = pm_go pm_sP 87 G (pm_oIc .le (some 122) 107 P st G) := pm_dn_eq (i := .if_icmp .le 18) (len := 3) rfl
theorem u_87_107 (P : PL) (st : List PV) (G : PW) : pm_dn pm_sP 87 107 P st G = pm_go pm_sP 87 G (pm_oAL 0 108 P st G) := pm_dn_eq (i := .aload_n 0) (len := 1) rfl
theorem u_87_108 (P : PL) (st : List PV) (G : PW) : pm_dn pm_sP 87 108 P st G = pm_go pm_sP 87 G (pm_oIL 6 110 P st G) := pm_dn_eq (i := .iload 6) (len := 2) rfl
theorem u_87_110 (P : PL) (st : List PV) (G : PW) : pm_dn pm_sP 87 110 P st G = pm_go pm_sP 87 G (pm_oK 6 112 P st G) := pm_dn_eq (i := .bipush 6) (len := 2) rfl
theorem u_87_112 (P : PL) (st : List PV) (G : PW) : pm_dn pm_sP 87 112 P st G = pm_go pm_sP 87 G (pm_oCv pm_sP 58 2 3 5 115 P st G) := pm_dn_eq (i := .invokevirtual 24) (len := 3) rfl
theorem u_87_115 (P : PL) (st : List PV) (G : PW) : pm_dn pm_sP 87 115 P st G = pm_go pm_sP 87 G (pm_oIL 5 117 P st G) := pm_dn_eq (i := .iload 5) (len := 2) rfl
theorem u_87_117 (P : PL) (st : List PV) (G : PW) : pm_dn pm_sP 87 117 P st G = pm_go pm_sP 87 G (pm_oIc .gt (some 122) 120 P st G) := pm_dn_eq (i := .if_icmp .gt 5) (len := 3) rfl
theorem u_87_120 (P : PL) (st : List PV) (G : PW) : pm_dn pm_sP 87 120 P st G = pm_go pm_sP 87 G (pm_oK 0 121 P st G) := pm_dn_eq (i := .iconst 0) (len := 1) rfl
theorem u_87_121 (P : PL) (st : List PV) (G : PW) : pm_dn pm_sP 87 121 P st G = pm_go pm_sP 87 G (pm_oRi 2 P st G) := pm_dn_eq (i := .ireturn) (len := 1) rfl
theorem u_87_122 (P : PL) (st : List PV) (G : PW) : pm_dn pm_sP 87 122 P st G = pm_go pm_sP 87 G (pm_oInc 6 1 125 P st G) := pm_dn_eq (i := .iinc 6 1) (len := 3) rfl
theorem u_87_125 (P : PL) (st : List PV) (G : PW) : pm_dn pm_sP 87 125 P st G = pm_go pm_sP 87 G (pm_oGo (some 62) P st G) := pm_dn_eq (i := .goto (-63)) (len := 3) rfl
theorem u_87_128 (P : PL) (st : List PV) (G : PW) : pm_dn pm_sP 87 128 P st G = pm_go pm_sP 87 G (pm_oInc 3 1 131 P st G) := pm_dn_eq (i := .iinc 3 1) (len := 3) rfl
theorem u_87_131 (P : PL) (st : List PV) (G : PW) : pm_dn pm_sP 87 131 P st G = pm_go pm_sP 87 G (pm_oGo (some 7) P st G) := pm_dn_eq (i := .goto (-124)) (len := 3) rfl
theorem u_87_134 (P : PL) (st : List PV) (G : PW) : pm_dn pm_sP 87 134 P st G = pm_go pm_sP 87 G (pm_oK 1 135 P st G) := pm_dn_eq (i := .iconst 1) (len := 1) rfl
theorem u_87_135 (P : PL) (st : List PV) (G : PW) : pm_dn pm_sP 87 135 P st G = pm_go pm_sP 87 G (pm_oIS 3 136 P st G) := pm_dn_eq (i := .istore_n 3) (len := 1) rfl
theorem u_87_136 (P : PL) (st : List PV) (G : PW) : pm_dn pm_sP 87 136 P st G = pm_go pm_sP 87 G (pm_oIL 3 137 P st G) := pm_dn_eq (i := .iload_n 3) (len := 1) rfl
theorem u_87_137 (P : PL) (st : List PV) (G : PW) : pm_dn pm_sP 87 137 P st G = pm_go pm_sP 87 G (pm_oIL 1 138 P st G) := pm_dn_eq (i := .iload_n 1) (len := 1) rfl
theorem u_87_138 (P : PL) (st : List PV) (G : PW) : pm_dn pm_sP 87 138 P st G = pm_go pm_sP 87 G (pm_oIc .gt (some 158) 141 P st G) := pm_dn_eq (i := .if_icmp .gt 20) (len := 3) rfl
theorem u_87_141 (P : PL) (st : List PV) (G : PW) : pm_dn pm_sP 87 141 P st G = pm_go pm_sP 87 G (pm_oAL 2 142 P st G) := pm_dn_eq (i := .aload_n 2) (len := 1) rfl
theorem u_87_142 (P : PL) (st : List PV) (G : PW) : pm_dn pm_sP 87 142 P st G = pm_go pm_sP 87 G (pm_oIL 3 143 P st G) := pm_dn_eq (i := .iload_n 3) (len := 1) rfl
theorem u_87_143 (P : PL) (st : List PV) (G : PW) : pm_dn pm_sP 87 143 P st G = pm_go pm_sP 87 G (pm_oAld pm_sP 0 144 P st G) := pm_dn_eq (i := .iaload) (len := 1) rfl
theorem u_87_144 (P : PL) (st : List PV) (G : PW) : pm_dn pm_sP 87 144 P st G = pm_go pm_sP 87 G (pm_oIf .ne (some 149) 147 P st G) := pm_dn_eq (i := .ifCond .ne 5) (len := 3) rfl
theorem u_87_147 (P : PL) (st : List PV) (G : PW) : pm_dn pm_sP 87 147 P st G = pm_go pm_sP 87 G (pm_oK 0 148 P st G) := pm_dn_eq (i := .iconst 0) (len := 1) rfl
theorem u_87_148 (P : PL) (st : List PV) (G : PW) : pm_dn pm_sP 87 148 P st G = pm_go pm_sP 87 G (pm_oRi 2 P st G) := pm_dn_eq (i := .ireturn) (len := 1) rfl
theorem u_87_149 (P : PL) (st : List PV) (G : PW) : pm_dn pm_sP 87 149 P st G = pm_go pm_sP 87 G (pm_oIL 3 150 P st G) := pm_dn_eq (i := .iload_n 3) (len := 1) rfl
theorem u_87_150 (P : PL) (st : List PV) (G : PW) : pm_dn pm_sP 87 150 P st G = pm_go pm_sP 87 G (pm_oAL 2 151 P st G) := pm_dn_eq (i := .aload_n 2) (len := 1) rfl
theorem u_87_151 (P : PL) (st : List PV) (G : PW) : pm_dn pm_sP 87 151 P st G = pm_go pm_sP 87 G (pm_oIL 3 152 P st G) := pm_dn_eq (i := .iload_n 3) (len := 1) rfl
theorem u_87_152 (P : PL) (st : List PV) (G : PW) : pm_dn pm_sP 87 152 P st G = pm_go pm_sP 87 G (pm_oAld pm_sP 0 153 P st G) := pm_dn_eq (i := .iaload) (len := 1) rfl
theorem u_87_153 (P : PL) (st : List PV) (G : PW) : pm_dn pm_sP 87 153 P st G = pm_go pm_sP 87 G (pm_oAdd 154 P st G) := pm_dn_eq (i := .iadd) (len := 1) rfl
theorem u_87_154 (P : PL) (st : List PV) (G : PW) : pm_dn pm_sP 87 154 P st G = pm_go pm_sP 87 G (pm_oIS 3 155 P st G) := pm_dn_eq (i := .istore_n 3) (len := 1) rfl
theorem u_87_155 (P : PL) (st : List PV) (G : PW) : pm_dn pm_sP 87 155 P st G = pm_go pm_sP 87 G (pm_oGo (some 136) P st G) := pm_dn_eq (i := .goto (-19)) (len := 3) rfl
theorem u_87_158 (P : PL) (st : List PV) (G : PW) : pm_dn pm_sP 87 158 P st G = pm_go pm_sP 87 G (pm_oIL 3 159 P st G) := pm_dn_eq (i := .iload_n 3) (len := 1) rfl
theorem u_87_159 (P : PL) (st : List PV) (G : PW) : pm_dn pm_sP 87 159 P st G = pm_go pm_sP 87 G (pm_oIL 1 160 P st G) := pm_dn_eq (i := .iload_n 1) (len := 1) rfl
theorem u_87_160 (P : PL) (st : List PV) (G : PW) : pm_dn pm_sP 87 160 P st G = pm_go pm_sP 87 G (pm_oK 1 161 P st G) := pm_dn_eq (i := .iconst 1) (len := 1) rfl
theorem u_87_161 (P : PL) (st : List PV) (G : PW) : pm_dn pm_sP 87 161 P st G = pm_go pm_sP 87 G (pm_oAdd 162 P st G) := pm_dn_eq (i := .iadd) (len := 1) rfl
theorem u_87_162 (P : PL) (st : List PV) (G : PW) : pm_dn pm_sP 87 162 P st G = pm_go pm_sP 87 G (pm_oIc .ne (some 188) 165 P st G) := pm_dn_eq (i := .if_icmp .ne 26) (len := 3) rfl
theorem u_87_165 (P : PL) (st : List PV) (G : PW) : pm_dn pm_sP 87 165 P st G = pm_go pm_sP 87 G (pm_oAL 2 166 P st G) := pm_dn_eq (i := .aload_n 2) (len := 1) rfl
theorem u_87_166 (P : PL) (st : List PV) (G : PW) : pm_dn pm_sP 87 166 P st G = pm_go pm_sP 87 G (pm_oK 1 167 P st G) := pm_dn_eq (i := .iconst 1) (len := 1) rfl
theorem u_87_167 (P : PL) (st : List PV) (G : PW) : pm_dn pm_sP 87 167 P st G = pm_go pm_sP 87 G (pm_oAld pm_sP 0 168 P st G) := pm_dn_eq (i := .iaload) (len := 1) rfl
theorem u_87_168 (P : PL) (st : List PV) (G : PW) : pm_dn pm_sP 87 168 P st G = pm_go pm_sP 87 G (pm_oK 1 169 P st G) := pm_dn_eq (i := .iconst 1) (len := 1) rfl
theorem u_87_169 (P : PL) (st : List PV) (G : PW) : pm_dn pm_sP 87 169 P st G = pm_go pm_sP 87 G (pm_oIc .ne (some 188) 172 P st G) := pm_dn_eq (i := .if_icmp .ne 19) (len := 3) rfl
theorem u_87_172 (P : PL) (st : List PV) (G : PW) : pm_dn pm_sP 87 172 P st G = pm_go pm_sP 87 G (pm_oIL 1 173 P st G) := pm_dn_eq (i := .iload_n 1) (len := 1) rfl
theorem u_87_173 (P : PL) (st : List PV) (G : PW) : pm_dn pm_sP 87 173 P st G = pm_go pm_sP 87 G (pm_oK 2 174 P st G) := pm_dn_eq (i := .iconst 2) (len := 1) rfl
theorem u_87_174 (P : PL) (st : List PV) (G : PW) : pm_dn pm_sP 87 174 P st G = pm_go pm_sP 87 G (pm_oIc .lt (some 184) 177 P st G) := pm_dn_eq (i := .if_icmp .lt 10) (len := 3) rfl
theorem u_87_177 (P : PL) (st : List PV) (G : PW) : pm_dn pm_sP 87 177 P st G = pm_go pm_sP 87 G (pm_oAL 2 178 P st G) := pm_dn_eq (i := .aload_n 2) (len := 1) rfl
theorem u_87_178 (P : PL) (st : List PV) (G : PW) : pm_dn pm_sP 87 178 P st G = pm_go pm_sP 87 G (pm_oK 2 179 P st G) := pm_dn_eq (i := .iconst 2) (len := 1) rfl
theorem u_87_179 (P : PL) (st : List PV) (G : PW) : pm_dn pm_sP 87 179 P st G = pm_go pm_sP 87 G (pm_oAld pm_sP 0 180 P st G) := pm_dn_eq (i := .iaload) (len := 1) rfl
theorem u_87_180 (P : PL) (st : List PV) (G : PW) : pm_dn pm_sP 87 180 P st G = pm_go pm_sP 87 G (pm_oK 1 181 P st G) := pm_dn_eq (i := .iconst 1) (len := 1) rfl
theorem u_87_181 (P : PL) (st : List PV) (G : PW) : pm_dn pm_sP 87 181 P st G = pm_go pm_sP 87 G (pm_oIc .ne (some 188) 184 P st G) := pm_dn_eq (i := .if_icmp .ne 7) (len := 3) rfl
theorem u_87_184 (P : PL) (st : List PV) (G : PW) : pm_dn pm_sP 87 184 P st G = pm_go pm_sP 87 G (pm_oK 1 185 P st G) := pm_dn_eq (i := .iconst 1) (len := 1) rfl
theorem u_87_185 (P : PL) (st : List PV) (G : PW) : pm_dn pm_sP 87 185 P st G = pm_go pm_sP 87 G (pm_oGo (some 189) P st G) := pm_dn_eq (i := .goto 4) (len := 3) rfl
theorem u_87_188 (P : PL) (st : List PV) (G : PW) : pm_dn pm_sP 87 188 P st G = pm_go pm_sP 87 G (pm_oK 0 189 P st G) := pm_dn_eq (i := .iconst 0) (len := 1) rfl
theorem u_87_189 (P : PL) (st : List PV) (G : PW) : pm_dn pm_sP 87 189 P st G = pm_go pm_sP 87 G (pm_oRi 2 P st G) := pm_dn_eq (i := .ireturn) (len := 1) rfl
