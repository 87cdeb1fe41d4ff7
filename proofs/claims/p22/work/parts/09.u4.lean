/-! printed by gen09.py: what each instruction does, pc by pc -/
theorem u_88_3 (X : LX) (P : PL) (st : List PV) (G : PW) (f : Nat) : pl_dn X 88 3 P st G f = pl_go X 88 G f (pm_oDup 4 P st G) := pl_dn_eq (i := .dup) (len := 1) rfl
theorem u_88_7 (X : LX) (P : PL) (st : List PV) (G : PW) (f : Nat) : pl_dn X 88 7 P st G f = pl_go X 88 G f (pm_oAS 1 8 P st G) := pl_dn_eq (i := .astore_n 1) (len := 1) rfl
theorem u_88_8 (X : LX) (P : PL) (st : List PV) (G : PW) (f : Nat) : pl_dn X 88 8 P st G f = pl_go X 88 G f (pm_oK 2 9 P st G) := pl_dn_eq (i := .iconst 2) (len := 1) rfl
theorem u_88_9 (X : LX) (P : PL) (st : List PV) (G : PW) (f : Nat) : pl_dn X 88 9 P st G f = pl_go X 88 G f (pm_oAL 0 10 P st G) := pl_dn_eq (i := .aload_n 0) (len := 1) rfl
theorem u_88_10 (X : LX) (P : PL) (st : List PV) (G : PW) (f : Nat) : pl_dn X 88 10 P st G f = pl_go X 88 G f (pm_oK 0 11 P st G) := pl_dn_eq (i := .iconst 0) (len := 1) rfl
theorem u_88_11 (X : LX) (P : PL) (st : List PV) (G : PW) (f : Nat) : pl_dn X 88 11 P st G f = pl_go X 88 G f (pm_oK 15 13 P st G) := pl_dn_eq (i := .bipush 15) (len := 2) rfl
theorem u_88_13 (X : LX) (P : PL) (st : List PV) (G : PW) (f : Nat) : pl_dn X 88 13 P st G f = pl_go X 88 G f (pm_oCs 82 3 3 16 P st G) := pl_dn_eq (i := .invokestatic 28) (len := 3) rfl
theorem u_88_16 (X : LX) (P : PL) (st : List PV) (G : PW) (f : Nat) : pl_dn X 88 16 P st G f = pl_go X 88 G f (pm_oAdd 17 P st G) := pl_dn_eq (i := .iadd) (len := 1) rfl
theorem u_88_17 (X : LX) (P : PL) (st : List PV) (G : PW) (f : Nat) : pl_dn X 88 17 P st G f = pl_go X 88 G f (pm_oIS 2 18 P st G) := pl_dn_eq (i := .istore_n 2) (len := 1) rfl
theorem u_88_18 (X : LX) (P : PL) (st : List PV) (G : PW) (f : Nat) : pl_dn X 88 18 P st G f = pl_go X 88 G f (pm_oAL 0 19 P st G) := pl_dn_eq (i := .aload_n 0) (len := 1) rfl
theorem u_88_19 (X : LX) (P : PL) (st : List PV) (G : PW) (f : Nat) : pl_dn X 88 19 P st G f = pl_go X 88 G f (pm_oK 1 20 P st G) := pl_dn_eq (i := .iconst 1) (len := 1) rfl
theorem u_88_20 (X : LX) (P : PL) (st : List PV) (G : PW) (f : Nat) : pl_dn X 88 20 P st G f = pl_go X 88 G f (pm_oK 2 21 P st G) := pl_dn_eq (i := .iconst 2) (len := 1) rfl
theorem u_88_21 (X : LX) (P : PL) (st : List PV) (G : PW) (f : Nat) : pl_dn X 88 21 P st G f = pl_go X 88 G f (pm_oCs 82 3 3 24 P st G) := pl_dn_eq (i := .invokestatic 28) (len := 3) rfl
theorem u_88_24 (X : LX) (P : PL) (st : List PV) (G : PW) (f : Nat) : pl_dn X 88 24 P st G f = pl_go X 88 G f (pm_oIS 3 25 P st G) := pl_dn_eq (i := .istore_n 3) (len := 1) rfl
theorem u_88_25 (X : LX) (P : PL) (st : List PV) (G : PW) (f : Nat) : pl_dn X 88 25 P st G f = pl_go X 88 G f (pm_oAL 1 26 P st G) := pl_dn_eq (i := .aload_n 1) (len := 1) rfl
theorem u_88_26 (X : LX) (P : PL) (st : List PV) (G : PW) (f : Nat) : pl_dn X 88 26 P st G f = pl_go X 88 G f (pm_oIL 2 27 P st G) := pl_dn_eq (i := .iload_n 2) (len := 1) rfl
theorem u_88_27 (X : LX) (P : PL) (st : List PV) (G : PW) (f : Nat) : pl_dn X 88 27 P st G f = pl_go X 88 G f (pm_oIL 3 28 P st G) := pl_dn_eq (i := .iload_n 3) (len := 1) rfl
theorem u_88_28 (X : LX) (P : PL) (st : List PV) (G : PW) (f : Nat) : pl_dn X 88 28 P st G f = pl_go X 88 G f (pm_oCv pm_sC 54 2 3 5 31 P st G) := pl_dn_eq (i := .invokevirtual 32) (len := 3) rfl
theorem u_88_31 (X : LX) (P : PL) (st : List PV) (G : PW) (f : Nat) : pl_dn X 88 31 P st G f = pl_go X 88 G f (pm_oPop 32 P st G) := pl_dn_eq (i := .pop) (len := 1) rfl
theorem u_88_32 (X : LX) (P : PL) (st : List PV) (G : PW) (f : Nat) : pl_dn X 88 32 P st G f = pl_go X 88 G f (pm_oAL 1 33 P st G) := pl_dn_eq (i := .aload_n 1) (len := 1) rfl
theorem u_88_33 (X : LX) (P : PL) (st : List PV) (G : PW) (f : Nat) : pl_dn X 88 33 P st G f = pl_go X 88 G f (pm_oIL 2 34 P st G) := pl_dn_eq (i := .iload_n 2) (len := 1) rfl
theorem u_88_34 (X : LX) (P : PL) (st : List PV) (G : PW) (f : Nat) : pl_dn X 88 34 P st G f = pl_go X 88 G f (pm_oIL 3 35 P st G) := pl_dn_eq (i := .iload_n 3) (len := 1) rfl
theorem u_88_35 (X : LX) (P : PL) (st : List PV) (G : PW) (f : Nat) : pl_dn X 88 35 P st G f = pl_go X 88 G f (pm_oCs 84 3 11 38 P st G) := pl_dn_eq (i := .invokestatic 35) (len := 3) rfl
theorem u_88_38 (X : LX) (P : PL) (st : List PV) (G : PW) (f : Nat) : pl_dn X 88 38 P st G f = pl_go X 88 G f (pm_oIf .eq (some 57) 41 P st G) := pl_dn_eq (i := .ifCond .eq 19) (len := 3) rfl
theorem u_88_41 (X : LX) (P : PL) (st : List PV) (G : PW) (f : Nat) : pl_dn X 88 41 P st G f = pl_go X 88 G f (pm_oAL 1 42 P st G) := pl_dn_eq (i := .aload_n 1) (len := 1) rfl
theorem u_88_42 (X : LX) (P : PL) (st : List PV) (G : PW) (f : Nat) : pl_dn X 88 42 P st G f = pl_go X 88 G f (pm_oIL 2 43 P st G) := pl_dn_eq (i := .iload_n 2) (len := 1) rfl
theorem u_88_43 (X : LX) (P : PL) (st : List PV) (G : PW) (f : Nat) : pl_dn X 88 43 P st G f = pl_go X 88 G f (pm_oCs 85 2 6 46 P st G) := pl_dn_eq (i := .invokestatic 39) (len := 3) rfl
theorem u_88_46 (X : LX) (P : PL) (st : List PV) (G : PW) (f : Nat) : pl_dn X 88 46 P st G f = pl_go X 88 G f (pm_oIf .eq (some 57) 49 P st G) := pl_dn_eq (i := .ifCond .eq 11) (len := 3) rfl
theorem u_88_49 (X : LX) (P : PL) (st : List PV) (G : PW) (f : Nat) : pl_dn X 88 49 P st G f = pl_go X 88 G f (pm_oAL 1 50 P st G) := pl_dn_eq (i := .aload_n 1) (len := 1) rfl
theorem u_88_50 (X : LX) (P : PL) (st : List PV) (G : PW) (f : Nat) : pl_dn X 88 50 P st G f = pl_go X 88 G f (pm_oIL 2 51 P st G) := pl_dn_eq (i := .iload_n 2) (len := 1) rfl
theorem u_88_51 (X : LX) (P : PL) (st : List PV) (G : PW) (f : Nat) : pl_dn X 88 51 P st G f = pl_go X 88 G f (pm_oCs 86 2 13 54 P st G) := pl_dn_eq (i := .invokestatic 43) (len := 3) rfl
theorem u_88_54 (X : LX) (P : PL) (st : List PV) (G : PW) (f : Nat) : pl_dn X 88 54 P st G f = pl_go X 88 G f (pm_oIf .ne (some 59) 57 P st G) := pl_dn_eq (i := .ifCond .ne 5) (len := 3) rfl
theorem u_88_57 (X : LX) (P : PL) (st : List PV) (G : PW) (f : Nat) : pl_dn X 88 57 P st G f = pl_go X 88 G f (pm_oK 0 58 P st G) := pl_dn_eq (i := .iconst 0) (len := 1) rfl
theorem u_88_58 (X : LX) (P : PL) (st : List PV) (G : PW) (f : Nat) : pl_dn X 88 58 P st G f = pl_go X 88 G f (pm_oRi 2 P st G) := pl_dn_eq (i := .ireturn) (len := 1) rfl
theorem u_88_59 (X : LX) (P : PL) (st : List PV) (G : PW) (f : Nat) : pl_dn X 88 59 P st G f = pl_go X 88 G f (pm_oK 0 60 P st G) := pl_dn_eq (i := .iconst 0) (len := 1) rfl
theorem u_88_60 (X : LX) (P : PL) (st : List PV) (G : PW) (f : Nat) : pl_dn X 88 60 P st G f = pl_go X 88 G f (pm_oIS 4 62 P st G) := pl_dn_eq (i := .istore 4) (len := 2) rfl
theorem u_88_62 (X : LX) (P : PL) (st : List PV) (G : PW) (f : Nat) : pl_dn X 88 62 P st G f = pl_go X 88 G f (pm_oK 0 63 P st G) := pl_dn_eq (i := .iconst 0) (len := 1) rfl
theorem u_88_63 (X : LX) (P : PL) (st : List PV) (G : PW) (f : Nat) : pl_dn X 88 63 P st G f = pl_go X 88 G f (pm_oIS 5 65 P st G) := pl_dn_eq (i := .istore 5) (len := 2) rfl
theorem u_88_65 (X : LX) (P : PL) (st : List PV) (G : PW) (f : Nat) : pl_dn X 88 65 P st G f = pl_go X 88 G f (pm_oAL 1 66 P st G) := pl_dn_eq (i := .aload_n 1) (len := 1) rfl
theorem u_88_66 (X : LX) (P : PL) (st : List PV) (G : PW) (f : Nat) : pl_dn X 88 66 P st G f = pl_go X 88 G f (pm_oK 10 68 P st G) := pl_dn_eq (i := .bipush 10) (len := 2) rfl
theorem u_88_68 (X : LX) (P : PL) (st : List PV) (G : PW) (f : Nat) : pl_dn X 88 68 P st G f = pl_go X 88 G f (pm_oCv pm_sC 60 1 2 5 71 P st G) := pl_dn_eq (i := .invokevirtual 8) (len := 3) rfl
theorem u_88_71 (X : LX) (P : PL) (st : List PV) (G : PW) (f : Nat) : pl_dn X 88 71 P st G f = pl_go X 88 G f (pm_oIS 6 73 P st G) := pl_dn_eq (i := .istore 6) (len := 2) rfl
theorem u_88_73 (X : LX) (P : PL) (st : List PV) (G : PW) (f : Nat) : pl_dn X 88 73 P st G f = pl_go X 88 G f (pm_oAL 1 74 P st G) := pl_dn_eq (i := .aload_n 1) (len := 1) rfl
theorem u_88_74 (X : LX) (P : PL) (st : List PV) (G : PW) (f : Nat) : pl_dn X 88 74 P st G f = pl_go X 88 G f (pm_oK 11 76 P st G) := pl_dn_eq (i := .bipush 11) (len := 2) rfl
theorem u_88_76 (X : LX) (P : PL) (st : List PV) (G : PW) (f : Nat) : pl_dn X 88 76 P st G f = pl_go X 88 G f (pm_oCv pm_sC 60 1 2 5 79 P st G) := pl_dn_eq (i := .invokevirtual 8) (len := 3) rfl
theorem u_88_79 (X : LX) (P : PL) (st : List PV) (G : PW) (f : Nat) : pl_dn X 88 79 P st G f = pl_go X 88 G f (pm_oIS 7 81 P st G) := pl_dn_eq (i := .istore 7) (len := 2) rfl
theorem u_88_81 (X : LX) (P : PL) (st : List PV) (G : PW) (f : Nat) : pl_dn X 88 81 P st G f = pl_go X 88 G f (pm_oK 0 82 P st G) := pl_dn_eq (i := .iconst 0) (len := 1) rfl
theorem u_88_82 (X : LX) (P : PL) (st : List PV) (G : PW) (f : Nat) : pl_dn X 88 82 P st G f = pl_go X 88 G f (pm_oIS 8 84 P st G) := pl_dn_eq (i := .istore 8) (len := 2) rfl
theorem u_88_84 (X : LX) (P : PL) (st : List PV) (G : PW) (f : Nat) : pl_dn X 88 84 P st G f = pl_go X 88 G f (pm_oK 0 85 P st G) := pl_dn_eq (i := .iconst 0) (len := 1) rfl
theorem u_88_85 (X : LX) (P : PL) (st : List PV) (G : PW) (f : Nat) : pl_dn X 88 85 P st G f = pl_go X 88 G f (pm_oIS 9 87 P st G) := pl_dn_eq (i := .istore 9) (len := 2) rfl
theorem u_88_87 (X : LX) (P : PL) (st : List PV) (G : PW) (f : Nat) : pl_dn X 88 87 P st G f = pl_go X 88 G f (pm_oAL 1 88 P st G) := pl_dn_eq (i := .aload_n 1) (len := 1) rfl
theorem u_88_88 (X : LX) (P : PL) (st : List PV) (G : PW) (f : Nat) : pl_dn X 88 88 P st G f = pl_go X 88 G f (pm_oK 8 90 P st G) := pl_dn_eq (i := .bipush 8) (len := 2) rfl
theorem u_88_90 (X : LX) (P : PL) (st : List PV) (G : PW) (f : Nat) : pl_dn X 88 90 P st G f = pl_go X 88 G f (pm_oCv pm_sC 60 1 2 5 93 P st G) := pl_dn_eq (i := .invokevirtual 8) (len := 3) rfl
theorem u_88_93 (X : LX) (P : PL) (st : List PV) (G : PW) (f : Nat) : pl_dn X 88 93 P st G f = pl_go X 88 G f (pm_oIf .ge (some 442) 96 P st G) := pl_dn_eq (i := .ifCond .ge 349) (len := 3) rfl
theorem u_88_96 (X : LX) (P : PL) (st : List PV) (G : PW) (f : Nat) : pl_dn X 88 96 P st G f = pl_go X 88 G f (pm_oAL 0 97 P st G) := pl_dn_eq (i := .aload_n 0) (len := 1) rfl
theorem u_88_97 (X : LX) (P : PL) (st : List PV) (G : PW) (f : Nat) : pl_dn X 88 97 P st G f = pl_go X 88 G f (pm_oK 2 98 P st G) := pl_dn_eq (i := .iconst 2) (len := 1) rfl
theorem u_88_98 (X : LX) (P : PL) (st : List PV) (G : PW) (f : Nat) : pl_dn X 88 98 P st G f = pl_go X 88 G f (pm_oIL 9 100 P st G) := pl_dn_eq (i := .iload 9) (len := 2) rfl
theorem u_88_100 (X : LX) (P : PL) (st : List PV) (G : PW) (f : Nat) : pl_dn X 88 100 P st G f = pl_go X 88 G f (pm_oMul 101 P st G) := pl_dn_eq (i := .imul) (len := 1) rfl
theorem u_88_101 (X : LX) (P : PL) (st : List PV) (G : PW) (f : Nat) : pl_dn X 88 101 P st G f = pl_go X 88 G f (pm_oK 2 102 P st G) := pl_dn_eq (i := .iconst 2) (len := 1) rfl
theorem u_88_102 (X : LX) (P : PL) (st : List PV) (G : PW) (f : Nat) : pl_dn X 88 102 P st G f = pl_go X 88 G f (pm_oAdd 103 P st G) := pl_dn_eq (i := .iadd) (len := 1) rfl
theorem u_88_103 (X : LX) (P : PL) (st : List PV) (G : PW) (f : Nat) : pl_dn X 88 103 P st G f = pl_go X 88 G f (pm_oK 11 105 P st G) := pl_dn_eq (i := .bipush 11) (len := 2) rfl
theorem u_88_105 (X : LX) (P : PL) (st : List PV) (G : PW) (f : Nat) : pl_dn X 88 105 P st G f = pl_go X 88 G f (pm_oCs 82 3 3 108 P st G) := pl_dn_eq (i := .invokestatic 28) (len := 3) rfl
theorem u_88_108 (X : LX) (P : PL) (st : List PV) (G : PW) (f : Nat) : pl_dn X 88 108 P st G f = pl_go X 88 G f (pm_oIf .ne (some 250) 111 P st G) := pl_dn_eq (i := .ifCond .ne 142) (len := 3) rfl
theorem u_88_111 (X : LX) (P : PL) (st : List PV) (G : PW) (f : Nat) : pl_dn X 88 111 P st G f = pl_go X 88 G f (pm_oAL 0 112 P st G) := pl_dn_eq (i := .aload_n 0) (len := 1) rfl
theorem u_88_112 (X : LX) (P : PL) (st : List PV) (G : PW) (f : Nat) : pl_dn X 88 112 P st G f = pl_go X 88 G f (pm_oK 2 113 P st G) := pl_dn_eq (i := .iconst 2) (len := 1) rfl
theorem u_88_113 (X : LX) (P : PL) (st : List PV) (G : PW) (f : Nat) : pl_dn X 88 113 P st G f = pl_go X 88 G f (pm_oIL 9 115 P st G) := pl_dn_eq (i := .iload 9) (len := 2) rfl
theorem u_88_115 (X : LX) (P : PL) (st : List PV) (G : PW) (f : Nat) : pl_dn X 88 115 P st G f = pl_go X 88 G f (pm_oMul 116 P st G) := pl_dn_eq (i := .imul) (len := 1) rfl
theorem u_88_116 (X : LX) (P : PL) (st : List PV) (G : PW) (f : Nat) : pl_dn X 88 116 P st G f = pl_go X 88 G f (pm_oK 3 117 P st G) := pl_dn_eq (i := .iconst 3) (len := 1) rfl
theorem u_88_117 (X : LX) (P : PL) (st : List PV) (G : PW) (f : Nat) : pl_dn X 88 117 P st G f = pl_go X 88 G f (pm_oAdd 118 P st G) := pl_dn_eq (i := .iadd) (len := 1) rfl
theorem u_88_118 (X : LX) (P : PL) (st : List PV) (G : PW) (f : Nat) : pl_dn X 88 118 P st G f = pl_go X 88 G f (pm_oIL 2 119 P st G) := pl_dn_eq (i := .iload_n 2) (len := 1) rfl
theorem u_88_119 (X : LX) (P : PL) (st : List PV) (G : PW) (f : Nat) : pl_dn X 88 119 P st G f = pl_go X 88 G f (pm_oCs 82 3 3 122 P st G) := pl_dn_eq (i := .invokestatic 28) (len := 3) rfl
theorem u_88_122 (X : LX) (P : PL) (st : List PV) (G : PW) (f : Nat) : pl_dn X 88 122 P st G f = pl_go X 88 G f (pm_oIS 10 124 P st G) := pl_dn_eq (i := .istore 10) (len := 2) rfl
theorem u_88_124 (X : LX) (P : PL) (st : List PV) (G : PW) (f : Nat) : pl_dn X 88 124 P st G f = pl_go X 88 G f (pm_oAL 1 125 P st G) := pl_dn_eq (i := .aload_n 1) (len := 1) rfl
theorem u_88_125 (X : LX) (P : PL) (st : List PV) (G : PW) (f : Nat) : pl_dn X 88 125 P st G f = pl_go X 88 G f (pm_oK 4 126 P st G) := pl_dn_eq (i := .iconst 4) (len := 1) rfl
theorem u_88_126 (X : LX) (P : PL) (st : List PV) (G : PW) (f : Nat) : pl_dn X 88 126 P st G f = pl_go X 88 G f (pm_oCv pm_sC 60 1 2 5 129 P st G) := pl_dn_eq (i := .invokevirtual 8) (len := 3) rfl
theorem u_88_129 (X : LX) (P : PL) (st : List PV) (G : PW) (f : Nat) : pl_dn X 88 129 P st G f = pl_go X 88 G f (pm_oAL 1 130 P st G) := pl_dn_eq (i := .aload_n 1) (len := 1) rfl
theorem u_88_130 (X : LX) (P : PL) (st : List PV) (G : PW) (f : Nat) : pl_dn X 88 130 P st G f = pl_go X 88 G f (pm_oK 5 131 P st G) := pl_dn_eq (i := .iconst 5) (len := 1) rfl
theorem u_88_131 (X : LX) (P : PL) (st : List PV) (G : PW) (f : Nat) : pl_dn X 88 131 P st G f = pl_go X 88 G f (pm_oCv pm_sC 60 1 2 5 134 P st G) := pl_dn_eq (i := .invokevirtual 8) (len := 3) rfl
theorem u_88_134 (X : LX) (P : PL) (st : List PV) (G : PW) (f : Nat) : pl_dn X 88 134 P st G f = pl_go X 88 G f (pm_oAdd 135 P st G) := pl_dn_eq (i := .iadd) (len := 1) rfl
theorem u_88_135 (X : LX) (P : PL) (st : List PV) (G : PW) (f : Nat) : pl_dn X 88 135 P st G f = pl_go X 88 G f (pm_oAL 1 136 P st G) := pl_dn_eq (i := .aload_n 1) (len := 1) rfl
theorem u_88_136 (X : LX) (P : PL) (st : List PV) (G : PW) (f : Nat) : pl_dn X 88 136 P st G f = pl_go X 88 G f (pm_oK 6 138 P st G) := pl_dn_eq (i := .bipush 6) (len := 2) rfl
theorem u_88_138 (X : LX) (P : PL) (st : List PV) (G : PW) (f : Nat) : pl_dn X 88 138 P st G f = pl_go X 88 G f (pm_oCv pm_sC 60 1 2 5 141 P st G) := pl_dn_eq (i := .invokevirtual 8) (len := 3) rfl
theorem u_88_141 (X : LX) (P : PL) (st : List PV) (G : PW) (f : Nat) : pl_dn X 88 141 P st G f = pl_go X 88 G f (pm_oAdd 142 P st G) := pl_dn_eq (i := .iadd) (len := 1) rfl
theorem u_88_142 (X : LX) (P : PL) (st : List PV) (G : PW) (f : Nat) : pl_dn X 88 142 P st G f = pl_go X 88 G f (pm_oIS 11 144 P st G) := pl_dn_eq (i := .istore 11) (len := 2) rfl
theorem u_88_144 (X : LX) (P : PL) (st : List PV) (G : PW) (f : Nat) : pl_dn X 88 144 P st G f = pl_go X 88 G f (pm_oAL 1 145 P st G) := pl_dn_eq (i := .aload_n 1) (len := 1) rfl
theorem u_88_145 (X : LX) (P : PL) (st : List PV) (G : PW) (f : Nat) : pl_dn X 88 145 P st G f = pl_go X 88 G f (pm_oIL 10 147 P st G) := pl_dn_eq (i := .iload 10) (len := 2) rfl
theorem u_88_147 (X : LX) (P : PL) (st : List PV) (G : PW) (f : Nat) : pl_dn X 88 147 P st G f = pl_go X 88 G f (pm_oK 3 148 P st G) := pl_dn_eq (i := .iconst 3) (len := 1) rfl
theorem u_88_148 (X : LX) (P : PL) (st : List PV) (G : PW) (f : Nat) : pl_dn X 88 148 P st G f = pl_go X 88 G f (pm_oCv pm_sC 58 2 3 5 151 P st G) := pl_dn_eq (i := .invokevirtual 24) (len := 3) rfl
theorem u_88_151 (X : LX) (P : PL) (st : List PV) (G : PW) (f : Nat) : pl_dn X 88 151 P st G f = pl_go X 88 G f (pm_oIf .ne (some 169) 154 P st G) := pl_dn_eq (i := .ifCond .ne 18) (len := 3) rfl
theorem u_88_154 (X : LX) (P : PL) (st : List PV) (G : PW) (f : Nat) : pl_dn X 88 154 P st G f = pl_go X 88 G f (pm_oAL 1 155 P st G) := pl_dn_eq (i := .aload_n 1) (len := 1) rfl
theorem u_88_155 (X : LX) (P : PL) (st : List PV) (G : PW) (f : Nat) : pl_dn X 88 155 P st G f = pl_go X 88 G f (pm_oIL 10 157 P st G) := pl_dn_eq (i := .iload 10) (len := 2) rfl
theorem u_88_157 (X : LX) (P : PL) (st : List PV) (G : PW) (f : Nat) : pl_dn X 88 157 P st G f = pl_go X 88 G f (pm_oK 6 159 P st G) := pl_dn_eq (i := .bipush 6) (len := 2) rfl
theorem u_88_159 (X : LX) (P : PL) (st : List PV) (G : PW) (f : Nat) : pl_dn X 88 159 P st G f = pl_go X 88 G f (pm_oCv pm_sC 58 2 3 5 162 P st G) := pl_dn_eq (i := .invokevirtual 24) (len := 3) rfl
theorem u_88_162 (X : LX) (P : PL) (st : List PV) (G : PW) (f : Nat) : pl_dn X 88 162 P st G f = pl_go X 88 G f (pm_oIf .ge (some 169) 165 P st G) := pl_dn_eq (i := .ifCond .ge 7) (len := 3) rfl
theorem u_88_165 (X : LX) (P : PL) (st : List PV) (G : PW) (f : Nat) : pl_dn X 88 165 P st G f = pl_go X 88 G f (pm_oK 1 166 P st G) := pl_dn_eq (i := .iconst 1) (len := 1) rfl
theorem u_88_166 (X : LX) (P : PL) (st : List PV) (G : PW) (f : Nat) : pl_dn X 88 166 P st G f = pl_go X 88 G f (pm_oGo (some 170) P st G) := pl_dn_eq (i := .goto 4) (len := 3) rfl
theorem u_88_169 (X : LX) (P : PL) (st : List PV) (G : PW) (f : Nat) : pl_dn X 88 169 P st G f = pl_go X 88 G f (pm_oK 0 170 P st G) := pl_dn_eq (i := .iconst 0) (len := 1) rfl
theorem u_88_170 (X : LX) (P : PL) (st : List PV) (G : PW) (f : Nat) : pl_dn X 88 170 P st G f = pl_go X 88 G f (pm_oIS 12 172 P st G) := pl_dn_eq (i := .istore 12) (len := 2) rfl
theorem u_88_172 (X : LX) (P : PL) (st : List PV) (G : PW) (f : Nat) : pl_dn X 88 172 P st G f = pl_go X 88 G f (pm_oAL 1 173 P st G) := pl_dn_eq (i := .aload_n 1) (len := 1) rfl
theorem u_88_173 (X : LX) (P : PL) (st : List PV) (G : PW) (f : Nat) : pl_dn X 88 173 P st G f = pl_go X 88 G f (pm_oIL 10 175 P st G) := pl_dn_eq (i := .iload 10) (len := 2) rfl
theorem u_88_175 (X : LX) (P : PL) (st : List PV) (G : PW) (f : Nat) : pl_dn X 88 175 P st G f = pl_go X 88 G f (pm_oCv pm_sC 56 1 3 5 178 P st G) := pl_dn_eq (i := .invokevirtual 46) (len := 3) rfl
theorem u_88_178 (X : LX) (P : PL) (st : List PV) (G : PW) (f : Nat) : pl_dn X 88 178 P st G f = pl_go X 88 G f (pm_oIS 13 180 P st G) := pl_dn_eq (i := .istore 13) (len := 2) rfl
theorem u_88_180 (X : LX) (P : PL) (st : List PV) (G : PW) (f : Nat) : pl_dn X 88 180 P st G f = pl_go X 88 G f (pm_oIL 13 182 P st G) := pl_dn_eq (i := .iload 13) (len := 2) rfl
theorem u_88_182 (X : LX) (P : PL) (st : List PV) (G : PW) (f : Nat) : pl_dn X 88 182 P st G f = pl_go X 88 G f (pm_oIf .lt (some 189) 185 P st G) := pl_dn_eq (i := .ifCond .lt 7) (len := 3) rfl
theorem u_88_185 (X : LX) (P : PL) (st : List PV) (G : PW) (f : Nat) : pl_dn X 88 185 P st G f = pl_go X 88 G f (pm_oK 1 186 P st G) := pl_dn_eq (i := .iconst 1) (len := 1) rfl
theorem u_88_186 (X : LX) (P : PL) (st : List PV) (G : PW) (f : Nat) : pl_dn X 88 186 P st G f = pl_go X 88 G f (pm_oGo (some 190) P st G) := pl_dn_eq (i := .goto 4) (len := 3) rfl
theorem u_88_189 (X : LX) (P : PL) (st : List PV) (G : PW) (f : Nat) : pl_dn X 88 189 P st G f = pl_go X 88 G f (pm_oK 0 190 P st G) := pl_dn_eq (i := .iconst 0) (len := 1) rfl
theorem u_88_190 (X : LX) (P : PL) (st : List PV) (G : PW) (f : Nat) : pl_dn X 88 190 P st G f = pl_go X 88 G f (pm_oIL 12 192 P st G) := pl_dn_eq (i := .iload 12) (len := 2) rfl
theorem u_88_192 (X : LX) (P : PL) (st : List PV) (G : PW) (f : Nat) : pl_dn X 88 192 P st G f = pl_go X 88 G f (pm_oIc .ne (some 226) 195 P st G) := pl_dn_eq (i := .if_icmp .ne 34) (len := 3) rfl
theorem u_88_195 (X : LX) (P : PL) (st : List PV) (G : PW) (f : Nat) : pl_dn X 88 195 P st G f = pl_go X 88 G f (pm_oIL 12 197 P st G) := pl_dn_eq (i := .iload 12) (len := 2) rfl
theorem u_88_197 (X : LX) (P : PL) (st : List PV) (G : PW) (f : Nat) : pl_dn X 88 197 P st G f = pl_go X 88 G f (pm_oIf .eq (some 228) 200 P st G) := pl_dn_eq (i := .ifCond .eq 31) (len := 3) rfl
theorem u_88_200 (X : LX) (P : PL) (st : List PV) (G : PW) (f : Nat) : pl_dn X 88 200 P st G f = pl_go X 88 G f (pm_oIL 13 202 P st G) := pl_dn_eq (i := .iload 13) (len := 2) rfl
theorem u_88_202 (X : LX) (P : PL) (st : List PV) (G : PW) (f : Nat) : pl_dn X 88 202 P st G f = pl_go X 88 G f (pm_oAL 1 203 P st G) := pl_dn_eq (i := .aload_n 1) (len := 1) rfl
theorem u_88_203 (X : LX) (P : PL) (st : List PV) (G : PW) (f : Nat) : pl_dn X 88 203 P st G f = pl_go X 88 G f (pm_oK 4 204 P st G) := pl_dn_eq (i := .iconst 4) (len := 1) rfl
theorem u_88_204 (X : LX) (P : PL) (st : List PV) (G : PW) (f : Nat) : pl_dn X 88 204 P st G f = pl_go X 88 G f (pm_oCv pm_sC 60 1 2 5 207 P st G) := pl_dn_eq (i := .invokevirtual 8) (len := 3) rfl
theorem u_88_207 (X : LX) (P : PL) (st : List PV) (G : PW) (f : Nat) : pl_dn X 88 207 P st G f = pl_go X 88 G f (pm_oAL 1 208 P st G) := pl_dn_eq (i := .aload_n 1) (len := 1) rfl
theorem u_88_208 (X : LX) (P : PL) (st : List PV) (G : PW) (f : Nat) : pl_dn X 88 208 P st G f = pl_go X 88 G f (pm_oK 5 209 P st G) := pl_dn_eq (i := .iconst 5) (len := 1) rfl
theorem u_88_209 (X : LX) (P : PL) (st : List PV) (G : PW) (f : Nat) : pl_dn X 88 209 P st G f = pl_go X 88 G f (pm_oCv pm_sC 60 1 2 5 212 P st G) := pl_dn_eq (i := .invokevirtual 8) (len := 3) rfl
theorem u_88_212 (X : LX) (P : PL) (st : List PV) (G : PW) (f : Nat) : pl_dn X 88 212 P st G f = pl_go X 88 G f (pm_oAdd 213 P st G) := pl_dn_eq (i := .iadd) (len := 1) rfl
theorem u_88_213 (X : LX) (P : PL) (st : List PV) (G : PW) (f : Nat) : pl_dn X 88 213 P st G f = pl_go X 88 G f (pm_oAL 1 214 P st G) := pl_dn_eq (i := .aload_n 1) (len := 1) rfl
theorem u_88_214 (X : LX) (P : PL) (st : List PV) (G : PW) (f : Nat) : pl_dn X 88 214 P st G f = pl_go X 88 G f (pm_oK 6 216 P st G) := pl_dn_eq (i := .bipush 6) (len := 2) rfl
theorem u_88_216 (X : LX) (P : PL) (st : List PV) (G : PW) (f : Nat) : pl_dn X 88 216 P st G f = pl_go X 88 G f (pm_oCv pm_sC 60 1 2 5 219 P st G) := pl_dn_eq (i := .invokevirtual 8) (len := 3) rfl
theorem u_88_219 (X : LX) (P : PL) (st : List PV) (G : PW) (f : Nat) : pl_dn X 88 219 P st G f = pl_go X 88 G f (pm_oAdd 220 P st G) := pl_dn_eq (i := .iadd) (len := 1) rfl
theorem u_88_220 (X : LX) (P : PL) (st : List PV) (G : PW) (f : Nat) : pl_dn X 88 220 P st G f = pl_go X 88 G f (pm_oIL 11 222 P st G) := pl_dn_eq (i := .iload 11) (len := 2) rfl
theorem u_88_222 (X : LX) (P : PL) (st : List PV) (G : PW) (f : Nat) : pl_dn X 88 222 P st G f = pl_go X 88 G f (pm_oSub 223 P st G) := pl_dn_eq (i := .isub) (len := 1) rfl
theorem u_88_223 (X : LX) (P : PL) (st : List PV) (G : PW) (f : Nat) : pl_dn X 88 223 P st G f = pl_go X 88 G f (pm_oIc .eq (some 228) 226 P st G) := pl_dn_eq (i := .if_icmp .eq 5) (len := 3) rfl
theorem u_88_226 (X : LX) (P : PL) (st : List PV) (G : PW) (f : Nat) : pl_dn X 88 226 P st G f = pl_go X 88 G f (pm_oK 0 227 P st G) := pl_dn_eq (i := .iconst 0) (len := 1) rfl
theorem u_88_227 (X : LX) (P : PL) (st : List PV) (G : PW) (f : Nat) : pl_dn X 88 227 P st G f = pl_go X 88 G f (pm_oRi 2 P st G) := pl_dn_eq (i := .ireturn) (len := 1) rfl
theorem u_88_228 (X : LX) (P : PL) (st : List PV) (G : PW) (f : Nat) : pl_dn X 88 228 P st G f = pl_go X 88 G f (pm_oIL 4 230 P st G) := pl_dn_eq (i := .iload 4) (len := 2) rfl
theorem u_88_230 (X : LX) (P : PL) (st : List PV) (G : PW) (f : Nat) : pl_dn X 88 230 P st G f = pl_go X 88 G f (pm_oIL 12 232 P st G) := pl_dn_eq (i := .iload 12) (len := 2) rfl
theorem u_88_232 (X : LX) (P : PL) (st : List PV) (G : PW) (f : Nat) : pl_dn X 88 232 P st G f = pl_go X 88 G f (pm_oIf .eq (some 239) 235 P st G) := pl_dn_eq (i := .ifCond .eq 7) (len := 3) rfl
theorem u_88_235 (X : LX) (P : PL) (st : List PV) (G : PW) (f : Nat) : pl_dn X 88 235 P st G f = pl_go X 88 G f (pm_oK 1 236 P st G) := pl_dn_eq (i := .iconst 1) (len := 1) rfl
theorem u_88_236 (X : LX) (P : PL) (st : List PV) (G : PW) (f : Nat) : pl_dn X 88 236 P st G f = pl_go X 88 G f (pm_oGo (some 240) P st G) := pl_dn_eq (i := .goto 4) (len := 3) rfl
theorem u_88_239 (X : LX) (P : PL) (st : List PV) (G : PW) (f : Nat) : pl_dn X 88 239 P st G f = pl_go X 88 G f (pm_oK 0 240 P st G) := pl_dn_eq (i := .iconst 0) (len := 1) rfl
theorem u_88_240 (X : LX) (P : PL) (st : List PV) (G : PW) (f : Nat) : pl_dn X 88 240 P st G f = pl_go X 88 G f (pm_oAdd 241 P st G) := pl_dn_eq (i := .iadd) (len := 1) rfl
theorem u_88_241 (X : LX) (P : PL) (st : List PV) (G : PW) (f : Nat) : pl_dn X 88 241 P st G f = pl_go X 88 G f (pm_oIS 4 243 P st G) := pl_dn_eq (i := .istore 4) (len := 2) rfl
theorem u_88_243 (X : LX) (P : PL) (st : List PV) (G : PW) (f : Nat) : pl_dn X 88 243 P st G f = pl_go X 88 G f (pm_oIL 8 245 P st G) := pl_dn_eq (i := .iload 8) (len := 2) rfl
theorem u_88_245 (X : LX) (P : PL) (st : List PV) (G : PW) (f : Nat) : pl_dn X 88 245 P st G f = pl_go X 88 G f (pm_oIL 12 247 P st G) := pl_dn_eq (i := .iload 12) (len := 2) rfl
theorem u_88_247 (X : LX) (P : PL) (st : List PV) (G : PW) (f : Nat) : pl_dn X 88 247 P st G f = pl_go X 88 G f (pm_oOr 248 P st G) := pl_dn_eq (i := .ior) (len := 1) rfl
theorem u_88_248 (X : LX) (P : PL) (st : List PV) (G : PW) (f : Nat) : pl_dn X 88 248 P st G f = pl_go X 88 G f (pm_oIS 8 250 P st G) := pl_dn_eq (i := .istore 8) (len := 2) rfl
theorem u_88_250 (X : LX) (P : PL) (st : List PV) (G : PW) (f : Nat) : pl_dn X 88 250 P st G f = pl_go X 88 G f (pm_oAL 1 251 P st G) := pl_dn_eq (i := .aload_n 1) (len := 1) rfl
theorem u_88_251 (X : LX) (P : PL) (st : List PV) (G : PW) (f : Nat) : pl_dn X 88 251 P st G f = pl_go X 88 G f (pm_oK 7 253 P st G) := pl_dn_eq (i := .bipush 7) (len := 2) rfl
theorem u_88_253 (X : LX) (P : PL) (st : List PV) (G : PW) (f : Nat) : pl_dn X 88 253 P st G f = pl_go X 88 G f (pm_oCv pm_sC 60 1 2 5 256 P st G) := pl_dn_eq (i := .invokevirtual 8) (len := 3) rfl
theorem u_88_256 (X : LX) (P : PL) (st : List PV) (G : PW) (f : Nat) : pl_dn X 88 256 P st G f = pl_go X 88 G f (pm_oIS 10 258 P st G) := pl_dn_eq (i := .istore 10) (len := 2) rfl
theorem u_88_258 (X : LX) (P : PL) (st : List PV) (G : PW) (f : Nat) : pl_dn X 88 258 P st G f = pl_go X 88 G f (pm_oIL 10 260 P st G) := pl_dn_eq (i := .iload 10) (len := 2) rfl
theorem u_88_260 (X : LX) (P : PL) (st : List PV) (G : PW) (f : Nat) : pl_dn X 88 260 P st G f = pl_go X 88 G f (pm_oIf .le (some 361) 263 P st G) := pl_dn_eq (i := .ifCond .le 101) (len := 3) rfl
theorem u_88_263 (X : LX) (P : PL) (st : List PV) (G : PW) (f : Nat) : pl_dn X 88 263 P st G f = pl_go X 88 G f (pm_oAL 1 264 P st G) := pl_dn_eq (i := .aload_n 1) (len := 1) rfl
theorem u_88_264 (X : LX) (P : PL) (st : List PV) (G : PW) (f : Nat) : pl_dn X 88 264 P st G f = pl_go X 88 G f (pm_oAL 0 265 P st G) := pl_dn_eq (i := .aload_n 0) (len := 1) rfl
theorem u_88_265 (X : LX) (P : PL) (st : List PV) (G : PW) (f : Nat) : pl_dn X 88 265 P st G f = pl_go X 88 G f (pm_oK 2 266 P st G) := pl_dn_eq (i := .iconst 2) (len := 1) rfl
theorem u_88_266 (X : LX) (P : PL) (st : List PV) (G : PW) (f : Nat) : pl_dn X 88 266 P st G f = pl_go X 88 G f (pm_oIL 9 268 P st G) := pl_dn_eq (i := .iload 9) (len := 2) rfl
theorem u_88_268 (X : LX) (P : PL) (st : List PV) (G : PW) (f : Nat) : pl_dn X 88 268 P st G f = pl_go X 88 G f (pm_oMul 269 P st G) := pl_dn_eq (i := .imul) (len := 1) rfl
theorem u_88_269 (X : LX) (P : PL) (st : List PV) (G : PW) (f : Nat) : pl_dn X 88 269 P st G f = pl_go X 88 G f (pm_oK 4 270 P st G) := pl_dn_eq (i := .iconst 4) (len := 1) rfl
theorem u_88_270 (X : LX) (P : PL) (st : List PV) (G : PW) (f : Nat) : pl_dn X 88 270 P st G f = pl_go X 88 G f (pm_oAdd 271 P st G) := pl_dn_eq (i := .iadd) (len := 1) rfl
theorem u_88_271 (X : LX) (P : PL) (st : List PV) (G : PW) (f : Nat) : pl_dn X 88 271 P st G f = pl_go X 88 G f (pm_oIL 10 273 P st G) := pl_dn_eq (i := .iload 10) (len := 2) rfl
theorem u_88_273 (X : LX) (P : PL) (st : List PV) (G : PW) (f : Nat) : pl_dn X 88 273 P st G f = pl_go X 88 G f (pm_oCs 82 3 3 276 P st G) := pl_dn_eq (i := .invokestatic 28) (len := 3) rfl
theorem u_88_276 (X : LX) (P : PL) (st : List PV) (G : PW) (f : Nat) : pl_dn X 88 276 P st G f = pl_go X 88 G f (pm_oCv pm_sC 59 1 4 5 279 P st G) := pl_dn_eq (i := .invokevirtual 49) (len := 3) rfl
theorem u_88_279 (X : LX) (P : PL) (st : List PV) (G : PW) (f : Nat) : pl_dn X 88 279 P st G f = pl_go X 88 G f (pm_oIS 11 281 P st G) := pl_dn_eq (i := .istore 11) (len := 2) rfl
theorem u_88_281 (X : LX) (P : PL) (st : List PV) (G : PW) (f : Nat) : pl_dn X 88 281 P st G f = pl_go X 88 G f (pm_oAL 0 282 P st G) := pl_dn_eq (i := .aload_n 0) (len := 1) rfl
theorem u_88_282 (X : LX) (P : PL) (st : List PV) (G : PW) (f : Nat) : pl_dn X 88 282 P st G f = pl_go X 88 G f (pm_oK 2 283 P st G) := pl_dn_eq (i := .iconst 2) (len := 1) rfl
theorem u_88_283 (X : LX) (P : PL) (st : List PV) (G : PW) (f : Nat) : pl_dn X 88 283 P st G f = pl_go X 88 G f (pm_oIL 9 285 P st G) := pl_dn_eq (i := .iload 9) (len := 2) rfl
theorem u_88_285 (X : LX) (P : PL) (st : List PV) (G : PW) (f : Nat) : pl_dn X 88 285 P st G f = pl_go X 88 G f (pm_oMul 286 P st G) := pl_dn_eq (i := .imul) (len := 1) rfl
theorem u_88_286 (X : LX) (P : PL) (st : List PV) (G : PW) (f : Nat) : pl_dn X 88 286 P st G f = pl_go X 88 G f (pm_oK 5 287 P st G) := pl_dn_eq (i := .iconst 5) (len := 1) rfl
theorem u_88_287 (X : LX) (P : PL) (st : List PV) (G : PW) (f : Nat) : pl_dn X 88 287 P st G f = pl_go X 88 G f (pm_oAdd 288 P st G) := pl_dn_eq (i := .iadd) (len := 1) rfl
theorem u_88_288 (X : LX) (P : PL) (st : List PV) (G : PW) (f : Nat) : pl_dn X 88 288 P st G f = pl_go X 88 G f (pm_oK 2 289 P st G) := pl_dn_eq (i := .iconst 2) (len := 1) rfl
theorem u_88_289 (X : LX) (P : PL) (st : List PV) (G : PW) (f : Nat) : pl_dn X 88 289 P st G f = pl_go X 88 G f (pm_oCs 82 3 3 292 P st G) := pl_dn_eq (i := .invokestatic 28) (len := 3) rfl
theorem u_88_292 (X : LX) (P : PL) (st : List PV) (G : PW) (f : Nat) : pl_dn X 88 292 P st G f = pl_go X 88 G f (pm_oIS 12 294 P st G) := pl_dn_eq (i := .istore 12) (len := 2) rfl
theorem u_88_294 (X : LX) (P : PL) (st : List PV) (G : PW) (f : Nat) : pl_dn X 88 294 P st G f = pl_go X 88 G f (pm_oAL 1 295 P st G) := pl_dn_eq (i := .aload_n 1) (len := 1) rfl
theorem u_88_295 (X : LX) (P : PL) (st : List PV) (G : PW) (f : Nat) : pl_dn X 88 295 P st G f = pl_go X 88 G f (pm_oIL 11 297 P st G) := pl_dn_eq (i := .iload 11) (len := 2) rfl
theorem u_88_297 (X : LX) (P : PL) (st : List PV) (G : PW) (f : Nat) : pl_dn X 88 297 P st G f = pl_go X 88 G f (pm_oIL 12 299 P st G) := pl_dn_eq (i := .iload 12) (len := 2) rfl
theorem u_88_299 (X : LX) (P : PL) (st : List PV) (G : PW) (f : Nat) : pl_dn X 88 299 P st G f = pl_go X 88 G f (pm_oCv pm_sC 57 2 4 5 302 P st G) := pl_dn_eq (i := .invokevirtual 14) (len := 3) rfl
theorem u_88_302 (X : LX) (P : PL) (st : List PV) (G : PW) (f : Nat) : pl_dn X 88 302 P st G f = pl_go X 88 G f (pm_oIS 13 304 P st G) := pl_dn_eq (i := .istore 13) (len := 2) rfl
theorem u_88_304 (X : LX) (P : PL) (st : List PV) (G : PW) (f : Nat) : pl_dn X 88 304 P st G f = pl_go X 88 G f (pm_oAL 1 305 P st G) := pl_dn_eq (i := .aload_n 1) (len := 1) rfl
theorem u_88_305 (X : LX) (P : PL) (st : List PV) (G : PW) (f : Nat) : pl_dn X 88 305 P st G f = pl_go X 88 G f (pm_oIL 11 307 P st G) := pl_dn_eq (i := .iload 11) (len := 2) rfl
theorem u_88_307 (X : LX) (P : PL) (st : List PV) (G : PW) (f : Nat) : pl_dn X 88 307 P st G f = pl_go X 88 G f (pm_oIL 12 309 P st G) := pl_dn_eq (i := .iload 12) (len := 2) rfl
theorem u_88_309 (X : LX) (P : PL) (st : List PV) (G : PW) (f : Nat) : pl_dn X 88 309 P st G f = pl_go X 88 G f (pm_oCv pm_sC 55 2 5 5 312 P st G) := pl_dn_eq (i := .invokevirtual 52) (len := 3) rfl
theorem u_88_312 (X : LX) (P : PL) (st : List PV) (G : PW) (f : Nat) : pl_dn X 88 312 P st G f = pl_go X 88 G f (pm_oIL 13 314 P st G) := pl_dn_eq (i := .iload 13) (len := 2) rfl
theorem u_88_314 (X : LX) (P : PL) (st : List PV) (G : PW) (f : Nat) : pl_dn X 88 314 P st G f = pl_go X 88 G f (pm_oIc .ne (some 353) 317 P st G) := pl_dn_eq (i := .if_icmp .ne 39) (len := 3) rfl
theorem u_88_317 (X : LX) (P : PL) (st : List PV) (G : PW) (f : Nat) : pl_dn X 88 317 P st G f = pl_go X 88 G f (pm_oAL 1 318 P st G) := pl_dn_eq (i := .aload_n 1) (len := 1) rfl
theorem u_88_318 (X : LX) (P : PL) (st : List PV) (G : PW) (f : Nat) : pl_dn X 88 318 P st G f = pl_go X 88 G f (pm_oIL 11 320 P st G) := pl_dn_eq (i := .iload 11) (len := 2) rfl
theorem u_88_320 (X : LX) (P : PL) (st : List PV) (G : PW) (f : Nat) : pl_dn X 88 320 P st G f = pl_go X 88 G f (pm_oK 2 321 P st G) := pl_dn_eq (i := .iconst 2) (len := 1) rfl
theorem u_88_321 (X : LX) (P : PL) (st : List PV) (G : PW) (f : Nat) : pl_dn X 88 321 P st G f = pl_go X 88 G f (pm_oCv pm_sC 57 2 4 5 324 P st G) := pl_dn_eq (i := .invokevirtual 14) (len := 3) rfl
theorem u_88_324 (X : LX) (P : PL) (st : List PV) (G : PW) (f : Nat) : pl_dn X 88 324 P st G f = pl_go X 88 G f (pm_oIL 13 326 P st G) := pl_dn_eq (i := .iload 13) (len := 2) rfl
theorem u_88_326 (X : LX) (P : PL) (st : List PV) (G : PW) (f : Nat) : pl_dn X 88 326 P st G f = pl_go X 88 G f (pm_oIc .ne (some 353) 329 P st G) := pl_dn_eq (i := .if_icmp .ne 27) (len := 3) rfl
theorem u_88_329 (X : LX) (P : PL) (st : List PV) (G : PW) (f : Nat) : pl_dn X 88 329 P st G f = pl_go X 88 G f (pm_oAL 1 330 P st G) := pl_dn_eq (i := .aload_n 1) (len := 1) rfl
theorem u_88_330 (X : LX) (P : PL) (st : List PV) (G : PW) (f : Nat) : pl_dn X 88 330 P st G f = pl_go X 88 G f (pm_oIL 11 332 P st G) := pl_dn_eq (i := .iload 11) (len := 2) rfl
theorem u_88_332 (X : LX) (P : PL) (st : List PV) (G : PW) (f : Nat) : pl_dn X 88 332 P st G f = pl_go X 88 G f (pm_oK 4 333 P st G) := pl_dn_eq (i := .iconst 4) (len := 1) rfl
theorem u_88_333 (X : LX) (P : PL) (st : List PV) (G : PW) (f : Nat) : pl_dn X 88 333 P st G f = pl_go X 88 G f (pm_oCv pm_sC 57 2 4 5 336 P st G) := pl_dn_eq (i := .invokevirtual 14) (len := 3) rfl
theorem u_88_336 (X : LX) (P : PL) (st : List PV) (G : PW) (f : Nat) : pl_dn X 88 336 P st G f = pl_go X 88 G f (pm_oK 3 337 P st G) := pl_dn_eq (i := .iconst 3) (len := 1) rfl
theorem u_88_337 (X : LX) (P : PL) (st : List PV) (G : PW) (f : Nat) : pl_dn X 88 337 P st G f = pl_go X 88 G f (pm_oIc .ne (some 353) 340 P st G) := pl_dn_eq (i := .if_icmp .ne 16) (len := 3) rfl
theorem u_88_340 (X : LX) (P : PL) (st : List PV) (G : PW) (f : Nat) : pl_dn X 88 340 P st G f = pl_go X 88 G f (pm_oAL 1 341 P st G) := pl_dn_eq (i := .aload_n 1) (len := 1) rfl
theorem u_88_341 (X : LX) (P : PL) (st : List PV) (G : PW) (f : Nat) : pl_dn X 88 341 P st G f = pl_go X 88 G f (pm_oIL 11 343 P st G) := pl_dn_eq (i := .iload 11) (len := 2) rfl
theorem u_88_343 (X : LX) (P : PL) (st : List PV) (G : PW) (f : Nat) : pl_dn X 88 343 P st G f = pl_go X 88 G f (pm_oIL 12 345 P st G) := pl_dn_eq (i := .iload 12) (len := 2) rfl
theorem u_88_345 (X : LX) (P : PL) (st : List PV) (G : PW) (f : Nat) : pl_dn X 88 345 P st G f = pl_go X 88 G f (pm_oCv pm_sC 55 2 5 5 348 P st G) := pl_dn_eq (i := .invokevirtual 52) (len := 3) rfl
theorem u_88_348 (X : LX) (P : PL) (st : List PV) (G : PW) (f : Nat) : pl_dn X 88 348 P st G f = pl_go X 88 G f (pm_oK (-5) 350 P st G) := pl_dn_eq (i := .bipush (-5)) (len := 2) rfl
theorem u_88_350 (X : LX) (P : PL) (st : List PV) (G : PW) (f : Nat) : pl_dn X 88 350 P st G f = pl_go X 88 G f (pm_oIc .eq (some 355) 353 P st G) := pl_dn_eq (i := .if_icmp .eq 5) (len := 3) rfl
theorem u_88_353 (X : LX) (P : PL) (st : List PV) (G : PW) (f : Nat) : pl_dn X 88 353 P st G f = pl_go X 88 G f (pm_oK 0 354 P st G) := pl_dn_eq (i := .iconst 0) (len := 1) rfl
theorem u_88_354 (X : LX) (P : PL) (st : List PV) (G : PW) (f : Nat) : pl_dn X 88 354 P st G f = pl_go X 88 G f (pm_oRi 2 P st G) := pl_dn_eq (i := .ireturn) (len := 1) rfl
theorem u_88_355 (X : LX) (P : PL) (st : List PV) (G : PW) (f : Nat) : pl_dn X 88 355 P st G f = pl_go X 88 G f (pm_oInc 4 1 358 P st G) := pl_dn_eq (i := .iinc 4 1) (len := 3) rfl
theorem u_88_358 (X : LX) (P : PL) (st : List PV) (G : PW) (f : Nat) : pl_dn X 88 358 P st G f = pl_go X 88 G f (pm_oInc 5 1 361 P st G) := pl_dn_eq (i := .iinc 5 1) (len := 3) rfl
theorem u_88_361 (X : LX) (P : PL) (st : List PV) (G : PW) (f : Nat) : pl_dn X 88 361 P st G f = pl_go X 88 G f (pm_oIL 9 363 P st G) := pl_dn_eq (i := .iload 9) (len := 2) rfl
theorem u_88_363 (X : LX) (P : PL) (st : List PV) (G : PW) (f : Nat) : pl_dn X 88 363 P st G f = pl_go X 88 G f (pm_oK 4 364 P st G) := pl_dn_eq (i := .iconst 4) (len := 1) rfl
theorem u_88_364 (X : LX) (P : PL) (st : List PV) (G : PW) (f : Nat) : pl_dn X 88 364 P st G f = pl_go X 88 G f (pm_oRem 365 P st G) := pl_dn_eq (i := .irem) (len := 1) rfl
theorem u_88_365 (X : LX) (P : PL) (st : List PV) (G : PW) (f : Nat) : pl_dn X 88 365 P st G f = pl_go X 88 G f (pm_oIf .ne (some 376) 368 P st G) := pl_dn_eq (i := .ifCond .ne 11) (len := 3) rfl
theorem u_88_368 (X : LX) (P : PL) (st : List PV) (G : PW) (f : Nat) : pl_dn X 88 368 P st G f = pl_go X 88 G f (pm_oAL 1 369 P st G) := pl_dn_eq (i := .aload_n 1) (len := 1) rfl
theorem u_88_369 (X : LX) (P : PL) (st : List PV) (G : PW) (f : Nat) : pl_dn X 88 369 P st G f = pl_go X 88 G f (pm_oIL 2 370 P st G) := pl_dn_eq (i := .iload_n 2) (len := 1) rfl
theorem u_88_370 (X : LX) (P : PL) (st : List PV) (G : PW) (f : Nat) : pl_dn X 88 370 P st G f = pl_go X 88 G f (pm_oCs 86 2 13 373 P st G) := pl_dn_eq (i := .invokestatic 43) (len := 3) rfl
theorem u_88_373 (X : LX) (P : PL) (st : List PV) (G : PW) (f : Nat) : pl_dn X 88 373 P st G f = pl_go X 88 G f (pm_oIf .eq (some 434) 376 P st G) := pl_dn_eq (i := .ifCond .eq 61) (len := 3) rfl
theorem u_88_376 (X : LX) (P : PL) (st : List PV) (G : PW) (f : Nat) : pl_dn X 88 376 P st G f = pl_go X 88 G f (pm_oAL 1 377 P st G) := pl_dn_eq (i := .aload_n 1) (len := 1) rfl
theorem u_88_377 (X : LX) (P : PL) (st : List PV) (G : PW) (f : Nat) : pl_dn X 88 377 P st G f = pl_go X 88 G f (pm_oAL 1 378 P st G) := pl_dn_eq (i := .aload_n 1) (len := 1) rfl
theorem u_88_378 (X : LX) (P : PL) (st : List PV) (G : PW) (f : Nat) : pl_dn X 88 378 P st G f = pl_go X 88 G f (pm_oK 7 380 P st G) := pl_dn_eq (i := .bipush 7) (len := 2) rfl
theorem u_88_380 (X : LX) (P : PL) (st : List PV) (G : PW) (f : Nat) : pl_dn X 88 380 P st G f = pl_go X 88 G f (pm_oCv pm_sC 60 1 2 5 383 P st G) := pl_dn_eq (i := .invokevirtual 8) (len := 3) rfl
theorem u_88_383 (X : LX) (P : PL) (st : List PV) (G : PW) (f : Nat) : pl_dn X 88 383 P st G f = pl_go X 88 G f (pm_oCv pm_sC 59 1 4 5 386 P st G) := pl_dn_eq (i := .invokevirtual 49) (len := 3) rfl
theorem u_88_386 (X : LX) (P : PL) (st : List PV) (G : PW) (f : Nat) : pl_dn X 88 386 P st G f = pl_go X 88 G f (pm_oK (-6) 388 P st G) := pl_dn_eq (i := .bipush (-6)) (len := 2) rfl
theorem u_88_388 (X : LX) (P : PL) (st : List PV) (G : PW) (f : Nat) : pl_dn X 88 388 P st G f = pl_go X 88 G f (pm_oIc .ne (some 434) 391 P st G) := pl_dn_eq (i := .if_icmp .ne 46) (len := 3) rfl
theorem u_88_391 (X : LX) (P : PL) (st : List PV) (G : PW) (f : Nat) : pl_dn X 88 391 P st G f = pl_go X 88 G f (pm_oAL 1 392 P st G) := pl_dn_eq (i := .aload_n 1) (len := 1) rfl
theorem u_88_392 (X : LX) (P : PL) (st : List PV) (G : PW) (f : Nat) : pl_dn X 88 392 P st G f = pl_go X 88 G f (pm_oK 13 394 P st G) := pl_dn_eq (i := .bipush 13) (len := 2) rfl
theorem u_88_394 (X : LX) (P : PL) (st : List PV) (G : PW) (f : Nat) : pl_dn X 88 394 P st G f = pl_go X 88 G f (pm_oCv pm_sC 60 1 2 5 397 P st G) := pl_dn_eq (i := .invokevirtual 8) (len := 3) rfl
theorem u_88_397 (X : LX) (P : PL) (st : List PV) (G : PW) (f : Nat) : pl_dn X 88 397 P st G f = pl_go X 88 G f (pm_oIL 4 399 P st G) := pl_dn_eq (i := .iload 4) (len := 2) rfl
theorem u_88_399 (X : LX) (P : PL) (st : List PV) (G : PW) (f : Nat) : pl_dn X 88 399 P st G f = pl_go X 88 G f (pm_oIc .ne (some 434) 402 P st G) := pl_dn_eq (i := .if_icmp .ne 35) (len := 3) rfl
theorem u_88_402 (X : LX) (P : PL) (st : List PV) (G : PW) (f : Nat) : pl_dn X 88 402 P st G f = pl_go X 88 G f (pm_oAL 1 403 P st G) := pl_dn_eq (i := .aload_n 1) (len := 1) rfl
theorem u_88_403 (X : LX) (P : PL) (st : List PV) (G : PW) (f : Nat) : pl_dn X 88 403 P st G f = pl_go X 88 G f (pm_oK 10 405 P st G) := pl_dn_eq (i := .bipush 10) (len := 2) rfl
theorem u_88_405 (X : LX) (P : PL) (st : List PV) (G : PW) (f : Nat) : pl_dn X 88 405 P st G f = pl_go X 88 G f (pm_oCv pm_sC 60 1 2 5 408 P st G) := pl_dn_eq (i := .invokevirtual 8) (len := 3) rfl
theorem u_88_408 (X : LX) (P : PL) (st : List PV) (G : PW) (f : Nat) : pl_dn X 88 408 P st G f = pl_go X 88 G f (pm_oAL 1 409 P st G) := pl_dn_eq (i := .aload_n 1) (len := 1) rfl
theorem u_88_409 (X : LX) (P : PL) (st : List PV) (G : PW) (f : Nat) : pl_dn X 88 409 P st G f = pl_go X 88 G f (pm_oK 11 411 P st G) := pl_dn_eq (i := .bipush 11) (len := 2) rfl
theorem u_88_411 (X : LX) (P : PL) (st : List PV) (G : PW) (f : Nat) : pl_dn X 88 411 P st G f = pl_go X 88 G f (pm_oCv pm_sC 60 1 2 5 414 P st G) := pl_dn_eq (i := .invokevirtual 8) (len := 3) rfl
theorem u_88_414 (X : LX) (P : PL) (st : List PV) (G : PW) (f : Nat) : pl_dn X 88 414 P st G f = pl_go X 88 G f (pm_oIc .gt (some 434) 417 P st G) := pl_dn_eq (i := .if_icmp .gt 20) (len := 3) rfl
theorem u_88_417 (X : LX) (P : PL) (st : List PV) (G : PW) (f : Nat) : pl_dn X 88 417 P st G f = pl_go X 88 G f (pm_oAL 1 418 P st G) := pl_dn_eq (i := .aload_n 1) (len := 1) rfl
theorem u_88_418 (X : LX) (P : PL) (st : List PV) (G : PW) (f : Nat) : pl_dn X 88 418 P st G f = pl_go X 88 G f (pm_oK 11 420 P st G) := pl_dn_eq (i := .bipush 11) (len := 2) rfl
theorem u_88_420 (X : LX) (P : PL) (st : List PV) (G : PW) (f : Nat) : pl_dn X 88 420 P st G f = pl_go X 88 G f (pm_oCv pm_sC 60 1 2 5 423 P st G) := pl_dn_eq (i := .invokevirtual 8) (len := 3) rfl
theorem u_88_423 (X : LX) (P : PL) (st : List PV) (G : PW) (f : Nat) : pl_dn X 88 423 P st G f = pl_go X 88 G f (pm_oAL 1 424 P st G) := pl_dn_eq (i := .aload_n 1) (len := 1) rfl
theorem u_88_424 (X : LX) (P : PL) (st : List PV) (G : PW) (f : Nat) : pl_dn X 88 424 P st G f = pl_go X 88 G f (pm_oK 10 426 P st G) := pl_dn_eq (i := .bipush 10) (len := 2) rfl
theorem u_88_426 (X : LX) (P : PL) (st : List PV) (G : PW) (f : Nat) : pl_dn X 88 426 P st G f = pl_go X 88 G f (pm_oCv pm_sC 60 1 2 5 429 P st G) := pl_dn_eq (i := .invokevirtual 8) (len := 3) rfl
theorem u_88_429 (X : LX) (P : PL) (st : List PV) (G : PW) (f : Nat) : pl_dn X 88 429 P st G f = pl_go X 88 G f (pm_oK 1 430 P st G) := pl_dn_eq (i := .iconst 1) (len := 1) rfl
theorem u_88_430 (X : LX) (P : PL) (st : List PV) (G : PW) (f : Nat) : pl_dn X 88 430 P st G f = pl_go X 88 G f (pm_oAdd 431 P st G) := pl_dn_eq (i := .iadd) (len := 1) rfl
theorem u_88_431 (X : LX) (P : PL) (st : List PV) (G : PW) (f : Nat) : pl_dn X 88 431 P st G f = pl_go X 88 G f (pm_oIc .le (some 436) 434 P st G) := pl_dn_eq (i := .if_icmp .le 5) (len := 3) rfl
theorem u_88_434 (X : LX) (P : PL) (st : List PV) (G : PW) (f : Nat) : pl_dn X 88 434 P st G f = pl_go X 88 G f (pm_oK 0 435 P st G) := pl_dn_eq (i := .iconst 0) (len := 1) rfl
theorem u_88_435 (X : LX) (P : PL) (st : List PV) (G : PW) (f : Nat) : pl_dn X 88 435 P st G f = pl_go X 88 G f (pm_oRi 2 P st G) := pl_dn_eq (i := .ireturn) (len := 1) rfl
theorem u_88_436 (X : LX) (P : PL) (st : List PV) (G : PW) (f : Nat) : pl_dn X 88 436 P st G f = pl_go X 88 G f (pm_oInc 9 1 439 P st G) := pl_dn_eq (i := .iinc 9 1) (len := 3) rfl
theorem u_88_439 (X : LX) (P : PL) (st : List PV) (G : PW) (f : Nat) : pl_dn X 88 439 P st G f = pl_go X 88 G f (pm_oGo (some 87) P st G) := pl_dn_eq (i := .goto (-352)) (len := 3) rfl
theorem u_88_442 (X : LX) (P : PL) (st : List PV) (G : PW) (f : Nat) : pl_dn X 88 442 P st G f = pl_go X 88 G f (pm_oAL 1 443 P st G) := pl_dn_eq (i := .aload_n 1) (len := 1) rfl
theorem u_88_443 (X : LX) (P : PL) (st : List PV) (G : PW) (f : Nat) : pl_dn X 88 443 P st G f = pl_go X 88 G f (pm_oIL 2 444 P st G) := pl_dn_eq (i := .iload_n 2) (len := 1) rfl
theorem u_88_444 (X : LX) (P : PL) (st : List PV) (G : PW) (f : Nat) : pl_dn X 88 444 P st G f = pl_go X 88 G f (pm_oCs 86 2 13 447 P st G) := pl_dn_eq (i := .invokestatic 43) (len := 3) rfl
theorem u_88_447 (X : LX) (P : PL) (st : List PV) (G : PW) (f : Nat) : pl_dn X 88 447 P st G f = pl_go X 88 G f (pm_oIf .eq (some 508) 450 P st G) := pl_dn_eq (i := .ifCond .eq 61) (len := 3) rfl
theorem u_88_450 (X : LX) (P : PL) (st : List PV) (G : PW) (f : Nat) : pl_dn X 88 450 P st G f = pl_go X 88 G f (pm_oAL 1 451 P st G) := pl_dn_eq (i := .aload_n 1) (len := 1) rfl
theorem u_88_451 (X : LX) (P : PL) (st : List PV) (G : PW) (f : Nat) : pl_dn X 88 451 P st G f = pl_go X 88 G f (pm_oIL 2 452 P st G) := pl_dn_eq (i := .iload_n 2) (len := 1) rfl
theorem u_88_452 (X : LX) (P : PL) (st : List PV) (G : PW) (f : Nat) : pl_dn X 88 452 P st G f = pl_go X 88 G f (pm_oCs 87 2 7 455 P st G) := pl_dn_eq (i := .invokestatic 55) (len := 3) rfl
theorem u_88_455 (X : LX) (P : PL) (st : List PV) (G : PW) (f : Nat) : pl_dn X 88 455 P st G f = pl_go X 88 G f (pm_oIf .eq (some 508) 458 P st G) := pl_dn_eq (i := .ifCond .eq 53) (len := 3) rfl
theorem u_88_458 (X : LX) (P : PL) (st : List PV) (G : PW) (f : Nat) : pl_dn X 88 458 P st G f = pl_go X 88 G f (pm_oAL 1 459 P st G) := pl_dn_eq (i := .aload_n 1) (len := 1) rfl
theorem u_88_459 (X : LX) (P : PL) (st : List PV) (G : PW) (f : Nat) : pl_dn X 88 459 P st G f = pl_go X 88 G f (pm_oK 7 461 P st G) := pl_dn_eq (i := .bipush 7) (len := 2) rfl
theorem u_88_461 (X : LX) (P : PL) (st : List PV) (G : PW) (f : Nat) : pl_dn X 88 461 P st G f = pl_go X 88 G f (pm_oCv pm_sC 60 1 2 5 464 P st G) := pl_dn_eq (i := .invokevirtual 8) (len := 3) rfl
theorem u_88_464 (X : LX) (P : PL) (st : List PV) (G : PW) (f : Nat) : pl_dn X 88 464 P st G f = pl_go X 88 G f (pm_oIf .ne (some 508) 467 P st G) := pl_dn_eq (i := .ifCond .ne 44) (len := 3) rfl
theorem u_88_467 (X : LX) (P : PL) (st : List PV) (G : PW) (f : Nat) : pl_dn X 88 467 P st G f = pl_go X 88 G f (pm_oAL 1 468 P st G) := pl_dn_eq (i := .aload_n 1) (len := 1) rfl
theorem u_88_468 (X : LX) (P : PL) (st : List PV) (G : PW) (f : Nat) : pl_dn X 88 468 P st G f = pl_go X 88 G f (pm_oK 10 470 P st G) := pl_dn_eq (i := .bipush 10) (len := 2) rfl
theorem u_88_470 (X : LX) (P : PL) (st : List PV) (G : PW) (f : Nat) : pl_dn X 88 470 P st G f = pl_go X 88 G f (pm_oCv pm_sC 60 1 2 5 473 P st G) := pl_dn_eq (i := .invokevirtual 8) (len := 3) rfl
theorem u_88_473 (X : LX) (P : PL) (st : List PV) (G : PW) (f : Nat) : pl_dn X 88 473 P st G f = pl_go X 88 G f (pm_oIf .ne (some 508) 476 P st G) := pl_dn_eq (i := .ifCond .ne 35) (len := 3) rfl
theorem u_88_476 (X : LX) (P : PL) (st : List PV) (G : PW) (f : Nat) : pl_dn X 88 476 P st G f = pl_go X 88 G f (pm_oAL 1 477 P st G) := pl_dn_eq (i := .aload_n 1) (len := 1) rfl
theorem u_88_477 (X : LX) (P : PL) (st : List PV) (G : PW) (f : Nat) : pl_dn X 88 477 P st G f = pl_go X 88 G f (pm_oCv pm_sC 61 0 1 5 480 P st G) := pl_dn_eq (i := .invokevirtual 58) (len := 3) rfl
theorem u_88_480 (X : LX) (P : PL) (st : List PV) (G : PW) (f : Nat) : pl_dn X 88 480 P st G f = pl_go X 88 G f (pm_oAL 1 481 P st G) := pl_dn_eq (i := .aload_n 1) (len := 1) rfl
theorem u_88_481 (X : LX) (P : PL) (st : List PV) (G : PW) (f : Nat) : pl_dn X 88 481 P st G f = pl_go X 88 G f (pm_oK 8 483 P st G) := pl_dn_eq (i := .bipush 8) (len := 2) rfl
theorem u_88_483 (X : LX) (P : PL) (st : List PV) (G : PW) (f : Nat) : pl_dn X 88 483 P st G f = pl_go X 88 G f (pm_oCv pm_sC 60 1 2 5 486 P st G) := pl_dn_eq (i := .invokevirtual 8) (len := 3) rfl
theorem u_88_486 (X : LX) (P : PL) (st : List PV) (G : PW) (f : Nat) : pl_dn X 88 486 P st G f = pl_go X 88 G f (pm_oIc .ne (some 508) 489 P st G) := pl_dn_eq (i := .if_icmp .ne 22) (len := 3) rfl
theorem u_88_489 (X : LX) (P : PL) (st : List PV) (G : PW) (f : Nat) : pl_dn X 88 489 P st G f = pl_go X 88 G f (pm_oIL 8 491 P st G) := pl_dn_eq (i := .iload 8) (len := 2) rfl
theorem u_88_491 (X : LX) (P : PL) (st : List PV) (G : PW) (f : Nat) : pl_dn X 88 491 P st G f = pl_go X 88 G f (pm_oIf .ne (some 510) 494 P st G) := pl_dn_eq (i := .ifCond .ne 19) (len := 3) rfl
theorem u_88_494 (X : LX) (P : PL) (st : List PV) (G : PW) (f : Nat) : pl_dn X 88 494 P st G f = pl_go X 88 G f (pm_oIL 5 496 P st G) := pl_dn_eq (i := .iload 5) (len := 2) rfl
theorem u_88_496 (X : LX) (P : PL) (st : List PV) (G : PW) (f : Nat) : pl_dn X 88 496 P st G f = pl_go X 88 G f (pm_oIL 6 498 P st G) := pl_dn_eq (i := .iload 6) (len := 2) rfl
theorem u_88_498 (X : LX) (P : PL) (st : List PV) (G : PW) (f : Nat) : pl_dn X 88 498 P st G f = pl_go X 88 G f (pm_oIc .lt (some 508) 501 P st G) := pl_dn_eq (i := .if_icmp .lt 10) (len := 3) rfl
theorem u_88_501 (X : LX) (P : PL) (st : List PV) (G : PW) (f : Nat) : pl_dn X 88 501 P st G f = pl_go X 88 G f (pm_oIL 5 503 P st G) := pl_dn_eq (i := .iload 5) (len := 2) rfl
theorem u_88_503 (X : LX) (P : PL) (st : List PV) (G : PW) (f : Nat) : pl_dn X 88 503 P st G f = pl_go X 88 G f (pm_oIL 7 505 P st G) := pl_dn_eq (i := .iload 7) (len := 2) rfl
theorem u_88_505 (X : LX) (P : PL) (st : List PV) (G : PW) (f : Nat) : pl_dn X 88 505 P st G f = pl_go X 88 G f (pm_oIc .le (some 510) 508 P st G) := pl_dn_eq (i := .if_icmp .le 5) (len := 3) rfl
theorem u_88_508 (X : LX) (P : PL) (st : List PV) (G : PW) (f : Nat) : pl_dn X 88 508 P st G f = pl_go X 88 G f (pm_oK 0 509 P st G) := pl_dn_eq (i := .iconst 0) (len := 1) rfl
theorem u_88_509 (X : LX) (P : PL) (st : List PV) (G : PW) (f : Nat) : pl_dn X 88 509 P st G f = pl_go X 88 G f (pm_oRi 2 P st G) := pl_dn_eq (i := .ireturn) (len := 1) rfl
theorem u_88_510 (X : LX) (P : PL) (st : List PV) (G : PW) (f : Nat) : pl_dn X 88 510 P st G f = pl_go X 88 G f (pm_oIL 4 512 P st G) := pl_dn_eq (i := .iload 4) (len := 2) rfl
theorem u_88_512 (X : LX) (P : PL) (st : List PV) (G : PW) (f : Nat) : pl_dn X 88 512 P st G f = pl_go X 88 G f (pm_oIS 9 514 P st G) := pl_dn_eq (i := .istore 9) (len := 2) rfl
theorem u_88_514 (X : LX) (P : PL) (st : List PV) (G : PW) (f : Nat) : pl_dn X 88 514 P st G f = pl_go X 88 G f (pm_oIL 9 516 P st G) := pl_dn_eq (i := .iload 9) (len := 2) rfl
theorem u_88_516 (X : LX) (P : PL) (st : List PV) (G : PW) (f : Nat) : pl_dn X 88 516 P st G f = pl_go X 88 G f (pm_oIf .le (some 538) 519 P st G) := pl_dn_eq (i := .ifCond .le 22) (len := 3) rfl
theorem u_88_519 (X : LX) (P : PL) (st : List PV) (G : PW) (f : Nat) : pl_dn X 88 519 P st G f = pl_go X 88 G f (pm_oAL 1 520 P st G) := pl_dn_eq (i := .aload_n 1) (len := 1) rfl
theorem u_88_520 (X : LX) (P : PL) (st : List PV) (G : PW) (f : Nat) : pl_dn X 88 520 P st G f = pl_go X 88 G f (pm_oCv pm_sC 62 0 1 5 523 P st G) := pl_dn_eq (i := .invokevirtual 62) (len := 3) rfl
theorem u_88_523 (X : LX) (P : PL) (st : List PV) (G : PW) (f : Nat) : pl_dn X 88 523 P st G f = pl_go X 88 G f (pm_oIL 9 525 P st G) := pl_dn_eq (i := .iload 9) (len := 2) rfl
theorem u_88_525 (X : LX) (P : PL) (st : List PV) (G : PW) (f : Nat) : pl_dn X 88 525 P st G f = pl_go X 88 G f (pm_oK 1 526 P st G) := pl_dn_eq (i := .iconst 1) (len := 1) rfl
theorem u_88_526 (X : LX) (P : PL) (st : List PV) (G : PW) (f : Nat) : pl_dn X 88 526 P st G f = pl_go X 88 G f (pm_oSub 527 P st G) := pl_dn_eq (i := .isub) (len := 1) rfl
theorem u_88_527 (X : LX) (P : PL) (st : List PV) (G : PW) (f : Nat) : pl_dn X 88 527 P st G f = pl_go X 88 G f (pm_oIc .eq (some 532) 530 P st G) := pl_dn_eq (i := .if_icmp .eq 5) (len := 3) rfl
theorem u_88_530 (X : LX) (P : PL) (st : List PV) (G : PW) (f : Nat) : pl_dn X 88 530 P st G f = pl_go X 88 G f (pm_oK 0 531 P st G) := pl_dn_eq (i := .iconst 0) (len := 1) rfl
theorem u_88_531 (X : LX) (P : PL) (st : List PV) (G : PW) (f : Nat) : pl_dn X 88 531 P st G f = pl_go X 88 G f (pm_oRi 2 P st G) := pl_dn_eq (i := .ireturn) (len := 1) rfl
theorem u_88_532 (X : LX) (P : PL) (st : List PV) (G : PW) (f : Nat) : pl_dn X 88 532 P st G f = pl_go X 88 G f (pm_oInc 9 (-1) 535 P st G) := pl_dn_eq (i := .iinc 9 (-1)) (len := 3) rfl
theorem u_88_535 (X : LX) (P : PL) (st : List PV) (G : PW) (f : Nat) : pl_dn X 88 535 P st G f = pl_go X 88 G f (pm_oGo (some 514) P st G) := pl_dn_eq (i := .goto (-21)) (len := 3) rfl
theorem u_88_538 (X : LX) (P : PL) (st : List PV) (G : PW) (f : Nat) : pl_dn X 88 538 P st G f = pl_go X 88 G f (pm_oAL 1 539 P st G) := pl_dn_eq (i := .aload_n 1) (len := 1) rfl
theorem u_88_539 (X : LX) (P : PL) (st : List PV) (G : PW) (f : Nat) : pl_dn X 88 539 P st G f = pl_go X 88 G f (pm_oCv pm_sC 62 0 1 5 542 P st G) := pl_dn_eq (i := .invokevirtual 62) (len := 3) rfl
theorem u_88_542 (X : LX) (P : PL) (st : List PV) (G : PW) (f : Nat) : pl_dn X 88 542 P st G f = pl_go X 88 G f (pm_oK (-5) 544 P st G) := pl_dn_eq (i := .bipush (-5)) (len := 2) rfl
theorem u_88_544 (X : LX) (P : PL) (st : List PV) (G : PW) (f : Nat) : pl_dn X 88 544 P st G f = pl_go X 88 G f (pm_oIc .ne (some 586) 547 P st G) := pl_dn_eq (i := .if_icmp .ne 42) (len := 3) rfl
theorem u_88_547 (X : LX) (P : PL) (st : List PV) (G : PW) (f : Nat) : pl_dn X 88 547 P st G f = pl_go X 88 G f (pm_oAL 1 548 P st G) := pl_dn_eq (i := .aload_n 1) (len := 1) rfl
theorem u_88_548 (X : LX) (P : PL) (st : List PV) (G : PW) (f : Nat) : pl_dn X 88 548 P st G f = pl_go X 88 G f (pm_oK 4 549 P st G) := pl_dn_eq (i := .iconst 4) (len := 1) rfl
theorem u_88_549 (X : LX) (P : PL) (st : List PV) (G : PW) (f : Nat) : pl_dn X 88 549 P st G f = pl_go X 88 G f (pm_oCv pm_sC 60 1 2 5 552 P st G) := pl_dn_eq (i := .invokevirtual 8) (len := 3) rfl
theorem u_88_552 (X : LX) (P : PL) (st : List PV) (G : PW) (f : Nat) : pl_dn X 88 552 P st G f = pl_go X 88 G f (pm_oIf .ne (some 586) 555 P st G) := pl_dn_eq (i := .ifCond .ne 34) (len := 3) rfl
theorem u_88_555 (X : LX) (P : PL) (st : List PV) (G : PW) (f : Nat) : pl_dn X 88 555 P st G f = pl_go X 88 G f (pm_oAL 1 556 P st G) := pl_dn_eq (i := .aload_n 1) (len := 1) rfl
theorem u_88_556 (X : LX) (P : PL) (st : List PV) (G : PW) (f : Nat) : pl_dn X 88 556 P st G f = pl_go X 88 G f (pm_oK 5 557 P st G) := pl_dn_eq (i := .iconst 5) (len := 1) rfl
theorem u_88_557 (X : LX) (P : PL) (st : List PV) (G : PW) (f : Nat) : pl_dn X 88 557 P st G f = pl_go X 88 G f (pm_oCv pm_sC 60 1 2 5 560 P st G) := pl_dn_eq (i := .invokevirtual 8) (len := 3) rfl
theorem u_88_560 (X : LX) (P : PL) (st : List PV) (G : PW) (f : Nat) : pl_dn X 88 560 P st G f = pl_go X 88 G f (pm_oIf .ne (some 586) 563 P st G) := pl_dn_eq (i := .ifCond .ne 26) (len := 3) rfl
theorem u_88_563 (X : LX) (P : PL) (st : List PV) (G : PW) (f : Nat) : pl_dn X 88 563 P st G f = pl_go X 88 G f (pm_oAL 1 564 P st G) := pl_dn_eq (i := .aload_n 1) (len := 1) rfl
theorem u_88_564 (X : LX) (P : PL) (st : List PV) (G : PW) (f : Nat) : pl_dn X 88 564 P st G f = pl_go X 88 G f (pm_oIL 2 565 P st G) := pl_dn_eq (i := .iload_n 2) (len := 1) rfl
theorem u_88_565 (X : LX) (P : PL) (st : List PV) (G : PW) (f : Nat) : pl_dn X 88 565 P st G f = pl_go X 88 G f (pm_oCs 86 2 13 568 P st G) := pl_dn_eq (i := .invokestatic 43) (len := 3) rfl
theorem u_88_568 (X : LX) (P : PL) (st : List PV) (G : PW) (f : Nat) : pl_dn X 88 568 P st G f = pl_go X 88 G f (pm_oIf .eq (some 586) 571 P st G) := pl_dn_eq (i := .ifCond .eq 18) (len := 3) rfl
theorem u_88_571 (X : LX) (P : PL) (st : List PV) (G : PW) (f : Nat) : pl_dn X 88 571 P st G f = pl_go X 88 G f (pm_oAL 1 572 P st G) := pl_dn_eq (i := .aload_n 1) (len := 1) rfl
theorem u_88_572 (X : LX) (P : PL) (st : List PV) (G : PW) (f : Nat) : pl_dn X 88 572 P st G f = pl_go X 88 G f (pm_oK 10 574 P st G) := pl_dn_eq (i := .bipush 10) (len := 2) rfl
theorem u_88_574 (X : LX) (P : PL) (st : List PV) (G : PW) (f : Nat) : pl_dn X 88 574 P st G f = pl_go X 88 G f (pm_oCv pm_sC 60 1 2 5 577 P st G) := pl_dn_eq (i := .invokevirtual 8) (len := 3) rfl
theorem u_88_577 (X : LX) (P : PL) (st : List PV) (G : PW) (f : Nat) : pl_dn X 88 577 P st G f = pl_go X 88 G f (pm_oIL 6 579 P st G) := pl_dn_eq (i := .iload 6) (len := 2) rfl
theorem u_88_579 (X : LX) (P : PL) (st : List PV) (G : PW) (f : Nat) : pl_dn X 88 579 P st G f = pl_go X 88 G f (pm_oIc .ne (some 586) 582 P st G) := pl_dn_eq (i := .if_icmp .ne 7) (len := 3) rfl
theorem u_88_582 (X : LX) (P : PL) (st : List PV) (G : PW) (f : Nat) : pl_dn X 88 582 P st G f = pl_go X 88 G f (pm_oK 1 583 P st G) := pl_dn_eq (i := .iconst 1) (len := 1) rfl
theorem u_88_583 (X : LX) (P : PL) (st : List PV) (G : PW) (f : Nat) : pl_dn X 88 583 P st G f = pl_go X 88 G f (pm_oGo (some 587) P st G) := pl_dn_eq (i := .goto 4) (len := 3) rfl
theorem u_88_586 (X : LX) (P : PL) (st : List PV) (G : PW) (f : Nat) : pl_dn X 88 586 P st G f = pl_go X 88 G f (pm_oK 0 587 P st G) := pl_dn_eq (i := .iconst 0) (len := 1) rfl
theorem u_88_587 (X : LX) (P : PL) (st : List PV) (G : PW) (f : Nat) : pl_dn X 88 587 P st G f = pl_go X 88 G f (pm_oRi 2 P st G) := pl_dn_eq (i := .ireturn) (len := 1) rfl
