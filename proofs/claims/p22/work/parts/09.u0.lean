/-! printed by gen09.py: what each instruction does, pc by pc -/
theorem ue_0 (a0 : Nat) (G : PW) : pm_ca pm_sC 0 [.inr (.inr a0)] G = pm_dn pm_sC 0 0 [some (.inr (.inr a0)), none] [] G := rfl
theorem u_0_0 (P : PL) (st : List PV) (G : PW) : pm_dn pm_sC 0 0 P st G = pm_go pm_sC 0 G (pm_oK 0 1 P st G) := pm_dn_eq (i := .iconst 0) (len := 1) rfl
theorem u_0_1 (P : PL) (st : List PV) (G : PW) : pm_dn pm_sC 0 1 P st G = pm_go pm_sC 0 G (pm_oIS 1 2 P st G) := pm_dn_eq (i := .istore_n 1) (len := 1) rfl
theorem u_0_2 (P : PL) (st : List PV) (G : PW) : pm_dn pm_sC 0 2 P st G = pm_go pm_sC 0 G (pm_oIL 1 3 P st G) := pm_dn_eq (i := .iload_n 1) (len := 1) rfl
theorem u_0_3 (P : PL) (st : List PV) (G : PW) : pm_dn pm_sC 0 3 P st G = pm_go pm_sC 0 G (pm_oK 31 5 P st G) := pm_dn_eq (i := .bipush 31) (len := 2) rfl
theorem u_0_5 (P : PL) (st : List PV) (G : PW) : pm_dn pm_sC 0 5 P st G = pm_go pm_sC 0 G (pm_oIc .ge (some 24) 8 P st G) := pm_dn_eq (i := .if_icmp .ge 19) (len := 3) rfl
theorem u_0_8 (P : PL) (st : List PV) (G : PW) : pm_dn pm_sC 0 8 P st G = pm_go pm_sC 0 G (pm_oAL 0 9 P st G) := pm_dn_eq (i := .aload_n 0) (len := 1) rfl
theorem u_0_9 (P : PL) (st : List PV) (G : PW) : pm_dn pm_sC 0 9 P st G = pm_go pm_sC 0 G (pm_oGf pm_sC 0 1 12 P st G) := pm_dn_eq (i := .getfield 18) (len := 3) rfl
theorem u_0_12 (P : PL) (st : List PV) (G : PW) : pm_dn pm_sC 0 12 P st G = pm_go pm_sC 0 G (pm_oIL 1 13 P st G) := pm_dn_eq (i := .iload_n 1) (len := 1) rfl
theorem u_0_13 (P : PL) (st : List PV) (G : PW) : pm_dn pm_sC 0 13 P st G = pm_go pm_sC 0 G (pm_oK (-6) 15 P st G) := pm_dn_eq (i := .bipush (-6)) (len := 2) rfl
theorem u_0_15 (P : PL) (st : List PV) (G : PW) : pm_dn pm_sC 0 15 P st G = pm_go pm_sC 0 G (pm_oCs 77 3 3 18 P st G) := pm_dn_eq (i := .invokestatic 34) (len := 3) rfl
theorem u_0_18 (P : PL) (st : List PV) (G : PW) : pm_dn pm_sC 0 18 P st G = pm_go pm_sC 0 G (pm_oInc 1 1 21 P st G) := pm_dn_eq (i := .iinc 1 1) (len := 3) rfl
theorem u_0_21 (P : PL) (st : List PV) (G : PW) : pm_dn pm_sC 0 21 P st G = pm_go pm_sC 0 G (pm_oGo (some 2) P st G) := pm_dn_eq (i := .goto (-19)) (len := 3) rfl
theorem u_0_24 (P : PL) (st : List PV) (G : PW) : pm_dn pm_sC 0 24 P st G = pm_go pm_sC 0 G (pm_oK 0 25 P st G) := pm_dn_eq (i := .iconst 0) (len := 1) rfl
theorem u_0_25 (P : PL) (st : List PV) (G : PW) : pm_dn pm_sC 0 25 P st G = pm_go pm_sC 0 G (pm_oIS 1 26 P st G) := pm_dn_eq (i := .istore_n 1) (len := 1) rfl
theorem u_0_26 (P : PL) (st : List PV) (G : PW) : pm_dn pm_sC 0 26 P st G = pm_go pm_sC 0 G (pm_oIL 1 27 P st G) := pm_dn_eq (i := .iload_n 1) (len := 1) rfl
theorem u_0_27 (P : PL) (st : List PV) (G : PW) : pm_dn pm_sC 0 27 P st G = pm_go pm_sC 0 G (pm_oK 16 29 P st G) := pm_dn_eq (i := .bipush 16) (len := 2) rfl
theorem u_0_29 (P : PL) (st : List PV) (G : PW) : pm_dn pm_sC 0 29 P st G = pm_go pm_sC 0 G (pm_oIc .ge (some 47) 32 P st G) := pm_dn_eq (i := .if_icmp .ge 18) (len := 3) rfl
theorem u_0_32 (P : PL) (st : List PV) (G : PW) : pm_dn pm_sC 0 32 P st G = pm_go pm_sC 0 G (pm_oAL 0 33 P st G) := pm_dn_eq (i := .aload_n 0) (len := 1) rfl
theorem u_0_33 (P : PL) (st : List PV) (G : PW) : pm_dn pm_sC 0 33 P st G = pm_go pm_sC 0 G (pm_oGf pm_sC 0 2 36 P st G) := pm_dn_eq (i := .getfield 22) (len := 3) rfl
theorem u_0_36 (P : PL) (st : List PV) (G : PW) : pm_dn pm_sC 0 36 P st G = pm_go pm_sC 0 G (pm_oIL 1 37 P st G) := pm_dn_eq (i := .iload_n 1) (len := 1) rfl
theorem u_0_37 (P : PL) (st : List PV) (G : PW) : pm_dn pm_sC 0 37 P st G = pm_go pm_sC 0 G (pm_oK 0 38 P st G) := pm_dn_eq (i := .iconst 0) (len := 1) rfl
theorem u_0_38 (P : PL) (st : List PV) (G : PW) : pm_dn pm_sC 0 38 P st G = pm_go pm_sC 0 G (pm_oCs 77 3 3 41 P st G) := pm_dn_eq (i := .invokestatic 34) (len := 3) rfl
theorem u_0_41 (P : PL) (st : List PV) (G : PW) : pm_dn pm_sC 0 41 P st G = pm_go pm_sC 0 G (pm_oInc 1 1 44 P st G) := pm_dn_eq (i := .iinc 1 1) (len := 3) rfl
theorem u_0_44 (P : PL) (st : List PV) (G : PW) : pm_dn pm_sC 0 44 P st G = pm_go pm_sC 0 G (pm_oGo (some 26) P st G) := pm_dn_eq (i := .goto (-18)) (len := 3) rfl
theorem u_0_47 (P : PL) (st : List PV) (G : PW) : pm_dn pm_sC 0 47 P st G = pm_go pm_sC 0 G (pm_oAL 0 48 P st G) := pm_dn_eq (i := .aload_n 0) (len := 1) rfl
theorem u_0_48 (P : PL) (st : List PV) (G : PW) : pm_dn pm_sC 0 48 P st G = pm_go pm_sC 0 G (pm_oCv pm_sC 10 0 2 0 51 P st G) := pm_dn_eq (i := .invokevirtual 38) (len := 3) rfl
theorem u_0_51 (P : PL) (st : List PV) (G : PW) : pm_dn pm_sC 0 51 P st G = pm_go pm_sC 0 G (pm_oRv P st G) := pm_dn_eq (i := .return_) (len := 1) rfl
theorem ue_1 (a0 : Nat) (a1 : Nat) (G : PW) : pm_ca pm_sC 1 [.inr (.inr a0), .inr (.inr a1)] G = pm_dn pm_sC 1 0 [some (.inr (.inr a0)), some (.inr (.inr a1))] [] G := rfl
theorem u_1_0 (P : PL) (st : List PV) (G : PW) : pm_dn pm_sC 1 0 P st G = pm_go pm_sC 1 G (pm_oAL 1 1 P st G) := pm_dn_eq (i := .aload_n 1) (len := 1) rfl
theorem u_1_1 (P : PL) (st : List PV) (G : PW) : pm_dn pm_sC 1 1 P st G = pm_go pm_sC 1 G (pm_oGf pm_sC 0 1 4 P st G) := pm_dn_eq (i := .getfield 18) (len := 3) rfl
theorem u_1_4 (P : PL) (st : List PV) (G : PW) : pm_dn pm_sC 1 4 P st G = pm_go pm_sC 1 G (pm_oAL 0 5 P st G) := pm_dn_eq (i := .aload_n 0) (len := 1) rfl
theorem u_1_5 (P : PL) (st : List PV) (G : PW) : pm_dn pm_sC 1 5 P st G = pm_go pm_sC 1 G (pm_oGf pm_sC 0 1 8 P st G) := pm_dn_eq (i := .getfield 18) (len := 3) rfl
theorem u_1_8 (P : PL) (st : List PV) (G : PW) : pm_dn pm_sC 1 8 P st G = pm_go pm_sC 1 G (pm_oCs 78 2 3 11 P st G) := pm_dn_eq (i := .invokestatic 41) (len := 3) rfl
theorem u_1_11 (P : PL) (st : List PV) (G : PW) : pm_dn pm_sC 1 11 P st G = pm_go pm_sC 1 G (pm_oAL 1 12 P st G) := pm_dn_eq (i := .aload_n 1) (len := 1) rfl
theorem u_1_12 (P : PL) (st : List PV) (G : PW) : pm_dn pm_sC 1 12 P st G = pm_go pm_sC 1 G (pm_oGf pm_sC 0 2 15 P st G) := pm_dn_eq (i := .getfield 22) (len := 3) rfl
theorem u_1_15 (P : PL) (st : List PV) (G : PW) : pm_dn pm_sC 1 15 P st G = pm_go pm_sC 1 G (pm_oAL 0 16 P st G) := pm_dn_eq (i := .aload_n 0) (len := 1) rfl
theorem u_1_16 (P : PL) (st : List PV) (G : PW) : pm_dn pm_sC 1 16 P st G = pm_go pm_sC 1 G (pm_oGf pm_sC 0 2 19 P st G) := pm_dn_eq (i := .getfield 22) (len := 3) rfl
theorem u_1_19 (P : PL) (st : List PV) (G : PW) : pm_dn pm_sC 1 19 P st G = pm_go pm_sC 1 G (pm_oCs 78 2 3 22 P st G) := pm_dn_eq (i := .invokestatic 41) (len := 3) rfl
theorem u_1_22 (P : PL) (st : List PV) (G : PW) : pm_dn pm_sC 1 22 P st G = pm_go pm_sC 1 G (pm_oAL 0 23 P st G) := pm_dn_eq (i := .aload_n 0) (len := 1) rfl
theorem u_1_23 (P : PL) (st : List PV) (G : PW) : pm_dn pm_sC 1 23 P st G = pm_go pm_sC 1 G (pm_oCv pm_sC 10 0 2 0 26 P st G) := pm_dn_eq (i := .invokevirtual 38) (len := 3) rfl
theorem u_1_26 (P : PL) (st : List PV) (G : PW) : pm_dn pm_sC 1 26 P st G = pm_go pm_sC 1 G (pm_oRv P st G) := pm_dn_eq (i := .return_) (len := 1) rfl
theorem ue_2 (a0 : Nat) (a1 : Int) (a2 : Int) (G : PW) : pm_ca pm_sC 2 [.inr (.inr a0), .inl a1, .inl a2] G = pm_dn pm_sC 2 0 [some (.inr (.inr a0)), some (.inl a1), some (.inl a2)] [] G := rfl
theorem u_2_0 (P : PL) (st : List PV) (G : PW) : pm_dn pm_sC 2 0 P st G = pm_go pm_sC 2 G (pm_oAL 0 1 P st G) := pm_dn_eq (i := .aload_n 0) (len := 1) rfl
theorem u_2_1 (P : PL) (st : List PV) (G : PW) : pm_dn pm_sC 2 1 P st G = pm_go pm_sC 2 G (pm_oGf pm_sC 0 1 4 P st G) := pm_dn_eq (i := .getfield 18) (len := 3) rfl
theorem u_2_4 (P : PL) (st : List PV) (G : PW) : pm_dn pm_sC 2 4 P st G = pm_go pm_sC 2 G (pm_oIL 1 5 P st G) := pm_dn_eq (i := .iload_n 1) (len := 1) rfl
theorem u_2_5 (P : PL) (st : List PV) (G : PW) : pm_dn pm_sC 2 5 P st G = pm_go pm_sC 2 G (pm_oIL 2 6 P st G) := pm_dn_eq (i := .iload_n 2) (len := 1) rfl
theorem u_2_6 (P : PL) (st : List PV) (G : PW) : pm_dn pm_sC 2 6 P st G = pm_go pm_sC 2 G (pm_oCs 77 3 3 9 P st G) := pm_dn_eq (i := .invokestatic 34) (len := 3) rfl
theorem u_2_9 (P : PL) (st : List PV) (G : PW) : pm_dn pm_sC 2 9 P st G = pm_go pm_sC 2 G (pm_oRv P st G) := pm_dn_eq (i := .return_) (len := 1) rfl
theorem ue_3 (a0 : Nat) (a1 : Int) (G : PW) : pm_ca pm_sC 3 [.inr (.inr a0), .inl a1] G = pm_dn pm_sC 3 0 [some (.inr (.inr a0)), some (.inl a1)] [] G := rfl
theorem u_3_0 (P : PL) (st : List PV) (G : PW) : pm_dn pm_sC 3 0 P st G = pm_go pm_sC 3 G (pm_oAL 0 1 P st G) := pm_dn_eq (i := .aload_n 0) (len := 1) rfl
theorem u_3_1 (P : PL) (st : List PV) (G : PW) : pm_dn pm_sC 3 1 P st G = pm_go pm_sC 3 G (pm_oGf pm_sC 0 2 4 P st G) := pm_dn_eq (i := .getfield 22) (len := 3) rfl
theorem u_3_4 (P : PL) (st : List PV) (G : PW) : pm_dn pm_sC 3 4 P st G = pm_go pm_sC 3 G (pm_oIL 1 5 P st G) := pm_dn_eq (i := .iload_n 1) (len := 1) rfl
theorem u_3_5 (P : PL) (st : List PV) (G : PW) : pm_dn pm_sC 3 5 P st G = pm_go pm_sC 3 G (pm_oK 1 6 P st G) := pm_dn_eq (i := .iconst 1) (len := 1) rfl
theorem u_3_6 (P : PL) (st : List PV) (G : PW) : pm_dn pm_sC 3 6 P st G = pm_go pm_sC 3 G (pm_oCs 77 3 3 9 P st G) := pm_dn_eq (i := .invokestatic 34) (len := 3) rfl
theorem u_3_9 (P : PL) (st : List PV) (G : PW) : pm_dn pm_sC 3 9 P st G = pm_go pm_sC 3 G (pm_oRv P st G) := pm_dn_eq (i := .return_) (len := 1) rfl
theorem ue_4 (a0 : Nat) (a1 : Int) (G : PW) : pm_ca pm_sC 4 [.inr (.inr a0), .inl a1] G = pm_dn pm_sC 4 0 [some (.inr (.inr a0)), some (.inl a1)] [] G := rfl
theorem u_4_0 (P : PL) (st : List PV) (G : PW) : pm_dn pm_sC 4 0 P st G = pm_go pm_sC 4 G (pm_oAL 0 1 P st G) := pm_dn_eq (i := .aload_n 0) (len := 1) rfl
theorem u_4_1 (P : PL) (st : List PV) (G : PW) : pm_dn pm_sC 4 1 P st G = pm_go pm_sC 4 G (pm_oGf pm_sC 0 2 4 P st G) := pm_dn_eq (i := .getfield 22) (len := 3) rfl
theorem u_4_4 (P : PL) (st : List PV) (G : PW) : pm_dn pm_sC 4 4 P st G = pm_go pm_sC 4 G (pm_oIL 1 5 P st G) := pm_dn_eq (i := .iload_n 1) (len := 1) rfl
theorem u_4_5 (P : PL) (st : List PV) (G : PW) : pm_dn pm_sC 4 5 P st G = pm_go pm_sC 4 G (pm_oCs 76 2 2 8 P st G) := pm_dn_eq (i := .invokestatic 45) (len := 3) rfl
theorem u_4_8 (P : PL) (st : List PV) (G : PW) : pm_dn pm_sC 4 8 P st G = pm_go pm_sC 4 G (pm_oK 1 9 P st G) := pm_dn_eq (i := .iconst 1) (len := 1) rfl
theorem u_4_9 (P : PL) (st : List PV) (G : PW) : pm_dn pm_sC 4 9 P st G = pm_go pm_sC 4 G (pm_oIc .ne (some 16) 12 P st G) := pm_dn_eq (i := .if_icmp .ne 7) (len := 3) rfl
theorem u_4_12 (P : PL) (st : List PV) (G : PW) : pm_dn pm_sC 4 12 P st G = pm_go pm_sC 4 G (pm_oK 1 13 P st G) := pm_dn_eq (i := .iconst 1) (len := 1) rfl
theorem u_4_13 (P : PL) (st : List PV) (G : PW) : pm_dn pm_sC 4 13 P st G = pm_go pm_sC 4 G (pm_oGo (some 17) P st G) := pm_dn_eq (i := .goto 4) (len := 3) rfl
theorem u_4_16 (P : PL) (st : List PV) (G : PW) : pm_dn pm_sC 4 16 P st G = pm_go pm_sC 4 G (pm_oK 0 17 P st G) := pm_dn_eq (i := .iconst 0) (len := 1) rfl
theorem u_4_17 (P : PL) (st : List PV) (G : PW) : pm_dn pm_sC 4 17 P st G = pm_go pm_sC 4 G (pm_oRi 2 P st G) := pm_dn_eq (i := .ireturn) (len := 1) rfl
theorem ue_5 (a0 : Nat) (a1 : Int) (a2 : Int) (G : PW) : pm_ca pm_sC 5 [.inr (.inr a0), .inl a1, .inl a2] G = pm_dn pm_sC 5 0 [some (.inr (.inr a0)), some (.inl a1), some (.inl a2)] [] G := rfl
theorem u_5_0 (P : PL) (st : List PV) (G : PW) : pm_dn pm_sC 5 0 P st G = pm_go pm_sC 5 G (pm_oAL 0 1 P st G) := pm_dn_eq (i := .aload_n 0) (len := 1) rfl
theorem u_5_1 (P : PL) (st : List PV) (G : PW) : pm_dn pm_sC 5 1 P st G = pm_go pm_sC 5 G (pm_oGf pm_sC 0 3 4 P st G) := pm_dn_eq (i := .getfield 25) (len := 3) rfl
theorem u_5_4 (P : PL) (st : List PV) (G : PW) : pm_dn pm_sC 5 4 P st G = pm_go pm_sC 5 G (pm_oIL 1 5 P st G) := pm_dn_eq (i := .iload_n 1) (len := 1) rfl
theorem u_5_5 (P : PL) (st : List PV) (G : PW) : pm_dn pm_sC 5 5 P st G = pm_go pm_sC 5 G (pm_oIL 2 6 P st G) := pm_dn_eq (i := .iload_n 2) (len := 1) rfl
theorem u_5_6 (P : PL) (st : List PV) (G : PW) : pm_dn pm_sC 5 6 P st G = pm_go pm_sC 5 G (pm_oCs 79 2 2 9 P st G) := pm_dn_eq (i := .invokestatic 49) (len := 3) rfl
theorem u_5_9 (P : PL) (st : List PV) (G : PW) : pm_dn pm_sC 5 9 P st G = pm_go pm_sC 5 G (pm_oCs 76 2 2 12 P st G) := pm_dn_eq (i := .invokestatic 45) (len := 3) rfl
theorem u_5_12 (P : PL) (st : List PV) (G : PW) : pm_dn pm_sC 5 12 P st G = pm_go pm_sC 5 G (pm_oRi 0 P st G) := pm_dn_eq (i := .ireturn) (len := 1) rfl
theorem ue_6 (a0 : Nat) (a1 : Int) (G : PW) : pm_ca pm_sC 6 [.inr (.inr a0), .inl a1] G = pm_dn pm_sC 6 0 [some (.inr (.inr a0)), some (.inl a1)] [] G := rfl
theorem u_6_0 (P : PL) (st : List PV) (G : PW) : pm_dn pm_sC 6 0 P st G = pm_go pm_sC 6 G (pm_oAL 0 1 P st G) := pm_dn_eq (i := .aload_n 0) (len := 1) rfl
theorem u_6_1 (P : PL) (st : List PV) (G : PW) : pm_dn pm_sC 6 1 P st G = pm_go pm_sC 6 G (pm_oGf pm_sC 0 4 4 P st G) := pm_dn_eq (i := .getfield 28) (len := 3) rfl
theorem u_6_4 (P : PL) (st : List PV) (G : PW) : pm_dn pm_sC 6 4 P st G = pm_go pm_sC 6 G (pm_oIL 1 5 P st G) := pm_dn_eq (i := .iload_n 1) (len := 1) rfl
theorem u_6_5 (P : PL) (st : List PV) (G : PW) : pm_dn pm_sC 6 5 P st G = pm_go pm_sC 6 G (pm_oCs 76 2 2 8 P st G) := pm_dn_eq (i := .invokestatic 45) (len := 3) rfl
theorem u_6_8 (P : PL) (st : List PV) (G : PW) : pm_dn pm_sC 6 8 P st G = pm_go pm_sC 6 G (pm_oRi 0 P st G) := pm_dn_eq (i := .ireturn) (len := 1) rfl
theorem ue_7 (a0 : Nat) (a1 : Int) (G : PW) : pm_ca pm_sC 7 [.inr (.inr a0), .inl a1] G = pm_dn pm_sC 7 0 [some (.inr (.inr a0)), some (.inl a1)] [] G := rfl
theorem u_7_0 (P : PL) (st : List PV) (G : PW) : pm_dn pm_sC 7 0 P st G = pm_go pm_sC 7 G (pm_oAL 0 1 P st G) := pm_dn_eq (i := .aload_n 0) (len := 1) rfl
theorem u_7_1 (P : PL) (st : List PV) (G : PW) : pm_dn pm_sC 7 1 P st G = pm_go pm_sC 7 G (pm_oIL 1 2 P st G) := pm_dn_eq (i := .iload_n 1) (len := 1) rfl
theorem u_7_2 (P : PL) (st : List PV) (G : PW) : pm_dn pm_sC 7 2 P st G = pm_go pm_sC 7 G (pm_oCv pm_sC 6 1 2 0 5 P st G) := pm_dn_eq (i := .invokevirtual 53) (len := 3) rfl
theorem u_7_5 (P : PL) (st : List PV) (G : PW) : pm_dn pm_sC 7 5 P st G = pm_go pm_sC 7 G (pm_oIf .ne (some 13) 8 P st G) := pm_dn_eq (i := .ifCond .ne 8) (len := 3) rfl
theorem u_7_8 (P : PL) (st : List PV) (G : PW) : pm_dn pm_sC 7 8 P st G = pm_go pm_sC 7 G (pm_oK (-6) 10 P st G) := pm_dn_eq (i := .bipush (-6)) (len := 2) rfl
theorem u_7_10 (P : PL) (st : List PV) (G : PW) : pm_dn pm_sC 7 10 P st G = pm_go pm_sC 7 G (pm_oGo (some 26) P st G) := pm_dn_eq (i := .goto 16) (len := 3) rfl
theorem u_7_13 (P : PL) (st : List PV) (G : PW) : pm_dn pm_sC 7 13 P st G = pm_go pm_sC 7 G (pm_oAL 0 14 P st G) := pm_dn_eq (i := .aload_n 0) (len := 1) rfl
theorem u_7_14 (P : PL) (st : List PV) (G : PW) : pm_dn pm_sC 7 14 P st G = pm_go pm_sC 7 G (pm_oIL 1 15 P st G) := pm_dn_eq (i := .iload_n 1) (len := 1) rfl
theorem u_7_15 (P : PL) (st : List PV) (G : PW) : pm_dn pm_sC 7 15 P st G = pm_go pm_sC 7 G (pm_oAL 0 16 P st G) := pm_dn_eq (i := .aload_n 0) (len := 1) rfl
theorem u_7_16 (P : PL) (st : List PV) (G : PW) : pm_dn pm_sC 7 16 P st G = pm_go pm_sC 7 G (pm_oGf pm_sC 0 5 19 P st G) := pm_dn_eq (i := .getfield 31) (len := 3) rfl
theorem u_7_19 (P : PL) (st : List PV) (G : PW) : pm_dn pm_sC 7 19 P st G = pm_go pm_sC 7 G (pm_oIL 1 20 P st G) := pm_dn_eq (i := .iload_n 1) (len := 1) rfl
theorem u_7_20 (P : PL) (st : List PV) (G : PW) : pm_dn pm_sC 7 20 P st G = pm_go pm_sC 7 G (pm_oCs 76 2 2 23 P st G) := pm_dn_eq (i := .invokestatic 45) (len := 3) rfl
theorem u_7_23 (P : PL) (st : List PV) (G : PW) : pm_dn pm_sC 7 23 P st G = pm_go pm_sC 7 G (pm_oCv pm_sC 5 2 3 0 26 P st G) := pm_dn_eq (i := .invokevirtual 57) (len := 3) rfl
theorem u_7_26 (P : PL) (st : List PV) (G : PW) : pm_dn pm_sC 7 26 P st G = pm_go pm_sC 7 G (pm_oRi 0 P st G) := pm_dn_eq (i := .ireturn) (len := 1) rfl
theorem ue_8 (a0 : Nat) (a1 : Int) (G : PW) : pm_ca pm_sC 8 [.inr (.inr a0), .inl a1] G = pm_dn pm_sC 8 0 [some (.inr (.inr a0)), some (.inl a1)] [] G := rfl
theorem u_8_0 (P : PL) (st : List PV) (G : PW) : pm_dn pm_sC 8 0 P st G = pm_go pm_sC 8 G (pm_oAL 0 1 P st G) := pm_dn_eq (i := .aload_n 0) (len := 1) rfl
theorem u_8_1 (P : PL) (st : List PV) (G : PW) : pm_dn pm_sC 8 1 P st G = pm_go pm_sC 8 G (pm_oIL 1 2 P st G) := pm_dn_eq (i := .iload_n 1) (len := 1) rfl
theorem u_8_2 (P : PL) (st : List PV) (G : PW) : pm_dn pm_sC 8 2 P st G = pm_go pm_sC 8 G (pm_oCv pm_sC 6 1 2 0 5 P st G) := pm_dn_eq (i := .invokevirtual 53) (len := 3) rfl
theorem u_8_5 (P : PL) (st : List PV) (G : PW) : pm_dn pm_sC 8 5 P st G = pm_go pm_sC 8 G (pm_oIf .ne (some 13) 8 P st G) := pm_dn_eq (i := .ifCond .ne 8) (len := 3) rfl
theorem u_8_8 (P : PL) (st : List PV) (G : PW) : pm_dn pm_sC 8 8 P st G = pm_go pm_sC 8 G (pm_oK (-6) 10 P st G) := pm_dn_eq (i := .bipush (-6)) (len := 2) rfl
theorem u_8_10 (P : PL) (st : List PV) (G : PW) : pm_dn pm_sC 8 10 P st G = pm_go pm_sC 8 G (pm_oGo (some 28) P st G) := pm_dn_eq (i := .goto 18) (len := 3) rfl
theorem u_8_13 (P : PL) (st : List PV) (G : PW) : pm_dn pm_sC 8 13 P st G = pm_go pm_sC 8 G (pm_oAL 0 14 P st G) := pm_dn_eq (i := .aload_n 0) (len := 1) rfl
theorem u_8_14 (P : PL) (st : List PV) (G : PW) : pm_dn pm_sC 8 14 P st G = pm_go pm_sC 8 G (pm_oIL 1 15 P st G) := pm_dn_eq (i := .iload_n 1) (len := 1) rfl
theorem u_8_15 (P : PL) (st : List PV) (G : PW) : pm_dn pm_sC 8 15 P st G = pm_go pm_sC 8 G (pm_oK 1 16 P st G) := pm_dn_eq (i := .iconst 1) (len := 1) rfl
theorem u_8_16 (P : PL) (st : List PV) (G : PW) : pm_dn pm_sC 8 16 P st G = pm_go pm_sC 8 G (pm_oAL 0 17 P st G) := pm_dn_eq (i := .aload_n 0) (len := 1) rfl
theorem u_8_17 (P : PL) (st : List PV) (G : PW) : pm_dn pm_sC 8 17 P st G = pm_go pm_sC 8 G (pm_oGf pm_sC 0 5 20 P st G) := pm_dn_eq (i := .getfield 31) (len := 3) rfl
theorem u_8_20 (P : PL) (st : List PV) (G : PW) : pm_dn pm_sC 8 20 P st G = pm_go pm_sC 8 G (pm_oIL 1 21 P st G) := pm_dn_eq (i := .iload_n 1) (len := 1) rfl
theorem u_8_21 (P : PL) (st : List PV) (G : PW) : pm_dn pm_sC 8 21 P st G = pm_go pm_sC 8 G (pm_oCs 76 2 2 24 P st G) := pm_dn_eq (i := .invokestatic 45) (len := 3) rfl
theorem u_8_24 (P : PL) (st : List PV) (G : PW) : pm_dn pm_sC 8 24 P st G = pm_go pm_sC 8 G (pm_oSub 25 P st G) := pm_dn_eq (i := .isub) (len := 1) rfl
theorem u_8_25 (P : PL) (st : List PV) (G : PW) : pm_dn pm_sC 8 25 P st G = pm_go pm_sC 8 G (pm_oCv pm_sC 5 2 3 0 28 P st G) := pm_dn_eq (i := .invokevirtual 57) (len := 3) rfl
theorem u_8_28 (P : PL) (st : List PV) (G : PW) : pm_dn pm_sC 8 28 P st G = pm_go pm_sC 8 G (pm_oRi 0 P st G) := pm_dn_eq (i := .ireturn) (len := 1) rfl
theorem ue_9 (a0 : Nat) (a1 : Int) (G : PW) : pm_ca pm_sC 9 [.inr (.inr a0), .inl a1] G = pm_dn pm_sC 9 0 [some (.inr (.inr a0)), some (.inl a1)] [] G := rfl
theorem u_9_0 (P : PL) (st : List PV) (G : PW) : pm_dn pm_sC 9 0 P st G = pm_go pm_sC 9 G (pm_oAL 0 1 P st G) := pm_dn_eq (i := .aload_n 0) (len := 1) rfl
theorem u_9_1 (P : PL) (st : List PV) (G : PW) : pm_dn pm_sC 9 1 P st G = pm_go pm_sC 9 G (pm_oIL 1 2 P st G) := pm_dn_eq (i := .iload_n 1) (len := 1) rfl
theorem u_9_2 (P : PL) (st : List PV) (G : PW) : pm_dn pm_sC 9 2 P st G = pm_go pm_sC 9 G (pm_oCv pm_sC 6 1 2 0 5 P st G) := pm_dn_eq (i := .invokevirtual 53) (len := 3) rfl
theorem u_9_5 (P : PL) (st : List PV) (G : PW) : pm_dn pm_sC 9 5 P st G = pm_go pm_sC 9 G (pm_oIf .ne (some 44) 8 P st G) := pm_dn_eq (i := .ifCond .ne 39) (len := 3) rfl
theorem u_9_8 (P : PL) (st : List PV) (G : PW) : pm_dn pm_sC 9 8 P st G = pm_go pm_sC 9 G (pm_oAL 0 9 P st G) := pm_dn_eq (i := .aload_n 0) (len := 1) rfl
theorem u_9_9 (P : PL) (st : List PV) (G : PW) : pm_dn pm_sC 9 9 P st G = pm_go pm_sC 9 G (pm_oGf pm_sC 0 0 12 P st G) := pm_dn_eq (i := .getfield 12) (len := 3) rfl
theorem u_9_12 (P : PL) (st : List PV) (G : PW) : pm_dn pm_sC 9 12 P st G = pm_go pm_sC 9 G (pm_oAL 0 13 P st G) := pm_dn_eq (i := .aload_n 0) (len := 1) rfl
theorem u_9_13 (P : PL) (st : List PV) (G : PW) : pm_dn pm_sC 9 13 P st G = pm_go pm_sC 9 G (pm_oIL 1 14 P st G) := pm_dn_eq (i := .iload_n 1) (len := 1) rfl
theorem u_9_14 (P : PL) (st : List PV) (G : PW) : pm_dn pm_sC 9 14 P st G = pm_go pm_sC 9 G (pm_oK 0 15 P st G) := pm_dn_eq (i := .iconst 0) (len := 1) rfl
theorem u_9_15 (P : PL) (st : List PV) (G : PW) : pm_dn pm_sC 9 15 P st G = pm_go pm_sC 9 G (pm_oCv pm_sC 5 2 3 0 18 P st G) := pm_dn_eq (i := .invokevirtual 57) (len := 3) rfl
theorem u_9_18 (P : PL) (st : List PV) (G : PW) : pm_dn pm_sC 9 18 P st G = pm_go pm_sC 9 G (pm_oCv pm_sC 34 1 2 3 21 P st G) := pm_dn_eq (i := .invokevirtual 60) (len := 3) rfl
theorem u_9_21 (P : PL) (st : List PV) (G : PW) : pm_dn pm_sC 9 21 P st G = pm_go pm_sC 9 G (pm_oIf .eq (some 44) 24 P st G) := pm_dn_eq (i := .ifCond .eq 23) (len := 3) rfl
theorem u_9_24 (P : PL) (st : List PV) (G : PW) : pm_dn pm_sC 9 24 P st G = pm_go pm_sC 9 G (pm_oAL 0 25 P st G) := pm_dn_eq (i := .aload_n 0) (len := 1) rfl
theorem u_9_25 (P : PL) (st : List PV) (G : PW) : pm_dn pm_sC 9 25 P st G = pm_go pm_sC 9 G (pm_oGf pm_sC 0 0 28 P st G) := pm_dn_eq (i := .getfield 12) (len := 3) rfl
theorem u_9_28 (P : PL) (st : List PV) (G : PW) : pm_dn pm_sC 9 28 P st G = pm_go pm_sC 9 G (pm_oAL 0 29 P st G) := pm_dn_eq (i := .aload_n 0) (len := 1) rfl
theorem u_9_29 (P : PL) (st : List PV) (G : PW) : pm_dn pm_sC 9 29 P st G = pm_go pm_sC 9 G (pm_oIL 1 30 P st G) := pm_dn_eq (i := .iload_n 1) (len := 1) rfl
theorem u_9_30 (P : PL) (st : List PV) (G : PW) : pm_dn pm_sC 9 30 P st G = pm_go pm_sC 9 G (pm_oK 1 31 P st G) := pm_dn_eq (i := .iconst 1) (len := 1) rfl
theorem u_9_31 (P : PL) (st : List PV) (G : PW) : pm_dn pm_sC 9 31 P st G = pm_go pm_sC 9 G (pm_oCv pm_sC 5 2 3 0 34 P st G) := pm_dn_eq (i := .invokevirtual 57) (len := 3) rfl
theorem u_9_34 (P : PL) (st : List PV) (G : PW) : pm_dn pm_sC 9 34 P st G = pm_go pm_sC 9 G (pm_oCv pm_sC 34 1 2 3 37 P st G) := pm_dn_eq (i := .invokevirtual 60) (len := 3) rfl
theorem u_9_37 (P : PL) (st : List PV) (G : PW) : pm_dn pm_sC 9 37 P st G = pm_go pm_sC 9 G (pm_oIf .eq (some 44) 40 P st G) := pm_dn_eq (i := .ifCond .eq 7) (len := 3) rfl
theorem u_9_40 (P : PL) (st : List PV) (G : PW) : pm_dn pm_sC 9 40 P st G = pm_go pm_sC 9 G (pm_oK 1 41 P st G) := pm_dn_eq (i := .iconst 1) (len := 1) rfl
theorem u_9_41 (P : PL) (st : List PV) (G : PW) : pm_dn pm_sC 9 41 P st G = pm_go pm_sC 9 G (pm_oGo (some 45) P st G) := pm_dn_eq (i := .goto 4) (len := 3) rfl
theorem u_9_44 (P : PL) (st : List PV) (G : PW) : pm_dn pm_sC 9 44 P st G = pm_go pm_sC 9 G (pm_oK 0 45 P st G) := pm_dn_eq (i := .iconst 0) (len := 1) rfl
theorem u_9_45 (P : PL) (st : List PV) (G : PW) : pm_dn pm_sC 9 45 P st G = pm_go pm_sC 9 G (pm_oRi 2 P st G) := pm_dn_eq (i := .ireturn) (len := 1) rfl
theorem ue_10 (a0 : Nat) (G : PW) : pm_ca pm_sC 10 [.inr (.inr a0)] G = pm_dn pm_sC 10 0 [some (.inr (.inr a0)), none] [] G := rfl
theorem u_10_0 (P : PL) (st : List PV) (G : PW) : pm_dn pm_sC 10 0 P st G = pm_go pm_sC 10 G (pm_oK 0 1 P st G) := pm_dn_eq (i := .iconst 0) (len := 1) rfl
theorem u_10_1 (P : PL) (st : List PV) (G : PW) : pm_dn pm_sC 10 1 P st G = pm_go pm_sC 10 G (pm_oIS 1 2 P st G) := pm_dn_eq (i := .istore_n 1) (len := 1) rfl
theorem u_10_2 (P : PL) (st : List PV) (G : PW) : pm_dn pm_sC 10 2 P st G = pm_go pm_sC 10 G (pm_oIL 1 3 P st G) := pm_dn_eq (i := .iload_n 1) (len := 1) rfl
theorem u_10_3 (P : PL) (st : List PV) (G : PW) : pm_dn pm_sC 10 3 P st G = pm_go pm_sC 10 G (pm_oK 62 5 P st G) := pm_dn_eq (i := .bipush 62) (len := 2) rfl
theorem u_10_5 (P : PL) (st : List PV) (G : PW) : pm_dn pm_sC 10 5 P st G = pm_go pm_sC 10 G (pm_oIc .ge (some 46) 8 P st G) := pm_dn_eq (i := .if_icmp .ge 41) (len := 3) rfl
theorem u_10_8 (P : PL) (st : List PV) (G : PW) : pm_dn pm_sC 10 8 P st G = pm_go pm_sC 10 G (pm_oAL 0 9 P st G) := pm_dn_eq (i := .aload_n 0) (len := 1) rfl
theorem u_10_9 (P : PL) (st : List PV) (G : PW) : pm_dn pm_sC 10 9 P st G = pm_go pm_sC 10 G (pm_oGf pm_sC 0 3 12 P st G) := pm_dn_eq (i := .getfield 25) (len := 3) rfl
theorem u_10_12 (P : PL) (st : List PV) (G : PW) : pm_dn pm_sC 10 12 P st G = pm_go pm_sC 10 G (pm_oIL 1 13 P st G) := pm_dn_eq (i := .iload_n 1) (len := 1) rfl
theorem u_10_13 (P : PL) (st : List PV) (G : PW) : pm_dn pm_sC 10 13 P st G = pm_go pm_sC 10 G (pm_oIL 1 14 P st G) := pm_dn_eq (i := .iload_n 1) (len := 1) rfl
theorem u_10_14 (P : PL) (st : List PV) (G : PW) : pm_dn pm_sC 10 14 P st G = pm_go pm_sC 10 G (pm_oAL 0 15 P st G) := pm_dn_eq (i := .aload_n 0) (len := 1) rfl
theorem u_10_15 (P : PL) (st : List PV) (G : PW) : pm_dn pm_sC 10 15 P st G = pm_go pm_sC 10 G (pm_oGf pm_sC 0 0 18 P st G) := pm_dn_eq (i := .getfield 12) (len := 3) rfl
theorem u_10_18 (P : PL) (st : List PV) (G : PW) : pm_dn pm_sC 10 18 P st G = pm_go pm_sC 10 G (pm_oGf pm_sC 3 2 21 P st G) := pm_dn_eq (i := .getfield 64) (len := 3) rfl
theorem u_10_21 (P : PL) (st : List PV) (G : PW) : pm_dn pm_sC 10 21 P st G = pm_go pm_sC 10 G (pm_oIc .ge (some 35) 24 P st G) := pm_dn_eq (i := .if_icmp .ge 14) (len := 3) rfl
theorem u_10_24 (P : PL) (st : List PV) (G : PW) : pm_dn pm_sC 10 24 P st G = pm_go pm_sC 10 G (pm_oAL 0 25 P st G) := pm_dn_eq (i := .aload_n 0) (len := 1) rfl
theorem u_10_25 (P : PL) (st : List PV) (G : PW) : pm_dn pm_sC 10 25 P st G = pm_go pm_sC 10 G (pm_oGf pm_sC 0 0 28 P st G) := pm_dn_eq (i := .getfield 12) (len := 3) rfl
theorem u_10_28 (P : PL) (st : List PV) (G : PW) : pm_dn pm_sC 10 28 P st G = pm_go pm_sC 10 G (pm_oIL 1 29 P st G) := pm_dn_eq (i := .iload_n 1) (len := 1) rfl
theorem u_10_29 (P : PL) (st : List PV) (G : PW) : pm_dn pm_sC 10 29 P st G = pm_go pm_sC 10 G (pm_oCv pm_sC 38 1 3 3 32 P st G) := pm_dn_eq (i := .invokevirtual 68) (len := 3) rfl
theorem u_10_32 (P : PL) (st : List PV) (G : PW) : pm_dn pm_sC 10 32 P st G = pm_go pm_sC 10 G (pm_oGo (some 37) P st G) := pm_dn_eq (i := .goto 5) (len := 3) rfl
theorem u_10_35 (P : PL) (st : List PV) (G : PW) : pm_dn pm_sC 10 35 P st G = pm_go pm_sC 10 G (pm_oK (-6) 37 P st G) := pm_dn_eq (i := .bipush (-6)) (len := 2) rfl
theorem u_10_37 (P : PL) (st : List PV) (G : PW) : pm_dn pm_sC 10 37 P st G = pm_go pm_sC 10 G (pm_oCs 77 3 3 40 P st G) := pm_dn_eq (i := .invokestatic 34) (len := 3) rfl
theorem u_10_40 (P : PL) (st : List PV) (G : PW) : pm_dn pm_sC 10 40 P st G = pm_go pm_sC 10 G (pm_oInc 1 1 43 P st G) := pm_dn_eq (i := .iinc 1 1) (len := 3) rfl
theorem u_10_43 (P : PL) (st : List PV) (G : PW) : pm_dn pm_sC 10 43 P st G = pm_go pm_sC 10 G (pm_oGo (some 2) P st G) := pm_dn_eq (i := .goto (-41)) (len := 3) rfl
theorem u_10_46 (P : PL) (st : List PV) (G : PW) : pm_dn pm_sC 10 46 P st G = pm_go pm_sC 10 G (pm_oK 0 47 P st G) := pm_dn_eq (i := .iconst 0) (len := 1) rfl
theorem u_10_47 (P : PL) (st : List PV) (G : PW) : pm_dn pm_sC 10 47 P st G = pm_go pm_sC 10 G (pm_oIS 1 48 P st G) := pm_dn_eq (i := .istore_n 1) (len := 1) rfl
theorem u_10_48 (P : PL) (st : List PV) (G : PW) : pm_dn pm_sC 10 48 P st G = pm_go pm_sC 10 G (pm_oIL 1 49 P st G) := pm_dn_eq (i := .iload_n 1) (len := 1) rfl
theorem u_10_49 (P : PL) (st : List PV) (G : PW) : pm_dn pm_sC 10 49 P st G = pm_go pm_sC 10 G (pm_oK 31 51 P st G) := pm_dn_eq (i := .bipush 31) (len := 2) rfl
theorem u_10_51 (P : PL) (st : List PV) (G : PW) : pm_dn pm_sC 10 51 P st G = pm_go pm_sC 10 G (pm_oIc .ge (some 79) 54 P st G) := pm_dn_eq (i := .if_icmp .ge 28) (len := 3) rfl
theorem u_10_54 (P : PL) (st : List PV) (G : PW) : pm_dn pm_sC 10 54 P st G = pm_go pm_sC 10 G (pm_oAL 0 55 P st G) := pm_dn_eq (i := .aload_n 0) (len := 1) rfl
theorem u_10_55 (P : PL) (st : List PV) (G : PW) : pm_dn pm_sC 10 55 P st G = pm_go pm_sC 10 G (pm_oGf pm_sC 0 4 58 P st G) := pm_dn_eq (i := .getfield 28) (len := 3) rfl
theorem u_10_58 (P : PL) (st : List PV) (G : PW) : pm_dn pm_sC 10 58 P st G = pm_go pm_sC 10 G (pm_oIL 1 59 P st G) := pm_dn_eq (i := .iload_n 1) (len := 1) rfl
theorem u_10_59 (P : PL) (st : List PV) (G : PW) : pm_dn pm_sC 10 59 P st G = pm_go pm_sC 10 G (pm_oK 0 60 P st G) := pm_dn_eq (i := .iconst 0) (len := 1) rfl
theorem u_10_60 (P : PL) (st : List PV) (G : PW) : pm_dn pm_sC 10 60 P st G = pm_go pm_sC 10 G (pm_oCs 77 3 3 63 P st G) := pm_dn_eq (i := .invokestatic 34) (len := 3) rfl
theorem u_10_63 (P : PL) (st : List PV) (G : PW) : pm_dn pm_sC 10 63 P st G = pm_go pm_sC 10 G (pm_oAL 0 64 P st G) := pm_dn_eq (i := .aload_n 0) (len := 1) rfl
theorem u_10_64 (P : PL) (st : List PV) (G : PW) : pm_dn pm_sC 10 64 P st G = pm_go pm_sC 10 G (pm_oGf pm_sC 0 5 67 P st G) := pm_dn_eq (i := .getfield 31) (len := 3) rfl
theorem u_10_67 (P : PL) (st : List PV) (G : PW) : pm_dn pm_sC 10 67 P st G = pm_go pm_sC 10 G (pm_oIL 1 68 P st G) := pm_dn_eq (i := .iload_n 1) (len := 1) rfl
theorem u_10_68 (P : PL) (st : List PV) (G : PW) : pm_dn pm_sC 10 68 P st G = pm_go pm_sC 10 G (pm_oK (-6) 70 P st G) := pm_dn_eq (i := .bipush (-6)) (len := 2) rfl
theorem u_10_70 (P : PL) (st : List PV) (G : PW) : pm_dn pm_sC 10 70 P st G = pm_go pm_sC 10 G (pm_oCs 77 3 3 73 P st G) := pm_dn_eq (i := .invokestatic 34) (len := 3) rfl
theorem u_10_73 (P : PL) (st : List PV) (G : PW) : pm_dn pm_sC 10 73 P st G = pm_go pm_sC 10 G (pm_oInc 1 1 76 P st G) := pm_dn_eq (i := .iinc 1 1) (len := 3) rfl
theorem u_10_76 (P : PL) (st : List PV) (G : PW) : pm_dn pm_sC 10 76 P st G = pm_go pm_sC 10 G (pm_oGo (some 48) P st G) := pm_dn_eq (i := .goto (-28)) (len := 3) rfl
theorem u_10_79 (P : PL) (st : List PV) (G : PW) : pm_dn pm_sC 10 79 P st G = pm_go pm_sC 10 G (pm_oK 0 80 P st G) := pm_dn_eq (i := .iconst 0) (len := 1) rfl
theorem u_10_80 (P : PL) (st : List PV) (G : PW) : pm_dn pm_sC 10 80 P st G = pm_go pm_sC 10 G (pm_oIS 1 81 P st G) := pm_dn_eq (i := .istore_n 1) (len := 1) rfl
theorem u_10_81 (P : PL) (st : List PV) (G : PW) : pm_dn pm_sC 10 81 P st G = pm_go pm_sC 10 G (pm_oIL 1 82 P st G) := pm_dn_eq (i := .iload_n 1) (len := 1) rfl
theorem u_10_82 (P : PL) (st : List PV) (G : PW) : pm_dn pm_sC 10 82 P st G = pm_go pm_sC 10 G (pm_oAL 0 83 P st G) := pm_dn_eq (i := .aload_n 0) (len := 1) rfl
theorem u_10_83 (P : PL) (st : List PV) (G : PW) : pm_dn pm_sC 10 83 P st G = pm_go pm_sC 10 G (pm_oGf pm_sC 0 0 86 P st G) := pm_dn_eq (i := .getfield 12) (len := 3) rfl
theorem u_10_86 (P : PL) (st : List PV) (G : PW) : pm_dn pm_sC 10 86 P st G = pm_go pm_sC 10 G (pm_oGf pm_sC 3 4 89 P st G) := pm_dn_eq (i := .getfield 71) (len := 3) rfl
theorem u_10_89 (P : PL) (st : List PV) (G : PW) : pm_dn pm_sC 10 89 P st G = pm_go pm_sC 10 G (pm_oIc .ge (some 103) 92 P st G) := pm_dn_eq (i := .if_icmp .ge 14) (len := 3) rfl
theorem u_10_92 (P : PL) (st : List PV) (G : PW) : pm_dn pm_sC 10 92 P st G = pm_go pm_sC 10 G (pm_oAL 0 93 P st G) := pm_dn_eq (i := .aload_n 0) (len := 1) rfl
theorem u_10_93 (P : PL) (st : List PV) (G : PW) : pm_dn pm_sC 10 93 P st G = pm_go pm_sC 10 G (pm_oIL 1 94 P st G) := pm_dn_eq (i := .iload_n 1) (len := 1) rfl
theorem u_10_94 (P : PL) (st : List PV) (G : PW) : pm_dn pm_sC 10 94 P st G = pm_go pm_sC 10 G (pm_oCv pm_sC 11 1 5 0 97 P st G) := pm_dn_eq (i := .invokevirtual 74) (len := 3) rfl
theorem u_10_97 (P : PL) (st : List PV) (G : PW) : pm_dn pm_sC 10 97 P st G = pm_go pm_sC 10 G (pm_oInc 1 1 100 P st G) := pm_dn_eq (i := .iinc 1 1) (len := 3) rfl
theorem u_10_100 (P : PL) (st : List PV) (G : PW) : pm_dn pm_sC 10 100 P st G = pm_go pm_sC 10 G (pm_oGo (some 81) P st G) := pm_dn_eq (i := .goto (-19)) (len := 3) rfl
theorem u_10_103 (P : PL) (st : List PV) (G : PW) : pm_dn pm_sC 10 103 P st G = pm_go pm_sC 10 G (pm_oRv P st G) := pm_dn_eq (i := .return_) (len := 1) rfl
theorem ue_11 (a0 : Nat) (a1 : Int) (G : PW) : pm_ca pm_sC 11 [.inr (.inr a0), .inl a1] G = pm_dn pm_sC 11 0 [some (.inr (.inr a0)), some (.inl a1), none, none, none] [] G := rfl
theorem u_11_0 (P : PL) (st : List PV) (G : PW) : pm_dn pm_sC 11 0 P st G = pm_go pm_sC 11 G (pm_oAL 0 1 P st G) := pm_dn_eq (i := .aload_n 0) (len := 1) rfl
theorem u_11_1 (P : PL) (st : List PV) (G : PW) : pm_dn pm_sC 11 1 P st G = pm_go pm_sC 11 G (pm_oIL 1 2 P st G) := pm_dn_eq (i := .iload_n 1) (len := 1) rfl
theorem u_11_2 (P : PL) (st : List PV) (G : PW) : pm_dn pm_sC 11 2 P st G = pm_go pm_sC 11 G (pm_oK 0 3 P st G) := pm_dn_eq (i := .iconst 0) (len := 1) rfl
theorem u_11_3 (P : PL) (st : List PV) (G : PW) : pm_dn pm_sC 11 3 P st G = pm_go pm_sC 11 G (pm_oCv pm_sC 5 2 3 0 6 P st G) := pm_dn_eq (i := .invokevirtual 57) (len := 3) rfl
theorem u_11_6 (P : PL) (st : List PV) (G : PW) : pm_dn pm_sC 11 6 P st G = pm_go pm_sC 11 G (pm_oIS 2 7 P st G) := pm_dn_eq (i := .istore_n 2) (len := 1) rfl
theorem u_11_7 (P : PL) (st : List PV) (G : PW) : pm_dn pm_sC 11 7 P st G = pm_go pm_sC 11 G (pm_oAL 0 8 P st G) := pm_dn_eq (i := .aload_n 0) (len := 1) rfl
theorem u_11_8 (P : PL) (st : List PV) (G : PW) : pm_dn pm_sC 11 8 P st G = pm_go pm_sC 11 G (pm_oIL 1 9 P st G) := pm_dn_eq (i := .iload_n 1) (len := 1) rfl
theorem u_11_9 (P : PL) (st : List PV) (G : PW) : pm_dn pm_sC 11 9 P st G = pm_go pm_sC 11 G (pm_oK 1 10 P st G) := pm_dn_eq (i := .iconst 1) (len := 1) rfl
theorem u_11_10 (P : PL) (st : List PV) (G : PW) : pm_dn pm_sC 11 10 P st G = pm_go pm_sC 11 G (pm_oCv pm_sC 5 2 3 0 13 P st G) := pm_dn_eq (i := .invokevirtual 57) (len := 3) rfl
theorem u_11_13 (P : PL) (st : List PV) (G : PW) : pm_dn pm_sC 11 13 P st G = pm_go pm_sC 11 G (pm_oIS 3 14 P st G) := pm_dn_eq (i := .istore_n 3) (len := 1) rfl
theorem u_11_14 (P : PL) (st : List PV) (G : PW) : pm_dn pm_sC 11 14 P st G = pm_go pm_sC 11 G (pm_oAL 0 15 P st G) := pm_dn_eq (i := .aload_n 0) (len := 1) rfl
theorem u_11_15 (P : PL) (st : List PV) (G : PW) : pm_dn pm_sC 11 15 P st G = pm_go pm_sC 11 G (pm_oIL 1 16 P st G) := pm_dn_eq (i := .iload_n 1) (len := 1) rfl
theorem u_11_16 (P : PL) (st : List PV) (G : PW) : pm_dn pm_sC 11 16 P st G = pm_go pm_sC 11 G (pm_oCv pm_sC 6 1 2 0 19 P st G) := pm_dn_eq (i := .invokevirtual 53) (len := 3) rfl
theorem u_11_19 (P : PL) (st : List PV) (G : PW) : pm_dn pm_sC 11 19 P st G = pm_go pm_sC 11 G (pm_oIf .ne (some 34) 22 P st G) := pm_dn_eq (i := .ifCond .ne 15) (len := 3) rfl
theorem u_11_22 (P : PL) (st : List PV) (G : PW) : pm_dn pm_sC 11 22 P st G = pm_go pm_sC 11 G (pm_oIL 2 23 P st G) := pm_dn_eq (i := .iload_n 2) (len := 1) rfl
theorem u_11_23 (P : PL) (st : List PV) (G : PW) : pm_dn pm_sC 11 23 P st G = pm_go pm_sC 11 G (pm_oK (-6) 25 P st G) := pm_dn_eq (i := .bipush (-6)) (len := 2) rfl
theorem u_11_25 (P : PL) (st : List PV) (G : PW) : pm_dn pm_sC 11 25 P st G = pm_go pm_sC 11 G (pm_oIc .eq (some 34) 28 P st G) := pm_dn_eq (i := .if_icmp .eq 9) (len := 3) rfl
theorem u_11_28 (P : PL) (st : List PV) (G : PW) : pm_dn pm_sC 11 28 P st G = pm_go pm_sC 11 G (pm_oIL 3 29 P st G) := pm_dn_eq (i := .iload_n 3) (len := 1) rfl
theorem u_11_29 (P : PL) (st : List PV) (G : PW) : pm_dn pm_sC 11 29 P st G = pm_go pm_sC 11 G (pm_oK (-6) 31 P st G) := pm_dn_eq (i := .bipush (-6)) (len := 2) rfl
theorem u_11_31 (P : PL) (st : List PV) (G : PW) : pm_dn pm_sC 11 31 P st G = pm_go pm_sC 11 G (pm_oIc .ne (some 35) 34 P st G) := pm_dn_eq (i := .if_icmp .ne 4) (len := 3) rfl
theorem u_11_34 (P : PL) (st : List PV) (G : PW) : pm_dn pm_sC 11 34 P st G = pm_go pm_sC 11 G (pm_oRv P st G) := pm_dn_eq (i := .return_) (len := 1) rfl
theorem u_11_35 (P : PL) (st : List PV) (G : PW) : pm_dn pm_sC 11 35 P st G = pm_go pm_sC 11 G (pm_oAL 0 36 P st G) := pm_dn_eq (i := .aload_n 0) (len := 1) rfl
theorem u_11_36 (P : PL) (st : List PV) (G : PW) : pm_dn pm_sC 11 36 P st G = pm_go pm_sC 11 G (pm_oGf pm_sC 0 1 39 P st G) := pm_dn_eq (i := .getfield 18) (len := 3) rfl
theorem u_11_39 (P : PL) (st : List PV) (G : PW) : pm_dn pm_sC 11 39 P st G = pm_go pm_sC 11 G (pm_oIL 1 40 P st G) := pm_dn_eq (i := .iload_n 1) (len := 1) rfl
theorem u_11_40 (P : PL) (st : List PV) (G : PW) : pm_dn pm_sC 11 40 P st G = pm_go pm_sC 11 G (pm_oCs 76 2 2 43 P st G) := pm_dn_eq (i := .invokestatic 45) (len := 3) rfl
theorem u_11_43 (P : PL) (st : List PV) (G : PW) : pm_dn pm_sC 11 43 P st G = pm_go pm_sC 11 G (pm_oIS 4 45 P st G) := pm_dn_eq (i := .istore 4) (len := 2) rfl
theorem u_11_45 (P : PL) (st : List PV) (G : PW) : pm_dn pm_sC 11 45 P st G = pm_go pm_sC 11 G (pm_oIL 2 46 P st G) := pm_dn_eq (i := .iload_n 2) (len := 1) rfl
theorem u_11_46 (P : PL) (st : List PV) (G : PW) : pm_dn pm_sC 11 46 P st G = pm_go pm_sC 11 G (pm_oK 16 48 P st G) := pm_dn_eq (i := .bipush 16) (len := 2) rfl
theorem u_11_48 (P : PL) (st : List PV) (G : PW) : pm_dn pm_sC 11 48 P st G = pm_go pm_sC 11 G (pm_oIc .eq (some 57) 51 P st G) := pm_dn_eq (i := .if_icmp .eq 9) (len := 3) rfl
theorem u_11_51 (P : PL) (st : List PV) (G : PW) : pm_dn pm_sC 11 51 P st G = pm_go pm_sC 11 G (pm_oIL 3 52 P st G) := pm_dn_eq (i := .iload_n 3) (len := 1) rfl
theorem u_11_52 (P : PL) (st : List PV) (G : PW) : pm_dn pm_sC 11 52 P st G = pm_go pm_sC 11 G (pm_oK 16 54 P st G) := pm_dn_eq (i := .bipush 16) (len := 2) rfl
theorem u_11_54 (P : PL) (st : List PV) (G : PW) : pm_dn pm_sC 11 54 P st G = pm_go pm_sC 11 G (pm_oIc .ne (some 77) 57 P st G) := pm_dn_eq (i := .if_icmp .ne 23) (len := 3) rfl
theorem u_11_57 (P : PL) (st : List PV) (G : PW) : pm_dn pm_sC 11 57 P st G = pm_go pm_sC 11 G (pm_oAL 0 58 P st G) := pm_dn_eq (i := .aload_n 0) (len := 1) rfl
theorem u_11_58 (P : PL) (st : List PV) (G : PW) : pm_dn pm_sC 11 58 P st G = pm_go pm_sC 11 G (pm_oIL 1 59 P st G) := pm_dn_eq (i := .iload_n 1) (len := 1) rfl
theorem u_11_59 (P : PL) (st : List PV) (G : PW) : pm_dn pm_sC 11 59 P st G = pm_go pm_sC 11 G (pm_oIL 3 60 P st G) := pm_dn_eq (i := .iload_n 3) (len := 1) rfl
theorem u_11_60 (P : PL) (st : List PV) (G : PW) : pm_dn pm_sC 11 60 P st G = pm_go pm_sC 11 G (pm_oK 16 62 P st G) := pm_dn_eq (i := .bipush 16) (len := 2) rfl
theorem u_11_62 (P : PL) (st : List PV) (G : PW) : pm_dn pm_sC 11 62 P st G = pm_go pm_sC 11 G (pm_oIc .ne (some 69) 65 P st G) := pm_dn_eq (i := .if_icmp .ne 7) (len := 3) rfl
theorem u_11_65 (P : PL) (st : List PV) (G : PW) : pm_dn pm_sC 11 65 P st G = pm_go pm_sC 11 G (pm_oK 0 66 P st G) := pm_dn_eq (i := .iconst 0) (len := 1) rfl
theorem u_11_66 (P : PL) (st : List PV) (G : PW) : pm_dn pm_sC 11 66 P st G = pm_go pm_sC 11 G (pm_oGo (some 70) P st G) := pm_dn_eq (i := .goto 4) (len := 3) rfl
theorem u_11_69 (P : PL) (st : List PV) (G : PW) : pm_dn pm_sC 11 69 P st G = pm_go pm_sC 11 G (pm_oK 1 70 P st G) := pm_dn_eq (i := .iconst 1) (len := 1) rfl
theorem u_11_70 (P : PL) (st : List PV) (G : PW) : pm_dn pm_sC 11 70 P st G = pm_go pm_sC 11 G (pm_oK 1 71 P st G) := pm_dn_eq (i := .iconst 1) (len := 1) rfl
theorem u_11_71 (P : PL) (st : List PV) (G : PW) : pm_dn pm_sC 11 71 P st G = pm_go pm_sC 11 G (pm_oCv pm_sC 12 3 6 0 74 P st G) := pm_dn_eq (i := .invokevirtual 78) (len := 3) rfl
theorem u_11_74 (P : PL) (st : List PV) (G : PW) : pm_dn pm_sC 11 74 P st G = pm_go pm_sC 11 G (pm_oGo (some 130) P st G) := pm_dn_eq (i := .goto 56) (len := 3) rfl
theorem u_11_77 (P : PL) (st : List PV) (G : PW) : pm_dn pm_sC 11 77 P st G = pm_go pm_sC 11 G (pm_oIL 4 79 P st G) := pm_dn_eq (i := .iload 4) (len := 2) rfl
theorem u_11_79 (P : PL) (st : List PV) (G : PW) : pm_dn pm_sC 11 79 P st G = pm_go pm_sC 11 G (pm_oK (-6) 81 P st G) := pm_dn_eq (i := .bipush (-6)) (len := 2) rfl
theorem u_11_81 (P : PL) (st : List PV) (G : PW) : pm_dn pm_sC 11 81 P st G = pm_go pm_sC 11 G (pm_oIc .eq (some 95) 84 P st G) := pm_dn_eq (i := .if_icmp .eq 14) (len := 3) rfl
theorem u_11_84 (P : PL) (st : List PV) (G : PW) : pm_dn pm_sC 11 84 P st G = pm_go pm_sC 11 G (pm_oAL 0 85 P st G) := pm_dn_eq (i := .aload_n 0) (len := 1) rfl
theorem u_11_85 (P : PL) (st : List PV) (G : PW) : pm_dn pm_sC 11 85 P st G = pm_go pm_sC 11 G (pm_oIL 1 86 P st G) := pm_dn_eq (i := .iload_n 1) (len := 1) rfl
theorem u_11_86 (P : PL) (st : List PV) (G : PW) : pm_dn pm_sC 11 86 P st G = pm_go pm_sC 11 G (pm_oIL 4 88 P st G) := pm_dn_eq (i := .iload 4) (len := 2) rfl
theorem u_11_88 (P : PL) (st : List PV) (G : PW) : pm_dn pm_sC 11 88 P st G = pm_go pm_sC 11 G (pm_oK 3 89 P st G) := pm_dn_eq (i := .iconst 3) (len := 1) rfl
theorem u_11_89 (P : PL) (st : List PV) (G : PW) : pm_dn pm_sC 11 89 P st G = pm_go pm_sC 11 G (pm_oCv pm_sC 12 3 6 0 92 P st G) := pm_dn_eq (i := .invokevirtual 78) (len := 3) rfl
theorem u_11_92 (P : PL) (st : List PV) (G : PW) : pm_dn pm_sC 11 92 P st G = pm_go pm_sC 11 G (pm_oGo (some 130) P st G) := pm_dn_eq (i := .goto 38) (len := 3) rfl
theorem u_11_95 (P : PL) (st : List PV) (G : PW) : pm_dn pm_sC 11 95 P st G = pm_go pm_sC 11 G (pm_oAL 0 96 P st G) := pm_dn_eq (i := .aload_n 0) (len := 1) rfl
theorem u_11_96 (P : PL) (st : List PV) (G : PW) : pm_dn pm_sC 11 96 P st G = pm_go pm_sC 11 G (pm_oIL 2 97 P st G) := pm_dn_eq (i := .iload_n 2) (len := 1) rfl
theorem u_11_97 (P : PL) (st : List PV) (G : PW) : pm_dn pm_sC 11 97 P st G = pm_go pm_sC 11 G (pm_oCv pm_sC 4 1 2 0 100 P st G) := pm_dn_eq (i := .invokevirtual 82) (len := 3) rfl
theorem u_11_100 (P : PL) (st : List PV) (G : PW) : pm_dn pm_sC 11 100 P st G = pm_go pm_sC 11 G (pm_oIf .ne (some 111) 103 P st G) := pm_dn_eq (i := .ifCond .ne 11) (len := 3) rfl
theorem u_11_103 (P : PL) (st : List PV) (G : PW) : pm_dn pm_sC 11 103 P st G = pm_go pm_sC 11 G (pm_oAL 0 104 P st G) := pm_dn_eq (i := .aload_n 0) (len := 1) rfl
theorem u_11_104 (P : PL) (st : List PV) (G : PW) : pm_dn pm_sC 11 104 P st G = pm_go pm_sC 11 G (pm_oIL 3 105 P st G) := pm_dn_eq (i := .iload_n 3) (len := 1) rfl
theorem u_11_105 (P : PL) (st : List PV) (G : PW) : pm_dn pm_sC 11 105 P st G = pm_go pm_sC 11 G (pm_oCv pm_sC 4 1 2 0 108 P st G) := pm_dn_eq (i := .invokevirtual 82) (len := 3) rfl
theorem u_11_108 (P : PL) (st : List PV) (G : PW) : pm_dn pm_sC 11 108 P st G = pm_go pm_sC 11 G (pm_oIf .eq (some 130) 111 P st G) := pm_dn_eq (i := .ifCond .eq 22) (len := 3) rfl
theorem u_11_111 (P : PL) (st : List PV) (G : PW) : pm_dn pm_sC 11 111 P st G = pm_go pm_sC 11 G (pm_oAL 0 112 P st G) := pm_dn_eq (i := .aload_n 0) (len := 1) rfl
theorem u_11_112 (P : PL) (st : List PV) (G : PW) : pm_dn pm_sC 11 112 P st G = pm_go pm_sC 11 G (pm_oIL 1 113 P st G) := pm_dn_eq (i := .iload_n 1) (len := 1) rfl
theorem u_11_113 (P : PL) (st : List PV) (G : PW) : pm_dn pm_sC 11 113 P st G = pm_go pm_sC 11 G (pm_oAL 0 114 P st G) := pm_dn_eq (i := .aload_n 0) (len := 1) rfl
theorem u_11_114 (P : PL) (st : List PV) (G : PW) : pm_dn pm_sC 11 114 P st G = pm_go pm_sC 11 G (pm_oIL 3 115 P st G) := pm_dn_eq (i := .iload_n 3) (len := 1) rfl
theorem u_11_115 (P : PL) (st : List PV) (G : PW) : pm_dn pm_sC 11 115 P st G = pm_go pm_sC 11 G (pm_oCv pm_sC 4 1 2 0 118 P st G) := pm_dn_eq (i := .invokevirtual 82) (len := 3) rfl
theorem u_11_118 (P : PL) (st : List PV) (G : PW) : pm_dn pm_sC 11 118 P st G = pm_go pm_sC 11 G (pm_oIf .eq (some 125) 121 P st G) := pm_dn_eq (i := .ifCond .eq 7) (len := 3) rfl
theorem u_11_121 (P : PL) (st : List PV) (G : PW) : pm_dn pm_sC 11 121 P st G = pm_go pm_sC 11 G (pm_oK 0 122 P st G) := pm_dn_eq (i := .iconst 0) (len := 1) rfl
theorem u_11_122 (P : PL) (st : List PV) (G : PW) : pm_dn pm_sC 11 122 P st G = pm_go pm_sC 11 G (pm_oGo (some 126) P st G) := pm_dn_eq (i := .goto 4) (len := 3) rfl
theorem u_11_125 (P : PL) (st : List PV) (G : PW) : pm_dn pm_sC 11 125 P st G = pm_go pm_sC 11 G (pm_oK 1 126 P st G) := pm_dn_eq (i := .iconst 1) (len := 1) rfl
theorem u_11_126 (P : PL) (st : List PV) (G : PW) : pm_dn pm_sC 11 126 P st G = pm_go pm_sC 11 G (pm_oK 2 127 P st G) := pm_dn_eq (i := .iconst 2) (len := 1) rfl
theorem u_11_127 (P : PL) (st : List PV) (G : PW) : pm_dn pm_sC 11 127 P st G = pm_go pm_sC 11 G (pm_oCv pm_sC 12 3 6 0 130 P st G) := pm_dn_eq (i := .invokevirtual 78) (len := 3) rfl
theorem u_11_130 (P : PL) (st : List PV) (G : PW) : pm_dn pm_sC 11 130 P st G = pm_go pm_sC 11 G (pm_oRv P st G) := pm_dn_eq (i := .return_) (len := 1) rfl
theorem ue_12 (a0 : Nat) (a1 : Int) (a2 : Int) (a3 : Int) (G : PW) : pm_ca pm_sC 12 [.inr (.inr a0), .inl a1, .inl a2, .inl a3] G = pm_dn pm_sC 12 0 [some (.inr (.inr a0)), some (.inl a1), some (.inl a2), some (.inl a3), none, none] [] G := rfl
theorem u_12_0 (P : PL) (st : List PV) (G : PW) : pm_dn pm_sC 12 0 P st G = pm_go pm_sC 12 G (pm_oAL 0 1 P st G) := pm_dn_eq (i := .aload_n 0) (len := 1) rfl
theorem u_12_1 (P : PL) (st : List PV) (G : PW) : pm_dn pm_sC 12 1 P st G = pm_go pm_sC 12 G (pm_oGf pm_sC 0 3 4 P st G) := pm_dn_eq (i := .getfield 25) (len := 3) rfl
theorem u_12_4 (P : PL) (st : List PV) (G : PW) : pm_dn pm_sC 12 4 P st G = pm_go pm_sC 12 G (pm_oIL 1 5 P st G) := pm_dn_eq (i := .iload_n 1) (len := 1) rfl
theorem u_12_5 (P : PL) (st : List PV) (G : PW) : pm_dn pm_sC 12 5 P st G = pm_go pm_sC 12 G (pm_oIL 2 6 P st G) := pm_dn_eq (i := .iload_n 2) (len := 1) rfl
theorem u_12_6 (P : PL) (st : List PV) (G : PW) : pm_dn pm_sC 12 6 P st G = pm_go pm_sC 12 G (pm_oCs 79 2 2 9 P st G) := pm_dn_eq (i := .invokestatic 49) (len := 3) rfl
theorem u_12_9 (P : PL) (st : List PV) (G : PW) : pm_dn pm_sC 12 9 P st G = pm_go pm_sC 12 G (pm_oCs 76 2 2 12 P st G) := pm_dn_eq (i := .invokestatic 45) (len := 3) rfl
theorem u_12_12 (P : PL) (st : List PV) (G : PW) : pm_dn pm_sC 12 12 P st G = pm_go pm_sC 12 G (pm_oIS 4 14 P st G) := pm_dn_eq (i := .istore 4) (len := 2) rfl
theorem u_12_14 (P : PL) (st : List PV) (G : PW) : pm_dn pm_sC 12 14 P st G = pm_go pm_sC 12 G (pm_oAL 0 15 P st G) := pm_dn_eq (i := .aload_n 0) (len := 1) rfl
theorem u_12_15 (P : PL) (st : List PV) (G : PW) : pm_dn pm_sC 12 15 P st G = pm_go pm_sC 12 G (pm_oGf pm_sC 0 3 18 P st G) := pm_dn_eq (i := .getfield 25) (len := 3) rfl
theorem u_12_18 (P : PL) (st : List PV) (G : PW) : pm_dn pm_sC 12 18 P st G = pm_go pm_sC 12 G (pm_oIL 1 19 P st G) := pm_dn_eq (i := .iload_n 1) (len := 1) rfl
theorem u_12_19 (P : PL) (st : List PV) (G : PW) : pm_dn pm_sC 12 19 P st G = pm_go pm_sC 12 G (pm_oK 1 20 P st G) := pm_dn_eq (i := .iconst 1) (len := 1) rfl
theorem u_12_20 (P : PL) (st : List PV) (G : PW) : pm_dn pm_sC 12 20 P st G = pm_go pm_sC 12 G (pm_oIL 2 21 P st G) := pm_dn_eq (i := .iload_n 2) (len := 1) rfl
theorem u_12_21 (P : PL) (st : List PV) (G : PW) : pm_dn pm_sC 12 21 P st G = pm_go pm_sC 12 G (pm_oSub 22 P st G) := pm_dn_eq (i := .isub) (len := 1) rfl
theorem u_12_22 (P : PL) (st : List PV) (G : PW) : pm_dn pm_sC 12 22 P st G = pm_go pm_sC 12 G (pm_oCs 79 2 2 25 P st G) := pm_dn_eq (i := .invokestatic 49) (len := 3) rfl
theorem u_12_25 (P : PL) (st : List PV) (G : PW) : pm_dn pm_sC 12 25 P st G = pm_go pm_sC 12 G (pm_oCs 76 2 2 28 P st G) := pm_dn_eq (i := .invokestatic 45) (len := 3) rfl
theorem u_12_28 (P : PL) (st : List PV) (G : PW) : pm_dn pm_sC 12 28 P st G = pm_go pm_sC 12 G (pm_oIS 5 30 P st G) := pm_dn_eq (i := .istore 5) (len := 2) rfl
theorem u_12_30 (P : PL) (st : List PV) (G : PW) : pm_dn pm_sC 12 30 P st G = pm_go pm_sC 12 G (pm_oAL 0 31 P st G) := pm_dn_eq (i := .aload_n 0) (len := 1) rfl
theorem u_12_31 (P : PL) (st : List PV) (G : PW) : pm_dn pm_sC 12 31 P st G = pm_go pm_sC 12 G (pm_oGf pm_sC 0 4 34 P st G) := pm_dn_eq (i := .getfield 28) (len := 3) rfl
theorem u_12_34 (P : PL) (st : List PV) (G : PW) : pm_dn pm_sC 12 34 P st G = pm_go pm_sC 12 G (pm_oIL 1 35 P st G) := pm_dn_eq (i := .iload_n 1) (len := 1) rfl
theorem u_12_35 (P : PL) (st : List PV) (G : PW) : pm_dn pm_sC 12 35 P st G = pm_go pm_sC 12 G (pm_oIL 3 36 P st G) := pm_dn_eq (i := .iload_n 3) (len := 1) rfl
theorem u_12_36 (P : PL) (st : List PV) (G : PW) : pm_dn pm_sC 12 36 P st G = pm_go pm_sC 12 G (pm_oCs 77 3 3 39 P st G) := pm_dn_eq (i := .invokestatic 34) (len := 3) rfl
theorem u_12_39 (P : PL) (st : List PV) (G : PW) : pm_dn pm_sC 12 39 P st G = pm_go pm_sC 12 G (pm_oAL 0 40 P st G) := pm_dn_eq (i := .aload_n 0) (len := 1) rfl
theorem u_12_40 (P : PL) (st : List PV) (G : PW) : pm_dn pm_sC 12 40 P st G = pm_go pm_sC 12 G (pm_oGf pm_sC 0 5 43 P st G) := pm_dn_eq (i := .getfield 31) (len := 3) rfl
theorem u_12_43 (P : PL) (st : List PV) (G : PW) : pm_dn pm_sC 12 43 P st G = pm_go pm_sC 12 G (pm_oIL 1 44 P st G) := pm_dn_eq (i := .iload_n 1) (len := 1) rfl
theorem u_12_44 (P : PL) (st : List PV) (G : PW) : pm_dn pm_sC 12 44 P st G = pm_go pm_sC 12 G (pm_oIL 2 45 P st G) := pm_dn_eq (i := .iload_n 2) (len := 1) rfl
theorem u_12_45 (P : PL) (st : List PV) (G : PW) : pm_dn pm_sC 12 45 P st G = pm_go pm_sC 12 G (pm_oCs 77 3 3 48 P st G) := pm_dn_eq (i := .invokestatic 34) (len := 3) rfl
theorem u_12_48 (P : PL) (st : List PV) (G : PW) : pm_dn pm_sC 12 48 P st G = pm_go pm_sC 12 G (pm_oAL 0 49 P st G) := pm_dn_eq (i := .aload_n 0) (len := 1) rfl
theorem u_12_49 (P : PL) (st : List PV) (G : PW) : pm_dn pm_sC 12 49 P st G = pm_go pm_sC 12 G (pm_oGf pm_sC 0 3 52 P st G) := pm_dn_eq (i := .getfield 25) (len := 3) rfl
theorem u_12_52 (P : PL) (st : List PV) (G : PW) : pm_dn pm_sC 12 52 P st G = pm_go pm_sC 12 G (pm_oAL 0 53 P st G) := pm_dn_eq (i := .aload_n 0) (len := 1) rfl
theorem u_12_53 (P : PL) (st : List PV) (G : PW) : pm_dn pm_sC 12 53 P st G = pm_go pm_sC 12 G (pm_oGf pm_sC 0 0 56 P st G) := pm_dn_eq (i := .getfield 12) (len := 3) rfl
theorem u_12_56 (P : PL) (st : List PV) (G : PW) : pm_dn pm_sC 12 56 P st G = pm_go pm_sC 12 G (pm_oGf pm_sC 3 8 59 P st G) := pm_dn_eq (i := .getfield 85) (len := 3) rfl
theorem u_12_59 (P : PL) (st : List PV) (G : PW) : pm_dn pm_sC 12 59 P st G = pm_go pm_sC 12 G (pm_oIL 1 60 P st G) := pm_dn_eq (i := .iload_n 1) (len := 1) rfl
theorem u_12_60 (P : PL) (st : List PV) (G : PW) : pm_dn pm_sC 12 60 P st G = pm_go pm_sC 12 G (pm_oCs 76 2 2 63 P st G) := pm_dn_eq (i := .invokestatic 45) (len := 3) rfl
theorem u_12_63 (P : PL) (st : List PV) (G : PW) : pm_dn pm_sC 12 63 P st G = pm_go pm_sC 12 G (pm_oIL 4 65 P st G) := pm_dn_eq (i := .iload 4) (len := 2) rfl
theorem u_12_65 (P : PL) (st : List PV) (G : PW) : pm_dn pm_sC 12 65 P st G = pm_go pm_sC 12 G (pm_oCs 77 3 3 68 P st G) := pm_dn_eq (i := .invokestatic 34) (len := 3) rfl
theorem u_12_68 (P : PL) (st : List PV) (G : PW) : pm_dn pm_sC 12 68 P st G = pm_go pm_sC 12 G (pm_oAL 0 69 P st G) := pm_dn_eq (i := .aload_n 0) (len := 1) rfl
theorem u_12_69 (P : PL) (st : List PV) (G : PW) : pm_dn pm_sC 12 69 P st G = pm_go pm_sC 12 G (pm_oGf pm_sC 0 3 72 P st G) := pm_dn_eq (i := .getfield 25) (len := 3) rfl
theorem u_12_72 (P : PL) (st : List PV) (G : PW) : pm_dn pm_sC 12 72 P st G = pm_go pm_sC 12 G (pm_oAL 0 73 P st G) := pm_dn_eq (i := .aload_n 0) (len := 1) rfl
theorem u_12_73 (P : PL) (st : List PV) (G : PW) : pm_dn pm_sC 12 73 P st G = pm_go pm_sC 12 G (pm_oGf pm_sC 0 0 76 P st G) := pm_dn_eq (i := .getfield 12) (len := 3) rfl
theorem u_12_76 (P : PL) (st : List PV) (G : PW) : pm_dn pm_sC 12 76 P st G = pm_go pm_sC 12 G (pm_oGf pm_sC 3 9 79 P st G) := pm_dn_eq (i := .getfield 88) (len := 3) rfl
theorem u_12_79 (P : PL) (st : List PV) (G : PW) : pm_dn pm_sC 12 79 P st G = pm_go pm_sC 12 G (pm_oIL 1 80 P st G) := pm_dn_eq (i := .iload_n 1) (len := 1) rfl
theorem u_12_80 (P : PL) (st : List PV) (G : PW) : pm_dn pm_sC 12 80 P st G = pm_go pm_sC 12 G (pm_oCs 76 2 2 83 P st G) := pm_dn_eq (i := .invokestatic 45) (len := 3) rfl
theorem u_12_83 (P : PL) (st : List PV) (G : PW) : pm_dn pm_sC 12 83 P st G = pm_go pm_sC 12 G (pm_oIL 5 85 P st G) := pm_dn_eq (i := .iload 5) (len := 2) rfl
theorem u_12_85 (P : PL) (st : List PV) (G : PW) : pm_dn pm_sC 12 85 P st G = pm_go pm_sC 12 G (pm_oCs 77 3 3 88 P st G) := pm_dn_eq (i := .invokestatic 34) (len := 3) rfl
theorem u_12_88 (P : PL) (st : List PV) (G : PW) : pm_dn pm_sC 12 88 P st G = pm_go pm_sC 12 G (pm_oIL 1 89 P st G) := pm_dn_eq (i := .iload_n 1) (len := 1) rfl
theorem u_12_89 (P : PL) (st : List PV) (G : PW) : pm_dn pm_sC 12 89 P st G = pm_go pm_sC 12 G (pm_oAL 0 90 P st G) := pm_dn_eq (i := .aload_n 0) (len := 1) rfl
theorem u_12_90 (P : PL) (st : List PV) (G : PW) : pm_dn pm_sC 12 90 P st G = pm_go pm_sC 12 G (pm_oGf pm_sC 0 0 93 P st G) := pm_dn_eq (i := .getfield 12) (len := 3) rfl
theorem u_12_93 (P : PL) (st : List PV) (G : PW) : pm_dn pm_sC 12 93 P st G = pm_go pm_sC 12 G (pm_oCv pm_sC 36 0 1 3 96 P st G) := pm_dn_eq (i := .invokevirtual 91) (len := 3) rfl
theorem u_12_96 (P : PL) (st : List PV) (G : PW) : pm_dn pm_sC 12 96 P st G = pm_go pm_sC 12 G (pm_oIc .ne (some 144) 99 P st G) := pm_dn_eq (i := .if_icmp .ne 48) (len := 3) rfl
theorem u_12_99 (P : PL) (st : List PV) (G : PW) : pm_dn pm_sC 12 99 P st G = pm_go pm_sC 12 G (pm_oIL 2 100 P st G) := pm_dn_eq (i := .iload_n 2) (len := 1) rfl
theorem u_12_100 (P : PL) (st : List PV) (G : PW) : pm_dn pm_sC 12 100 P st G = pm_go pm_sC 12 G (pm_oK 1 101 P st G) := pm_dn_eq (i := .iconst 1) (len := 1) rfl
theorem u_12_101 (P : PL) (st : List PV) (G : PW) : pm_dn pm_sC 12 101 P st G = pm_go pm_sC 12 G (pm_oIc .ne (some 144) 104 P st G) := pm_dn_eq (i := .if_icmp .ne 43) (len := 3) rfl
theorem u_12_104 (P : PL) (st : List PV) (G : PW) : pm_dn pm_sC 12 104 P st G = pm_go pm_sC 12 G (pm_oAL 0 105 P st G) := pm_dn_eq (i := .aload_n 0) (len := 1) rfl
theorem u_12_105 (P : PL) (st : List PV) (G : PW) : pm_dn pm_sC 12 105 P st G = pm_go pm_sC 12 G (pm_oGf pm_sC 0 3 108 P st G) := pm_dn_eq (i := .getfield 25) (len := 3) rfl
theorem u_12_108 (P : PL) (st : List PV) (G : PW) : pm_dn pm_sC 12 108 P st G = pm_go pm_sC 12 G (pm_oAL 0 109 P st G) := pm_dn_eq (i := .aload_n 0) (len := 1) rfl
theorem u_12_109 (P : PL) (st : List PV) (G : PW) : pm_dn pm_sC 12 109 P st G = pm_go pm_sC 12 G (pm_oGf pm_sC 0 0 112 P st G) := pm_dn_eq (i := .getfield 12) (len := 3) rfl
theorem u_12_112 (P : PL) (st : List PV) (G : PW) : pm_dn pm_sC 12 112 P st G = pm_go pm_sC 12 G (pm_oCv pm_sC 37 0 1 3 115 P st G) := pm_dn_eq (i := .invokevirtual 95) (len := 3) rfl
theorem u_12_115 (P : PL) (st : List PV) (G : PW) : pm_dn pm_sC 12 115 P st G = pm_go pm_sC 12 G (pm_oK 0 116 P st G) := pm_dn_eq (i := .iconst 0) (len := 1) rfl
theorem u_12_116 (P : PL) (st : List PV) (G : PW) : pm_dn pm_sC 12 116 P st G = pm_go pm_sC 12 G (pm_oCs 79 2 2 119 P st G) := pm_dn_eq (i := .invokestatic 49) (len := 3) rfl
theorem u_12_119 (P : PL) (st : List PV) (G : PW) : pm_dn pm_sC 12 119 P st G = pm_go pm_sC 12 G (pm_oIL 5 121 P st G) := pm_dn_eq (i := .iload 5) (len := 2) rfl
theorem u_12_121 (P : PL) (st : List PV) (G : PW) : pm_dn pm_sC 12 121 P st G = pm_go pm_sC 12 G (pm_oCs 77 3 3 124 P st G) := pm_dn_eq (i := .invokestatic 34) (len := 3) rfl
theorem u_12_124 (P : PL) (st : List PV) (G : PW) : pm_dn pm_sC 12 124 P st G = pm_go pm_sC 12 G (pm_oAL 0 125 P st G) := pm_dn_eq (i := .aload_n 0) (len := 1) rfl
theorem u_12_125 (P : PL) (st : List PV) (G : PW) : pm_dn pm_sC 12 125 P st G = pm_go pm_sC 12 G (pm_oGf pm_sC 0 3 128 P st G) := pm_dn_eq (i := .getfield 25) (len := 3) rfl
theorem u_12_128 (P : PL) (st : List PV) (G : PW) : pm_dn pm_sC 12 128 P st G = pm_go pm_sC 12 G (pm_oAL 0 129 P st G) := pm_dn_eq (i := .aload_n 0) (len := 1) rfl
theorem u_12_129 (P : PL) (st : List PV) (G : PW) : pm_dn pm_sC 12 129 P st G = pm_go pm_sC 12 G (pm_oGf pm_sC 0 0 132 P st G) := pm_dn_eq (i := .getfield 12) (len := 3) rfl
theorem u_12_132 (P : PL) (st : List PV) (G : PW) : pm_dn pm_sC 12 132 P st G = pm_go pm_sC 12 G (pm_oCv pm_sC 37 0 1 3 135 P st G) := pm_dn_eq (i := .invokevirtual 95) (len := 3) rfl
theorem u_12_135 (P : PL) (st : List PV) (G : PW) : pm_dn pm_sC 12 135 P st G = pm_go pm_sC 12 G (pm_oK 1 136 P st G) := pm_dn_eq (i := .iconst 1) (len := 1) rfl
theorem u_12_136 (P : PL) (st : List PV) (G : PW) : pm_dn pm_sC 12 136 P st G = pm_go pm_sC 12 G (pm_oCs 79 2 2 139 P st G) := pm_dn_eq (i := .invokestatic 49) (len := 3) rfl
theorem u_12_139 (P : PL) (st : List PV) (G : PW) : pm_dn pm_sC 12 139 P st G = pm_go pm_sC 12 G (pm_oIL 4 141 P st G) := pm_dn_eq (i := .iload 4) (len := 2) rfl
theorem u_12_141 (P : PL) (st : List PV) (G : PW) : pm_dn pm_sC 12 141 P st G = pm_go pm_sC 12 G (pm_oCs 77 3 3 144 P st G) := pm_dn_eq (i := .invokestatic 34) (len := 3) rfl
theorem u_12_144 (P : PL) (st : List PV) (G : PW) : pm_dn pm_sC 12 144 P st G = pm_go pm_sC 12 G (pm_oRv P st G) := pm_dn_eq (i := .return_) (len := 1) rfl
theorem ue_13 (a0 : Nat) (a1 : Int) (G : PW) : pm_ca pm_sC 13 [.inr (.inr a0), .inl a1] G = pm_dn pm_sC 13 0 [some (.inr (.inr a0)), some (.inl a1), none, none] [] G := rfl
theorem u_13_0 (P : PL) (st : List PV) (G : PW) : pm_dn pm_sC 13 0 P st G = pm_go pm_sC 13 G (pm_oK 0 1 P st G) := pm_dn_eq (i := .iconst 0) (len := 1) rfl
theorem u_13_1 (P : PL) (st : List PV) (G : PW) : pm_dn pm_sC 13 1 P st G = pm_go pm_sC 13 G (pm_oIS 2 2 P st G) := pm_dn_eq (i := .istore_n 2) (len := 1) rfl
theorem u_13_2 (P : PL) (st : List PV) (G : PW) : pm_dn pm_sC 13 2 P st G = pm_go pm_sC 13 G (pm_oIL 2 3 P st G) := pm_dn_eq (i := .iload_n 2) (len := 1) rfl
theorem u_13_3 (P : PL) (st : List PV) (G : PW) : pm_dn pm_sC 13 3 P st G = pm_go pm_sC 13 G (pm_oAL 0 4 P st G) := pm_dn_eq (i := .aload_n 0) (len := 1) rfl
theorem u_13_4 (P : PL) (st : List PV) (G : PW) : pm_dn pm_sC 13 4 P st G = pm_go pm_sC 13 G (pm_oGf pm_sC 0 0 7 P st G) := pm_dn_eq (i := .getfield 12) (len := 3) rfl
theorem u_13_7 (P : PL) (st : List PV) (G : PW) : pm_dn pm_sC 13 7 P st G = pm_go pm_sC 13 G (pm_oGf pm_sC 3 4 10 P st G) := pm_dn_eq (i := .getfield 71) (len := 3) rfl
theorem u_13_10 (P : PL) (st : List PV) (G : PW) : pm_dn pm_sC 13 10 P st G = pm_go pm_sC 13 G (pm_oIc .ge (some 59) 13 P st G) := pm_dn_eq (i := .if_icmp .ge 49) (len := 3) rfl
theorem u_13_13 (P : PL) (st : List PV) (G : PW) : pm_dn pm_sC 13 13 P st G = pm_go pm_sC 13 G (pm_oAL 0 14 P st G) := pm_dn_eq (i := .aload_n 0) (len := 1) rfl
theorem u_13_14 (P : PL) (st : List PV) (G : PW) : pm_dn pm_sC 13 14 P st G = pm_go pm_sC 13 G (pm_oIL 2 15 P st G) := pm_dn_eq (i := .iload_n 2) (len := 1) rfl
theorem u_13_15 (P : PL) (st : List PV) (G : PW) : pm_dn pm_sC 13 15 P st G = pm_go pm_sC 13 G (pm_oK 0 16 P st G) := pm_dn_eq (i := .iconst 0) (len := 1) rfl
theorem u_13_16 (P : PL) (st : List PV) (G : PW) : pm_dn pm_sC 13 16 P st G = pm_go pm_sC 13 G (pm_oCv pm_sC 5 2 3 0 19 P st G) := pm_dn_eq (i := .invokevirtual 57) (len := 3) rfl
theorem u_13_19 (P : PL) (st : List PV) (G : PW) : pm_dn pm_sC 13 19 P st G = pm_go pm_sC 13 G (pm_oIL 1 20 P st G) := pm_dn_eq (i := .iload_n 1) (len := 1) rfl
theorem u_13_20 (P : PL) (st : List PV) (G : PW) : pm_dn pm_sC 13 20 P st G = pm_go pm_sC 13 G (pm_oIc .eq (some 33) 23 P st G) := pm_dn_eq (i := .if_icmp .eq 13) (len := 3) rfl
theorem u_13_23 (P : PL) (st : List PV) (G : PW) : pm_dn pm_sC 13 23 P st G = pm_go pm_sC 13 G (pm_oAL 0 24 P st G) := pm_dn_eq (i := .aload_n 0) (len := 1) rfl
theorem u_13_24 (P : PL) (st : List PV) (G : PW) : pm_dn pm_sC 13 24 P st G = pm_go pm_sC 13 G (pm_oIL 2 25 P st G) := pm_dn_eq (i := .iload_n 2) (len := 1) rfl
theorem u_13_25 (P : PL) (st : List PV) (G : PW) : pm_dn pm_sC 13 25 P st G = pm_go pm_sC 13 G (pm_oK 1 26 P st G) := pm_dn_eq (i := .iconst 1) (len := 1) rfl
theorem u_13_26 (P : PL) (st : List PV) (G : PW) : pm_dn pm_sC 13 26 P st G = pm_go pm_sC 13 G (pm_oCv pm_sC 5 2 3 0 29 P st G) := pm_dn_eq (i := .invokevirtual 57) (len := 3) rfl
theorem u_13_29 (P : PL) (st : List PV) (G : PW) : pm_dn pm_sC 13 29 P st G = pm_go pm_sC 13 G (pm_oIL 1 30 P st G) := pm_dn_eq (i := .iload_n 1) (len := 1) rfl
theorem u_13_30 (P : PL) (st : List PV) (G : PW) : pm_dn pm_sC 13 30 P st G = pm_go pm_sC 13 G (pm_oIc .ne (some 37) 33 P st G) := pm_dn_eq (i := .if_icmp .ne 7) (len := 3) rfl
theorem u_13_33 (P : PL) (st : List PV) (G : PW) : pm_dn pm_sC 13 33 P st G = pm_go pm_sC 13 G (pm_oK 1 34 P st G) := pm_dn_eq (i := .iconst 1) (len := 1) rfl
theorem u_13_34 (P : PL) (st : List PV) (G : PW) : pm_dn pm_sC 13 34 P st G = pm_go pm_sC 13 G (pm_oGo (some 38) P st G) := pm_dn_eq (i := .goto 4) (len := 3) rfl
theorem u_13_37 (P : PL) (st : List PV) (G : PW) : pm_dn pm_sC 13 37 P st G = pm_go pm_sC 13 G (pm_oK 0 38 P st G) := pm_dn_eq (i := .iconst 0) (len := 1) rfl
theorem u_13_38 (P : PL) (st : List PV) (G : PW) : pm_dn pm_sC 13 38 P st G = pm_go pm_sC 13 G (pm_oIS 3 39 P st G) := pm_dn_eq (i := .istore_n 3) (len := 1) rfl
theorem u_13_39 (P : PL) (st : List PV) (G : PW) : pm_dn pm_sC 13 39 P st G = pm_go pm_sC 13 G (pm_oIL 3 40 P st G) := pm_dn_eq (i := .iload_n 3) (len := 1) rfl
theorem u_13_40 (P : PL) (st : List PV) (G : PW) : pm_dn pm_sC 13 40 P st G = pm_go pm_sC 13 G (pm_oIf .eq (some 53) 43 P st G) := pm_dn_eq (i := .ifCond .eq 13) (len := 3) rfl
theorem u_13_43 (P : PL) (st : List PV) (G : PW) : pm_dn pm_sC 13 43 P st G = pm_go pm_sC 13 G (pm_oAL 0 44 P st G) := pm_dn_eq (i := .aload_n 0) (len := 1) rfl
theorem u_13_44 (P : PL) (st : List PV) (G : PW) : pm_dn pm_sC 13 44 P st G = pm_go pm_sC 13 G (pm_oIL 2 45 P st G) := pm_dn_eq (i := .iload_n 2) (len := 1) rfl
theorem u_13_45 (P : PL) (st : List PV) (G : PW) : pm_dn pm_sC 13 45 P st G = pm_go pm_sC 13 G (pm_oCv pm_sC 6 1 2 0 48 P st G) := pm_dn_eq (i := .invokevirtual 53) (len := 3) rfl
theorem u_13_48 (P : PL) (st : List PV) (G : PW) : pm_dn pm_sC 13 48 P st G = pm_go pm_sC 13 G (pm_oIf .ne (some 53) 51 P st G) := pm_dn_eq (i := .ifCond .ne 5) (len := 3) rfl
theorem u_13_51 (P : PL) (st : List PV) (G : PW) : pm_dn pm_sC 13 51 P st G = pm_go pm_sC 13 G (pm_oIL 2 52 P st G) := pm_dn_eq (i := .iload_n 2) (len := 1) rfl
theorem u_13_52 (P : PL) (st : List PV) (G : PW) : pm_dn pm_sC 13 52 P st G = pm_go pm_sC 13 G (pm_oRi 0 P st G) := pm_dn_eq (i := .ireturn) (len := 1) rfl
theorem u_13_53 (P : PL) (st : List PV) (G : PW) : pm_dn pm_sC 13 53 P st G = pm_go pm_sC 13 G (pm_oInc 2 1 56 P st G) := pm_dn_eq (i := .iinc 2 1) (len := 3) rfl
theorem u_13_56 (P : PL) (st : List PV) (G : PW) : pm_dn pm_sC 13 56 P st G = pm_go pm_sC 13 G (pm_oGo (some 2) P st G) := pm_dn_eq (i := .goto (-54)) (len := 3) rfl
theorem u_13_59 (P : PL) (st : List PV) (G : PW) : pm_dn pm_sC 13 59 P st G = pm_go pm_sC 13 G (pm_oK (-6) 61 P st G) := pm_dn_eq (i := .bipush (-6)) (len := 2) rfl
theorem u_13_61 (P : PL) (st : List PV) (G : PW) : pm_dn pm_sC 13 61 P st G = pm_go pm_sC 13 G (pm_oRi 0 P st G) := pm_dn_eq (i := .ireturn) (len := 1) rfl
theorem ue_14 (a0 : Nat) (a1 : Int) (G : PW) : pm_ca pm_sC 14 [.inr (.inr a0), .inl a1] G = pm_dn pm_sC 14 0 [some (.inr (.inr a0)), some (.inl a1)] [] G := rfl
theorem u_14_0 (P : PL) (st : List PV) (G : PW) : pm_dn pm_sC 14 0 P st G = pm_go pm_sC 14 G (pm_oAL 0 1 P st G) := pm_dn_eq (i := .aload_n 0) (len := 1) rfl
theorem u_14_1 (P : PL) (st : List PV) (G : PW) : pm_dn pm_sC 14 1 P st G = pm_go pm_sC 14 G (pm_oIL 1 2 P st G) := pm_dn_eq (i := .iload_n 1) (len := 1) rfl
theorem u_14_2 (P : PL) (st : List PV) (G : PW) : pm_dn pm_sC 14 2 P st G = pm_go pm_sC 14 G (pm_oCv pm_sC 13 1 4 0 5 P st G) := pm_dn_eq (i := .invokevirtual 98) (len := 3) rfl
theorem u_14_5 (P : PL) (st : List PV) (G : PW) : pm_dn pm_sC 14 5 P st G = pm_go pm_sC 14 G (pm_oK (-6) 7 P st G) := pm_dn_eq (i := .bipush (-6)) (len := 2) rfl
theorem u_14_7 (P : PL) (st : List PV) (G : PW) : pm_dn pm_sC 14 7 P st G = pm_go pm_sC 14 G (pm_oIc .ne (some 14) 10 P st G) := pm_dn_eq (i := .if_icmp .ne 7) (len := 3) rfl
theorem u_14_10 (P : PL) (st : List PV) (G : PW) : pm_dn pm_sC 14 10 P st G = pm_go pm_sC 14 G (pm_oK 1 11 P st G) := pm_dn_eq (i := .iconst 1) (len := 1) rfl
theorem u_14_11 (P : PL) (st : List PV) (G : PW) : pm_dn pm_sC 14 11 P st G = pm_go pm_sC 14 G (pm_oGo (some 15) P st G) := pm_dn_eq (i := .goto 4) (len := 3) rfl
theorem u_14_14 (P : PL) (st : List PV) (G : PW) : pm_dn pm_sC 14 14 P st G = pm_go pm_sC 14 G (pm_oK 0 15 P st G) := pm_dn_eq (i := .iconst 0) (len := 1) rfl
theorem u_14_15 (P : PL) (st : List PV) (G : PW) : pm_dn pm_sC 14 15 P st G = pm_go pm_sC 14 G (pm_oRi 2 P st G) := pm_dn_eq (i := .ireturn) (len := 1) rfl
theorem ue_15 (a0 : Nat) (G : PW) : pm_ca pm_sC 15 [.inr (.inr a0)] G = pm_dn pm_sC 15 0 [some (.inr (.inr a0)), none, none] [] G := rfl
theorem u_15_0 (P : PL) (st : List PV) (G : PW) : pm_dn pm_sC 15 0 P st G = pm_go pm_sC 15 G (pm_oAL 0 1 P st G) := pm_dn_eq (i := .aload_n 0) (len := 1) rfl
theorem u_15_1 (P : PL) (st : List PV) (G : PW) : pm_dn pm_sC 15 1 P st G = pm_go pm_sC 15 G (pm_oAL 0 2 P st G) := pm_dn_eq (i := .aload_n 0) (len := 1) rfl
theorem u_15_2 (P : PL) (st : List PV) (G : PW) : pm_dn pm_sC 15 2 P st G = pm_go pm_sC 15 G (pm_oGf pm_sC 0 0 5 P st G) := pm_dn_eq (i := .getfield 12) (len := 3) rfl
theorem u_15_5 (P : PL) (st : List PV) (G : PW) : pm_dn pm_sC 15 5 P st G = pm_go pm_sC 15 G (pm_oCv pm_sC 37 0 1 3 8 P st G) := pm_dn_eq (i := .invokevirtual 95) (len := 3) rfl
theorem u_15_8 (P : PL) (st : List PV) (G : PW) : pm_dn pm_sC 15 8 P st G = pm_go pm_sC 15 G (pm_oCv pm_sC 7 1 2 0 11 P st G) := pm_dn_eq (i := .invokevirtual 101) (len := 3) rfl
theorem u_15_11 (P : PL) (st : List PV) (G : PW) : pm_dn pm_sC 15 11 P st G = pm_go pm_sC 15 G (pm_oIS 1 12 P st G) := pm_dn_eq (i := .istore_n 1) (len := 1) rfl
theorem u_15_12 (P : PL) (st : List PV) (G : PW) : pm_dn pm_sC 15 12 P st G = pm_go pm_sC 15 G (pm_oIL 1 13 P st G) := pm_dn_eq (i := .iload_n 1) (len := 1) rfl
theorem u_15_13 (P : PL) (st : List PV) (G : PW) : pm_dn pm_sC 15 13 P st G = pm_go pm_sC 15 G (pm_oK (-6) 15 P st G) := pm_dn_eq (i := .bipush (-6)) (len := 2) rfl
theorem u_15_15 (P : PL) (st : List PV) (G : PW) : pm_dn pm_sC 15 15 P st G = pm_go pm_sC 15 G (pm_oIc .eq (some 20) 18 P st G) := pm_dn_eq (i := .if_icmp .eq 5) (len := 3) rfl
theorem u_15_18 (P : PL) (st : List PV) (G : PW) : pm_dn pm_sC 15 18 P st G = pm_go pm_sC 15 G (pm_oIL 1 19 P st G) := pm_dn_eq (i := .iload_n 1) (len := 1) rfl
theorem u_15_19 (P : PL) (st : List PV) (G : PW) : pm_dn pm_sC 15 19 P st G = pm_go pm_sC 15 G (pm_oRi 0 P st G) := pm_dn_eq (i := .ireturn) (len := 1) rfl
theorem u_15_20 (P : PL) (st : List PV) (G : PW) : pm_dn pm_sC 15 20 P st G = pm_go pm_sC 15 G (pm_oAL 0 21 P st G) := pm_dn_eq (i := .aload_n 0) (len := 1) rfl
theorem u_15_21 (P : PL) (st : List PV) (G : PW) : pm_dn pm_sC 15 21 P st G = pm_go pm_sC 15 G (pm_oGf pm_sC 0 0 24 P st G) := pm_dn_eq (i := .getfield 12) (len := 3) rfl
theorem u_15_24 (P : PL) (st : List PV) (G : PW) : pm_dn pm_sC 15 24 P st G = pm_go pm_sC 15 G (pm_oCv pm_sC 36 0 1 3 27 P st G) := pm_dn_eq (i := .invokevirtual 91) (len := 3) rfl
theorem u_15_27 (P : PL) (st : List PV) (G : PW) : pm_dn pm_sC 15 27 P st G = pm_go pm_sC 15 G (pm_oIS 2 28 P st G) := pm_dn_eq (i := .istore_n 2) (len := 1) rfl
theorem u_15_28 (P : PL) (st : List PV) (G : PW) : pm_dn pm_sC 15 28 P st G = pm_go pm_sC 15 G (pm_oAL 0 29 P st G) := pm_dn_eq (i := .aload_n 0) (len := 1) rfl
theorem u_15_29 (P : PL) (st : List PV) (G : PW) : pm_dn pm_sC 15 29 P st G = pm_go pm_sC 15 G (pm_oGf pm_sC 0 5 32 P st G) := pm_dn_eq (i := .getfield 31) (len := 3) rfl
theorem u_15_32 (P : PL) (st : List PV) (G : PW) : pm_dn pm_sC 15 32 P st G = pm_go pm_sC 15 G (pm_oIL 2 33 P st G) := pm_dn_eq (i := .iload_n 2) (len := 1) rfl
theorem u_15_33 (P : PL) (st : List PV) (G : PW) : pm_dn pm_sC 15 33 P st G = pm_go pm_sC 15 G (pm_oCs 76 2 2 36 P st G) := pm_dn_eq (i := .invokestatic 45) (len := 3) rfl
theorem u_15_36 (P : PL) (st : List PV) (G : PW) : pm_dn pm_sC 15 36 P st G = pm_go pm_sC 15 G (pm_oIf .ne (some 47) 39 P st G) := pm_dn_eq (i := .ifCond .ne 11) (len := 3) rfl
theorem u_15_39 (P : PL) (st : List PV) (G : PW) : pm_dn pm_sC 15 39 P st G = pm_go pm_sC 15 G (pm_oAL 0 40 P st G) := pm_dn_eq (i := .aload_n 0) (len := 1) rfl
theorem u_15_40 (P : PL) (st : List PV) (G : PW) : pm_dn pm_sC 15 40 P st G = pm_go pm_sC 15 G (pm_oIL 2 41 P st G) := pm_dn_eq (i := .iload_n 2) (len := 1) rfl
theorem u_15_41 (P : PL) (st : List PV) (G : PW) : pm_dn pm_sC 15 41 P st G = pm_go pm_sC 15 G (pm_oCv pm_sC 7 1 2 0 44 P st G) := pm_dn_eq (i := .invokevirtual 101) (len := 3) rfl
theorem u_15_44 (P : PL) (st : List PV) (G : PW) : pm_dn pm_sC 15 44 P st G = pm_go pm_sC 15 G (pm_oGo (some 49) P st G) := pm_dn_eq (i := .goto 5) (len := 3) rfl
theorem u_15_47 (P : PL) (st : List PV) (G : PW) : pm_dn pm_sC 15 47 P st G = pm_go pm_sC 15 G (pm_oK (-6) 49 P st G) := pm_dn_eq (i := .bipush (-6)) (len := 2) rfl
theorem u_15_49 (P : PL) (st : List PV) (G : PW) : pm_dn pm_sC 15 49 P st G = pm_go pm_sC 15 G (pm_oRi 0 P st G) := pm_dn_eq (i := .ireturn) (len := 1) rfl
theorem ue_16 (a0 : Nat) (a1 : Int) (G : PW) : pm_ca pm_sC 16 [.inr (.inr a0), .inl a1] G = pm_dn pm_sC 16 0 [some (.inr (.inr a0)), some (.inl a1)] [] G := rfl
theorem u_16_0 (P : PL) (st : List PV) (G : PW) : pm_dn pm_sC 16 0 P st G = pm_go pm_sC 16 G (pm_oAL 0 1 P st G) := pm_dn_eq (i := .aload_n 0) (len := 1) rfl
theorem u_16_1 (P : PL) (st : List PV) (G : PW) : pm_dn pm_sC 16 1 P st G = pm_go pm_sC 16 G (pm_oIL 1 2 P st G) := pm_dn_eq (i := .iload_n 1) (len := 1) rfl
theorem u_16_2 (P : PL) (st : List PV) (G : PW) : pm_dn pm_sC 16 2 P st G = pm_go pm_sC 16 G (pm_oAL 0 3 P st G) := pm_dn_eq (i := .aload_n 0) (len := 1) rfl
theorem u_16_3 (P : PL) (st : List PV) (G : PW) : pm_dn pm_sC 16 3 P st G = pm_go pm_sC 16 G (pm_oGf pm_sC 0 0 6 P st G) := pm_dn_eq (i := .getfield 12) (len := 3) rfl
theorem u_16_6 (P : PL) (st : List PV) (G : PW) : pm_dn pm_sC 16 6 P st G = pm_go pm_sC 16 G (pm_oGf pm_sC 3 10 9 P st G) := pm_dn_eq (i := .getfield 104) (len := 3) rfl
theorem u_16_9 (P : PL) (st : List PV) (G : PW) : pm_dn pm_sC 16 9 P st G = pm_go pm_sC 16 G (pm_oCv pm_sC 18 2 4 0 12 P st G) := pm_dn_eq (i := .invokevirtual 107) (len := 3) rfl
theorem u_16_12 (P : PL) (st : List PV) (G : PW) : pm_dn pm_sC 16 12 P st G = pm_go pm_sC 16 G (pm_oRi 0 P st G) := pm_dn_eq (i := .ireturn) (len := 1) rfl
theorem ue_17 (a0 : Nat) (a1 : Int) (G : PW) : pm_ca pm_sC 17 [.inr (.inr a0), .inl a1] G = pm_dn pm_sC 17 0 [some (.inr (.inr a0)), some (.inl a1)] [] G := rfl
theorem u_17_0 (P : PL) (st : List PV) (G : PW) : pm_dn pm_sC 17 0 P st G = pm_go pm_sC 17 G (pm_oAL 0 1 P st G) := pm_dn_eq (i := .aload_n 0) (len := 1) rfl
theorem u_17_1 (P : PL) (st : List PV) (G : PW) : pm_dn pm_sC 17 1 P st G = pm_go pm_sC 17 G (pm_oIL 1 2 P st G) := pm_dn_eq (i := .iload_n 1) (len := 1) rfl
theorem u_17_2 (P : PL) (st : List PV) (G : PW) : pm_dn pm_sC 17 2 P st G = pm_go pm_sC 17 G (pm_oAL 0 3 P st G) := pm_dn_eq (i := .aload_n 0) (len := 1) rfl
theorem u_17_3 (P : PL) (st : List PV) (G : PW) : pm_dn pm_sC 17 3 P st G = pm_go pm_sC 17 G (pm_oGf pm_sC 0 0 6 P st G) := pm_dn_eq (i := .getfield 12) (len := 3) rfl
theorem u_17_6 (P : PL) (st : List PV) (G : PW) : pm_dn pm_sC 17 6 P st G = pm_go pm_sC 17 G (pm_oGf pm_sC 3 11 9 P st G) := pm_dn_eq (i := .getfield 111) (len := 3) rfl
theorem u_17_9 (P : PL) (st : List PV) (G : PW) : pm_dn pm_sC 17 9 P st G = pm_go pm_sC 17 G (pm_oCv pm_sC 18 2 4 0 12 P st G) := pm_dn_eq (i := .invokevirtual 107) (len := 3) rfl
theorem u_17_12 (P : PL) (st : List PV) (G : PW) : pm_dn pm_sC 17 12 P st G = pm_go pm_sC 17 G (pm_oRi 0 P st G) := pm_dn_eq (i := .ireturn) (len := 1) rfl
theorem ue_18 (a0 : Nat) (a1 : Int) (a2 : Nat) (G : PW) : pm_ca pm_sC 18 [.inr (.inr a0), .inl a1, .inr (.inr a2)] G = pm_dn pm_sC 18 0 [some (.inr (.inr a0)), some (.inl a1), some (.inr (.inr a2)), none] [] G := rfl
theorem u_18_0 (P : PL) (st : List PV) (G : PW) : pm_dn pm_sC 18 0 P st G = pm_go pm_sC 18 G (pm_oAL 0 1 P st G) := pm_dn_eq (i := .aload_n 0) (len := 1) rfl
theorem u_18_1 (P : PL) (st : List PV) (G : PW) : pm_dn pm_sC 18 1 P st G = pm_go pm_sC 18 G (pm_oIL 1 2 P st G) := pm_dn_eq (i := .iload_n 1) (len := 1) rfl
theorem u_18_2 (P : PL) (st : List PV) (G : PW) : pm_dn pm_sC 18 2 P st G = pm_go pm_sC 18 G (pm_oCv pm_sC 14 1 2 0 5 P st G) := pm_dn_eq (i := .invokevirtual 114) (len := 3) rfl
theorem u_18_5 (P : PL) (st : List PV) (G : PW) : pm_dn pm_sC 18 5 P st G = pm_go pm_sC 18 G (pm_oIf .ne (some 11) 8 P st G) := pm_dn_eq (i := .ifCond .ne 6) (len := 3) rfl
theorem u_18_8 (P : PL) (st : List PV) (G : PW) : pm_dn pm_sC 18 8 P st G = pm_go pm_sC 18 G (pm_oK (-6) 10 P st G) := pm_dn_eq (i := .bipush (-6)) (len := 2) rfl
theorem u_18_10 (P : PL) (st : List PV) (G : PW) : pm_dn pm_sC 18 10 P st G = pm_go pm_sC 18 G (pm_oRi 0 P st G) := pm_dn_eq (i := .ireturn) (len := 1) rfl
theorem u_18_11 (P : PL) (st : List PV) (G : PW) : pm_dn pm_sC 18 11 P st G = pm_go pm_sC 18 G (pm_oK 0 12 P st G) := pm_dn_eq (i := .iconst 0) (len := 1) rfl
theorem u_18_12 (P : PL) (st : List PV) (G : PW) : pm_dn pm_sC 18 12 P st G = pm_go pm_sC 18 G (pm_oIS 3 13 P st G) := pm_dn_eq (i := .istore_n 3) (len := 1) rfl
theorem u_18_13 (P : PL) (st : List PV) (G : PW) : pm_dn pm_sC 18 13 P st G = pm_go pm_sC 18 G (pm_oIL 3 14 P st G) := pm_dn_eq (i := .iload_n 3) (len := 1) rfl
theorem u_18_14 (P : PL) (st : List PV) (G : PW) : pm_dn pm_sC 18 14 P st G = pm_go pm_sC 18 G (pm_oAL 0 15 P st G) := pm_dn_eq (i := .aload_n 0) (len := 1) rfl
theorem u_18_15 (P : PL) (st : List PV) (G : PW) : pm_dn pm_sC 18 15 P st G = pm_go pm_sC 18 G (pm_oGf pm_sC 0 0 18 P st G) := pm_dn_eq (i := .getfield 12) (len := 3) rfl
theorem u_18_18 (P : PL) (st : List PV) (G : PW) : pm_dn pm_sC 18 18 P st G = pm_go pm_sC 18 G (pm_oGf pm_sC 3 4 21 P st G) := pm_dn_eq (i := .getfield 71) (len := 3) rfl
theorem u_18_21 (P : PL) (st : List PV) (G : PW) : pm_dn pm_sC 18 21 P st G = pm_go pm_sC 18 G (pm_oIc .ge (some 60) 24 P st G) := pm_dn_eq (i := .if_icmp .ge 39) (len := 3) rfl
theorem u_18_24 (P : PL) (st : List PV) (G : PW) : pm_dn pm_sC 18 24 P st G = pm_go pm_sC 18 G (pm_oAL 0 25 P st G) := pm_dn_eq (i := .aload_n 0) (len := 1) rfl
theorem u_18_25 (P : PL) (st : List PV) (G : PW) : pm_dn pm_sC 18 25 P st G = pm_go pm_sC 18 G (pm_oGf pm_sC 0 0 28 P st G) := pm_dn_eq (i := .getfield 12) (len := 3) rfl
theorem u_18_28 (P : PL) (st : List PV) (G : PW) : pm_dn pm_sC 18 28 P st G = pm_go pm_sC 18 G (pm_oGf pm_sC 3 5 31 P st G) := pm_dn_eq (i := .getfield 117) (len := 3) rfl
theorem u_18_31 (P : PL) (st : List PV) (G : PW) : pm_dn pm_sC 18 31 P st G = pm_go pm_sC 18 G (pm_oIL 3 32 P st G) := pm_dn_eq (i := .iload_n 3) (len := 1) rfl
theorem u_18_32 (P : PL) (st : List PV) (G : PW) : pm_dn pm_sC 18 32 P st G = pm_go pm_sC 18 G (pm_oCs 76 2 2 35 P st G) := pm_dn_eq (i := .invokestatic 45) (len := 3) rfl
theorem u_18_35 (P : PL) (st : List PV) (G : PW) : pm_dn pm_sC 18 35 P st G = pm_go pm_sC 18 G (pm_oK 1 36 P st G) := pm_dn_eq (i := .iconst 1) (len := 1) rfl
theorem u_18_36 (P : PL) (st : List PV) (G : PW) : pm_dn pm_sC 18 36 P st G = pm_go pm_sC 18 G (pm_oIc .ne (some 54) 39 P st G) := pm_dn_eq (i := .if_icmp .ne 18) (len := 3) rfl
theorem u_18_39 (P : PL) (st : List PV) (G : PW) : pm_dn pm_sC 18 39 P st G = pm_go pm_sC 18 G (pm_oAL 0 40 P st G) := pm_dn_eq (i := .aload_n 0) (len := 1) rfl
theorem u_18_40 (P : PL) (st : List PV) (G : PW) : pm_dn pm_sC 18 40 P st G = pm_go pm_sC 18 G (pm_oIL 3 41 P st G) := pm_dn_eq (i := .iload_n 3) (len := 1) rfl
theorem u_18_41 (P : PL) (st : List PV) (G : PW) : pm_dn pm_sC 18 41 P st G = pm_go pm_sC 18 G (pm_oCv pm_sC 8 1 2 0 44 P st G) := pm_dn_eq (i := .invokevirtual 120) (len := 3) rfl
theorem u_18_44 (P : PL) (st : List PV) (G : PW) : pm_dn pm_sC 18 44 P st G = pm_go pm_sC 18 G (pm_oIL 1 45 P st G) := pm_dn_eq (i := .iload_n 1) (len := 1) rfl
theorem u_18_45 (P : PL) (st : List PV) (G : PW) : pm_dn pm_sC 18 45 P st G = pm_go pm_sC 18 G (pm_oIc .ne (some 54) 48 P st G) := pm_dn_eq (i := .if_icmp .ne 9) (len := 3) rfl
theorem u_18_48 (P : PL) (st : List PV) (G : PW) : pm_dn pm_sC 18 48 P st G = pm_go pm_sC 18 G (pm_oAL 2 49 P st G) := pm_dn_eq (i := .aload_n 2) (len := 1) rfl
theorem u_18_49 (P : PL) (st : List PV) (G : PW) : pm_dn pm_sC 18 49 P st G = pm_go pm_sC 18 G (pm_oIL 3 50 P st G) := pm_dn_eq (i := .iload_n 3) (len := 1) rfl
theorem u_18_50 (P : PL) (st : List PV) (G : PW) : pm_dn pm_sC 18 50 P st G = pm_go pm_sC 18 G (pm_oCs 76 2 2 53 P st G) := pm_dn_eq (i := .invokestatic 45) (len := 3) rfl
theorem u_18_53 (P : PL) (st : List PV) (G : PW) : pm_dn pm_sC 18 53 P st G = pm_go pm_sC 18 G (pm_oRi 0 P st G) := pm_dn_eq (i := .ireturn) (len := 1) rfl
theorem u_18_54 (P : PL) (st : List PV) (G : PW) : pm_dn pm_sC 18 54 P st G = pm_go pm_sC 18 G (pm_oInc 3 1 57 P st G) := pm_dn_eq (i := .iinc 3 1) (len := 3) rfl
theorem u_18_57 (P : PL) (st : List PV) (G : PW) : pm_dn pm_sC 18 57 P st G = pm_go pm_sC 18 G (pm_oGo (some 13) P st G) := pm_dn_eq (i := .goto (-44)) (len := 3) rfl
theorem u_18_60 (P : PL) (st : List PV) (G : PW) : pm_dn pm_sC 18 60 P st G = pm_go pm_sC 18 G (pm_oAL 0 61 P st G) := pm_dn_eq (i := .aload_n 0) (len := 1) rfl
theorem u_18_61 (P : PL) (st : List PV) (G : PW) : pm_dn pm_sC 18 61 P st G = pm_go pm_sC 18 G (pm_oCv pm_sC 15 0 3 0 64 P st G) := pm_dn_eq (i := .invokevirtual 123) (len := 3) rfl
theorem u_18_64 (P : PL) (st : List PV) (G : PW) : pm_dn pm_sC 18 64 P st G = pm_go pm_sC 18 G (pm_oIL 1 65 P st G) := pm_dn_eq (i := .iload_n 1) (len := 1) rfl
theorem u_18_65 (P : PL) (st : List PV) (G : PW) : pm_dn pm_sC 18 65 P st G = pm_go pm_sC 18 G (pm_oIc .ne (some 72) 68 P st G) := pm_dn_eq (i := .if_icmp .ne 7) (len := 3) rfl
theorem u_18_68 (P : PL) (st : List PV) (G : PW) : pm_dn pm_sC 18 68 P st G = pm_go pm_sC 18 G (pm_oK 1 69 P st G) := pm_dn_eq (i := .iconst 1) (len := 1) rfl
theorem u_18_69 (P : PL) (st : List PV) (G : PW) : pm_dn pm_sC 18 69 P st G = pm_go pm_sC 18 G (pm_oGo (some 73) P st G) := pm_dn_eq (i := .goto 4) (len := 3) rfl
theorem u_18_72 (P : PL) (st : List PV) (G : PW) : pm_dn pm_sC 18 72 P st G = pm_go pm_sC 18 G (pm_oK 2 73 P st G) := pm_dn_eq (i := .iconst 2) (len := 1) rfl
theorem u_18_73 (P : PL) (st : List PV) (G : PW) : pm_dn pm_sC 18 73 P st G = pm_go pm_sC 18 G (pm_oRi 0 P st G) := pm_dn_eq (i := .ireturn) (len := 1) rfl
theorem ue_19 (a0 : Nat) (G : PW) : pm_ca pm_sC 19 [.inr (.inr a0)] G = pm_dn pm_sC 19 0 [some (.inr (.inr a0))] [] G := rfl
theorem u_19_0 (P : PL) (st : List PV) (G : PW) : pm_dn pm_sC 19 0 P st G = pm_go pm_sC 19 G (pm_oAL 0 1 P st G) := pm_dn_eq (i := .aload_n 0) (len := 1) rfl
theorem u_19_1 (P : PL) (st : List PV) (G : PW) : pm_dn pm_sC 19 1 P st G = pm_go pm_sC 19 G (pm_oGf pm_sC 0 0 4 P st G) := pm_dn_eq (i := .getfield 12) (len := 3) rfl
theorem u_19_4 (P : PL) (st : List PV) (G : PW) : pm_dn pm_sC 19 4 P st G = pm_go pm_sC 19 G (pm_oGf pm_sC 3 4 7 P st G) := pm_dn_eq (i := .getfield 71) (len := 3) rfl
theorem u_19_7 (P : PL) (st : List PV) (G : PW) : pm_dn pm_sC 19 7 P st G = pm_go pm_sC 19 G (pm_oAL 0 8 P st G) := pm_dn_eq (i := .aload_n 0) (len := 1) rfl
theorem u_19_8 (P : PL) (st : List PV) (G : PW) : pm_dn pm_sC 19 8 P st G = pm_go pm_sC 19 G (pm_oK 0 9 P st G) := pm_dn_eq (i := .iconst 0) (len := 1) rfl
theorem u_19_9 (P : PL) (st : List PV) (G : PW) : pm_dn pm_sC 19 9 P st G = pm_go pm_sC 19 G (pm_oCv pm_sC 20 1 4 0 12 P st G) := pm_dn_eq (i := .invokevirtual 126) (len := 3) rfl
theorem u_19_12 (P : PL) (st : List PV) (G : PW) : pm_dn pm_sC 19 12 P st G = pm_go pm_sC 19 G (pm_oSub 13 P st G) := pm_dn_eq (i := .isub) (len := 1) rfl
theorem u_19_13 (P : PL) (st : List PV) (G : PW) : pm_dn pm_sC 19 13 P st G = pm_go pm_sC 19 G (pm_oRi 0 P st G) := pm_dn_eq (i := .ireturn) (len := 1) rfl
theorem ue_20 (a0 : Nat) (a1 : Int) (G : PW) : pm_ca pm_sC 20 [.inr (.inr a0), .inl a1] G = pm_dn pm_sC 20 0 [some (.inr (.inr a0)), some (.inl a1), none, none] [] G := rfl
theorem u_20_0 (P : PL) (st : List PV) (G : PW) : pm_dn pm_sC 20 0 P st G = pm_go pm_sC 20 G (pm_oK 0 1 P st G) := pm_dn_eq (i := .iconst 0) (len := 1) rfl
theorem u_20_1 (P : PL) (st : List PV) (G : PW) : pm_dn pm_sC 20 1 P st G = pm_go pm_sC 20 G (pm_oIS 2 2 P st G) := pm_dn_eq (i := .istore_n 2) (len := 1) rfl
theorem u_20_2 (P : PL) (st : List PV) (G : PW) : pm_dn pm_sC 20 2 P st G = pm_go pm_sC 20 G (pm_oK 0 3 P st G) := pm_dn_eq (i := .iconst 0) (len := 1) rfl
theorem u_20_3 (P : PL) (st : List PV) (G : PW) : pm_dn pm_sC 20 3 P st G = pm_go pm_sC 20 G (pm_oIS 3 4 P st G) := pm_dn_eq (i := .istore_n 3) (len := 1) rfl
theorem u_20_4 (P : PL) (st : List PV) (G : PW) : pm_dn pm_sC 20 4 P st G = pm_go pm_sC 20 G (pm_oIL 3 5 P st G) := pm_dn_eq (i := .iload_n 3) (len := 1) rfl
theorem u_20_5 (P : PL) (st : List PV) (G : PW) : pm_dn pm_sC 20 5 P st G = pm_go pm_sC 20 G (pm_oAL 0 6 P st G) := pm_dn_eq (i := .aload_n 0) (len := 1) rfl
theorem u_20_6 (P : PL) (st : List PV) (G : PW) : pm_dn pm_sC 20 6 P st G = pm_go pm_sC 20 G (pm_oGf pm_sC 0 0 9 P st G) := pm_dn_eq (i := .getfield 12) (len := 3) rfl
theorem u_20_9 (P : PL) (st : List PV) (G : PW) : pm_dn pm_sC 20 9 P st G = pm_go pm_sC 20 G (pm_oGf pm_sC 3 4 12 P st G) := pm_dn_eq (i := .getfield 71) (len := 3) rfl
theorem u_20_12 (P : PL) (st : List PV) (G : PW) : pm_dn pm_sC 20 12 P st G = pm_go pm_sC 20 G (pm_oIc .ge (some 38) 15 P st G) := pm_dn_eq (i := .if_icmp .ge 26) (len := 3) rfl
theorem u_20_15 (P : PL) (st : List PV) (G : PW) : pm_dn pm_sC 20 15 P st G = pm_go pm_sC 20 G (pm_oIL 2 16 P st G) := pm_dn_eq (i := .iload_n 2) (len := 1) rfl
theorem u_20_16 (P : PL) (st : List PV) (G : PW) : pm_dn pm_sC 20 16 P st G = pm_go pm_sC 20 G (pm_oAL 0 17 P st G) := pm_dn_eq (i := .aload_n 0) (len := 1) rfl
theorem u_20_17 (P : PL) (st : List PV) (G : PW) : pm_dn pm_sC 20 17 P st G = pm_go pm_sC 20 G (pm_oIL 3 18 P st G) := pm_dn_eq (i := .iload_n 3) (len := 1) rfl
theorem u_20_18 (P : PL) (st : List PV) (G : PW) : pm_dn pm_sC 20 18 P st G = pm_go pm_sC 20 G (pm_oCv pm_sC 6 1 2 0 21 P st G) := pm_dn_eq (i := .invokevirtual 53) (len := 3) rfl
theorem u_20_21 (P : PL) (st : List PV) (G : PW) : pm_dn pm_sC 20 21 P st G = pm_go pm_sC 20 G (pm_oIL 1 22 P st G) := pm_dn_eq (i := .iload_n 1) (len := 1) rfl
theorem u_20_22 (P : PL) (st : List PV) (G : PW) : pm_dn pm_sC 20 22 P st G = pm_go pm_sC 20 G (pm_oIc .ne (some 29) 25 P st G) := pm_dn_eq (i := .if_icmp .ne 7) (len := 3) rfl
theorem u_20_25 (P : PL) (st : List PV) (G : PW) : pm_dn pm_sC 20 25 P st G = pm_go pm_sC 20 G (pm_oK 1 26 P st G) := pm_dn_eq (i := .iconst 1) (len := 1) rfl
theorem u_20_26 (P : PL) (st : List PV) (G : PW) : pm_dn pm_sC 20 26 P st G = pm_go pm_sC 20 G (pm_oGo (some 30) P st G) := pm_dn_eq (i := .goto 4) (len := 3) rfl
theorem u_20_29 (P : PL) (st : List PV) (G : PW) : pm_dn pm_sC 20 29 P st G = pm_go pm_sC 20 G (pm_oK 0 30 P st G) := pm_dn_eq (i := .iconst 0) (len := 1) rfl
theorem u_20_30 (P : PL) (st : List PV) (G : PW) : pm_dn pm_sC 20 30 P st G = pm_go pm_sC 20 G (pm_oAdd 31 P st G) := pm_dn_eq (i := .iadd) (len := 1) rfl
theorem u_20_31 (P : PL) (st : List PV) (G : PW) : pm_dn pm_sC 20 31 P st G = pm_go pm_sC 20 G (pm_oIS 2 32 P st G) := pm_dn_eq (i := .istore_n 2) (len := 1) rfl
theorem u_20_32 (P : PL) (st : List PV) (G : PW) : pm_dn pm_sC 20 32 P st G = pm_go pm_sC 20 G (pm_oInc 3 1 35 P st G) := pm_dn_eq (i := .iinc 3 1) (len := 3) rfl
theorem u_20_35 (P : PL) (st : List PV) (G : PW) : pm_dn pm_sC 20 35 P st G = pm_go pm_sC 20 G (pm_oGo (some 4) P st G) := pm_dn_eq (i := .goto (-31)) (len := 3) rfl
theorem u_20_38 (P : PL) (st : List PV) (G : PW) : pm_dn pm_sC 20 38 P st G = pm_go pm_sC 20 G (pm_oIL 2 39 P st G) := pm_dn_eq (i := .iload_n 2) (len := 1) rfl
theorem u_20_39 (P : PL) (st : List PV) (G : PW) : pm_dn pm_sC 20 39 P st G = pm_go pm_sC 20 G (pm_oRi 0 P st G) := pm_dn_eq (i := .ireturn) (len := 1) rfl
theorem ue_21 (a0 : Nat) (a1 : Int) (G : PW) : pm_ca pm_sC 21 [.inr (.inr a0), .inl a1] G = pm_dn pm_sC 21 0 [some (.inr (.inr a0)), some (.inl a1), none, none] [] G := rfl
theorem u_21_0 (P : PL) (st : List PV) (G : PW) : pm_dn pm_sC 21 0 P st G = pm_go pm_sC 21 G (pm_oK 0 1 P st G) := pm_dn_eq (i := .iconst 0) (len := 1) rfl
theorem u_21_1 (P : PL) (st : List PV) (G : PW) : pm_dn pm_sC 21 1 P st G = pm_go pm_sC 21 G (pm_oIS 2 2 P st G) := pm_dn_eq (i := .istore_n 2) (len := 1) rfl
theorem u_21_2 (P : PL) (st : List PV) (G : PW) : pm_dn pm_sC 21 2 P st G = pm_go pm_sC 21 G (pm_oK 0 3 P st G) := pm_dn_eq (i := .iconst 0) (len := 1) rfl
theorem u_21_3 (P : PL) (st : List PV) (G : PW) : pm_dn pm_sC 21 3 P st G = pm_go pm_sC 21 G (pm_oIS 3 4 P st G) := pm_dn_eq (i := .istore_n 3) (len := 1) rfl
theorem u_21_4 (P : PL) (st : List PV) (G : PW) : pm_dn pm_sC 21 4 P st G = pm_go pm_sC 21 G (pm_oIL 3 5 P st G) := pm_dn_eq (i := .iload_n 3) (len := 1) rfl
theorem u_21_5 (P : PL) (st : List PV) (G : PW) : pm_dn pm_sC 21 5 P st G = pm_go pm_sC 21 G (pm_oAL 0 6 P st G) := pm_dn_eq (i := .aload_n 0) (len := 1) rfl
theorem u_21_6 (P : PL) (st : List PV) (G : PW) : pm_dn pm_sC 21 6 P st G = pm_go pm_sC 21 G (pm_oGf pm_sC 0 0 9 P st G) := pm_dn_eq (i := .getfield 12) (len := 3) rfl
theorem u_21_9 (P : PL) (st : List PV) (G : PW) : pm_dn pm_sC 21 9 P st G = pm_go pm_sC 21 G (pm_oGf pm_sC 3 4 12 P st G) := pm_dn_eq (i := .getfield 71) (len := 3) rfl
theorem u_21_12 (P : PL) (st : List PV) (G : PW) : pm_dn pm_sC 21 12 P st G = pm_go pm_sC 21 G (pm_oIc .ge (some 47) 15 P st G) := pm_dn_eq (i := .if_icmp .ge 35) (len := 3) rfl
theorem u_21_15 (P : PL) (st : List PV) (G : PW) : pm_dn pm_sC 21 15 P st G = pm_go pm_sC 21 G (pm_oIL 2 16 P st G) := pm_dn_eq (i := .iload_n 2) (len := 1) rfl
theorem u_21_16 (P : PL) (st : List PV) (G : PW) : pm_dn pm_sC 21 16 P st G = pm_go pm_sC 21 G (pm_oAL 0 17 P st G) := pm_dn_eq (i := .aload_n 0) (len := 1) rfl
theorem u_21_17 (P : PL) (st : List PV) (G : PW) : pm_dn pm_sC 21 17 P st G = pm_go pm_sC 21 G (pm_oIL 3 18 P st G) := pm_dn_eq (i := .iload_n 3) (len := 1) rfl
theorem u_21_18 (P : PL) (st : List PV) (G : PW) : pm_dn pm_sC 21 18 P st G = pm_go pm_sC 21 G (pm_oCv pm_sC 6 1 2 0 21 P st G) := pm_dn_eq (i := .invokevirtual 53) (len := 3) rfl
theorem u_21_21 (P : PL) (st : List PV) (G : PW) : pm_dn pm_sC 21 21 P st G = pm_go pm_sC 21 G (pm_oK 1 22 P st G) := pm_dn_eq (i := .iconst 1) (len := 1) rfl
theorem u_21_22 (P : PL) (st : List PV) (G : PW) : pm_dn pm_sC 21 22 P st G = pm_go pm_sC 21 G (pm_oIc .eq (some 38) 25 P st G) := pm_dn_eq (i := .if_icmp .eq 16) (len := 3) rfl
theorem u_21_25 (P : PL) (st : List PV) (G : PW) : pm_dn pm_sC 21 25 P st G = pm_go pm_sC 21 G (pm_oAL 0 26 P st G) := pm_dn_eq (i := .aload_n 0) (len := 1) rfl
theorem u_21_26 (P : PL) (st : List PV) (G : PW) : pm_dn pm_sC 21 26 P st G = pm_go pm_sC 21 G (pm_oIL 3 27 P st G) := pm_dn_eq (i := .iload_n 3) (len := 1) rfl
theorem u_21_27 (P : PL) (st : List PV) (G : PW) : pm_dn pm_sC 21 27 P st G = pm_go pm_sC 21 G (pm_oCv pm_sC 7 1 2 0 30 P st G) := pm_dn_eq (i := .invokevirtual 101) (len := 3) rfl
theorem u_21_30 (P : PL) (st : List PV) (G : PW) : pm_dn pm_sC 21 30 P st G = pm_go pm_sC 21 G (pm_oIL 1 31 P st G) := pm_dn_eq (i := .iload_n 1) (len := 1) rfl
theorem u_21_31 (P : PL) (st : List PV) (G : PW) : pm_dn pm_sC 21 31 P st G = pm_go pm_sC 21 G (pm_oIc .ne (some 38) 34 P st G) := pm_dn_eq (i := .if_icmp .ne 7) (len := 3) rfl
theorem u_21_34 (P : PL) (st : List PV) (G : PW) : pm_dn pm_sC 21 34 P st G = pm_go pm_sC 21 G (pm_oK 1 35 P st G) := pm_dn_eq (i := .iconst 1) (len := 1) rfl
theorem u_21_35 (P : PL) (st : List PV) (G : PW) : pm_dn pm_sC 21 35 P st G = pm_go pm_sC 21 G (pm_oGo (some 39) P st G) := pm_dn_eq (i := .goto 4) (len := 3) rfl
theorem u_21_38 (P : PL) (st : List PV) (G : PW) : pm_dn pm_sC 21 38 P st G = pm_go pm_sC 21 G (pm_oK 0 39 P st G) := pm_dn_eq (i := .iconst 0) (len := 1) rfl
theorem u_21_39 (P : PL) (st : List PV) (G : PW) : pm_dn pm_sC 21 39 P st G = pm_go pm_sC 21 G (pm_oAdd 40 P st G) := pm_dn_eq (i := .iadd) (len := 1) rfl
theorem u_21_40 (P : PL) (st : List PV) (G : PW) : pm_dn pm_sC 21 40 P st G = pm_go pm_sC 21 G (pm_oIS 2 41 P st G) := pm_dn_eq (i := .istore_n 2) (len := 1) rfl
theorem u_21_41 (P : PL) (st : List PV) (G : PW) : pm_dn pm_sC 21 41 P st G = pm_go pm_sC 21 G (pm_oInc 3 1 44 P st G) := pm_dn_eq (i := .iinc 3 1) (len := 3) rfl
theorem u_21_44 (P : PL) (st : List PV) (G : PW) : pm_dn pm_sC 21 44 P st G = pm_go pm_sC 21 G (pm_oGo (some 4) P st G) := pm_dn_eq (i := .goto (-40)) (len := 3) rfl
theorem u_21_47 (P : PL) (st : List PV) (G : PW) : pm_dn pm_sC 21 47 P st G = pm_go pm_sC 21 G (pm_oIL 2 48 P st G) := pm_dn_eq (i := .iload_n 2) (len := 1) rfl
theorem u_21_48 (P : PL) (st : List PV) (G : PW) : pm_dn pm_sC 21 48 P st G = pm_go pm_sC 21 G (pm_oRi 0 P st G) := pm_dn_eq (i := .ireturn) (len := 1) rfl
theorem ue_22 (a0 : Nat) (a1 : Int) (G : PW) : pm_ca pm_sC 22 [.inr (.inr a0), .inl a1] G = pm_dn pm_sC 22 0 [some (.inr (.inr a0)), some (.inl a1), none, none] [] G := rfl
theorem u_22_0 (P : PL) (st : List PV) (G : PW) : pm_dn pm_sC 22 0 P st G = pm_go pm_sC 22 G (pm_oK 0 1 P st G) := pm_dn_eq (i := .iconst 0) (len := 1) rfl
theorem u_22_1 (P : PL) (st : List PV) (G : PW) : pm_dn pm_sC 22 1 P st G = pm_go pm_sC 22 G (pm_oIS 2 2 P st G) := pm_dn_eq (i := .istore_n 2) (len := 1) rfl
theorem u_22_2 (P : PL) (st : List PV) (G : PW) : pm_dn pm_sC 22 2 P st G = pm_go pm_sC 22 G (pm_oK 0 3 P st G) := pm_dn_eq (i := .iconst 0) (len := 1) rfl
theorem u_22_3 (P : PL) (st : List PV) (G : PW) : pm_dn pm_sC 22 3 P st G = pm_go pm_sC 22 G (pm_oIS 3 4 P st G) := pm_dn_eq (i := .istore_n 3) (len := 1) rfl
theorem u_22_4 (P : PL) (st : List PV) (G : PW) : pm_dn pm_sC 22 4 P st G = pm_go pm_sC 22 G (pm_oIL 3 5 P st G) := pm_dn_eq (i := .iload_n 3) (len := 1) rfl
theorem u_22_5 (P : PL) (st : List PV) (G : PW) : pm_dn pm_sC 22 5 P st G = pm_go pm_sC 22 G (pm_oAL 0 6 P st G) := pm_dn_eq (i := .aload_n 0) (len := 1) rfl
theorem u_22_6 (P : PL) (st : List PV) (G : PW) : pm_dn pm_sC 22 6 P st G = pm_go pm_sC 22 G (pm_oGf pm_sC 0 0 9 P st G) := pm_dn_eq (i := .getfield 12) (len := 3) rfl
theorem u_22_9 (P : PL) (st : List PV) (G : PW) : pm_dn pm_sC 22 9 P st G = pm_go pm_sC 22 G (pm_oGf pm_sC 3 4 12 P st G) := pm_dn_eq (i := .getfield 71) (len := 3) rfl
theorem u_22_12 (P : PL) (st : List PV) (G : PW) : pm_dn pm_sC 22 12 P st G = pm_go pm_sC 22 G (pm_oIc .ge (some 47) 15 P st G) := pm_dn_eq (i := .if_icmp .ge 35) (len := 3) rfl
theorem u_22_15 (P : PL) (st : List PV) (G : PW) : pm_dn pm_sC 22 15 P st G = pm_go pm_sC 22 G (pm_oIL 2 16 P st G) := pm_dn_eq (i := .iload_n 2) (len := 1) rfl
theorem u_22_16 (P : PL) (st : List PV) (G : PW) : pm_dn pm_sC 22 16 P st G = pm_go pm_sC 22 G (pm_oAL 0 17 P st G) := pm_dn_eq (i := .aload_n 0) (len := 1) rfl
theorem u_22_17 (P : PL) (st : List PV) (G : PW) : pm_dn pm_sC 22 17 P st G = pm_go pm_sC 22 G (pm_oIL 3 18 P st G) := pm_dn_eq (i := .iload_n 3) (len := 1) rfl
theorem u_22_18 (P : PL) (st : List PV) (G : PW) : pm_dn pm_sC 22 18 P st G = pm_go pm_sC 22 G (pm_oCv pm_sC 6 1 2 0 21 P st G) := pm_dn_eq (i := .invokevirtual 53) (len := 3) rfl
theorem u_22_21 (P : PL) (st : List PV) (G : PW) : pm_dn pm_sC 22 21 P st G = pm_go pm_sC 22 G (pm_oK 1 22 P st G) := pm_dn_eq (i := .iconst 1) (len := 1) rfl
theorem u_22_22 (P : PL) (st : List PV) (G : PW) : pm_dn pm_sC 22 22 P st G = pm_go pm_sC 22 G (pm_oIc .eq (some 38) 25 P st G) := pm_dn_eq (i := .if_icmp .eq 16) (len := 3) rfl
theorem u_22_25 (P : PL) (st : List PV) (G : PW) : pm_dn pm_sC 22 25 P st G = pm_go pm_sC 22 G (pm_oAL 0 26 P st G) := pm_dn_eq (i := .aload_n 0) (len := 1) rfl
theorem u_22_26 (P : PL) (st : List PV) (G : PW) : pm_dn pm_sC 22 26 P st G = pm_go pm_sC 22 G (pm_oIL 3 27 P st G) := pm_dn_eq (i := .iload_n 3) (len := 1) rfl
theorem u_22_27 (P : PL) (st : List PV) (G : PW) : pm_dn pm_sC 22 27 P st G = pm_go pm_sC 22 G (pm_oCv pm_sC 8 1 2 0 30 P st G) := pm_dn_eq (i := .invokevirtual 120) (len := 3) rfl
theorem u_22_30 (P : PL) (st : List PV) (G : PW) : pm_dn pm_sC 22 30 P st G = pm_go pm_sC 22 G (pm_oIL 1 31 P st G) := pm_dn_eq (i := .iload_n 1) (len := 1) rfl
theorem u_22_31 (P : PL) (st : List PV) (G : PW) : pm_dn pm_sC 22 31 P st G = pm_go pm_sC 22 G (pm_oIc .ne (some 38) 34 P st G) := pm_dn_eq (i := .if_icmp .ne 7) (len := 3) rfl
theorem u_22_34 (P : PL) (st : List PV) (G : PW) : pm_dn pm_sC 22 34 P st G = pm_go pm_sC 22 G (pm_oK 1 35 P st G) := pm_dn_eq (i := .iconst 1) (len := 1) rfl
theorem u_22_35 (P : PL) (st : List PV) (G : PW) : pm_dn pm_sC 22 35 P st G = pm_go pm_sC 22 G (pm_oGo (some 39) P st G) := pm_dn_eq (i := .goto 4) (len := 3) rfl
theorem u_22_38 (P : PL) (st : List PV) (G : PW) : pm_dn pm_sC 22 38 P st G = pm_go pm_sC 22 G (pm_oK 0 39 P st G) := pm_dn_eq (i := .iconst 0) (len := 1) rfl
theorem u_22_39 (P : PL) (st : List PV) (G : PW) : pm_dn pm_sC 22 39 P st G = pm_go pm_sC 22 G (pm_oAdd 40 P st G) := pm_dn_eq (i := .iadd) (len := 1) rfl
theorem u_22_40 (P : PL) (st : List PV) (G : PW) : pm_dn pm_sC 22 40 P st G = pm_go pm_sC 22 G (pm_oIS 2 41 P st G) := pm_dn_eq (i := .istore_n 2) (len := 1) rfl
theorem u_22_41 (P : PL) (st : List PV) (G : PW) : pm_dn pm_sC 22 41 P st G = pm_go pm_sC 22 G (pm_oInc 3 1 44 P st G) := pm_dn_eq (i := .iinc 3 1) (len := 3) rfl
theorem u_22_44 (P : PL) (st : List PV) (G : PW) : pm_dn pm_sC 22 44 P st G = pm_go pm_sC 22 G (pm_oGo (some 4) P st G) := pm_dn_eq (i := .goto (-40)) (len := 3) rfl
theorem u_22_47 (P : PL) (st : List PV) (G : PW) : pm_dn pm_sC 22 47 P st G = pm_go pm_sC 22 G (pm_oIL 2 48 P st G) := pm_dn_eq (i := .iload_n 2) (len := 1) rfl
theorem u_22_48 (P : PL) (st : List PV) (G : PW) : pm_dn pm_sC 22 48 P st G = pm_go pm_sC 22 G (pm_oRi 0 P st G) := pm_dn_eq (i := .ireturn) (len := 1) rfl
theorem ue_23 (a0 : Nat) (a1 : Int) (G : PW) : pm_ca pm_sC 23 [.inr (.inr a0), .inl a1] G = pm_dn pm_sC 23 0 [some (.inr (.inr a0)), some (.inl a1), none, none, none] [] G := rfl
theorem u_23_0 (P : PL) (st : List PV) (G : PW) : pm_dn pm_sC 23 0 P st G = pm_go pm_sC 23 G (pm_oK 0 1 P st G) := pm_dn_eq (i := .iconst 0) (len := 1) rfl
theorem u_23_1 (P : PL) (st : List PV) (G : PW) : pm_dn pm_sC 23 1 P st G = pm_go pm_sC 23 G (pm_oIS 2 2 P st G) := pm_dn_eq (i := .istore_n 2) (len := 1) rfl
theorem u_23_2 (P : PL) (st : List PV) (G : PW) : pm_dn pm_sC 23 2 P st G = pm_go pm_sC 23 G (pm_oK 0 3 P st G) := pm_dn_eq (i := .iconst 0) (len := 1) rfl
theorem u_23_3 (P : PL) (st : List PV) (G : PW) : pm_dn pm_sC 23 3 P st G = pm_go pm_sC 23 G (pm_oIS 3 4 P st G) := pm_dn_eq (i := .istore_n 3) (len := 1) rfl
theorem u_23_4 (P : PL) (st : List PV) (G : PW) : pm_dn pm_sC 23 4 P st G = pm_go pm_sC 23 G (pm_oIL 3 5 P st G) := pm_dn_eq (i := .iload_n 3) (len := 1) rfl
theorem u_23_5 (P : PL) (st : List PV) (G : PW) : pm_dn pm_sC 23 5 P st G = pm_go pm_sC 23 G (pm_oAL 0 6 P st G) := pm_dn_eq (i := .aload_n 0) (len := 1) rfl
theorem u_23_6 (P : PL) (st : List PV) (G : PW) : pm_dn pm_sC 23 6 P st G = pm_go pm_sC 23 G (pm_oGf pm_sC 0 0 9 P st G) := pm_dn_eq (i := .getfield 12) (len := 3) rfl
theorem u_23_9 (P : PL) (st : List PV) (G : PW) : pm_dn pm_sC 23 9 P st G = pm_go pm_sC 23 G (pm_oGf pm_sC 3 4 12 P st G) := pm_dn_eq (i := .getfield 71) (len := 3) rfl
theorem u_23_12 (P : PL) (st : List PV) (G : PW) : pm_dn pm_sC 23 12 P st G = pm_go pm_sC 23 G (pm_oIc .ge (some 70) 15 P st G) := pm_dn_eq (i := .if_icmp .ge 58) (len := 3) rfl
theorem u_23_15 (P : PL) (st : List PV) (G : PW) : pm_dn pm_sC 23 15 P st G = pm_go pm_sC 23 G (pm_oAL 0 16 P st G) := pm_dn_eq (i := .aload_n 0) (len := 1) rfl
theorem u_23_16 (P : PL) (st : List PV) (G : PW) : pm_dn pm_sC 23 16 P st G = pm_go pm_sC 23 G (pm_oIL 3 17 P st G) := pm_dn_eq (i := .iload_n 3) (len := 1) rfl
theorem u_23_17 (P : PL) (st : List PV) (G : PW) : pm_dn pm_sC 23 17 P st G = pm_go pm_sC 23 G (pm_oK 0 18 P st G) := pm_dn_eq (i := .iconst 0) (len := 1) rfl
theorem u_23_18 (P : PL) (st : List PV) (G : PW) : pm_dn pm_sC 23 18 P st G = pm_go pm_sC 23 G (pm_oCv pm_sC 5 2 3 0 21 P st G) := pm_dn_eq (i := .invokevirtual 57) (len := 3) rfl
theorem u_23_21 (P : PL) (st : List PV) (G : PW) : pm_dn pm_sC 23 21 P st G = pm_go pm_sC 23 G (pm_oIL 1 22 P st G) := pm_dn_eq (i := .iload_n 1) (len := 1) rfl
theorem u_23_22 (P : PL) (st : List PV) (G : PW) : pm_dn pm_sC 23 22 P st G = pm_go pm_sC 23 G (pm_oIc .eq (some 35) 25 P st G) := pm_dn_eq (i := .if_icmp .eq 13) (len := 3) rfl
theorem u_23_25 (P : PL) (st : List PV) (G : PW) : pm_dn pm_sC 23 25 P st G = pm_go pm_sC 23 G (pm_oAL 0 26 P st G) := pm_dn_eq (i := .aload_n 0) (len := 1) rfl
theorem u_23_26 (P : PL) (st : List PV) (G : PW) : pm_dn pm_sC 23 26 P st G = pm_go pm_sC 23 G (pm_oIL 3 27 P st G) := pm_dn_eq (i := .iload_n 3) (len := 1) rfl
theorem u_23_27 (P : PL) (st : List PV) (G : PW) : pm_dn pm_sC 23 27 P st G = pm_go pm_sC 23 G (pm_oK 1 28 P st G) := pm_dn_eq (i := .iconst 1) (len := 1) rfl
theorem u_23_28 (P : PL) (st : List PV) (G : PW) : pm_dn pm_sC 23 28 P st G = pm_go pm_sC 23 G (pm_oCv pm_sC 5 2 3 0 31 P st G) := pm_dn_eq (i := .invokevirtual 57) (len := 3) rfl
theorem u_23_31 (P : PL) (st : List PV) (G : PW) : pm_dn pm_sC 23 31 P st G = pm_go pm_sC 23 G (pm_oIL 1 32 P st G) := pm_dn_eq (i := .iload_n 1) (len := 1) rfl
theorem u_23_32 (P : PL) (st : List PV) (G : PW) : pm_dn pm_sC 23 32 P st G = pm_go pm_sC 23 G (pm_oIc .ne (some 39) 35 P st G) := pm_dn_eq (i := .if_icmp .ne 7) (len := 3) rfl
theorem u_23_35 (P : PL) (st : List PV) (G : PW) : pm_dn pm_sC 23 35 P st G = pm_go pm_sC 23 G (pm_oK 1 36 P st G) := pm_dn_eq (i := .iconst 1) (len := 1) rfl
theorem u_23_36 (P : PL) (st : List PV) (G : PW) : pm_dn pm_sC 23 36 P st G = pm_go pm_sC 23 G (pm_oGo (some 40) P st G) := pm_dn_eq (i := .goto 4) (len := 3) rfl
theorem u_23_39 (P : PL) (st : List PV) (G : PW) : pm_dn pm_sC 23 39 P st G = pm_go pm_sC 23 G (pm_oK 0 40 P st G) := pm_dn_eq (i := .iconst 0) (len := 1) rfl
theorem u_23_40 (P : PL) (st : List PV) (G : PW) : pm_dn pm_sC 23 40 P st G = pm_go pm_sC 23 G (pm_oIS 4 42 P st G) := pm_dn_eq (i := .istore 4) (len := 2) rfl
theorem u_23_42 (P : PL) (st : List PV) (G : PW) : pm_dn pm_sC 23 42 P st G = pm_go pm_sC 23 G (pm_oIL 2 43 P st G) := pm_dn_eq (i := .iload_n 2) (len := 1) rfl
theorem u_23_43 (P : PL) (st : List PV) (G : PW) : pm_dn pm_sC 23 43 P st G = pm_go pm_sC 23 G (pm_oIL 4 45 P st G) := pm_dn_eq (i := .iload 4) (len := 2) rfl
theorem u_23_45 (P : PL) (st : List PV) (G : PW) : pm_dn pm_sC 23 45 P st G = pm_go pm_sC 23 G (pm_oIf .eq (some 61) 48 P st G) := pm_dn_eq (i := .ifCond .eq 16) (len := 3) rfl
theorem u_23_48 (P : PL) (st : List PV) (G : PW) : pm_dn pm_sC 23 48 P st G = pm_go pm_sC 23 G (pm_oAL 0 49 P st G) := pm_dn_eq (i := .aload_n 0) (len := 1) rfl
theorem u_23_49 (P : PL) (st : List PV) (G : PW) : pm_dn pm_sC 23 49 P st G = pm_go pm_sC 23 G (pm_oIL 3 50 P st G) := pm_dn_eq (i := .iload_n 3) (len := 1) rfl
theorem u_23_50 (P : PL) (st : List PV) (G : PW) : pm_dn pm_sC 23 50 P st G = pm_go pm_sC 23 G (pm_oCv pm_sC 6 1 2 0 53 P st G) := pm_dn_eq (i := .invokevirtual 53) (len := 3) rfl
theorem u_23_53 (P : PL) (st : List PV) (G : PW) : pm_dn pm_sC 23 53 P st G = pm_go pm_sC 23 G (pm_oK 3 54 P st G) := pm_dn_eq (i := .iconst 3) (len := 1) rfl
theorem u_23_54 (P : PL) (st : List PV) (G : PW) : pm_dn pm_sC 23 54 P st G = pm_go pm_sC 23 G (pm_oIc .ne (some 61) 57 P st G) := pm_dn_eq (i := .if_icmp .ne 7) (len := 3) rfl
theorem u_23_57 (P : PL) (st : List PV) (G : PW) : pm_dn pm_sC 23 57 P st G = pm_go pm_sC 23 G (pm_oK 1 58 P st G) := pm_dn_eq (i := .iconst 1) (len := 1) rfl
theorem u_23_58 (P : PL) (st : List PV) (G : PW) : pm_dn pm_sC 23 58 P st G = pm_go pm_sC 23 G (pm_oGo (some 62) P st G) := pm_dn_eq (i := .goto 4) (len := 3) rfl
theorem u_23_61 (P : PL) (st : List PV) (G : PW) : pm_dn pm_sC 23 61 P st G = pm_go pm_sC 23 G (pm_oK 0 62 P st G) := pm_dn_eq (i := .iconst 0) (len := 1) rfl
theorem u_23_62 (P : PL) (st : List PV) (G : PW) : pm_dn pm_sC 23 62 P st G = pm_go pm_sC 23 G (pm_oAdd 63 P st G) := pm_dn_eq (i := .iadd) (len := 1) rfl
theorem u_23_63 (P : PL) (st : List PV) (G : PW) : pm_dn pm_sC 23 63 P st G = pm_go pm_sC 23 G (pm_oIS 2 64 P st G) := pm_dn_eq (i := .istore_n 2) (len := 1) rfl
theorem u_23_64 (P : PL) (st : List PV) (G : PW) : pm_dn pm_sC 23 64 P st G = pm_go pm_sC 23 G (pm_oInc 3 1 67 P st G) := pm_dn_eq (i := .iinc 3 1) (len := 3) rfl
theorem u_23_67 (P : PL) (st : List PV) (G : PW) : pm_dn pm_sC 23 67 P st G = pm_go pm_sC 23 G (pm_oGo (some 4) P st G) := pm_dn_eq (i := .goto (-63)) (len := 3) rfl
theorem u_23_70 (P : PL) (st : List PV) (G : PW) : pm_dn pm_sC 23 70 P st G = pm_go pm_sC 23 G (pm_oIL 2 71 P st G) := pm_dn_eq (i := .iload_n 2) (len := 1) rfl
theorem u_23_71 (P : PL) (st : List PV) (G : PW) : pm_dn pm_sC 23 71 P st G = pm_go pm_sC 23 G (pm_oRi 0 P st G) := pm_dn_eq (i := .ireturn) (len := 1) rfl
theorem ue_24 (a0 : Int) (a1 : Int) (G : PW) : pm_ca pm_sC 24 [.inl a0, .inl a1] G = pm_dn pm_sC 24 0 [some (.inl a0), some (.inl a1)] [] G := rfl
theorem u_24_0 (P : PL) (st : List PV) (G : PW) : pm_dn pm_sC 24 0 P st G = pm_go pm_sC 24 G (pm_oIL 0 1 P st G) := pm_dn_eq (i := .iload_n 0) (len := 1) rfl
theorem u_24_1 (P : PL) (st : List PV) (G : PW) : pm_dn pm_sC 24 1 P st G = pm_go pm_sC 24 G (pm_oIL 1 2 P st G) := pm_dn_eq (i := .iload_n 1) (len := 1) rfl
theorem u_24_2 (P : PL) (st : List PV) (G : PW) : pm_dn pm_sC 24 2 P st G = pm_go pm_sC 24 G (pm_oCs 79 2 2 5 P st G) := pm_dn_eq (i := .invokestatic 15) (len := 3) rfl
theorem u_24_5 (P : PL) (st : List PV) (G : PW) : pm_dn pm_sC 24 5 P st G = pm_go pm_sC 24 G (pm_oRi 0 P st G) := pm_dn_eq (i := .ireturn) (len := 1) rfl
theorem ue_25 (a0 : Int) (G : PW) : pm_ca pm_sC 25 [.inl a0] G = pm_dn pm_sC 25 0 [some (.inl a0)] [] G := rfl
theorem u_25_0 (P : PL) (st : List PV) (G : PW) : pm_dn pm_sC 25 0 P st G = pm_go pm_sC 25 G (pm_oK 62 2 P st G) := pm_dn_eq (i := .bipush 62) (len := 2) rfl
theorem u_25_2 (P : PL) (st : List PV) (G : PW) : pm_dn pm_sC 25 2 P st G = pm_go pm_sC 25 G (pm_oIL 0 3 P st G) := pm_dn_eq (i := .iload_n 0) (len := 1) rfl
theorem u_25_3 (P : PL) (st : List PV) (G : PW) : pm_dn pm_sC 25 3 P st G = pm_go pm_sC 25 G (pm_oAdd 4 P st G) := pm_dn_eq (i := .iadd) (len := 1) rfl
theorem u_25_4 (P : PL) (st : List PV) (G : PW) : pm_dn pm_sC 25 4 P st G = pm_go pm_sC 25 G (pm_oRi 0 P st G) := pm_dn_eq (i := .ireturn) (len := 1) rfl
theorem ue_26 (a0 : Int) (G : PW) : pm_ca pm_sC 26 [.inl a0] G = pm_dn pm_sC 26 0 [some (.inl a0)] [] G := rfl
theorem u_26_0 (P : PL) (st : List PV) (G : PW) : pm_dn pm_sC 26 0 P st G = pm_go pm_sC 26 G (pm_oIL 0 1 P st G) := pm_dn_eq (i := .iload_n 0) (len := 1) rfl
theorem u_26_1 (P : PL) (st : List PV) (G : PW) : pm_dn pm_sC 26 1 P st G = pm_go pm_sC 26 G (pm_oK 62 3 P st G) := pm_dn_eq (i := .bipush 62) (len := 2) rfl
theorem u_26_3 (P : PL) (st : List PV) (G : PW) : pm_dn pm_sC 26 3 P st G = pm_go pm_sC 26 G (pm_oIc .ge (some 10) 6 P st G) := pm_dn_eq (i := .if_icmp .ge 7) (len := 3) rfl
theorem u_26_6 (P : PL) (st : List PV) (G : PW) : pm_dn pm_sC 26 6 P st G = pm_go pm_sC 26 G (pm_oK 1 7 P st G) := pm_dn_eq (i := .iconst 1) (len := 1) rfl
theorem u_26_7 (P : PL) (st : List PV) (G : PW) : pm_dn pm_sC 26 7 P st G = pm_go pm_sC 26 G (pm_oGo (some 11) P st G) := pm_dn_eq (i := .goto 4) (len := 3) rfl
theorem u_26_10 (P : PL) (st : List PV) (G : PW) : pm_dn pm_sC 26 10 P st G = pm_go pm_sC 26 G (pm_oK 0 11 P st G) := pm_dn_eq (i := .iconst 0) (len := 1) rfl
theorem u_26_11 (P : PL) (st : List PV) (G : PW) : pm_dn pm_sC 26 11 P st G = pm_go pm_sC 26 G (pm_oRi 2 P st G) := pm_dn_eq (i := .ireturn) (len := 1) rfl
theorem ue_27 (a0 : Int) (G : PW) : pm_ca pm_sC 27 [.inl a0] G = pm_dn pm_sC 27 0 [some (.inl a0)] [] G := rfl
theorem u_27_0 (P : PL) (st : List PV) (G : PW) : pm_dn pm_sC 27 0 P st G = pm_go pm_sC 27 G (pm_oIL 0 1 P st G) := pm_dn_eq (i := .iload_n 0) (len := 1) rfl
theorem u_27_1 (P : PL) (st : List PV) (G : PW) : pm_dn pm_sC 27 1 P st G = pm_go pm_sC 27 G (pm_oRi 0 P st G) := pm_dn_eq (i := .ireturn) (len := 1) rfl
theorem ue_28 (a0 : Int) (G : PW) : pm_ca pm_sC 28 [.inl a0] G = pm_dn pm_sC 28 0 [some (.inl a0)] [] G := rfl
theorem u_28_0 (P : PL) (st : List PV) (G : PW) : pm_dn pm_sC 28 0 P st G = pm_go pm_sC 28 G (pm_oIL 0 1 P st G) := pm_dn_eq (i := .iload_n 0) (len := 1) rfl
theorem u_28_1 (P : PL) (st : List PV) (G : PW) : pm_dn pm_sC 28 1 P st G = pm_go pm_sC 28 G (pm_oK 62 3 P st G) := pm_dn_eq (i := .bipush 62) (len := 2) rfl
theorem u_28_3 (P : PL) (st : List PV) (G : PW) : pm_dn pm_sC 28 3 P st G = pm_go pm_sC 28 G (pm_oSub 4 P st G) := pm_dn_eq (i := .isub) (len := 1) rfl
theorem u_28_4 (P : PL) (st : List PV) (G : PW) : pm_dn pm_sC 28 4 P st G = pm_go pm_sC 28 G (pm_oRi 0 P st G) := pm_dn_eq (i := .ireturn) (len := 1) rfl
theorem ue_29 (a0 : Nat) (a1 : Int) (G : PW) : pm_ca pm_sC 29 [.inr (.inr a0), .inl a1] G = pm_dn pm_sC 29 0 [some (.inr (.inr a0)), some (.inl a1)] [] G := rfl
theorem u_29_0 (P : PL) (st : List PV) (G : PW) : pm_dn pm_sC 29 0 P st G = pm_go pm_sC 29 G (pm_oAL 0 1 P st G) := pm_dn_eq (i := .aload_n 0) (len := 1) rfl
theorem u_29_1 (P : PL) (st : List PV) (G : PW) : pm_dn pm_sC 29 1 P st G = pm_go pm_sC 29 G (pm_oGf pm_sC 1 1 4 P st G) := pm_dn_eq (i := .getfield 19) (len := 3) rfl
theorem u_29_4 (P : PL) (st : List PV) (G : PW) : pm_dn pm_sC 29 4 P st G = pm_go pm_sC 29 G (pm_oK 47 6 P st G) := pm_dn_eq (i := .bipush 47) (len := 2) rfl
theorem u_29_6 (P : PL) (st : List PV) (G : PW) : pm_dn pm_sC 29 6 P st G = pm_go pm_sC 29 G (pm_oIc .ge (some 31) 9 P st G) := pm_dn_eq (i := .if_icmp .ge 25) (len := 3) rfl
theorem u_29_9 (P : PL) (st : List PV) (G : PW) : pm_dn pm_sC 29 9 P st G = pm_go pm_sC 29 G (pm_oAL 0 10 P st G) := pm_dn_eq (i := .aload_n 0) (len := 1) rfl
theorem u_29_10 (P : PL) (st : List PV) (G : PW) : pm_dn pm_sC 29 10 P st G = pm_go pm_sC 29 G (pm_oGf pm_sC 1 0 13 P st G) := pm_dn_eq (i := .getfield 9) (len := 3) rfl
theorem u_29_13 (P : PL) (st : List PV) (G : PW) : pm_dn pm_sC 29 13 P st G = pm_go pm_sC 29 G (pm_oAL 0 14 P st G) := pm_dn_eq (i := .aload_n 0) (len := 1) rfl
theorem u_29_14 (P : PL) (st : List PV) (G : PW) : pm_dn pm_sC 29 14 P st G = pm_go pm_sC 29 G (pm_oGf pm_sC 1 1 17 P st G) := pm_dn_eq (i := .getfield 19) (len := 3) rfl
theorem u_29_17 (P : PL) (st : List PV) (G : PW) : pm_dn pm_sC 29 17 P st G = pm_go pm_sC 29 G (pm_oIL 1 18 P st G) := pm_dn_eq (i := .iload_n 1) (len := 1) rfl
theorem u_29_18 (P : PL) (st : List PV) (G : PW) : pm_dn pm_sC 29 18 P st G = pm_go pm_sC 29 G (pm_oCs 77 3 3 21 P st G) := pm_dn_eq (i := .invokestatic 23) (len := 3) rfl
theorem u_29_21 (P : PL) (st : List PV) (G : PW) : pm_dn pm_sC 29 21 P st G = pm_go pm_sC 29 G (pm_oAL 0 22 P st G) := pm_dn_eq (i := .aload_n 0) (len := 1) rfl
theorem u_29_22 (P : PL) (st : List PV) (G : PW) : pm_dn pm_sC 29 22 P st G = pm_go pm_sC 29 G (pm_oDup 23 P st G) := pm_dn_eq (i := .dup) (len := 1) rfl
theorem u_29_23 (P : PL) (st : List PV) (G : PW) : pm_dn pm_sC 29 23 P st G = pm_go pm_sC 29 G (pm_oGf pm_sC 1 1 26 P st G) := pm_dn_eq (i := .getfield 19) (len := 3) rfl
theorem u_29_26 (P : PL) (st : List PV) (G : PW) : pm_dn pm_sC 29 26 P st G = pm_go pm_sC 29 G (pm_oK 1 27 P st G) := pm_dn_eq (i := .iconst 1) (len := 1) rfl
theorem u_29_27 (P : PL) (st : List PV) (G : PW) : pm_dn pm_sC 29 27 P st G = pm_go pm_sC 29 G (pm_oAdd 28 P st G) := pm_dn_eq (i := .iadd) (len := 1) rfl
theorem u_29_28 (P : PL) (st : List PV) (G : PW) : pm_dn pm_sC 29 28 P st G = pm_go pm_sC 29 G (pm_oPf pm_sC 1 1 0 31 P st G) := pm_dn_eq (i := .putfield 19) (len := 3) rfl
theorem u_29_31 (P : PL) (st : List PV) (G : PW) : pm_dn pm_sC 29 31 P st G = pm_go pm_sC 29 G (pm_oRv P st G) := pm_dn_eq (i := .return_) (len := 1) rfl
theorem ue_30 (a0 : Nat) (G : PW) : pm_ca pm_sC 30 [.inr (.inr a0)] G = pm_dn pm_sC 30 0 [some (.inr (.inr a0))] [] G := rfl
theorem u_30_0 (P : PL) (st : List PV) (G : PW) : pm_dn pm_sC 30 0 P st G = pm_go pm_sC 30 G (pm_oAL 0 1 P st G) := pm_dn_eq (i := .aload_n 0) (len := 1) rfl
theorem u_30_1 (P : PL) (st : List PV) (G : PW) : pm_dn pm_sC 30 1 P st G = pm_go pm_sC 30 G (pm_oGf pm_sC 1 1 4 P st G) := pm_dn_eq (i := .getfield 19) (len := 3) rfl
theorem u_30_4 (P : PL) (st : List PV) (G : PW) : pm_dn pm_sC 30 4 P st G = pm_go pm_sC 30 G (pm_oIf .le (some 17) 7 P st G) := pm_dn_eq (i := .ifCond .le 13) (len := 3) rfl
theorem u_30_7 (P : PL) (st : List PV) (G : PW) : pm_dn pm_sC 30 7 P st G = pm_go pm_sC 30 G (pm_oAL 0 8 P st G) := pm_dn_eq (i := .aload_n 0) (len := 1) rfl
theorem u_30_8 (P : PL) (st : List PV) (G : PW) : pm_dn pm_sC 30 8 P st G = pm_go pm_sC 30 G (pm_oDup 9 P st G) := pm_dn_eq (i := .dup) (len := 1) rfl
theorem u_30_9 (P : PL) (st : List PV) (G : PW) : pm_dn pm_sC 30 9 P st G = pm_go pm_sC 30 G (pm_oGf pm_sC 1 1 12 P st G) := pm_dn_eq (i := .getfield 19) (len := 3) rfl
theorem u_30_12 (P : PL) (st : List PV) (G : PW) : pm_dn pm_sC 30 12 P st G = pm_go pm_sC 30 G (pm_oK 1 13 P st G) := pm_dn_eq (i := .iconst 1) (len := 1) rfl
theorem u_30_13 (P : PL) (st : List PV) (G : PW) : pm_dn pm_sC 30 13 P st G = pm_go pm_sC 30 G (pm_oSub 14 P st G) := pm_dn_eq (i := .isub) (len := 1) rfl
theorem u_30_14 (P : PL) (st : List PV) (G : PW) : pm_dn pm_sC 30 14 P st G = pm_go pm_sC 30 G (pm_oPf pm_sC 1 1 0 17 P st G) := pm_dn_eq (i := .putfield 19) (len := 3) rfl
theorem u_30_17 (P : PL) (st : List PV) (G : PW) : pm_dn pm_sC 30 17 P st G = pm_go pm_sC 30 G (pm_oRv P st G) := pm_dn_eq (i := .return_) (len := 1) rfl
theorem ue_31 (a0 : Nat) (G : PW) : pm_ca pm_sC 31 [.inr (.inr a0)] G = pm_dn pm_sC 31 0 [some (.inr (.inr a0))] [] G := rfl
theorem u_31_0 (P : PL) (st : List PV) (G : PW) : pm_dn pm_sC 31 0 P st G = pm_go pm_sC 31 G (pm_oAL 0 1 P st G) := pm_dn_eq (i := .aload_n 0) (len := 1) rfl
theorem u_31_1 (P : PL) (st : List PV) (G : PW) : pm_dn pm_sC 31 1 P st G = pm_go pm_sC 31 G (pm_oK 0 2 P st G) := pm_dn_eq (i := .iconst 0) (len := 1) rfl
theorem u_31_2 (P : PL) (st : List PV) (G : PW) : pm_dn pm_sC 31 2 P st G = pm_go pm_sC 31 G (pm_oPf pm_sC 1 1 0 5 P st G) := pm_dn_eq (i := .putfield 19) (len := 3) rfl
theorem u_31_5 (P : PL) (st : List PV) (G : PW) : pm_dn pm_sC 31 5 P st G = pm_go pm_sC 31 G (pm_oRv P st G) := pm_dn_eq (i := .return_) (len := 1) rfl
theorem ue_32 (a0 : Nat) (a1 : Int) (G : PW) : pm_ca pm_sC 32 [.inr (.inr a0), .inl a1] G = pm_dn pm_sC 32 0 [some (.inr (.inr a0)), some (.inl a1)] [] G := rfl
theorem u_32_0 (P : PL) (st : List PV) (G : PW) : pm_dn pm_sC 32 0 P st G = pm_go pm_sC 32 G (pm_oAL 0 1 P st G) := pm_dn_eq (i := .aload_n 0) (len := 1) rfl
theorem u_32_1 (P : PL) (st : List PV) (G : PW) : pm_dn pm_sC 32 1 P st G = pm_go pm_sC 32 G (pm_oGf pm_sC 1 0 4 P st G) := pm_dn_eq (i := .getfield 9) (len := 3) rfl
theorem u_32_4 (P : PL) (st : List PV) (G : PW) : pm_dn pm_sC 32 4 P st G = pm_go pm_sC 32 G (pm_oIL 1 5 P st G) := pm_dn_eq (i := .iload_n 1) (len := 1) rfl
theorem u_32_5 (P : PL) (st : List PV) (G : PW) : pm_dn pm_sC 32 5 P st G = pm_go pm_sC 32 G (pm_oCs 76 2 2 8 P st G) := pm_dn_eq (i := .invokestatic 27) (len := 3) rfl
theorem u_32_8 (P : PL) (st : List PV) (G : PW) : pm_dn pm_sC 32 8 P st G = pm_go pm_sC 32 G (pm_oRi 0 P st G) := pm_dn_eq (i := .ireturn) (len := 1) rfl
theorem ue_33 (a0 : Nat) (a1 : Int) (a2 : Int) (G : PW) : pm_ca pm_sC 33 [.inr (.inr a0), .inl a1, .inl a2] G = pm_dn pm_sC 33 0 [some (.inr (.inr a0)), some (.inl a1), some (.inl a2)] [] G := rfl
theorem u_33_0 (P : PL) (st : List PV) (G : PW) : pm_dn pm_sC 33 0 P st G = pm_go pm_sC 33 G (pm_oAL 0 1 P st G) := pm_dn_eq (i := .aload_n 0) (len := 1) rfl
theorem u_33_1 (P : PL) (st : List PV) (G : PW) : pm_dn pm_sC 33 1 P st G = pm_go pm_sC 33 G (pm_oIL 1 2 P st G) := pm_dn_eq (i := .iload_n 1) (len := 1) rfl
theorem u_33_2 (P : PL) (st : List PV) (G : PW) : pm_dn pm_sC 33 2 P st G = pm_go pm_sC 33 G (pm_oPf pm_sC 3 0 0 5 P st G) := pm_dn_eq (i := .putfield 39) (len := 3) rfl
theorem u_33_5 (P : PL) (st : List PV) (G : PW) : pm_dn pm_sC 33 5 P st G = pm_go pm_sC 33 G (pm_oAL 0 6 P st G) := pm_dn_eq (i := .aload_n 0) (len := 1) rfl
theorem u_33_6 (P : PL) (st : List PV) (G : PW) : pm_dn pm_sC 33 6 P st G = pm_go pm_sC 33 G (pm_oIL 2 7 P st G) := pm_dn_eq (i := .iload_n 2) (len := 1) rfl
theorem u_33_7 (P : PL) (st : List PV) (G : PW) : pm_dn pm_sC 33 7 P st G = pm_go pm_sC 33 G (pm_oPf pm_sC 3 1 0 10 P st G) := pm_dn_eq (i := .putfield 43) (len := 3) rfl
theorem u_33_10 (P : PL) (st : List PV) (G : PW) : pm_dn pm_sC 33 10 P st G = pm_go pm_sC 33 G (pm_oAL 0 11 P st G) := pm_dn_eq (i := .aload_n 0) (len := 1) rfl
theorem u_33_11 (P : PL) (st : List PV) (G : PW) : pm_dn pm_sC 33 11 P st G = pm_go pm_sC 33 G (pm_oK 4 12 P st G) := pm_dn_eq (i := .iconst 4) (len := 1) rfl
theorem u_33_12 (P : PL) (st : List PV) (G : PW) : pm_dn pm_sC 33 12 P st G = pm_go pm_sC 33 G (pm_oPf pm_sC 3 2 0 15 P st G) := pm_dn_eq (i := .putfield 46) (len := 3) rfl
theorem u_33_15 (P : PL) (st : List PV) (G : PW) : pm_dn pm_sC 33 15 P st G = pm_go pm_sC 33 G (pm_oAL 0 16 P st G) := pm_dn_eq (i := .aload_n 0) (len := 1) rfl
theorem u_33_16 (P : PL) (st : List PV) (G : PW) : pm_dn pm_sC 33 16 P st G = pm_go pm_sC 33 G (pm_oK 2 17 P st G) := pm_dn_eq (i := .iconst 2) (len := 1) rfl
theorem u_33_17 (P : PL) (st : List PV) (G : PW) : pm_dn pm_sC 33 17 P st G = pm_go pm_sC 33 G (pm_oPf pm_sC 3 3 0 20 P st G) := pm_dn_eq (i := .putfield 49) (len := 3) rfl
theorem u_33_20 (P : PL) (st : List PV) (G : PW) : pm_dn pm_sC 33 20 P st G = pm_go pm_sC 33 G (pm_oAL 0 21 P st G) := pm_dn_eq (i := .aload_n 0) (len := 1) rfl
theorem u_33_21 (P : PL) (st : List PV) (G : PW) : pm_dn pm_sC 33 21 P st G = pm_go pm_sC 33 G (pm_oGf pm_sC 3 2 24 P st G) := pm_dn_eq (i := .getfield 46) (len := 3) rfl
theorem u_33_24 (P : PL) (st : List PV) (G : PW) : pm_dn pm_sC 33 24 P st G = pm_go pm_sC 33 G (pm_oAL 0 25 P st G) := pm_dn_eq (i := .aload_n 0) (len := 1) rfl
theorem u_33_25 (P : PL) (st : List PV) (G : PW) : pm_dn pm_sC 33 25 P st G = pm_go pm_sC 33 G (pm_oGf pm_sC 3 0 28 P st G) := pm_dn_eq (i := .getfield 39) (len := 3) rfl
theorem u_33_28 (P : PL) (st : List PV) (G : PW) : pm_dn pm_sC 33 28 P st G = pm_go pm_sC 33 G (pm_oIc .ge (some 63) 31 P st G) := pm_dn_eq (i := .if_icmp .ge 35) (len := 3) rfl
theorem u_33_31 (P : PL) (st : List PV) (G : PW) : pm_dn pm_sC 33 31 P st G = pm_go pm_sC 33 G (pm_oAL 0 32 P st G) := pm_dn_eq (i := .aload_n 0) (len := 1) rfl
theorem u_33_32 (P : PL) (st : List PV) (G : PW) : pm_dn pm_sC 33 32 P st G = pm_go pm_sC 33 G (pm_oGf pm_sC 3 2 35 P st G) := pm_dn_eq (i := .getfield 46) (len := 3) rfl
theorem u_33_35 (P : PL) (st : List PV) (G : PW) : pm_dn pm_sC 33 35 P st G = pm_go pm_sC 33 G (pm_oK 16 37 P st G) := pm_dn_eq (i := .bipush 16) (len := 2) rfl
theorem u_33_37 (P : PL) (st : List PV) (G : PW) : pm_dn pm_sC 33 37 P st G = pm_go pm_sC 33 G (pm_oIc .ge (some 63) 40 P st G) := pm_dn_eq (i := .if_icmp .ge 26) (len := 3) rfl
theorem u_33_40 (P : PL) (st : List PV) (G : PW) : pm_dn pm_sC 33 40 P st G = pm_go pm_sC 33 G (pm_oAL 0 41 P st G) := pm_dn_eq (i := .aload_n 0) (len := 1) rfl
theorem u_33_41 (P : PL) (st : List PV) (G : PW) : pm_dn pm_sC 33 41 P st G = pm_go pm_sC 33 G (pm_oDup 42 P st G) := pm_dn_eq (i := .dup) (len := 1) rfl
theorem u_33_42 (P : PL) (st : List PV) (G : PW) : pm_dn pm_sC 33 42 P st G = pm_go pm_sC 33 G (pm_oGf pm_sC 3 2 45 P st G) := pm_dn_eq (i := .getfield 46) (len := 3) rfl
theorem u_33_45 (P : PL) (st : List PV) (G : PW) : pm_dn pm_sC 33 45 P st G = pm_go pm_sC 33 G (pm_oK 2 46 P st G) := pm_dn_eq (i := .iconst 2) (len := 1) rfl
theorem u_33_46 (P : PL) (st : List PV) (G : PW) : pm_dn pm_sC 33 46 P st G = pm_go pm_sC 33 G (pm_oMul 47 P st G) := pm_dn_eq (i := .imul) (len := 1) rfl
theorem u_33_47 (P : PL) (st : List PV) (G : PW) : pm_dn pm_sC 33 47 P st G = pm_go pm_sC 33 G (pm_oPf pm_sC 3 2 0 50 P st G) := pm_dn_eq (i := .putfield 46) (len := 3) rfl
theorem u_33_50 (P : PL) (st : List PV) (G : PW) : pm_dn pm_sC 33 50 P st G = pm_go pm_sC 33 G (pm_oAL 0 51 P st G) := pm_dn_eq (i := .aload_n 0) (len := 1) rfl
theorem u_33_51 (P : PL) (st : List PV) (G : PW) : pm_dn pm_sC 33 51 P st G = pm_go pm_sC 33 G (pm_oDup 52 P st G) := pm_dn_eq (i := .dup) (len := 1) rfl
theorem u_33_52 (P : PL) (st : List PV) (G : PW) : pm_dn pm_sC 33 52 P st G = pm_go pm_sC 33 G (pm_oGf pm_sC 3 3 55 P st G) := pm_dn_eq (i := .getfield 49) (len := 3) rfl
theorem u_33_55 (P : PL) (st : List PV) (G : PW) : pm_dn pm_sC 33 55 P st G = pm_go pm_sC 33 G (pm_oK 1 56 P st G) := pm_dn_eq (i := .iconst 1) (len := 1) rfl
theorem u_33_56 (P : PL) (st : List PV) (G : PW) : pm_dn pm_sC 33 56 P st G = pm_go pm_sC 33 G (pm_oAdd 57 P st G) := pm_dn_eq (i := .iadd) (len := 1) rfl
theorem u_33_57 (P : PL) (st : List PV) (G : PW) : pm_dn pm_sC 33 57 P st G = pm_go pm_sC 33 G (pm_oPf pm_sC 3 3 0 60 P st G) := pm_dn_eq (i := .putfield 49) (len := 3) rfl
theorem u_33_60 (P : PL) (st : List PV) (G : PW) : pm_dn pm_sC 33 60 P st G = pm_go pm_sC 33 G (pm_oGo (some 20) P st G) := pm_dn_eq (i := .goto (-40)) (len := 3) rfl
theorem u_33_63 (P : PL) (st : List PV) (G : PW) : pm_dn pm_sC 33 63 P st G = pm_go pm_sC 33 G (pm_oAL 0 64 P st G) := pm_dn_eq (i := .aload_n 0) (len := 1) rfl
theorem u_33_64 (P : PL) (st : List PV) (G : PW) : pm_dn pm_sC 33 64 P st G = pm_go pm_sC 33 G (pm_oK 2 65 P st G) := pm_dn_eq (i := .iconst 2) (len := 1) rfl
theorem u_33_65 (P : PL) (st : List PV) (G : PW) : pm_dn pm_sC 33 65 P st G = pm_go pm_sC 33 G (pm_oAL 0 66 P st G) := pm_dn_eq (i := .aload_n 0) (len := 1) rfl
theorem u_33_66 (P : PL) (st : List PV) (G : PW) : pm_dn pm_sC 33 66 P st G = pm_go pm_sC 33 G (pm_oGf pm_sC 3 2 69 P st G) := pm_dn_eq (i := .getfield 46) (len := 3) rfl
theorem u_33_69 (P : PL) (st : List PV) (G : PW) : pm_dn pm_sC 33 69 P st G = pm_go pm_sC 33 G (pm_oMul 70 P st G) := pm_dn_eq (i := .imul) (len := 1) rfl
theorem u_33_70 (P : PL) (st : List PV) (G : PW) : pm_dn pm_sC 33 70 P st G = pm_go pm_sC 33 G (pm_oK 1 71 P st G) := pm_dn_eq (i := .iconst 1) (len := 1) rfl
theorem u_33_71 (P : PL) (st : List PV) (G : PW) : pm_dn pm_sC 33 71 P st G = pm_go pm_sC 33 G (pm_oSub 72 P st G) := pm_dn_eq (i := .isub) (len := 1) rfl
theorem u_33_72 (P : PL) (st : List PV) (G : PW) : pm_dn pm_sC 33 72 P st G = pm_go pm_sC 33 G (pm_oPf pm_sC 3 4 0 75 P st G) := pm_dn_eq (i := .putfield 52) (len := 3) rfl
theorem u_33_75 (P : PL) (st : List PV) (G : PW) : pm_dn pm_sC 33 75 P st G = pm_go pm_sC 33 G (pm_oAL 0 76 P st G) := pm_dn_eq (i := .aload_n 0) (len := 1) rfl
theorem u_33_76 (P : PL) (st : List PV) (G : PW) : pm_dn pm_sC 33 76 P st G = pm_go pm_sC 33 G (pm_oCv pm_sC 45 0 4 3 79 P st G) := pm_dn_eq (i := .invokevirtual 55) (len := 3) rfl
theorem u_33_79 (P : PL) (st : List PV) (G : PW) : pm_dn pm_sC 33 79 P st G = pm_go pm_sC 33 G (pm_oAL 0 80 P st G) := pm_dn_eq (i := .aload_n 0) (len := 1) rfl
theorem u_33_80 (P : PL) (st : List PV) (G : PW) : pm_dn pm_sC 33 80 P st G = pm_go pm_sC 33 G (pm_oCv pm_sC 46 0 4 3 83 P st G) := pm_dn_eq (i := .invokevirtual 58) (len := 3) rfl
theorem u_33_83 (P : PL) (st : List PV) (G : PW) : pm_dn pm_sC 33 83 P st G = pm_go pm_sC 33 G (pm_oAL 0 84 P st G) := pm_dn_eq (i := .aload_n 0) (len := 1) rfl
theorem u_33_84 (P : PL) (st : List PV) (G : PW) : pm_dn pm_sC 33 84 P st G = pm_go pm_sC 33 G (pm_oAL 0 85 P st G) := pm_dn_eq (i := .aload_n 0) (len := 1) rfl
theorem u_33_85 (P : PL) (st : List PV) (G : PW) : pm_dn pm_sC 33 85 P st G = pm_go pm_sC 33 G (pm_oCv pm_sC 36 0 1 3 88 P st G) := pm_dn_eq (i := .invokevirtual 61) (len := 3) rfl
theorem u_33_88 (P : PL) (st : List PV) (G : PW) : pm_dn pm_sC 33 88 P st G = pm_go pm_sC 33 G (pm_oK 2 89 P st G) := pm_dn_eq (i := .iconst 2) (len := 1) rfl
theorem u_33_89 (P : PL) (st : List PV) (G : PW) : pm_dn pm_sC 33 89 P st G = pm_go pm_sC 33 G (pm_oK 1 90 P st G) := pm_dn_eq (i := .iconst 1) (len := 1) rfl
theorem u_33_90 (P : PL) (st : List PV) (G : PW) : pm_dn pm_sC 33 90 P st G = pm_go pm_sC 33 G (pm_oK 0 91 P st G) := pm_dn_eq (i := .iconst 0) (len := 1) rfl
theorem u_33_91 (P : PL) (st : List PV) (G : PW) : pm_dn pm_sC 33 91 P st G = pm_go pm_sC 33 G (pm_oCv pm_sC 44 4 5 3 94 P st G) := pm_dn_eq (i := .invokevirtual 65) (len := 3) rfl
theorem u_33_94 (P : PL) (st : List PV) (G : PW) : pm_dn pm_sC 33 94 P st G = pm_go pm_sC 33 G (pm_oAL 0 95 P st G) := pm_dn_eq (i := .aload_n 0) (len := 1) rfl
theorem u_33_95 (P : PL) (st : List PV) (G : PW) : pm_dn pm_sC 33 95 P st G = pm_go pm_sC 33 G (pm_oAL 0 96 P st G) := pm_dn_eq (i := .aload_n 0) (len := 1) rfl
theorem u_33_96 (P : PL) (st : List PV) (G : PW) : pm_dn pm_sC 33 96 P st G = pm_go pm_sC 33 G (pm_oCv pm_sC 37 0 1 3 99 P st G) := pm_dn_eq (i := .invokevirtual 69) (len := 3) rfl
theorem u_33_99 (P : PL) (st : List PV) (G : PW) : pm_dn pm_sC 33 99 P st G = pm_go pm_sC 33 G (pm_oK 2 100 P st G) := pm_dn_eq (i := .iconst 2) (len := 1) rfl
theorem u_33_100 (P : PL) (st : List PV) (G : PW) : pm_dn pm_sC 33 100 P st G = pm_go pm_sC 33 G (pm_oK 2 101 P st G) := pm_dn_eq (i := .iconst 2) (len := 1) rfl
theorem u_33_101 (P : PL) (st : List PV) (G : PW) : pm_dn pm_sC 33 101 P st G = pm_go pm_sC 33 G (pm_oK 0 102 P st G) := pm_dn_eq (i := .iconst 0) (len := 1) rfl
theorem u_33_102 (P : PL) (st : List PV) (G : PW) : pm_dn pm_sC 33 102 P st G = pm_go pm_sC 33 G (pm_oCv pm_sC 44 4 5 3 105 P st G) := pm_dn_eq (i := .invokevirtual 65) (len := 3) rfl
theorem u_33_105 (P : PL) (st : List PV) (G : PW) : pm_dn pm_sC 33 105 P st G = pm_go pm_sC 33 G (pm_oAL 0 106 P st G) := pm_dn_eq (i := .aload_n 0) (len := 1) rfl
theorem u_33_106 (P : PL) (st : List PV) (G : PW) : pm_dn pm_sC 33 106 P st G = pm_go pm_sC 33 G (pm_oCv pm_sC 50 0 4 3 109 P st G) := pm_dn_eq (i := .invokevirtual 72) (len := 3) rfl
theorem u_33_109 (P : PL) (st : List PV) (G : PW) : pm_dn pm_sC 33 109 P st G = pm_go pm_sC 33 G (pm_oAL 0 110 P st G) := pm_dn_eq (i := .aload_n 0) (len := 1) rfl
theorem u_33_110 (P : PL) (st : List PV) (G : PW) : pm_dn pm_sC 33 110 P st G = pm_go pm_sC 33 G (pm_oCv pm_sC 51 0 3 3 113 P st G) := pm_dn_eq (i := .invokevirtual 75) (len := 3) rfl
theorem u_33_113 (P : PL) (st : List PV) (G : PW) : pm_dn pm_sC 33 113 P st G = pm_go pm_sC 33 G (pm_oAL 0 114 P st G) := pm_dn_eq (i := .aload_n 0) (len := 1) rfl
theorem u_33_114 (P : PL) (st : List PV) (G : PW) : pm_dn pm_sC 33 114 P st G = pm_go pm_sC 33 G (pm_oCv pm_sC 53 0 7 3 117 P st G) := pm_dn_eq (i := .invokevirtual 78) (len := 3) rfl
theorem u_33_117 (P : PL) (st : List PV) (G : PW) : pm_dn pm_sC 33 117 P st G = pm_go pm_sC 33 G (pm_oRv P st G) := pm_dn_eq (i := .return_) (len := 1) rfl
theorem ue_34 (a0 : Nat) (a1 : Int) (G : PW) : pm_ca pm_sC 34 [.inr (.inr a0), .inl a1] G = pm_dn pm_sC 34 0 [some (.inr (.inr a0)), some (.inl a1)] [] G := rfl
theorem u_34_0 (P : PL) (st : List PV) (G : PW) : pm_dn pm_sC 34 0 P st G = pm_go pm_sC 34 G (pm_oIL 1 1 P st G) := pm_dn_eq (i := .iload_n 1) (len := 1) rfl
theorem u_34_1 (P : PL) (st : List PV) (G : PW) : pm_dn pm_sC 34 1 P st G = pm_go pm_sC 34 G (pm_oIf .lt (some 16) 4 P st G) := pm_dn_eq (i := .ifCond .lt 15) (len := 3) rfl
theorem u_34_4 (P : PL) (st : List PV) (G : PW) : pm_dn pm_sC 34 4 P st G = pm_go pm_sC 34 G (pm_oIL 1 5 P st G) := pm_dn_eq (i := .iload_n 1) (len := 1) rfl
theorem u_34_5 (P : PL) (st : List PV) (G : PW) : pm_dn pm_sC 34 5 P st G = pm_go pm_sC 34 G (pm_oAL 0 6 P st G) := pm_dn_eq (i := .aload_n 0) (len := 1) rfl
theorem u_34_6 (P : PL) (st : List PV) (G : PW) : pm_dn pm_sC 34 6 P st G = pm_go pm_sC 34 G (pm_oGf pm_sC 3 0 9 P st G) := pm_dn_eq (i := .getfield 39) (len := 3) rfl
theorem u_34_9 (P : PL) (st : List PV) (G : PW) : pm_dn pm_sC 34 9 P st G = pm_go pm_sC 34 G (pm_oIc .ge (some 16) 12 P st G) := pm_dn_eq (i := .if_icmp .ge 7) (len := 3) rfl
theorem u_34_12 (P : PL) (st : List PV) (G : PW) : pm_dn pm_sC 34 12 P st G = pm_go pm_sC 34 G (pm_oK 1 13 P st G) := pm_dn_eq (i := .iconst 1) (len := 1) rfl
theorem u_34_13 (P : PL) (st : List PV) (G : PW) : pm_dn pm_sC 34 13 P st G = pm_go pm_sC 34 G (pm_oGo (some 17) P st G) := pm_dn_eq (i := .goto 4) (len := 3) rfl
theorem u_34_16 (P : PL) (st : List PV) (G : PW) : pm_dn pm_sC 34 16 P st G = pm_go pm_sC 34 G (pm_oK 0 17 P st G) := pm_dn_eq (i := .iconst 0) (len := 1) rfl
theorem u_34_17 (P : PL) (st : List PV) (G : PW) : pm_dn pm_sC 34 17 P st G = pm_go pm_sC 34 G (pm_oRi 2 P st G) := pm_dn_eq (i := .ireturn) (len := 1) rfl
theorem ue_35 (a0 : Nat) (a1 : Int) (G : PW) : pm_ca pm_sC 35 [.inr (.inr a0), .inl a1] G = pm_dn pm_sC 35 0 [some (.inr (.inr a0)), some (.inl a1)] [] G := rfl
theorem u_35_0 (P : PL) (st : List PV) (G : PW) : pm_dn pm_sC 35 0 P st G = pm_go pm_sC 35 G (pm_oIL 1 1 P st G) := pm_dn_eq (i := .iload_n 1) (len := 1) rfl
theorem u_35_1 (P : PL) (st : List PV) (G : PW) : pm_dn pm_sC 35 1 P st G = pm_go pm_sC 35 G (pm_oIf .lt (some 16) 4 P st G) := pm_dn_eq (i := .ifCond .lt 15) (len := 3) rfl
theorem u_35_4 (P : PL) (st : List PV) (G : PW) : pm_dn pm_sC 35 4 P st G = pm_go pm_sC 35 G (pm_oIL 1 5 P st G) := pm_dn_eq (i := .iload_n 1) (len := 1) rfl
theorem u_35_5 (P : PL) (st : List PV) (G : PW) : pm_dn pm_sC 35 5 P st G = pm_go pm_sC 35 G (pm_oAL 0 6 P st G) := pm_dn_eq (i := .aload_n 0) (len := 1) rfl
theorem u_35_6 (P : PL) (st : List PV) (G : PW) : pm_dn pm_sC 35 6 P st G = pm_go pm_sC 35 G (pm_oGf pm_sC 3 4 9 P st G) := pm_dn_eq (i := .getfield 52) (len := 3) rfl
theorem u_35_9 (P : PL) (st : List PV) (G : PW) : pm_dn pm_sC 35 9 P st G = pm_go pm_sC 35 G (pm_oIc .ge (some 16) 12 P st G) := pm_dn_eq (i := .if_icmp .ge 7) (len := 3) rfl
theorem u_35_12 (P : PL) (st : List PV) (G : PW) : pm_dn pm_sC 35 12 P st G = pm_go pm_sC 35 G (pm_oK 1 13 P st G) := pm_dn_eq (i := .iconst 1) (len := 1) rfl
theorem u_35_13 (P : PL) (st : List PV) (G : PW) : pm_dn pm_sC 35 13 P st G = pm_go pm_sC 35 G (pm_oGo (some 17) P st G) := pm_dn_eq (i := .goto 4) (len := 3) rfl
theorem u_35_16 (P : PL) (st : List PV) (G : PW) : pm_dn pm_sC 35 16 P st G = pm_go pm_sC 35 G (pm_oK 0 17 P st G) := pm_dn_eq (i := .iconst 0) (len := 1) rfl
theorem u_35_17 (P : PL) (st : List PV) (G : PW) : pm_dn pm_sC 35 17 P st G = pm_go pm_sC 35 G (pm_oRi 2 P st G) := pm_dn_eq (i := .ireturn) (len := 1) rfl
theorem ue_36 (a0 : Nat) (G : PW) : pm_ca pm_sC 36 [.inr (.inr a0)] G = pm_dn pm_sC 36 0 [some (.inr (.inr a0))] [] G := rfl
theorem u_36_0 (P : PL) (st : List PV) (G : PW) : pm_dn pm_sC 36 0 P st G = pm_go pm_sC 36 G (pm_oK 2 1 P st G) := pm_dn_eq (i := .iconst 2) (len := 1) rfl
theorem u_36_1 (P : PL) (st : List PV) (G : PW) : pm_dn pm_sC 36 1 P st G = pm_go pm_sC 36 G (pm_oAL 0 2 P st G) := pm_dn_eq (i := .aload_n 0) (len := 1) rfl
theorem u_36_2 (P : PL) (st : List PV) (G : PW) : pm_dn pm_sC 36 2 P st G = pm_go pm_sC 36 G (pm_oGf pm_sC 3 2 5 P st G) := pm_dn_eq (i := .getfield 46) (len := 3) rfl
theorem u_36_5 (P : PL) (st : List PV) (G : PW) : pm_dn pm_sC 36 5 P st G = pm_go pm_sC 36 G (pm_oMul 6 P st G) := pm_dn_eq (i := .imul) (len := 1) rfl
theorem u_36_6 (P : PL) (st : List PV) (G : PW) : pm_dn pm_sC 36 6 P st G = pm_go pm_sC 36 G (pm_oK 3 7 P st G) := pm_dn_eq (i := .iconst 3) (len := 1) rfl
theorem u_36_7 (P : PL) (st : List PV) (G : PW) : pm_dn pm_sC 36 7 P st G = pm_go pm_sC 36 G (pm_oSub 8 P st G) := pm_dn_eq (i := .isub) (len := 1) rfl
theorem u_36_8 (P : PL) (st : List PV) (G : PW) : pm_dn pm_sC 36 8 P st G = pm_go pm_sC 36 G (pm_oRi 0 P st G) := pm_dn_eq (i := .ireturn) (len := 1) rfl
theorem ue_37 (a0 : Nat) (G : PW) : pm_ca pm_sC 37 [.inr (.inr a0)] G = pm_dn pm_sC 37 0 [some (.inr (.inr a0))] [] G := rfl
theorem u_37_0 (P : PL) (st : List PV) (G : PW) : pm_dn pm_sC 37 0 P st G = pm_go pm_sC 37 G (pm_oK 2 1 P st G) := pm_dn_eq (i := .iconst 2) (len := 1) rfl
theorem u_37_1 (P : PL) (st : List PV) (G : PW) : pm_dn pm_sC 37 1 P st G = pm_go pm_sC 37 G (pm_oAL 0 2 P st G) := pm_dn_eq (i := .aload_n 0) (len := 1) rfl
theorem u_37_2 (P : PL) (st : List PV) (G : PW) : pm_dn pm_sC 37 2 P st G = pm_go pm_sC 37 G (pm_oGf pm_sC 3 2 5 P st G) := pm_dn_eq (i := .getfield 46) (len := 3) rfl
theorem u_37_5 (P : PL) (st : List PV) (G : PW) : pm_dn pm_sC 37 5 P st G = pm_go pm_sC 37 G (pm_oMul 6 P st G) := pm_dn_eq (i := .imul) (len := 1) rfl
theorem u_37_6 (P : PL) (st : List PV) (G : PW) : pm_dn pm_sC 37 6 P st G = pm_go pm_sC 37 G (pm_oK 2 7 P st G) := pm_dn_eq (i := .iconst 2) (len := 1) rfl
theorem u_37_7 (P : PL) (st : List PV) (G : PW) : pm_dn pm_sC 37 7 P st G = pm_go pm_sC 37 G (pm_oSub 8 P st G) := pm_dn_eq (i := .isub) (len := 1) rfl
theorem u_37_8 (P : PL) (st : List PV) (G : PW) : pm_dn pm_sC 37 8 P st G = pm_go pm_sC 37 G (pm_oRi 0 P st G) := pm_dn_eq (i := .ireturn) (len := 1) rfl
theorem ue_38 (a0 : Nat) (a1 : Int) (G : PW) : pm_ca pm_sC 38 [.inr (.inr a0), .inl a1] G = pm_dn pm_sC 38 0 [some (.inr (.inr a0)), some (.inl a1), none] [] G := rfl
theorem u_38_0 (P : PL) (st : List PV) (G : PW) : pm_dn pm_sC 38 0 P st G = pm_go pm_sC 38 G (pm_oAL 0 1 P st G) := pm_dn_eq (i := .aload_n 0) (len := 1) rfl
theorem u_38_1 (P : PL) (st : List PV) (G : PW) : pm_dn pm_sC 38 1 P st G = pm_go pm_sC 38 G (pm_oGf pm_sC 3 12 4 P st G) := pm_dn_eq (i := .getfield 33) (len := 3) rfl
theorem u_38_4 (P : PL) (st : List PV) (G : PW) : pm_dn pm_sC 38 4 P st G = pm_go pm_sC 38 G (pm_oIL 1 5 P st G) := pm_dn_eq (i := .iload_n 1) (len := 1) rfl
theorem u_38_5 (P : PL) (st : List PV) (G : PW) : pm_dn pm_sC 38 5 P st G = pm_go pm_sC 38 G (pm_oCs 76 2 2 8 P st G) := pm_dn_eq (i := .invokestatic 81) (len := 3) rfl
theorem u_38_8 (P : PL) (st : List PV) (G : PW) : pm_dn pm_sC 38 8 P st G = pm_go pm_sC 38 G (pm_oIS 2 9 P st G) := pm_dn_eq (i := .istore_n 2) (len := 1) rfl
theorem u_38_9 (P : PL) (st : List PV) (G : PW) : pm_dn pm_sC 38 9 P st G = pm_go pm_sC 38 G (pm_oIL 2 10 P st G) := pm_dn_eq (i := .iload_n 2) (len := 1) rfl
theorem u_38_10 (P : PL) (st : List PV) (G : PW) : pm_dn pm_sC 38 10 P st G = pm_go pm_sC 38 G (pm_oAL 0 11 P st G) := pm_dn_eq (i := .aload_n 0) (len := 1) rfl
theorem u_38_11 (P : PL) (st : List PV) (G : PW) : pm_dn pm_sC 38 11 P st G = pm_go pm_sC 38 G (pm_oGf pm_sC 3 0 14 P st G) := pm_dn_eq (i := .getfield 39) (len := 3) rfl
theorem u_38_14 (P : PL) (st : List PV) (G : PW) : pm_dn pm_sC 38 14 P st G = pm_go pm_sC 38 G (pm_oIc .ge (some 21) 17 P st G) := pm_dn_eq (i := .if_icmp .ge 7) (len := 3) rfl
theorem u_38_17 (P : PL) (st : List PV) (G : PW) : pm_dn pm_sC 38 17 P st G = pm_go pm_sC 38 G (pm_oIL 2 18 P st G) := pm_dn_eq (i := .iload_n 2) (len := 1) rfl
theorem u_38_18 (P : PL) (st : List PV) (G : PW) : pm_dn pm_sC 38 18 P st G = pm_go pm_sC 38 G (pm_oGo (some 23) P st G) := pm_dn_eq (i := .goto 5) (len := 3) rfl
theorem u_38_21 (P : PL) (st : List PV) (G : PW) : pm_dn pm_sC 38 21 P st G = pm_go pm_sC 38 G (pm_oK 16 23 P st G) := pm_dn_eq (i := .bipush 16) (len := 2) rfl
theorem u_38_23 (P : PL) (st : List PV) (G : PW) : pm_dn pm_sC 38 23 P st G = pm_go pm_sC 38 G (pm_oRi 0 P st G) := pm_dn_eq (i := .ireturn) (len := 1) rfl
theorem ue_39 (a0 : Nat) (a1 : Int) (G : PW) : pm_ca pm_sC 39 [.inr (.inr a0), .inl a1] G = pm_dn pm_sC 39 0 [some (.inr (.inr a0)), some (.inl a1)] [] G := rfl
theorem u_39_0 (P : PL) (st : List PV) (G : PW) : pm_dn pm_sC 39 0 P st G = pm_go pm_sC 39 G (pm_oAL 0 1 P st G) := pm_dn_eq (i := .aload_n 0) (len := 1) rfl
theorem u_39_1 (P : PL) (st : List PV) (G : PW) : pm_dn pm_sC 39 1 P st G = pm_go pm_sC 39 G (pm_oGf pm_sC 3 2 4 P st G) := pm_dn_eq (i := .getfield 46) (len := 3) rfl
theorem u_39_4 (P : PL) (st : List PV) (G : PW) : pm_dn pm_sC 39 4 P st G = pm_go pm_sC 39 G (pm_oAL 0 5 P st G) := pm_dn_eq (i := .aload_n 0) (len := 1) rfl
theorem u_39_5 (P : PL) (st : List PV) (G : PW) : pm_dn pm_sC 39 5 P st G = pm_go pm_sC 39 G (pm_oGf pm_sC 3 2 8 P st G) := pm_dn_eq (i := .getfield 46) (len := 3) rfl
theorem u_39_8 (P : PL) (st : List PV) (G : PW) : pm_dn pm_sC 39 8 P st G = pm_go pm_sC 39 G (pm_oIL 1 9 P st G) := pm_dn_eq (i := .iload_n 1) (len := 1) rfl
theorem u_39_9 (P : PL) (st : List PV) (G : PW) : pm_dn pm_sC 39 9 P st G = pm_go pm_sC 39 G (pm_oK 1 10 P st G) := pm_dn_eq (i := .iconst 1) (len := 1) rfl
theorem u_39_10 (P : PL) (st : List PV) (G : PW) : pm_dn pm_sC 39 10 P st G = pm_go pm_sC 39 G (pm_oSub 11 P st G) := pm_dn_eq (i := .isub) (len := 1) rfl
theorem u_39_11 (P : PL) (st : List PV) (G : PW) : pm_dn pm_sC 39 11 P st G = pm_go pm_sC 39 G (pm_oShr 12 P st G) := pm_dn_eq (i := .ishr) (len := 1) rfl
theorem u_39_12 (P : PL) (st : List PV) (G : PW) : pm_dn pm_sC 39 12 P st G = pm_go pm_sC 39 G (pm_oSub 13 P st G) := pm_dn_eq (i := .isub) (len := 1) rfl
theorem u_39_13 (P : PL) (st : List PV) (G : PW) : pm_dn pm_sC 39 13 P st G = pm_go pm_sC 39 G (pm_oRi 0 P st G) := pm_dn_eq (i := .ireturn) (len := 1) rfl
