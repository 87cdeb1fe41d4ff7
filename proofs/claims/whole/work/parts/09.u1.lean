/-! printed by gen09.py: what each instruction does, pc by pc -/
theorem ue_40 (a0 : Nat) (a1 : Int) (G : PW) : pm_ca pm_sC 40 [.inr (.inr a0), .inl a1] G = pm_dn pm_sC 40 0 [some (.inr (.inr a0)), some (.inl a1)] [] G := rfl
theorem u_40_0 (P : PL) (st : List PV) (G : PW) : pm_dn pm_sC 40 0 P st G = pm_go pm_sC 40 G (pm_oAL 0 1 P st G) := pm_dn_eq (i := .aload_n 0) (len := 1) rfl
theorem u_40_1 (P : PL) (st : List PV) (G : PW) : pm_dn pm_sC 40 1 P st G = pm_go pm_sC 40 G (pm_oIL 1 2 P st G) := pm_dn_eq (i := .iload_n 1) (len := 1) rfl
theorem u_40_2 (P : PL) (st : List PV) (G : PW) : pm_dn pm_sC 40 2 P st G = pm_go pm_sC 40 G (pm_oPf pm_sC 2 2 0 5 P st G) := pm_dn_eq (i := .putfield 25) (len := 3) rfl
theorem u_40_5 (P : PL) (st : List PV) (G : PW) : pm_dn pm_sC 40 5 P st G = pm_go pm_sC 40 G (pm_oK 1 6 P st G) := pm_dn_eq (i := .iconst 1) (len := 1) rfl
theorem u_40_6 (P : PL) (st : List PV) (G : PW) : pm_dn pm_sC 40 6 P st G = pm_go pm_sC 40 G (pm_oRi 2 P st G) := pm_dn_eq (i := .ireturn) (len := 1) rfl
theorem ue_41 (a0 : Nat) (a1 : Int) (a2 : Int) (G : PW) : pm_ca pm_sC 41 [.inr (.inr a0), .inl a1, .inl a2] G = pm_dn pm_sC 41 0 [some (.inr (.inr a0)), some (.inl a1), some (.inl a2)] [] G := rfl
theorem u_41_0 (P : PL) (st : List PV) (G : PW) : pm_dn pm_sC 41 0 P st G = pm_go pm_sC 41 G (pm_oIL 1 1 P st G) := pm_dn_eq (i := .iload_n 1) (len := 1) rfl
theorem u_41_1 (P : PL) (st : List PV) (G : PW) : pm_dn pm_sC 41 1 P st G = pm_go pm_sC 41 G (pm_oCs 43 1 1 4 P st G) := pm_dn_eq (i := .invokestatic 47) (len := 3) rfl
theorem u_41_4 (P : PL) (st : List PV) (G : PW) : pm_dn pm_sC 41 4 P st G = pm_go pm_sC 41 G (pm_oIf .ne (some 9) 7 P st G) := pm_dn_eq (i := .ifCond .ne 5) (len := 3) rfl
theorem u_41_7 (P : PL) (st : List PV) (G : PW) : pm_dn pm_sC 41 7 P st G = pm_go pm_sC 41 G (pm_oK 0 8 P st G) := pm_dn_eq (i := .iconst 0) (len := 1) rfl
theorem u_41_8 (P : PL) (st : List PV) (G : PW) : pm_dn pm_sC 41 8 P st G = pm_go pm_sC 41 G (pm_oRi 2 P st G) := pm_dn_eq (i := .ireturn) (len := 1) rfl
theorem u_41_9 (P : PL) (st : List PV) (G : PW) : pm_dn pm_sC 41 9 P st G = pm_go pm_sC 41 G (pm_oAL 0 10 P st G) := pm_dn_eq (i := .aload_n 0) (len := 1) rfl
theorem u_41_10 (P : PL) (st : List PV) (G : PW) : pm_dn pm_sC 41 10 P st G = pm_go pm_sC 41 G (pm_oIL 1 11 P st G) := pm_dn_eq (i := .iload_n 1) (len := 1) rfl
theorem u_41_11 (P : PL) (st : List PV) (G : PW) : pm_dn pm_sC 41 11 P st G = pm_go pm_sC 41 G (pm_oK 48 13 P st G) := pm_dn_eq (i := .bipush 48) (len := 2) rfl
theorem u_41_13 (P : PL) (st : List PV) (G : PW) : pm_dn pm_sC 41 13 P st G = pm_go pm_sC 41 G (pm_oSub 14 P st G) := pm_dn_eq (i := .isub) (len := 1) rfl
theorem u_41_14 (P : PL) (st : List PV) (G : PW) : pm_dn pm_sC 41 14 P st G = pm_go pm_sC 41 G (pm_oPf pm_sC 2 3 0 17 P st G) := pm_dn_eq (i := .putfield 50) (len := 3) rfl
theorem u_41_17 (P : PL) (st : List PV) (G : PW) : pm_dn pm_sC 41 17 P st G = pm_go pm_sC 41 G (pm_oAL 0 18 P st G) := pm_dn_eq (i := .aload_n 0) (len := 1) rfl
theorem u_41_18 (P : PL) (st : List PV) (G : PW) : pm_dn pm_sC 41 18 P st G = pm_go pm_sC 41 G (pm_oIL 2 19 P st G) := pm_dn_eq (i := .iload_n 2) (len := 1) rfl
theorem u_41_19 (P : PL) (st : List PV) (G : PW) : pm_dn pm_sC 41 19 P st G = pm_go pm_sC 41 G (pm_oCv pm_sC 40 1 2 2 22 P st G) := pm_dn_eq (i := .invokevirtual 36) (len := 3) rfl
theorem u_41_22 (P : PL) (st : List PV) (G : PW) : pm_dn pm_sC 41 22 P st G = pm_go pm_sC 41 G (pm_oRi 2 P st G) := pm_dn_eq (i := .ireturn) (len := 1) rfl
theorem ue_42 (a0 : Nat) (a1 : Int) (a2 : Int) (G : PW) : pm_ca pm_sC 42 [.inr (.inr a0), .inl a1, .inl a2] G = pm_dn pm_sC 42 0 [some (.inr (.inr a0)), some (.inl a1), some (.inl a2)] [] G := rfl
theorem u_42_0 (P : PL) (st : List PV) (G : PW) : pm_dn pm_sC 42 0 P st G = pm_go pm_sC 42 G (pm_oIL 1 1 P st G) := pm_dn_eq (i := .iload_n 1) (len := 1) rfl
theorem u_42_1 (P : PL) (st : List PV) (G : PW) : pm_dn pm_sC 42 1 P st G = pm_go pm_sC 42 G (pm_oCs 43 1 1 4 P st G) := pm_dn_eq (i := .invokestatic 47) (len := 3) rfl
theorem u_42_4 (P : PL) (st : List PV) (G : PW) : pm_dn pm_sC 42 4 P st G = pm_go pm_sC 42 G (pm_oIf .eq (some 30) 7 P st G) := pm_dn_eq (i := .ifCond .eq 26) (len := 3) rfl
theorem u_42_7 (P : PL) (st : List PV) (G : PW) : pm_dn pm_sC 42 7 P st G = pm_go pm_sC 42 G (pm_oAL 0 8 P st G) := pm_dn_eq (i := .aload_n 0) (len := 1) rfl
theorem u_42_8 (P : PL) (st : List PV) (G : PW) : pm_dn pm_sC 42 8 P st G = pm_go pm_sC 42 G (pm_oGf pm_sC 2 3 11 P st G) := pm_dn_eq (i := .getfield 50) (len := 3) rfl
theorem u_42_11 (P : PL) (st : List PV) (G : PW) : pm_dn pm_sC 42 11 P st G = pm_go pm_sC 42 G (pm_oIf .eq (some 30) 14 P st G) := pm_dn_eq (i := .ifCond .eq 19) (len := 3) rfl
theorem u_42_14 (P : PL) (st : List PV) (G : PW) : pm_dn pm_sC 42 14 P st G = pm_go pm_sC 42 G (pm_oK 10 16 P st G) := pm_dn_eq (i := .bipush 10) (len := 2) rfl
theorem u_42_16 (P : PL) (st : List PV) (G : PW) : pm_dn pm_sC 42 16 P st G = pm_go pm_sC 42 G (pm_oAL 0 17 P st G) := pm_dn_eq (i := .aload_n 0) (len := 1) rfl
theorem u_42_17 (P : PL) (st : List PV) (G : PW) : pm_dn pm_sC 42 17 P st G = pm_go pm_sC 42 G (pm_oGf pm_sC 2 3 20 P st G) := pm_dn_eq (i := .getfield 50) (len := 3) rfl
theorem u_42_20 (P : PL) (st : List PV) (G : PW) : pm_dn pm_sC 42 20 P st G = pm_go pm_sC 42 G (pm_oMul 21 P st G) := pm_dn_eq (i := .imul) (len := 1) rfl
theorem u_42_21 (P : PL) (st : List PV) (G : PW) : pm_dn pm_sC 42 21 P st G = pm_go pm_sC 42 G (pm_oIL 1 22 P st G) := pm_dn_eq (i := .iload_n 1) (len := 1) rfl
theorem u_42_22 (P : PL) (st : List PV) (G : PW) : pm_dn pm_sC 42 22 P st G = pm_go pm_sC 42 G (pm_oK 48 24 P st G) := pm_dn_eq (i := .bipush 48) (len := 2) rfl
theorem u_42_24 (P : PL) (st : List PV) (G : PW) : pm_dn pm_sC 42 24 P st G = pm_go pm_sC 42 G (pm_oSub 25 P st G) := pm_dn_eq (i := .isub) (len := 1) rfl
theorem u_42_25 (P : PL) (st : List PV) (G : PW) : pm_dn pm_sC 42 25 P st G = pm_go pm_sC 42 G (pm_oAdd 26 P st G) := pm_dn_eq (i := .iadd) (len := 1) rfl
theorem u_42_26 (P : PL) (st : List PV) (G : PW) : pm_dn pm_sC 42 26 P st G = pm_go pm_sC 42 G (pm_oIL 2 27 P st G) := pm_dn_eq (i := .iload_n 2) (len := 1) rfl
theorem u_42_27 (P : PL) (st : List PV) (G : PW) : pm_dn pm_sC 42 27 P st G = pm_go pm_sC 42 G (pm_oIc .le (some 32) 30 P st G) := pm_dn_eq (i := .if_icmp .le 5) (len := 3) rfl
theorem u_42_30 (P : PL) (st : List PV) (G : PW) : pm_dn pm_sC 42 30 P st G = pm_go pm_sC 42 G (pm_oK 0 31 P st G) := pm_dn_eq (i := .iconst 0) (len := 1) rfl
theorem u_42_31 (P : PL) (st : List PV) (G : PW) : pm_dn pm_sC 42 31 P st G = pm_go pm_sC 42 G (pm_oRi 2 P st G) := pm_dn_eq (i := .ireturn) (len := 1) rfl
theorem u_42_32 (P : PL) (st : List PV) (G : PW) : pm_dn pm_sC 42 32 P st G = pm_go pm_sC 42 G (pm_oAL 0 33 P st G) := pm_dn_eq (i := .aload_n 0) (len := 1) rfl
theorem u_42_33 (P : PL) (st : List PV) (G : PW) : pm_dn pm_sC 42 33 P st G = pm_go pm_sC 42 G (pm_oK 10 35 P st G) := pm_dn_eq (i := .bipush 10) (len := 2) rfl
theorem u_42_35 (P : PL) (st : List PV) (G : PW) : pm_dn pm_sC 42 35 P st G = pm_go pm_sC 42 G (pm_oAL 0 36 P st G) := pm_dn_eq (i := .aload_n 0) (len := 1) rfl
theorem u_42_36 (P : PL) (st : List PV) (G : PW) : pm_dn pm_sC 42 36 P st G = pm_go pm_sC 42 G (pm_oGf pm_sC 2 3 39 P st G) := pm_dn_eq (i := .getfield 50) (len := 3) rfl
theorem u_42_39 (P : PL) (st : List PV) (G : PW) : pm_dn pm_sC 42 39 P st G = pm_go pm_sC 42 G (pm_oMul 40 P st G) := pm_dn_eq (i := .imul) (len := 1) rfl
theorem u_42_40 (P : PL) (st : List PV) (G : PW) : pm_dn pm_sC 42 40 P st G = pm_go pm_sC 42 G (pm_oIL 1 41 P st G) := pm_dn_eq (i := .iload_n 1) (len := 1) rfl
theorem u_42_41 (P : PL) (st : List PV) (G : PW) : pm_dn pm_sC 42 41 P st G = pm_go pm_sC 42 G (pm_oK 48 43 P st G) := pm_dn_eq (i := .bipush 48) (len := 2) rfl
theorem u_42_43 (P : PL) (st : List PV) (G : PW) : pm_dn pm_sC 42 43 P st G = pm_go pm_sC 42 G (pm_oSub 44 P st G) := pm_dn_eq (i := .isub) (len := 1) rfl
theorem u_42_44 (P : PL) (st : List PV) (G : PW) : pm_dn pm_sC 42 44 P st G = pm_go pm_sC 42 G (pm_oAdd 45 P st G) := pm_dn_eq (i := .iadd) (len := 1) rfl
theorem u_42_45 (P : PL) (st : List PV) (G : PW) : pm_dn pm_sC 42 45 P st G = pm_go pm_sC 42 G (pm_oPf pm_sC 2 3 0 48 P st G) := pm_dn_eq (i := .putfield 50) (len := 3) rfl
theorem u_42_48 (P : PL) (st : List PV) (G : PW) : pm_dn pm_sC 42 48 P st G = pm_go pm_sC 42 G (pm_oK 1 49 P st G) := pm_dn_eq (i := .iconst 1) (len := 1) rfl
theorem u_42_49 (P : PL) (st : List PV) (G : PW) : pm_dn pm_sC 42 49 P st G = pm_go pm_sC 42 G (pm_oRi 2 P st G) := pm_dn_eq (i := .ireturn) (len := 1) rfl
theorem ue_43 (a0 : Int) (G : PW) : pm_ca pm_sC 43 [.inl a0] G = pm_dn pm_sC 43 0 [some (.inl a0)] [] G := rfl
theorem u_43_0 (P : PL) (st : List PV) (G : PW) : pm_dn pm_sC 43 0 P st G = pm_go pm_sC 43 G (pm_oIL 0 1 P st G) := pm_dn_eq (i := .iload_n 0) (len := 1) rfl
theorem u_43_1 (P : PL) (st : List PV) (G : PW) : pm_dn pm_sC 43 1 P st G = pm_go pm_sC 43 G (pm_oK 48 3 P st G) := pm_dn_eq (i := .bipush 48) (len := 2) rfl
theorem u_43_3 (P : PL) (st : List PV) (G : PW) : pm_dn pm_sC 43 3 P st G = pm_go pm_sC 43 G (pm_oIc .lt (some 16) 6 P st G) := pm_dn_eq (i := .if_icmp .lt 13) (len := 3) rfl
theorem u_43_6 (P : PL) (st : List PV) (G : PW) : pm_dn pm_sC 43 6 P st G = pm_go pm_sC 43 G (pm_oIL 0 7 P st G) := pm_dn_eq (i := .iload_n 0) (len := 1) rfl
theorem u_43_7 (P : PL) (st : List PV) (G : PW) : pm_dn pm_sC 43 7 P st G = pm_go pm_sC 43 G (pm_oK 57 9 P st G) := pm_dn_eq (i := .bipush 57) (len := 2) rfl
theorem u_43_9 (P : PL) (st : List PV) (G : PW) : pm_dn pm_sC 43 9 P st G = pm_go pm_sC 43 G (pm_oIc .gt (some 16) 12 P st G) := pm_dn_eq (i := .if_icmp .gt 7) (len := 3) rfl
theorem u_43_12 (P : PL) (st : List PV) (G : PW) : pm_dn pm_sC 43 12 P st G = pm_go pm_sC 43 G (pm_oK 1 13 P st G) := pm_dn_eq (i := .iconst 1) (len := 1) rfl
theorem u_43_13 (P : PL) (st : List PV) (G : PW) : pm_dn pm_sC 43 13 P st G = pm_go pm_sC 43 G (pm_oGo (some 17) P st G) := pm_dn_eq (i := .goto 4) (len := 3) rfl
theorem u_43_16 (P : PL) (st : List PV) (G : PW) : pm_dn pm_sC 43 16 P st G = pm_go pm_sC 43 G (pm_oK 0 17 P st G) := pm_dn_eq (i := .iconst 0) (len := 1) rfl
theorem u_43_17 (P : PL) (st : List PV) (G : PW) : pm_dn pm_sC 43 17 P st G = pm_go pm_sC 43 G (pm_oRi 2 P st G) := pm_dn_eq (i := .ireturn) (len := 1) rfl
theorem ue_44 (a0 : Nat) (a1 : Int) (G : PW) : pm_ca pm_sC 44 [.inr (.inr a0), .inl a1] G = pm_dn pm_sC 44 0 [some (.inr (.inr a0)), some (.inl a1)] [] G := rfl
theorem u_44_0 (P : PL) (st : List PV) (G : PW) : pm_dn pm_sC 44 0 P st G = pm_go pm_sC 44 G (pm_oIL 1 1 P st G) := pm_dn_eq (i := .iload_n 1) (len := 1) rfl
theorem u_44_1 (P : PL) (st : List PV) (G : PW) : pm_dn pm_sC 44 1 P st G = pm_go pm_sC 44 G (pm_oIf .eq (some 16) 4 P st G) := pm_dn_eq (i := .ifCond .eq 15) (len := 3) rfl
theorem u_44_4 (P : PL) (st : List PV) (G : PW) : pm_dn pm_sC 44 4 P st G = pm_go pm_sC 44 G (pm_oAL 0 5 P st G) := pm_dn_eq (i := .aload_n 0) (len := 1) rfl
theorem u_44_5 (P : PL) (st : List PV) (G : PW) : pm_dn pm_sC 44 5 P st G = pm_go pm_sC 44 G (pm_oIL 1 6 P st G) := pm_dn_eq (i := .iload_n 1) (len := 1) rfl
theorem u_44_6 (P : PL) (st : List PV) (G : PW) : pm_dn pm_sC 44 6 P st G = pm_go pm_sC 44 G (pm_oK 1 7 P st G) := pm_dn_eq (i := .iconst 1) (len := 1) rfl
theorem u_44_7 (P : PL) (st : List PV) (G : PW) : pm_dn pm_sC 44 7 P st G = pm_go pm_sC 44 G (pm_oSub 8 P st G) := pm_dn_eq (i := .isub) (len := 1) rfl
theorem u_44_8 (P : PL) (st : List PV) (G : PW) : pm_dn pm_sC 44 8 P st G = pm_go pm_sC 44 G (pm_oCv pm_sC 37 1 2 2 11 P st G) := pm_dn_eq (i := .invokevirtual 28) (len := 3) rfl
theorem u_44_11 (P : PL) (st : List PV) (G : PW) : pm_dn pm_sC 44 11 P st G = pm_go pm_sC 44 G (pm_oK 44 13 P st G) := pm_dn_eq (i := .bipush 44) (len := 2) rfl
theorem u_44_13 (P : PL) (st : List PV) (G : PW) : pm_dn pm_sC 44 13 P st G = pm_go pm_sC 44 G (pm_oIc .ne (some 20) 16 P st G) := pm_dn_eq (i := .if_icmp .ne 7) (len := 3) rfl
theorem u_44_16 (P : PL) (st : List PV) (G : PW) : pm_dn pm_sC 44 16 P st G = pm_go pm_sC 44 G (pm_oK 1 17 P st G) := pm_dn_eq (i := .iconst 1) (len := 1) rfl
theorem u_44_17 (P : PL) (st : List PV) (G : PW) : pm_dn pm_sC 44 17 P st G = pm_go pm_sC 44 G (pm_oGo (some 21) P st G) := pm_dn_eq (i := .goto 4) (len := 3) rfl
theorem u_44_20 (P : PL) (st : List PV) (G : PW) : pm_dn pm_sC 44 20 P st G = pm_go pm_sC 44 G (pm_oK 0 21 P st G) := pm_dn_eq (i := .iconst 0) (len := 1) rfl
theorem u_44_21 (P : PL) (st : List PV) (G : PW) : pm_dn pm_sC 44 21 P st G = pm_go pm_sC 44 G (pm_oRi 2 P st G) := pm_dn_eq (i := .ireturn) (len := 1) rfl
theorem ue_45 (a0 : Nat) (a1 : Int) (G : PW) : pm_ca pm_sC 45 [.inr (.inr a0), .inl a1] G = pm_dn pm_sC 45 0 [some (.inr (.inr a0)), some (.inl a1)] [] G := rfl
theorem u_45_0 (P : PL) (st : List PV) (G : PW) : pm_dn pm_sC 45 0 P st G = pm_go pm_sC 45 G (pm_oAL 0 1 P st G) := pm_dn_eq (i := .aload_n 0) (len := 1) rfl
theorem u_45_1 (P : PL) (st : List PV) (G : PW) : pm_dn pm_sC 45 1 P st G = pm_go pm_sC 45 G (pm_oIL 1 2 P st G) := pm_dn_eq (i := .iload_n 1) (len := 1) rfl
theorem u_45_2 (P : PL) (st : List PV) (G : PW) : pm_dn pm_sC 45 2 P st G = pm_go pm_sC 45 G (pm_oCv pm_sC 37 1 2 2 5 P st G) := pm_dn_eq (i := .invokevirtual 28) (len := 3) rfl
theorem u_45_5 (P : PL) (st : List PV) (G : PW) : pm_dn pm_sC 45 5 P st G = pm_go pm_sC 45 G (pm_oK 119 7 P st G) := pm_dn_eq (i := .bipush 119) (len := 2) rfl
theorem u_45_7 (P : PL) (st : List PV) (G : PW) : pm_dn pm_sC 45 7 P st G = pm_go pm_sC 45 G (pm_oIc .ne (some 14) 10 P st G) := pm_dn_eq (i := .if_icmp .ne 7) (len := 3) rfl
theorem u_45_10 (P : PL) (st : List PV) (G : PW) : pm_dn pm_sC 45 10 P st G = pm_go pm_sC 45 G (pm_oK 1 11 P st G) := pm_dn_eq (i := .iconst 1) (len := 1) rfl
theorem u_45_11 (P : PL) (st : List PV) (G : PW) : pm_dn pm_sC 45 11 P st G = pm_go pm_sC 45 G (pm_oGo (some 15) P st G) := pm_dn_eq (i := .goto 4) (len := 3) rfl
theorem u_45_14 (P : PL) (st : List PV) (G : PW) : pm_dn pm_sC 45 14 P st G = pm_go pm_sC 45 G (pm_oK 0 15 P st G) := pm_dn_eq (i := .iconst 0) (len := 1) rfl
theorem u_45_15 (P : PL) (st : List PV) (G : PW) : pm_dn pm_sC 45 15 P st G = pm_go pm_sC 45 G (pm_oRi 2 P st G) := pm_dn_eq (i := .ireturn) (len := 1) rfl
theorem ue_46 (a0 : Nat) (a1 : Int) (G : PW) : pm_ca pm_sC 46 [.inr (.inr a0), .inl a1] G = pm_dn pm_sC 46 0 [some (.inr (.inr a0)), some (.inl a1), none, none] [] G := rfl
theorem u_46_0 (P : PL) (st : List PV) (G : PW) : pm_dn pm_sC 46 0 P st G = pm_go pm_sC 46 G (pm_oK 0 1 P st G) := pm_dn_eq (i := .iconst 0) (len := 1) rfl
theorem u_46_1 (P : PL) (st : List PV) (G : PW) : pm_dn pm_sC 46 1 P st G = pm_go pm_sC 46 G (pm_oIS 2 2 P st G) := pm_dn_eq (i := .istore_n 2) (len := 1) rfl
theorem u_46_2 (P : PL) (st : List PV) (G : PW) : pm_dn pm_sC 46 2 P st G = pm_go pm_sC 46 G (pm_oAL 0 3 P st G) := pm_dn_eq (i := .aload_n 0) (len := 1) rfl
theorem u_46_3 (P : PL) (st : List PV) (G : PW) : pm_dn pm_sC 46 3 P st G = pm_go pm_sC 46 G (pm_oIL 1 4 P st G) := pm_dn_eq (i := .iload_n 1) (len := 1) rfl
theorem u_46_4 (P : PL) (st : List PV) (G : PW) : pm_dn pm_sC 46 4 P st G = pm_go pm_sC 46 G (pm_oCv pm_sC 45 1 2 2 7 P st G) := pm_dn_eq (i := .invokevirtual 53) (len := 3) rfl
theorem u_46_7 (P : PL) (st : List PV) (G : PW) : pm_dn pm_sC 46 7 P st G = pm_go pm_sC 46 G (pm_oIf .eq (some 16) 10 P st G) := pm_dn_eq (i := .ifCond .eq 9) (len := 3) rfl
theorem u_46_10 (P : PL) (st : List PV) (G : PW) : pm_dn pm_sC 46 10 P st G = pm_go pm_sC 46 G (pm_oIL 1 11 P st G) := pm_dn_eq (i := .iload_n 1) (len := 1) rfl
theorem u_46_11 (P : PL) (st : List PV) (G : PW) : pm_dn pm_sC 46 11 P st G = pm_go pm_sC 46 G (pm_oK 1 12 P st G) := pm_dn_eq (i := .iconst 1) (len := 1) rfl
theorem u_46_12 (P : PL) (st : List PV) (G : PW) : pm_dn pm_sC 46 12 P st G = pm_go pm_sC 46 G (pm_oAdd 13 P st G) := pm_dn_eq (i := .iadd) (len := 1) rfl
theorem u_46_13 (P : PL) (st : List PV) (G : PW) : pm_dn pm_sC 46 13 P st G = pm_go pm_sC 46 G (pm_oGo (some 17) P st G) := pm_dn_eq (i := .goto 4) (len := 3) rfl
theorem u_46_16 (P : PL) (st : List PV) (G : PW) : pm_dn pm_sC 46 16 P st G = pm_go pm_sC 46 G (pm_oIL 1 17 P st G) := pm_dn_eq (i := .iload_n 1) (len := 1) rfl
theorem u_46_17 (P : PL) (st : List PV) (G : PW) : pm_dn pm_sC 46 17 P st G = pm_go pm_sC 46 G (pm_oIS 3 18 P st G) := pm_dn_eq (i := .istore_n 3) (len := 1) rfl
theorem u_46_18 (P : PL) (st : List PV) (G : PW) : pm_dn pm_sC 46 18 P st G = pm_go pm_sC 46 G (pm_oIL 3 19 P st G) := pm_dn_eq (i := .iload_n 3) (len := 1) rfl
theorem u_46_19 (P : PL) (st : List PV) (G : PW) : pm_dn pm_sC 46 19 P st G = pm_go pm_sC 46 G (pm_oAL 0 20 P st G) := pm_dn_eq (i := .aload_n 0) (len := 1) rfl
theorem u_46_20 (P : PL) (st : List PV) (G : PW) : pm_dn pm_sC 46 20 P st G = pm_go pm_sC 46 G (pm_oGf pm_sC 2 1 23 P st G) := pm_dn_eq (i := .getfield 21) (len := 3) rfl
theorem u_46_23 (P : PL) (st : List PV) (G : PW) : pm_dn pm_sC 46 23 P st G = pm_go pm_sC 46 G (pm_oIc .ge (some 57) 26 P st G) := pm_dn_eq (i := .if_icmp .ge 34) (len := 3) rfl
theorem u_46_26 (P : PL) (st : List PV) (G : PW) : pm_dn pm_sC 46 26 P st G = pm_go pm_sC 46 G (pm_oAL 0 27 P st G) := pm_dn_eq (i := .aload_n 0) (len := 1) rfl
theorem u_46_27 (P : PL) (st : List PV) (G : PW) : pm_dn pm_sC 46 27 P st G = pm_go pm_sC 46 G (pm_oIL 3 28 P st G) := pm_dn_eq (i := .iload_n 3) (len := 1) rfl
theorem u_46_28 (P : PL) (st : List PV) (G : PW) : pm_dn pm_sC 46 28 P st G = pm_go pm_sC 46 G (pm_oCv pm_sC 37 1 2 2 31 P st G) := pm_dn_eq (i := .invokevirtual 28) (len := 3) rfl
theorem u_46_31 (P : PL) (st : List PV) (G : PW) : pm_dn pm_sC 46 31 P st G = pm_go pm_sC 46 G (pm_oCs 43 1 1 34 P st G) := pm_dn_eq (i := .invokestatic 47) (len := 3) rfl
theorem u_46_34 (P : PL) (st : List PV) (G : PW) : pm_dn pm_sC 46 34 P st G = pm_go pm_sC 46 G (pm_oIf .eq (some 57) 37 P st G) := pm_dn_eq (i := .ifCond .eq 23) (len := 3) rfl
theorem u_46_37 (P : PL) (st : List PV) (G : PW) : pm_dn pm_sC 46 37 P st G = pm_go pm_sC 46 G (pm_oK 10 39 P st G) := pm_dn_eq (i := .bipush 10) (len := 2) rfl
theorem u_46_39 (P : PL) (st : List PV) (G : PW) : pm_dn pm_sC 46 39 P st G = pm_go pm_sC 46 G (pm_oIL 2 40 P st G) := pm_dn_eq (i := .iload_n 2) (len := 1) rfl
theorem u_46_40 (P : PL) (st : List PV) (G : PW) : pm_dn pm_sC 46 40 P st G = pm_go pm_sC 46 G (pm_oMul 41 P st G) := pm_dn_eq (i := .imul) (len := 1) rfl
theorem u_46_41 (P : PL) (st : List PV) (G : PW) : pm_dn pm_sC 46 41 P st G = pm_go pm_sC 46 G (pm_oAL 0 42 P st G) := pm_dn_eq (i := .aload_n 0) (len := 1) rfl
theorem u_46_42 (P : PL) (st : List PV) (G : PW) : pm_dn pm_sC 46 42 P st G = pm_go pm_sC 46 G (pm_oIL 3 43 P st G) := pm_dn_eq (i := .iload_n 3) (len := 1) rfl
theorem u_46_43 (P : PL) (st : List PV) (G : PW) : pm_dn pm_sC 46 43 P st G = pm_go pm_sC 46 G (pm_oCv pm_sC 37 1 2 2 46 P st G) := pm_dn_eq (i := .invokevirtual 28) (len := 3) rfl
theorem u_46_46 (P : PL) (st : List PV) (G : PW) : pm_dn pm_sC 46 46 P st G = pm_go pm_sC 46 G (pm_oK 48 48 P st G) := pm_dn_eq (i := .bipush 48) (len := 2) rfl
theorem u_46_48 (P : PL) (st : List PV) (G : PW) : pm_dn pm_sC 46 48 P st G = pm_go pm_sC 46 G (pm_oSub 49 P st G) := pm_dn_eq (i := .isub) (len := 1) rfl
theorem u_46_49 (P : PL) (st : List PV) (G : PW) : pm_dn pm_sC 46 49 P st G = pm_go pm_sC 46 G (pm_oAdd 50 P st G) := pm_dn_eq (i := .iadd) (len := 1) rfl
theorem u_46_50 (P : PL) (st : List PV) (G : PW) : pm_dn pm_sC 46 50 P st G = pm_go pm_sC 46 G (pm_oIS 2 51 P st G) := pm_dn_eq (i := .istore_n 2) (len := 1) rfl
theorem u_46_51 (P : PL) (st : List PV) (G : PW) : pm_dn pm_sC 46 51 P st G = pm_go pm_sC 46 G (pm_oInc 3 1 54 P st G) := pm_dn_eq (i := .iinc 3 1) (len := 3) rfl
theorem u_46_54 (P : PL) (st : List PV) (G : PW) : pm_dn pm_sC 46 54 P st G = pm_go pm_sC 46 G (pm_oGo (some 18) P st G) := pm_dn_eq (i := .goto (-36)) (len := 3) rfl
theorem u_46_57 (P : PL) (st : List PV) (G : PW) : pm_dn pm_sC 46 57 P st G = pm_go pm_sC 46 G (pm_oIL 2 58 P st G) := pm_dn_eq (i := .iload_n 2) (len := 1) rfl
theorem u_46_58 (P : PL) (st : List PV) (G : PW) : pm_dn pm_sC 46 58 P st G = pm_go pm_sC 46 G (pm_oRi 0 P st G) := pm_dn_eq (i := .ireturn) (len := 1) rfl
theorem ue_47 (a0 : Nat) (a1 : Int) (G : PW) : pm_ca pm_sC 47 [.inr (.inr a0), .inl a1] G = pm_dn pm_sC 47 0 [some (.inr (.inr a0)), some (.inl a1), none] [] G := rfl
theorem u_47_0 (P : PL) (st : List PV) (G : PW) : pm_dn pm_sC 47 0 P st G = pm_go pm_sC 47 G (pm_oIL 1 1 P st G) := pm_dn_eq (i := .iload_n 1) (len := 1) rfl
theorem u_47_1 (P : PL) (st : List PV) (G : PW) : pm_dn pm_sC 47 1 P st G = pm_go pm_sC 47 G (pm_oIS 2 2 P st G) := pm_dn_eq (i := .istore_n 2) (len := 1) rfl
theorem u_47_2 (P : PL) (st : List PV) (G : PW) : pm_dn pm_sC 47 2 P st G = pm_go pm_sC 47 G (pm_oIL 2 3 P st G) := pm_dn_eq (i := .iload_n 2) (len := 1) rfl
theorem u_47_3 (P : PL) (st : List PV) (G : PW) : pm_dn pm_sC 47 3 P st G = pm_go pm_sC 47 G (pm_oAL 0 4 P st G) := pm_dn_eq (i := .aload_n 0) (len := 1) rfl
theorem u_47_4 (P : PL) (st : List PV) (G : PW) : pm_dn pm_sC 47 4 P st G = pm_go pm_sC 47 G (pm_oGf pm_sC 2 1 7 P st G) := pm_dn_eq (i := .getfield 21) (len := 3) rfl
theorem u_47_7 (P : PL) (st : List PV) (G : PW) : pm_dn pm_sC 47 7 P st G = pm_go pm_sC 47 G (pm_oIc .ge (some 27) 10 P st G) := pm_dn_eq (i := .if_icmp .ge 20) (len := 3) rfl
theorem u_47_10 (P : PL) (st : List PV) (G : PW) : pm_dn pm_sC 47 10 P st G = pm_go pm_sC 47 G (pm_oAL 0 11 P st G) := pm_dn_eq (i := .aload_n 0) (len := 1) rfl
theorem u_47_11 (P : PL) (st : List PV) (G : PW) : pm_dn pm_sC 47 11 P st G = pm_go pm_sC 47 G (pm_oIL 2 12 P st G) := pm_dn_eq (i := .iload_n 2) (len := 1) rfl
theorem u_47_12 (P : PL) (st : List PV) (G : PW) : pm_dn pm_sC 47 12 P st G = pm_go pm_sC 47 G (pm_oCv pm_sC 37 1 2 2 15 P st G) := pm_dn_eq (i := .invokevirtual 28) (len := 3) rfl
theorem u_47_15 (P : PL) (st : List PV) (G : PW) : pm_dn pm_sC 47 15 P st G = pm_go pm_sC 47 G (pm_oCs 43 1 1 18 P st G) := pm_dn_eq (i := .invokestatic 47) (len := 3) rfl
theorem u_47_18 (P : PL) (st : List PV) (G : PW) : pm_dn pm_sC 47 18 P st G = pm_go pm_sC 47 G (pm_oIf .eq (some 27) 21 P st G) := pm_dn_eq (i := .ifCond .eq 9) (len := 3) rfl
theorem u_47_21 (P : PL) (st : List PV) (G : PW) : pm_dn pm_sC 47 21 P st G = pm_go pm_sC 47 G (pm_oInc 2 1 24 P st G) := pm_dn_eq (i := .iinc 2 1) (len := 3) rfl
theorem u_47_24 (P : PL) (st : List PV) (G : PW) : pm_dn pm_sC 47 24 P st G = pm_go pm_sC 47 G (pm_oGo (some 2) P st G) := pm_dn_eq (i := .goto (-22)) (len := 3) rfl
theorem u_47_27 (P : PL) (st : List PV) (G : PW) : pm_dn pm_sC 47 27 P st G = pm_go pm_sC 47 G (pm_oAL 0 28 P st G) := pm_dn_eq (i := .aload_n 0) (len := 1) rfl
theorem u_47_28 (P : PL) (st : List PV) (G : PW) : pm_dn pm_sC 47 28 P st G = pm_go pm_sC 47 G (pm_oIL 2 29 P st G) := pm_dn_eq (i := .iload_n 2) (len := 1) rfl
theorem u_47_29 (P : PL) (st : List PV) (G : PW) : pm_dn pm_sC 47 29 P st G = pm_go pm_sC 47 G (pm_oCv pm_sC 37 1 2 2 32 P st G) := pm_dn_eq (i := .invokevirtual 28) (len := 3) rfl
theorem u_47_32 (P : PL) (st : List PV) (G : PW) : pm_dn pm_sC 47 32 P st G = pm_go pm_sC 47 G (pm_oK 97 34 P st G) := pm_dn_eq (i := .bipush 97) (len := 2) rfl
theorem u_47_34 (P : PL) (st : List PV) (G : PW) : pm_dn pm_sC 47 34 P st G = pm_go pm_sC 47 G (pm_oIc .ne (some 41) 37 P st G) := pm_dn_eq (i := .if_icmp .ne 7) (len := 3) rfl
theorem u_47_37 (P : PL) (st : List PV) (G : PW) : pm_dn pm_sC 47 37 P st G = pm_go pm_sC 47 G (pm_oK 0 38 P st G) := pm_dn_eq (i := .iconst 0) (len := 1) rfl
theorem u_47_38 (P : PL) (st : List PV) (G : PW) : pm_dn pm_sC 47 38 P st G = pm_go pm_sC 47 G (pm_oGo (some 42) P st G) := pm_dn_eq (i := .goto 4) (len := 3) rfl
theorem u_47_41 (P : PL) (st : List PV) (G : PW) : pm_dn pm_sC 47 41 P st G = pm_go pm_sC 47 G (pm_oK 1 42 P st G) := pm_dn_eq (i := .iconst 1) (len := 1) rfl
theorem u_47_42 (P : PL) (st : List PV) (G : PW) : pm_dn pm_sC 47 42 P st G = pm_go pm_sC 47 G (pm_oRi 0 P st G) := pm_dn_eq (i := .ireturn) (len := 1) rfl
theorem ue_48 (a0 : Nat) (a1 : Int) (a2 : Int) (G : PW) : pm_ca pm_sC 48 [.inr (.inr a0), .inl a1, .inl a2] G = pm_dn pm_sC 48 0 [some (.inr (.inr a0)), some (.inl a1), some (.inl a2)] [] G := rfl
theorem u_48_0 (P : PL) (st : List PV) (G : PW) : pm_dn pm_sC 48 0 P st G = pm_go pm_sC 48 G (pm_oAL 0 1 P st G) := pm_dn_eq (i := .aload_n 0) (len := 1) rfl
theorem u_48_1 (P : PL) (st : List PV) (G : PW) : pm_dn pm_sC 48 1 P st G = pm_go pm_sC 48 G (pm_oIL 1 2 P st G) := pm_dn_eq (i := .iload_n 1) (len := 1) rfl
theorem u_48_2 (P : PL) (st : List PV) (G : PW) : pm_dn pm_sC 48 2 P st G = pm_go pm_sC 48 G (pm_oPf pm_sC 3 0 0 5 P st G) := pm_dn_eq (i := .putfield 39) (len := 3) rfl
theorem u_48_5 (P : PL) (st : List PV) (G : PW) : pm_dn pm_sC 48 5 P st G = pm_go pm_sC 48 G (pm_oAL 0 6 P st G) := pm_dn_eq (i := .aload_n 0) (len := 1) rfl
theorem u_48_6 (P : PL) (st : List PV) (G : PW) : pm_dn pm_sC 48 6 P st G = pm_go pm_sC 48 G (pm_oIL 2 7 P st G) := pm_dn_eq (i := .iload_n 2) (len := 1) rfl
theorem u_48_7 (P : PL) (st : List PV) (G : PW) : pm_dn pm_sC 48 7 P st G = pm_go pm_sC 48 G (pm_oPf pm_sC 3 1 0 10 P st G) := pm_dn_eq (i := .putfield 43) (len := 3) rfl
theorem u_48_10 (P : PL) (st : List PV) (G : PW) : pm_dn pm_sC 48 10 P st G = pm_go pm_sC 48 G (pm_oAL 0 11 P st G) := pm_dn_eq (i := .aload_n 0) (len := 1) rfl
theorem u_48_11 (P : PL) (st : List PV) (G : PW) : pm_dn pm_sC 48 11 P st G = pm_go pm_sC 48 G (pm_oK 4 12 P st G) := pm_dn_eq (i := .iconst 4) (len := 1) rfl
theorem u_48_12 (P : PL) (st : List PV) (G : PW) : pm_dn pm_sC 48 12 P st G = pm_go pm_sC 48 G (pm_oPf pm_sC 3 2 0 15 P st G) := pm_dn_eq (i := .putfield 46) (len := 3) rfl
theorem u_48_15 (P : PL) (st : List PV) (G : PW) : pm_dn pm_sC 48 15 P st G = pm_go pm_sC 48 G (pm_oAL 0 16 P st G) := pm_dn_eq (i := .aload_n 0) (len := 1) rfl
theorem u_48_16 (P : PL) (st : List PV) (G : PW) : pm_dn pm_sC 48 16 P st G = pm_go pm_sC 48 G (pm_oK 2 17 P st G) := pm_dn_eq (i := .iconst 2) (len := 1) rfl
theorem u_48_17 (P : PL) (st : List PV) (G : PW) : pm_dn pm_sC 48 17 P st G = pm_go pm_sC 48 G (pm_oPf pm_sC 3 3 0 20 P st G) := pm_dn_eq (i := .putfield 49) (len := 3) rfl
theorem u_48_20 (P : PL) (st : List PV) (G : PW) : pm_dn pm_sC 48 20 P st G = pm_go pm_sC 48 G (pm_oAL 0 21 P st G) := pm_dn_eq (i := .aload_n 0) (len := 1) rfl
theorem u_48_21 (P : PL) (st : List PV) (G : PW) : pm_dn pm_sC 48 21 P st G = pm_go pm_sC 48 G (pm_oGf pm_sC 3 2 24 P st G) := pm_dn_eq (i := .getfield 46) (len := 3) rfl
theorem u_48_24 (P : PL) (st : List PV) (G : PW) : pm_dn pm_sC 48 24 P st G = pm_go pm_sC 48 G (pm_oAL 0 25 P st G) := pm_dn_eq (i := .aload_n 0) (len := 1) rfl
theorem u_48_25 (P : PL) (st : List PV) (G : PW) : pm_dn pm_sC 48 25 P st G = pm_go pm_sC 48 G (pm_oGf pm_sC 3 0 28 P st G) := pm_dn_eq (i := .getfield 39) (len := 3) rfl
theorem u_48_28 (P : PL) (st : List PV) (G : PW) : pm_dn pm_sC 48 28 P st G = pm_go pm_sC 48 G (pm_oIc .ge (some 63) 31 P st G) := pm_dn_eq (i := .if_icmp .ge 35) (len := 3) rfl
theorem u_48_31 (P : PL) (st : List PV) (G : PW) : pm_dn pm_sC 48 31 P st G = pm_go pm_sC 48 G (pm_oAL 0 32 P st G) := pm_dn_eq (i := .aload_n 0) (len := 1) rfl
theorem u_48_32 (P : PL) (st : List PV) (G : PW) : pm_dn pm_sC 48 32 P st G = pm_go pm_sC 48 G (pm_oGf pm_sC 3 2 35 P st G) := pm_dn_eq (i := .getfield 46) (len := 3) rfl
theorem u_48_35 (P : PL) (st : List PV) (G : PW) : pm_dn pm_sC 48 35 P st G = pm_go pm_sC 48 G (pm_oK 16 37 P st G) := pm_dn_eq (i := .bipush 16) (len := 2) rfl
theorem u_48_37 (P : PL) (st : List PV) (G : PW) : pm_dn pm_sC 48 37 P st G = pm_go pm_sC 48 G (pm_oIc .ge (some 63) 40 P st G) := pm_dn_eq (i := .if_icmp .ge 26) (len := 3) rfl
theorem u_48_40 (P : PL) (st : List PV) (G : PW) : pm_dn pm_sC 48 40 P st G = pm_go pm_sC 48 G (pm_oAL 0 41 P st G) := pm_dn_eq (i := .aload_n 0) (len := 1) rfl
theorem u_48_41 (P : PL) (st : List PV) (G : PW) : pm_dn pm_sC 48 41 P st G = pm_go pm_sC 48 G (pm_oDup 42 P st G) := pm_dn_eq (i := .dup) (len := 1) rfl
theorem u_48_42 (P : PL) (st : List PV) (G : PW) : pm_dn pm_sC 48 42 P st G = pm_go pm_sC 48 G (pm_oGf pm_sC 3 2 45 P st G) := pm_dn_eq (i := .getfield 46) (len := 3) rfl
theorem u_48_45 (P : PL) (st : List PV) (G : PW) : pm_dn pm_sC 48 45 P st G = pm_go pm_sC 48 G (pm_oK 2 46 P st G) := pm_dn_eq (i := .iconst 2) (len := 1) rfl
theorem u_48_46 (P : PL) (st : List PV) (G : PW) : pm_dn pm_sC 48 46 P st G = pm_go pm_sC 48 G (pm_oMul 47 P st G) := pm_dn_eq (i := .imul) (len := 1) rfl
theorem u_48_47 (P : PL) (st : List PV) (G : PW) : pm_dn pm_sC 48 47 P st G = pm_go pm_sC 48 G (pm_oPf pm_sC 3 2 0 50 P st G) := pm_dn_eq (i := .putfield 46) (len := 3) rfl
theorem u_48_50 (P : PL) (st : List PV) (G : PW) : pm_dn pm_sC 48 50 P st G = pm_go pm_sC 48 G (pm_oAL 0 51 P st G) := pm_dn_eq (i := .aload_n 0) (len := 1) rfl
theorem u_48_51 (P : PL) (st : List PV) (G : PW) : pm_dn pm_sC 48 51 P st G = pm_go pm_sC 48 G (pm_oDup 52 P st G) := pm_dn_eq (i := .dup) (len := 1) rfl
theorem u_48_52 (P : PL) (st : List PV) (G : PW) : pm_dn pm_sC 48 52 P st G = pm_go pm_sC 48 G (pm_oGf pm_sC 3 3 55 P st G) := pm_dn_eq (i := .getfield 49) (len := 3) rfl
theorem u_48_55 (P : PL) (st : List PV) (G : PW) : pm_dn pm_sC 48 55 P st G = pm_go pm_sC 48 G (pm_oK 1 56 P st G) := pm_dn_eq (i := .iconst 1) (len := 1) rfl
theorem u_48_56 (P : PL) (st : List PV) (G : PW) : pm_dn pm_sC 48 56 P st G = pm_go pm_sC 48 G (pm_oAdd 57 P st G) := pm_dn_eq (i := .iadd) (len := 1) rfl
theorem u_48_57 (P : PL) (st : List PV) (G : PW) : pm_dn pm_sC 48 57 P st G = pm_go pm_sC 48 G (pm_oPf pm_sC 3 3 0 60 P st G) := pm_dn_eq (i := .putfield 49) (len := 3) rfl
theorem u_48_60 (P : PL) (st : List PV) (G : PW) : pm_dn pm_sC 48 60 P st G = pm_go pm_sC 48 G (pm_oGo (some 20) P st G) := pm_dn_eq (i := .goto (-40)) (len := 3) rfl
theorem u_48_63 (P : PL) (st : List PV) (G : PW) : pm_dn pm_sC 48 63 P st G = pm_go pm_sC 48 G (pm_oAL 0 64 P st G) := pm_dn_eq (i := .aload_n 0) (len := 1) rfl
theorem u_48_64 (P : PL) (st : List PV) (G : PW) : pm_dn pm_sC 48 64 P st G = pm_go pm_sC 48 G (pm_oK 2 65 P st G) := pm_dn_eq (i := .iconst 2) (len := 1) rfl
theorem u_48_65 (P : PL) (st : List PV) (G : PW) : pm_dn pm_sC 48 65 P st G = pm_go pm_sC 48 G (pm_oAL 0 66 P st G) := pm_dn_eq (i := .aload_n 0) (len := 1) rfl
theorem u_48_66 (P : PL) (st : List PV) (G : PW) : pm_dn pm_sC 48 66 P st G = pm_go pm_sC 48 G (pm_oGf pm_sC 3 2 69 P st G) := pm_dn_eq (i := .getfield 46) (len := 3) rfl
theorem u_48_69 (P : PL) (st : List PV) (G : PW) : pm_dn pm_sC 48 69 P st G = pm_go pm_sC 48 G (pm_oMul 70 P st G) := pm_dn_eq (i := .imul) (len := 1) rfl
theorem u_48_70 (P : PL) (st : List PV) (G : PW) : pm_dn pm_sC 48 70 P st G = pm_go pm_sC 48 G (pm_oK 1 71 P st G) := pm_dn_eq (i := .iconst 1) (len := 1) rfl
theorem u_48_71 (P : PL) (st : List PV) (G : PW) : pm_dn pm_sC 48 71 P st G = pm_go pm_sC 48 G (pm_oSub 72 P st G) := pm_dn_eq (i := .isub) (len := 1) rfl
theorem u_48_72 (P : PL) (st : List PV) (G : PW) : pm_dn pm_sC 48 72 P st G = pm_go pm_sC 48 G (pm_oPf pm_sC 3 4 0 75 P st G) := pm_dn_eq (i := .putfield 52) (len := 3) rfl
theorem u_48_75 (P : PL) (st : List PV) (G : PW) : pm_dn pm_sC 48 75 P st G = pm_go pm_sC 48 G (pm_oAL 0 76 P st G) := pm_dn_eq (i := .aload_n 0) (len := 1) rfl
theorem u_48_76 (P : PL) (st : List PV) (G : PW) : pm_dn pm_sC 48 76 P st G = pm_go pm_sC 48 G (pm_oCv pm_sC 61 0 4 3 79 P st G) := pm_dn_eq (i := .invokevirtual 55) (len := 3) rfl
theorem u_48_79 (P : PL) (st : List PV) (G : PW) : pm_dn pm_sC 48 79 P st G = pm_go pm_sC 48 G (pm_oAL 0 80 P st G) := pm_dn_eq (i := .aload_n 0) (len := 1) rfl
theorem u_48_80 (P : PL) (st : List PV) (G : PW) : pm_dn pm_sC 48 80 P st G = pm_go pm_sC 48 G (pm_oCv pm_sC 62 0 4 3 83 P st G) := pm_dn_eq (i := .invokevirtual 58) (len := 3) rfl
theorem u_48_83 (P : PL) (st : List PV) (G : PW) : pm_dn pm_sC 48 83 P st G = pm_go pm_sC 48 G (pm_oAL 0 84 P st G) := pm_dn_eq (i := .aload_n 0) (len := 1) rfl
theorem u_48_84 (P : PL) (st : List PV) (G : PW) : pm_dn pm_sC 48 84 P st G = pm_go pm_sC 48 G (pm_oAL 0 85 P st G) := pm_dn_eq (i := .aload_n 0) (len := 1) rfl
theorem u_48_85 (P : PL) (st : List PV) (G : PW) : pm_dn pm_sC 48 85 P st G = pm_go pm_sC 48 G (pm_oCv pm_sC 51 0 1 3 88 P st G) := pm_dn_eq (i := .invokevirtual 61) (len := 3) rfl
theorem u_48_88 (P : PL) (st : List PV) (G : PW) : pm_dn pm_sC 48 88 P st G = pm_go pm_sC 48 G (pm_oK 2 89 P st G) := pm_dn_eq (i := .iconst 2) (len := 1) rfl
theorem u_48_89 (P : PL) (st : List PV) (G : PW) : pm_dn pm_sC 48 89 P st G = pm_go pm_sC 48 G (pm_oK 1 90 P st G) := pm_dn_eq (i := .iconst 1) (len := 1) rfl
theorem u_48_90 (P : PL) (st : List PV) (G : PW) : pm_dn pm_sC 48 90 P st G = pm_go pm_sC 48 G (pm_oK 0 91 P st G) := pm_dn_eq (i := .iconst 0) (len := 1) rfl
theorem u_48_91 (P : PL) (st : List PV) (G : PW) : pm_dn pm_sC 48 91 P st G = pm_go pm_sC 48 G (pm_oCv pm_sC 60 4 5 3 94 P st G) := pm_dn_eq (i := .invokevirtual 65) (len := 3) rfl
theorem u_48_94 (P : PL) (st : List PV) (G : PW) : pm_dn pm_sC 48 94 P st G = pm_go pm_sC 48 G (pm_oAL 0 95 P st G) := pm_dn_eq (i := .aload_n 0) (len := 1) rfl
theorem u_48_95 (P : PL) (st : List PV) (G : PW) : pm_dn pm_sC 48 95 P st G = pm_go pm_sC 48 G (pm_oAL 0 96 P st G) := pm_dn_eq (i := .aload_n 0) (len := 1) rfl
theorem u_48_96 (P : PL) (st : List PV) (G : PW) : pm_dn pm_sC 48 96 P st G = pm_go pm_sC 48 G (pm_oCv pm_sC 52 0 1 3 99 P st G) := pm_dn_eq (i := .invokevirtual 69) (len := 3) rfl
theorem u_48_99 (P : PL) (st : List PV) (G : PW) : pm_dn pm_sC 48 99 P st G = pm_go pm_sC 48 G (pm_oK 2 100 P st G) := pm_dn_eq (i := .iconst 2) (len := 1) rfl
theorem u_48_100 (P : PL) (st : List PV) (G : PW) : pm_dn pm_sC 48 100 P st G = pm_go pm_sC 48 G (pm_oK 2 101 P st G) := pm_dn_eq (i := .iconst 2) (len := 1) rfl
theorem u_48_101 (P : PL) (st : List PV) (G : PW) : pm_dn pm_sC 48 101 P st G = pm_go pm_sC 48 G (pm_oK 0 102 P st G) := pm_dn_eq (i := .iconst 0) (len := 1) rfl
theorem u_48_102 (P : PL) (st : List PV) (G : PW) : pm_dn pm_sC 48 102 P st G = pm_go pm_sC 48 G (pm_oCv pm_sC 60 4 5 3 105 P st G) := pm_dn_eq (i := .invokevirtual 65) (len := 3) rfl
theorem u_48_105 (P : PL) (st : List PV) (G : PW) : pm_dn pm_sC 48 105 P st G = pm_go pm_sC 48 G (pm_oAL 0 106 P st G) := pm_dn_eq (i := .aload_n 0) (len := 1) rfl
theorem u_48_106 (P : PL) (st : List PV) (G : PW) : pm_dn pm_sC 48 106 P st G = pm_go pm_sC 48 G (pm_oCv pm_sC 66 0 4 3 109 P st G) := pm_dn_eq (i := .invokevirtual 72) (len := 3) rfl
theorem u_48_109 (P : PL) (st : List PV) (G : PW) : pm_dn pm_sC 48 109 P st G = pm_go pm_sC 48 G (pm_oAL 0 110 P st G) := pm_dn_eq (i := .aload_n 0) (len := 1) rfl
theorem u_48_110 (P : PL) (st : List PV) (G : PW) : pm_dn pm_sC 48 110 P st G = pm_go pm_sC 48 G (pm_oCv pm_sC 67 0 3 3 113 P st G) := pm_dn_eq (i := .invokevirtual 75) (len := 3) rfl
theorem u_48_113 (P : PL) (st : List PV) (G : PW) : pm_dn pm_sC 48 113 P st G = pm_go pm_sC 48 G (pm_oAL 0 114 P st G) := pm_dn_eq (i := .aload_n 0) (len := 1) rfl
theorem u_48_114 (P : PL) (st : List PV) (G : PW) : pm_dn pm_sC 48 114 P st G = pm_go pm_sC 48 G (pm_oCv pm_sC 69 0 7 3 117 P st G) := pm_dn_eq (i := .invokevirtual 78) (len := 3) rfl
theorem u_48_117 (P : PL) (st : List PV) (G : PW) : pm_dn pm_sC 48 117 P st G = pm_go pm_sC 48 G (pm_oRv P st G) := pm_dn_eq (i := .return_) (len := 1) rfl
theorem ue_49 (a0 : Nat) (a1 : Int) (G : PW) : pm_ca pm_sC 49 [.inr (.inr a0), .inl a1] G = pm_dn pm_sC 49 0 [some (.inr (.inr a0)), some (.inl a1)] [] G := rfl
theorem u_49_0 (P : PL) (st : List PV) (G : PW) : pm_dn pm_sC 49 0 P st G = pm_go pm_sC 49 G (pm_oIL 1 1 P st G) := pm_dn_eq (i := .iload_n 1) (len := 1) rfl
theorem u_49_1 (P : PL) (st : List PV) (G : PW) : pm_dn pm_sC 49 1 P st G = pm_go pm_sC 49 G (pm_oIf .lt (some 16) 4 P st G) := pm_dn_eq (i := .ifCond .lt 15) (len := 3) rfl
theorem u_49_4 (P : PL) (st : List PV) (G : PW) : pm_dn pm_sC 49 4 P st G = pm_go pm_sC 49 G (pm_oIL 1 5 P st G) := pm_dn_eq (i := .iload_n 1) (len := 1) rfl
theorem u_49_5 (P : PL) (st : List PV) (G : PW) : pm_dn pm_sC 49 5 P st G = pm_go pm_sC 49 G (pm_oAL 0 6 P st G) := pm_dn_eq (i := .aload_n 0) (len := 1) rfl
theorem u_49_6 (P : PL) (st : List PV) (G : PW) : pm_dn pm_sC 49 6 P st G = pm_go pm_sC 49 G (pm_oGf pm_sC 3 0 9 P st G) := pm_dn_eq (i := .getfield 39) (len := 3) rfl
theorem u_49_9 (P : PL) (st : List PV) (G : PW) : pm_dn pm_sC 49 9 P st G = pm_go pm_sC 49 G (pm_oIc .ge (some 16) 12 P st G) := pm_dn_eq (i := .if_icmp .ge 7) (len := 3) rfl
theorem u_49_12 (P : PL) (st : List PV) (G : PW) : pm_dn pm_sC 49 12 P st G = pm_go pm_sC 49 G (pm_oK 1 13 P st G) := pm_dn_eq (i := .iconst 1) (len := 1) rfl
theorem u_49_13 (P : PL) (st : List PV) (G : PW) : pm_dn pm_sC 49 13 P st G = pm_go pm_sC 49 G (pm_oGo (some 17) P st G) := pm_dn_eq (i := .goto 4) (len := 3) rfl
theorem u_49_16 (P : PL) (st : List PV) (G : PW) : pm_dn pm_sC 49 16 P st G = pm_go pm_sC 49 G (pm_oK 0 17 P st G) := pm_dn_eq (i := .iconst 0) (len := 1) rfl
theorem u_49_17 (P : PL) (st : List PV) (G : PW) : pm_dn pm_sC 49 17 P st G = pm_go pm_sC 49 G (pm_oRi 2 P st G) := pm_dn_eq (i := .ireturn) (len := 1) rfl
theorem ue_50 (a0 : Nat) (a1 : Int) (G : PW) : pm_ca pm_sC 50 [.inr (.inr a0), .inl a1] G = pm_dn pm_sC 50 0 [some (.inr (.inr a0)), some (.inl a1)] [] G := rfl
theorem u_50_0 (P : PL) (st : List PV) (G : PW) : pm_dn pm_sC 50 0 P st G = pm_go pm_sC 50 G (pm_oIL 1 1 P st G) := pm_dn_eq (i := .iload_n 1) (len := 1) rfl
theorem u_50_1 (P : PL) (st : List PV) (G : PW) : pm_dn pm_sC 50 1 P st G = pm_go pm_sC 50 G (pm_oIf .lt (some 16) 4 P st G) := pm_dn_eq (i := .ifCond .lt 15) (len := 3) rfl
theorem u_50_4 (P : PL) (st : List PV) (G : PW) : pm_dn pm_sC 50 4 P st G = pm_go pm_sC 50 G (pm_oIL 1 5 P st G) := pm_dn_eq (i := .iload_n 1) (len := 1) rfl
theorem u_50_5 (P : PL) (st : List PV) (G : PW) : pm_dn pm_sC 50 5 P st G = pm_go pm_sC 50 G (pm_oAL 0 6 P st G) := pm_dn_eq (i := .aload_n 0) (len := 1) rfl
theorem u_50_6 (P : PL) (st : List PV) (G : PW) : pm_dn pm_sC 50 6 P st G = pm_go pm_sC 50 G (pm_oGf pm_sC 3 4 9 P st G) := pm_dn_eq (i := .getfield 52) (len := 3) rfl
theorem u_50_9 (P : PL) (st : List PV) (G : PW) : pm_dn pm_sC 50 9 P st G = pm_go pm_sC 50 G (pm_oIc .ge (some 16) 12 P st G) := pm_dn_eq (i := .if_icmp .ge 7) (len := 3) rfl
theorem u_50_12 (P : PL) (st : List PV) (G : PW) : pm_dn pm_sC 50 12 P st G = pm_go pm_sC 50 G (pm_oK 1 13 P st G) := pm_dn_eq (i := .iconst 1) (len := 1) rfl
theorem u_50_13 (P : PL) (st : List PV) (G : PW) : pm_dn pm_sC 50 13 P st G = pm_go pm_sC 50 G (pm_oGo (some 17) P st G) := pm_dn_eq (i := .goto 4) (len := 3) rfl
theorem u_50_16 (P : PL) (st : List PV) (G : PW) : pm_dn pm_sC 50 16 P st G = pm_go pm_sC 50 G (pm_oK 0 17 P st G) := pm_dn_eq (i := .iconst 0) (len := 1) rfl
theorem u_50_17 (P : PL) (st : List PV) (G : PW) : pm_dn pm_sC 50 17 P st G = pm_go pm_sC 50 G (pm_oRi 2 P st G) := pm_dn_eq (i := .ireturn) (len := 1) rfl
theorem ue_51 (a0 : Nat) (G : PW) : pm_ca pm_sC 51 [.inr (.inr a0)] G = pm_dn pm_sC 51 0 [some (.inr (.inr a0))] [] G := rfl
theorem u_51_0 (P : PL) (st : List PV) (G : PW) : pm_dn pm_sC 51 0 P st G = pm_go pm_sC 51 G (pm_oK 2 1 P st G) := pm_dn_eq (i := .iconst 2) (len := 1) rfl
theorem u_51_1 (P : PL) (st : List PV) (G : PW) : pm_dn pm_sC 51 1 P st G = pm_go pm_sC 51 G (pm_oAL 0 2 P st G) := pm_dn_eq (i := .aload_n 0) (len := 1) rfl
theorem u_51_2 (P : PL) (st : List PV) (G : PW) : pm_dn pm_sC 51 2 P st G = pm_go pm_sC 51 G (pm_oGf pm_sC 3 2 5 P st G) := pm_dn_eq (i := .getfield 46) (len := 3) rfl
theorem u_51_5 (P : PL) (st : List PV) (G : PW) : pm_dn pm_sC 51 5 P st G = pm_go pm_sC 51 G (pm_oMul 6 P st G) := pm_dn_eq (i := .imul) (len := 1) rfl
theorem u_51_6 (P : PL) (st : List PV) (G : PW) : pm_dn pm_sC 51 6 P st G = pm_go pm_sC 51 G (pm_oK 3 7 P st G) := pm_dn_eq (i := .iconst 3) (len := 1) rfl
theorem u_51_7 (P : PL) (st : List PV) (G : PW) : pm_dn pm_sC 51 7 P st G = pm_go pm_sC 51 G (pm_oSub 8 P st G) := pm_dn_eq (i := .isub) (len := 1) rfl
theorem u_51_8 (P : PL) (st : List PV) (G : PW) : pm_dn pm_sC 51 8 P st G = pm_go pm_sC 51 G (pm_oRi 0 P st G) := pm_dn_eq (i := .ireturn) (len := 1) rfl
theorem ue_52 (a0 : Nat) (G : PW) : pm_ca pm_sC 52 [.inr (.inr a0)] G = pm_dn pm_sC 52 0 [some (.inr (.inr a0))] [] G := rfl
theorem u_52_0 (P : PL) (st : List PV) (G : PW) : pm_dn pm_sC 52 0 P st G = pm_go pm_sC 52 G (pm_oK 2 1 P st G) := pm_dn_eq (i := .iconst 2) (len := 1) rfl
theorem u_52_1 (P : PL) (st : List PV) (G : PW) : pm_dn pm_sC 52 1 P st G = pm_go pm_sC 52 G (pm_oAL 0 2 P st G) := pm_dn_eq (i := .aload_n 0) (len := 1) rfl
theorem u_52_2 (P : PL) (st : List PV) (G : PW) : pm_dn pm_sC 52 2 P st G = pm_go pm_sC 52 G (pm_oGf pm_sC 3 2 5 P st G) := pm_dn_eq (i := .getfield 46) (len := 3) rfl
theorem u_52_5 (P : PL) (st : List PV) (G : PW) : pm_dn pm_sC 52 5 P st G = pm_go pm_sC 52 G (pm_oMul 6 P st G) := pm_dn_eq (i := .imul) (len := 1) rfl
theorem u_52_6 (P : PL) (st : List PV) (G : PW) : pm_dn pm_sC 52 6 P st G = pm_go pm_sC 52 G (pm_oK 2 7 P st G) := pm_dn_eq (i := .iconst 2) (len := 1) rfl
theorem u_52_7 (P : PL) (st : List PV) (G : PW) : pm_dn pm_sC 52 7 P st G = pm_go pm_sC 52 G (pm_oSub 8 P st G) := pm_dn_eq (i := .isub) (len := 1) rfl
theorem u_52_8 (P : PL) (st : List PV) (G : PW) : pm_dn pm_sC 52 8 P st G = pm_go pm_sC 52 G (pm_oRi 0 P st G) := pm_dn_eq (i := .ireturn) (len := 1) rfl
theorem ue_53 (a0 : Nat) (a1 : Int) (a2 : Int) (G : PW) : pm_ca pm_sC 53 [.inr (.inr a0), .inl a1, .inl a2] G = pm_dn pm_sC 53 0 [some (.inr (.inr a0)), some (.inl a1), some (.inl a2), none, none, none] [] G := rfl
theorem u_53_0 (P : PL) (st : List PV) (G : PW) : pm_dn pm_sC 53 0 P st G = pm_go pm_sC 53 G (pm_oIL 1 1 P st G) := pm_dn_eq (i := .iload_n 1) (len := 1) rfl
theorem u_53_1 (P : PL) (st : List PV) (G : PW) : pm_dn pm_sC 53 1 P st G = pm_go pm_sC 53 G (pm_oIS 3 2 P st G) := pm_dn_eq (i := .istore_n 3) (len := 1) rfl
theorem u_53_2 (P : PL) (st : List PV) (G : PW) : pm_dn pm_sC 53 2 P st G = pm_go pm_sC 53 G (pm_oIL 2 3 P st G) := pm_dn_eq (i := .iload_n 2) (len := 1) rfl
theorem u_53_3 (P : PL) (st : List PV) (G : PW) : pm_dn pm_sC 53 3 P st G = pm_go pm_sC 53 G (pm_oIS 4 5 P st G) := pm_dn_eq (i := .istore 4) (len := 2) rfl
theorem u_53_5 (P : PL) (st : List PV) (G : PW) : pm_dn pm_sC 53 5 P st G = pm_go pm_sC 53 G (pm_oK 0 6 P st G) := pm_dn_eq (i := .iconst 0) (len := 1) rfl
theorem u_53_6 (P : PL) (st : List PV) (G : PW) : pm_dn pm_sC 53 6 P st G = pm_go pm_sC 53 G (pm_oIS 5 8 P st G) := pm_dn_eq (i := .istore 5) (len := 2) rfl
theorem u_53_8 (P : PL) (st : List PV) (G : PW) : pm_dn pm_sC 53 8 P st G = pm_go pm_sC 53 G (pm_oIL 5 10 P st G) := pm_dn_eq (i := .iload 5) (len := 2) rfl
theorem u_53_10 (P : PL) (st : List PV) (G : PW) : pm_dn pm_sC 53 10 P st G = pm_go pm_sC 53 G (pm_oK 62 12 P st G) := pm_dn_eq (i := .bipush 62) (len := 2) rfl
theorem u_53_12 (P : PL) (st : List PV) (G : PW) : pm_dn pm_sC 53 12 P st G = pm_go pm_sC 53 G (pm_oIc .ge (some 62) 15 P st G) := pm_dn_eq (i := .if_icmp .ge 50) (len := 3) rfl
theorem u_53_15 (P : PL) (st : List PV) (G : PW) : pm_dn pm_sC 53 15 P st G = pm_go pm_sC 53 G (pm_oIL 3 16 P st G) := pm_dn_eq (i := .iload_n 3) (len := 1) rfl
theorem u_53_16 (P : PL) (st : List PV) (G : PW) : pm_dn pm_sC 53 16 P st G = pm_go pm_sC 53 G (pm_oIL 4 18 P st G) := pm_dn_eq (i := .iload 4) (len := 2) rfl
theorem u_53_18 (P : PL) (st : List PV) (G : PW) : pm_dn pm_sC 53 18 P st G = pm_go pm_sC 53 G (pm_oIc .eq (some 62) 21 P st G) := pm_dn_eq (i := .if_icmp .eq 44) (len := 3) rfl
theorem u_53_21 (P : PL) (st : List PV) (G : PW) : pm_dn pm_sC 53 21 P st G = pm_go pm_sC 53 G (pm_oIL 3 22 P st G) := pm_dn_eq (i := .iload_n 3) (len := 1) rfl
theorem u_53_22 (P : PL) (st : List PV) (G : PW) : pm_dn pm_sC 53 22 P st G = pm_go pm_sC 53 G (pm_oIL 4 24 P st G) := pm_dn_eq (i := .iload 4) (len := 2) rfl
theorem u_53_24 (P : PL) (st : List PV) (G : PW) : pm_dn pm_sC 53 24 P st G = pm_go pm_sC 53 G (pm_oIc .ge (some 42) 27 P st G) := pm_dn_eq (i := .if_icmp .ge 18) (len := 3) rfl
theorem u_53_27 (P : PL) (st : List PV) (G : PW) : pm_dn pm_sC 53 27 P st G = pm_go pm_sC 53 G (pm_oAL 0 28 P st G) := pm_dn_eq (i := .aload_n 0) (len := 1) rfl
theorem u_53_28 (P : PL) (st : List PV) (G : PW) : pm_dn pm_sC 53 28 P st G = pm_go pm_sC 53 G (pm_oGf pm_sC 3 8 31 P st G) := pm_dn_eq (i := .getfield 21) (len := 3) rfl
theorem u_53_31 (P : PL) (st : List PV) (G : PW) : pm_dn pm_sC 53 31 P st G = pm_go pm_sC 53 G (pm_oIL 3 32 P st G) := pm_dn_eq (i := .iload_n 3) (len := 1) rfl
theorem u_53_32 (P : PL) (st : List PV) (G : PW) : pm_dn pm_sC 53 32 P st G = pm_go pm_sC 53 G (pm_oCs 103 2 2 35 P st G) := pm_dn_eq (i := .invokestatic 81) (len := 3) rfl
theorem u_53_35 (P : PL) (st : List PV) (G : PW) : pm_dn pm_sC 53 35 P st G = pm_go pm_sC 53 G (pm_oCs 107 1 1 38 P st G) := pm_dn_eq (i := .invokestatic 85) (len := 3) rfl
theorem u_53_38 (P : PL) (st : List PV) (G : PW) : pm_dn pm_sC 53 38 P st G = pm_go pm_sC 53 G (pm_oIS 3 39 P st G) := pm_dn_eq (i := .istore_n 3) (len := 1) rfl
theorem u_53_39 (P : PL) (st : List PV) (G : PW) : pm_dn pm_sC 53 39 P st G = pm_go pm_sC 53 G (pm_oGo (some 56) P st G) := pm_dn_eq (i := .goto 17) (len := 3) rfl
theorem u_53_42 (P : PL) (st : List PV) (G : PW) : pm_dn pm_sC 53 42 P st G = pm_go pm_sC 53 G (pm_oAL 0 43 P st G) := pm_dn_eq (i := .aload_n 0) (len := 1) rfl
theorem u_53_43 (P : PL) (st : List PV) (G : PW) : pm_dn pm_sC 53 43 P st G = pm_go pm_sC 53 G (pm_oGf pm_sC 3 8 46 P st G) := pm_dn_eq (i := .getfield 21) (len := 3) rfl
theorem u_53_46 (P : PL) (st : List PV) (G : PW) : pm_dn pm_sC 53 46 P st G = pm_go pm_sC 53 G (pm_oIL 4 48 P st G) := pm_dn_eq (i := .iload 4) (len := 2) rfl
theorem u_53_48 (P : PL) (st : List PV) (G : PW) : pm_dn pm_sC 53 48 P st G = pm_go pm_sC 53 G (pm_oCs 103 2 2 51 P st G) := pm_dn_eq (i := .invokestatic 81) (len := 3) rfl
theorem u_53_51 (P : PL) (st : List PV) (G : PW) : pm_dn pm_sC 53 51 P st G = pm_go pm_sC 53 G (pm_oCs 107 1 1 54 P st G) := pm_dn_eq (i := .invokestatic 85) (len := 3) rfl
theorem u_53_54 (P : PL) (st : List PV) (G : PW) : pm_dn pm_sC 53 54 P st G = pm_go pm_sC 53 G (pm_oIS 4 56 P st G) := pm_dn_eq (i := .istore 4) (len := 2) rfl
theorem u_53_56 (P : PL) (st : List PV) (G : PW) : pm_dn pm_sC 53 56 P st G = pm_go pm_sC 53 G (pm_oInc 5 1 59 P st G) := pm_dn_eq (i := .iinc 5 1) (len := 3) rfl
theorem u_53_59 (P : PL) (st : List PV) (G : PW) : pm_dn pm_sC 53 59 P st G = pm_go pm_sC 53 G (pm_oGo (some 8) P st G) := pm_dn_eq (i := .goto (-51)) (len := 3) rfl
theorem u_53_62 (P : PL) (st : List PV) (G : PW) : pm_dn pm_sC 53 62 P st G = pm_go pm_sC 53 G (pm_oIL 3 63 P st G) := pm_dn_eq (i := .iload_n 3) (len := 1) rfl
theorem u_53_63 (P : PL) (st : List PV) (G : PW) : pm_dn pm_sC 53 63 P st G = pm_go pm_sC 53 G (pm_oRi 0 P st G) := pm_dn_eq (i := .ireturn) (len := 1) rfl
theorem ue_54 (a0 : Nat) (a1 : Int) (G : PW) : pm_ca pm_sC 54 [.inr (.inr a0), .inl a1] G = pm_dn pm_sC 54 0 [some (.inr (.inr a0)), some (.inl a1), none] [] G := rfl
theorem u_54_0 (P : PL) (st : List PV) (G : PW) : pm_dn pm_sC 54 0 P st G = pm_go pm_sC 54 G (pm_oAL 0 1 P st G) := pm_dn_eq (i := .aload_n 0) (len := 1) rfl
theorem u_54_1 (P : PL) (st : List PV) (G : PW) : pm_dn pm_sC 54 1 P st G = pm_go pm_sC 54 G (pm_oGf pm_sC 3 12 4 P st G) := pm_dn_eq (i := .getfield 33) (len := 3) rfl
theorem u_54_4 (P : PL) (st : List PV) (G : PW) : pm_dn pm_sC 54 4 P st G = pm_go pm_sC 54 G (pm_oIL 1 5 P st G) := pm_dn_eq (i := .iload_n 1) (len := 1) rfl
theorem u_54_5 (P : PL) (st : List PV) (G : PW) : pm_dn pm_sC 54 5 P st G = pm_go pm_sC 54 G (pm_oCs 103 2 2 8 P st G) := pm_dn_eq (i := .invokestatic 81) (len := 3) rfl
theorem u_54_8 (P : PL) (st : List PV) (G : PW) : pm_dn pm_sC 54 8 P st G = pm_go pm_sC 54 G (pm_oIS 2 9 P st G) := pm_dn_eq (i := .istore_n 2) (len := 1) rfl
theorem u_54_9 (P : PL) (st : List PV) (G : PW) : pm_dn pm_sC 54 9 P st G = pm_go pm_sC 54 G (pm_oIL 2 10 P st G) := pm_dn_eq (i := .iload_n 2) (len := 1) rfl
theorem u_54_10 (P : PL) (st : List PV) (G : PW) : pm_dn pm_sC 54 10 P st G = pm_go pm_sC 54 G (pm_oAL 0 11 P st G) := pm_dn_eq (i := .aload_n 0) (len := 1) rfl
theorem u_54_11 (P : PL) (st : List PV) (G : PW) : pm_dn pm_sC 54 11 P st G = pm_go pm_sC 54 G (pm_oGf pm_sC 3 0 14 P st G) := pm_dn_eq (i := .getfield 39) (len := 3) rfl
theorem u_54_14 (P : PL) (st : List PV) (G : PW) : pm_dn pm_sC 54 14 P st G = pm_go pm_sC 54 G (pm_oIc .ge (some 21) 17 P st G) := pm_dn_eq (i := .if_icmp .ge 7) (len := 3) rfl
theorem u_54_17 (P : PL) (st : List PV) (G : PW) : pm_dn pm_sC 54 17 P st G = pm_go pm_sC 54 G (pm_oIL 2 18 P st G) := pm_dn_eq (i := .iload_n 2) (len := 1) rfl
theorem u_54_18 (P : PL) (st : List PV) (G : PW) : pm_dn pm_sC 54 18 P st G = pm_go pm_sC 54 G (pm_oGo (some 23) P st G) := pm_dn_eq (i := .goto 5) (len := 3) rfl
theorem u_54_21 (P : PL) (st : List PV) (G : PW) : pm_dn pm_sC 54 21 P st G = pm_go pm_sC 54 G (pm_oK 16 23 P st G) := pm_dn_eq (i := .bipush 16) (len := 2) rfl
theorem u_54_23 (P : PL) (st : List PV) (G : PW) : pm_dn pm_sC 54 23 P st G = pm_go pm_sC 54 G (pm_oRi 0 P st G) := pm_dn_eq (i := .ireturn) (len := 1) rfl
theorem ue_55 (a0 : Nat) (a1 : Int) (G : PW) : pm_ca pm_sC 55 [.inr (.inr a0), .inl a1] G = pm_dn pm_sC 55 0 [some (.inr (.inr a0)), some (.inl a1)] [] G := rfl
theorem u_55_0 (P : PL) (st : List PV) (G : PW) : pm_dn pm_sC 55 0 P st G = pm_go pm_sC 55 G (pm_oAL 0 1 P st G) := pm_dn_eq (i := .aload_n 0) (len := 1) rfl
theorem u_55_1 (P : PL) (st : List PV) (G : PW) : pm_dn pm_sC 55 1 P st G = pm_go pm_sC 55 G (pm_oGf pm_sC 3 2 4 P st G) := pm_dn_eq (i := .getfield 46) (len := 3) rfl
theorem u_55_4 (P : PL) (st : List PV) (G : PW) : pm_dn pm_sC 55 4 P st G = pm_go pm_sC 55 G (pm_oAL 0 5 P st G) := pm_dn_eq (i := .aload_n 0) (len := 1) rfl
theorem u_55_5 (P : PL) (st : List PV) (G : PW) : pm_dn pm_sC 55 5 P st G = pm_go pm_sC 55 G (pm_oGf pm_sC 3 2 8 P st G) := pm_dn_eq (i := .getfield 46) (len := 3) rfl
theorem u_55_8 (P : PL) (st : List PV) (G : PW) : pm_dn pm_sC 55 8 P st G = pm_go pm_sC 55 G (pm_oIL 1 9 P st G) := pm_dn_eq (i := .iload_n 1) (len := 1) rfl
theorem u_55_9 (P : PL) (st : List PV) (G : PW) : pm_dn pm_sC 55 9 P st G = pm_go pm_sC 55 G (pm_oK 1 10 P st G) := pm_dn_eq (i := .iconst 1) (len := 1) rfl
theorem u_55_10 (P : PL) (st : List PV) (G : PW) : pm_dn pm_sC 55 10 P st G = pm_go pm_sC 55 G (pm_oSub 11 P st G) := pm_dn_eq (i := .isub) (len := 1) rfl
theorem u_55_11 (P : PL) (st : List PV) (G : PW) : pm_dn pm_sC 55 11 P st G = pm_go pm_sC 55 G (pm_oShr 12 P st G) := pm_dn_eq (i := .ishr) (len := 1) rfl
theorem u_55_12 (P : PL) (st : List PV) (G : PW) : pm_dn pm_sC 55 12 P st G = pm_go pm_sC 55 G (pm_oSub 13 P st G) := pm_dn_eq (i := .isub) (len := 1) rfl
theorem u_55_13 (P : PL) (st : List PV) (G : PW) : pm_dn pm_sC 55 13 P st G = pm_go pm_sC 55 G (pm_oRi 0 P st G) := pm_dn_eq (i := .ireturn) (len := 1) rfl
theorem ue_56 (a0 : Nat) (a1 : Int) (G : PW) : pm_ca pm_sC 56 [.inr (.inr a0), .inl a1] G = pm_dn pm_sC 56 0 [some (.inr (.inr a0)), some (.inl a1)] [] G := rfl
theorem u_56_0 (P : PL) (st : List PV) (G : PW) : pm_dn pm_sC 56 0 P st G = pm_go pm_sC 56 G (pm_oAL 0 1 P st G) := pm_dn_eq (i := .aload_n 0) (len := 1) rfl
theorem u_56_1 (P : PL) (st : List PV) (G : PW) : pm_dn pm_sC 56 1 P st G = pm_go pm_sC 56 G (pm_oGf pm_sC 3 2 4 P st G) := pm_dn_eq (i := .getfield 46) (len := 3) rfl
theorem u_56_4 (P : PL) (st : List PV) (G : PW) : pm_dn pm_sC 56 4 P st G = pm_go pm_sC 56 G (pm_oIL 1 5 P st G) := pm_dn_eq (i := .iload_n 1) (len := 1) rfl
theorem u_56_5 (P : PL) (st : List PV) (G : PW) : pm_dn pm_sC 56 5 P st G = pm_go pm_sC 56 G (pm_oShr 6 P st G) := pm_dn_eq (i := .ishr) (len := 1) rfl
theorem u_56_6 (P : PL) (st : List PV) (G : PW) : pm_dn pm_sC 56 6 P st G = pm_go pm_sC 56 G (pm_oRi 0 P st G) := pm_dn_eq (i := .ireturn) (len := 1) rfl
theorem ue_57 (a0 : Nat) (G : PW) : pm_ca pm_sC 57 [.inr (.inr a0)] G = pm_dn pm_sC 57 0 [some (.inr (.inr a0))] [] G := rfl
theorem u_57_0 (P : PL) (st : List PV) (G : PW) : pm_dn pm_sC 57 0 P st G = pm_go pm_sC 57 G (pm_oK 2 1 P st G) := pm_dn_eq (i := .iconst 2) (len := 1) rfl
theorem u_57_1 (P : PL) (st : List PV) (G : PW) : pm_dn pm_sC 57 1 P st G = pm_go pm_sC 57 G (pm_oAL 0 2 P st G) := pm_dn_eq (i := .aload_n 0) (len := 1) rfl
theorem u_57_2 (P : PL) (st : List PV) (G : PW) : pm_dn pm_sC 57 2 P st G = pm_go pm_sC 57 G (pm_oGf pm_sC 3 3 5 P st G) := pm_dn_eq (i := .getfield 49) (len := 3) rfl
theorem u_57_5 (P : PL) (st : List PV) (G : PW) : pm_dn pm_sC 57 5 P st G = pm_go pm_sC 57 G (pm_oMul 6 P st G) := pm_dn_eq (i := .imul) (len := 1) rfl
theorem u_57_6 (P : PL) (st : List PV) (G : PW) : pm_dn pm_sC 57 6 P st G = pm_go pm_sC 57 G (pm_oK 2 7 P st G) := pm_dn_eq (i := .iconst 2) (len := 1) rfl
theorem u_57_7 (P : PL) (st : List PV) (G : PW) : pm_dn pm_sC 57 7 P st G = pm_go pm_sC 57 G (pm_oSub 8 P st G) := pm_dn_eq (i := .isub) (len := 1) rfl
theorem u_57_8 (P : PL) (st : List PV) (G : PW) : pm_dn pm_sC 57 8 P st G = pm_go pm_sC 57 G (pm_oRi 0 P st G) := pm_dn_eq (i := .ireturn) (len := 1) rfl
theorem ue_58 (a0 : Nat) (a1 : Int) (G : PW) : pm_ca pm_sC 58 [.inr (.inr a0), .inl a1] G = pm_dn pm_sC 58 0 [some (.inr (.inr a0)), some (.inl a1)] [] G := rfl
theorem u_58_0 (P : PL) (st : List PV) (G : PW) : pm_dn pm_sC 58 0 P st G = pm_go pm_sC 58 G (pm_oAL 0 1 P st G) := pm_dn_eq (i := .aload_n 0) (len := 1) rfl
theorem u_58_1 (P : PL) (st : List PV) (G : PW) : pm_dn pm_sC 58 1 P st G = pm_go pm_sC 58 G (pm_oGf pm_sC 3 2 4 P st G) := pm_dn_eq (i := .getfield 46) (len := 3) rfl
theorem u_58_4 (P : PL) (st : List PV) (G : PW) : pm_dn pm_sC 58 4 P st G = pm_go pm_sC 58 G (pm_oIL 1 5 P st G) := pm_dn_eq (i := .iload_n 1) (len := 1) rfl
theorem u_58_5 (P : PL) (st : List PV) (G : PW) : pm_dn pm_sC 58 5 P st G = pm_go pm_sC 58 G (pm_oK 1 6 P st G) := pm_dn_eq (i := .iconst 1) (len := 1) rfl
theorem u_58_6 (P : PL) (st : List PV) (G : PW) : pm_dn pm_sC 58 6 P st G = pm_go pm_sC 58 G (pm_oAdd 7 P st G) := pm_dn_eq (i := .iadd) (len := 1) rfl
theorem u_58_7 (P : PL) (st : List PV) (G : PW) : pm_dn pm_sC 58 7 P st G = pm_go pm_sC 58 G (pm_oK 2 8 P st G) := pm_dn_eq (i := .iconst 2) (len := 1) rfl
theorem u_58_8 (P : PL) (st : List PV) (G : PW) : pm_dn pm_sC 58 8 P st G = pm_go pm_sC 58 G (pm_oDiv 9 P st G) := pm_dn_eq (i := .idiv) (len := 1) rfl
theorem u_58_9 (P : PL) (st : List PV) (G : PW) : pm_dn pm_sC 58 9 P st G = pm_go pm_sC 58 G (pm_oK 1 10 P st G) := pm_dn_eq (i := .iconst 1) (len := 1) rfl
theorem u_58_10 (P : PL) (st : List PV) (G : PW) : pm_dn pm_sC 58 10 P st G = pm_go pm_sC 58 G (pm_oAdd 11 P st G) := pm_dn_eq (i := .iadd) (len := 1) rfl
theorem u_58_11 (P : PL) (st : List PV) (G : PW) : pm_dn pm_sC 58 11 P st G = pm_go pm_sC 58 G (pm_oShr 12 P st G) := pm_dn_eq (i := .ishr) (len := 1) rfl
theorem u_58_12 (P : PL) (st : List PV) (G : PW) : pm_dn pm_sC 58 12 P st G = pm_go pm_sC 58 G (pm_oRi 0 P st G) := pm_dn_eq (i := .ireturn) (len := 1) rfl
theorem ue_59 (a0 : Nat) (a1 : Int) (G : PW) : pm_ca pm_sC 59 [.inr (.inr a0), .inl a1] G = pm_dn pm_sC 59 0 [some (.inr (.inr a0)), some (.inl a1), none, none] [] G := rfl
theorem u_59_0 (P : PL) (st : List PV) (G : PW) : pm_dn pm_sC 59 0 P st G = pm_go pm_sC 59 G (pm_oAL 0 1 P st G) := pm_dn_eq (i := .aload_n 0) (len := 1) rfl
theorem u_59_1 (P : PL) (st : List PV) (G : PW) : pm_dn pm_sC 59 1 P st G = pm_go pm_sC 59 G (pm_oGf pm_sC 3 2 4 P st G) := pm_dn_eq (i := .getfield 46) (len := 3) rfl
theorem u_59_4 (P : PL) (st : List PV) (G : PW) : pm_dn pm_sC 59 4 P st G = pm_go pm_sC 59 G (pm_oK 1 5 P st G) := pm_dn_eq (i := .iconst 1) (len := 1) rfl
theorem u_59_5 (P : PL) (st : List PV) (G : PW) : pm_dn pm_sC 59 5 P st G = pm_go pm_sC 59 G (pm_oSub 6 P st G) := pm_dn_eq (i := .isub) (len := 1) rfl
theorem u_59_6 (P : PL) (st : List PV) (G : PW) : pm_dn pm_sC 59 6 P st G = pm_go pm_sC 59 G (pm_oIS 2 7 P st G) := pm_dn_eq (i := .istore_n 2) (len := 1) rfl
theorem u_59_7 (P : PL) (st : List PV) (G : PW) : pm_dn pm_sC 59 7 P st G = pm_go pm_sC 59 G (pm_oK 1 8 P st G) := pm_dn_eq (i := .iconst 1) (len := 1) rfl
theorem u_59_8 (P : PL) (st : List PV) (G : PW) : pm_dn pm_sC 59 8 P st G = pm_go pm_sC 59 G (pm_oIS 3 9 P st G) := pm_dn_eq (i := .istore_n 3) (len := 1) rfl
theorem u_59_9 (P : PL) (st : List PV) (G : PW) : pm_dn pm_sC 59 9 P st G = pm_go pm_sC 59 G (pm_oIL 3 10 P st G) := pm_dn_eq (i := .iload_n 3) (len := 1) rfl
theorem u_59_10 (P : PL) (st : List PV) (G : PW) : pm_dn pm_sC 59 10 P st G = pm_go pm_sC 59 G (pm_oIL 1 11 P st G) := pm_dn_eq (i := .iload_n 1) (len := 1) rfl
theorem u_59_11 (P : PL) (st : List PV) (G : PW) : pm_dn pm_sC 59 11 P st G = pm_go pm_sC 59 G (pm_oIc .ge (some 28) 14 P st G) := pm_dn_eq (i := .if_icmp .ge 17) (len := 3) rfl
theorem u_59_14 (P : PL) (st : List PV) (G : PW) : pm_dn pm_sC 59 14 P st G = pm_go pm_sC 59 G (pm_oIL 2 15 P st G) := pm_dn_eq (i := .iload_n 2) (len := 1) rfl
theorem u_59_15 (P : PL) (st : List PV) (G : PW) : pm_dn pm_sC 59 15 P st G = pm_go pm_sC 59 G (pm_oAL 0 16 P st G) := pm_dn_eq (i := .aload_n 0) (len := 1) rfl
theorem u_59_16 (P : PL) (st : List PV) (G : PW) : pm_dn pm_sC 59 16 P st G = pm_go pm_sC 59 G (pm_oIL 3 17 P st G) := pm_dn_eq (i := .iload_n 3) (len := 1) rfl
theorem u_59_17 (P : PL) (st : List PV) (G : PW) : pm_dn pm_sC 59 17 P st G = pm_go pm_sC 59 G (pm_oCv pm_sC 58 1 2 3 20 P st G) := pm_dn_eq (i := .invokevirtual 89) (len := 3) rfl
theorem u_59_20 (P : PL) (st : List PV) (G : PW) : pm_dn pm_sC 59 20 P st G = pm_go pm_sC 59 G (pm_oAdd 21 P st G) := pm_dn_eq (i := .iadd) (len := 1) rfl
theorem u_59_21 (P : PL) (st : List PV) (G : PW) : pm_dn pm_sC 59 21 P st G = pm_go pm_sC 59 G (pm_oIS 2 22 P st G) := pm_dn_eq (i := .istore_n 2) (len := 1) rfl
theorem u_59_22 (P : PL) (st : List PV) (G : PW) : pm_dn pm_sC 59 22 P st G = pm_go pm_sC 59 G (pm_oInc 3 1 25 P st G) := pm_dn_eq (i := .iinc 3 1) (len := 3) rfl
theorem u_59_25 (P : PL) (st : List PV) (G : PW) : pm_dn pm_sC 59 25 P st G = pm_go pm_sC 59 G (pm_oGo (some 9) P st G) := pm_dn_eq (i := .goto (-16)) (len := 3) rfl
theorem u_59_28 (P : PL) (st : List PV) (G : PW) : pm_dn pm_sC 59 28 P st G = pm_go pm_sC 59 G (pm_oIL 2 29 P st G) := pm_dn_eq (i := .iload_n 2) (len := 1) rfl
theorem u_59_29 (P : PL) (st : List PV) (G : PW) : pm_dn pm_sC 59 29 P st G = pm_go pm_sC 59 G (pm_oRi 0 P st G) := pm_dn_eq (i := .ireturn) (len := 1) rfl
theorem ue_60 (a0 : Nat) (a1 : Int) (a2 : Int) (a3 : Int) (a4 : Int) (G : PW) : pm_ca pm_sC 60 [.inr (.inr a0), .inl a1, .inl a2, .inl a3, .inl a4] G = pm_dn pm_sC 60 0 [some (.inr (.inr a0)), some (.inl a1), some (.inl a2), some (.inl a3), some (.inl a4)] [] G := rfl
theorem u_60_0 (P : PL) (st : List PV) (G : PW) : pm_dn pm_sC 60 0 P st G = pm_go pm_sC 60 G (pm_oAL 0 1 P st G) := pm_dn_eq (i := .aload_n 0) (len := 1) rfl
theorem u_60_1 (P : PL) (st : List PV) (G : PW) : pm_dn pm_sC 60 1 P st G = pm_go pm_sC 60 G (pm_oGf pm_sC 3 5 4 P st G) := pm_dn_eq (i := .getfield 9) (len := 3) rfl
theorem u_60_4 (P : PL) (st : List PV) (G : PW) : pm_dn pm_sC 60 4 P st G = pm_go pm_sC 60 G (pm_oIL 1 5 P st G) := pm_dn_eq (i := .iload_n 1) (len := 1) rfl
theorem u_60_5 (P : PL) (st : List PV) (G : PW) : pm_dn pm_sC 60 5 P st G = pm_go pm_sC 60 G (pm_oIL 2 6 P st G) := pm_dn_eq (i := .iload_n 2) (len := 1) rfl
theorem u_60_6 (P : PL) (st : List PV) (G : PW) : pm_dn pm_sC 60 6 P st G = pm_go pm_sC 60 G (pm_oCs 104 3 3 9 P st G) := pm_dn_eq (i := .invokestatic 92) (len := 3) rfl
theorem u_60_9 (P : PL) (st : List PV) (G : PW) : pm_dn pm_sC 60 9 P st G = pm_go pm_sC 60 G (pm_oAL 0 10 P st G) := pm_dn_eq (i := .aload_n 0) (len := 1) rfl
theorem u_60_10 (P : PL) (st : List PV) (G : PW) : pm_dn pm_sC 60 10 P st G = pm_go pm_sC 60 G (pm_oGf pm_sC 3 6 13 P st G) := pm_dn_eq (i := .getfield 15) (len := 3) rfl
theorem u_60_13 (P : PL) (st : List PV) (G : PW) : pm_dn pm_sC 60 13 P st G = pm_go pm_sC 60 G (pm_oIL 1 14 P st G) := pm_dn_eq (i := .iload_n 1) (len := 1) rfl
theorem u_60_14 (P : PL) (st : List PV) (G : PW) : pm_dn pm_sC 60 14 P st G = pm_go pm_sC 60 G (pm_oIL 3 15 P st G) := pm_dn_eq (i := .iload_n 3) (len := 1) rfl
theorem u_60_15 (P : PL) (st : List PV) (G : PW) : pm_dn pm_sC 60 15 P st G = pm_go pm_sC 60 G (pm_oCs 104 3 3 18 P st G) := pm_dn_eq (i := .invokestatic 92) (len := 3) rfl
theorem u_60_18 (P : PL) (st : List PV) (G : PW) : pm_dn pm_sC 60 18 P st G = pm_go pm_sC 60 G (pm_oAL 0 19 P st G) := pm_dn_eq (i := .aload_n 0) (len := 1) rfl
theorem u_60_19 (P : PL) (st : List PV) (G : PW) : pm_dn pm_sC 60 19 P st G = pm_go pm_sC 60 G (pm_oGf pm_sC 3 7 22 P st G) := pm_dn_eq (i := .getfield 18) (len := 3) rfl
theorem u_60_22 (P : PL) (st : List PV) (G : PW) : pm_dn pm_sC 60 22 P st G = pm_go pm_sC 60 G (pm_oIL 1 23 P st G) := pm_dn_eq (i := .iload_n 1) (len := 1) rfl
theorem u_60_23 (P : PL) (st : List PV) (G : PW) : pm_dn pm_sC 60 23 P st G = pm_go pm_sC 60 G (pm_oIL 4 25 P st G) := pm_dn_eq (i := .iload 4) (len := 2) rfl
theorem u_60_25 (P : PL) (st : List PV) (G : PW) : pm_dn pm_sC 60 25 P st G = pm_go pm_sC 60 G (pm_oCs 104 3 3 28 P st G) := pm_dn_eq (i := .invokestatic 92) (len := 3) rfl
theorem u_60_28 (P : PL) (st : List PV) (G : PW) : pm_dn pm_sC 60 28 P st G = pm_go pm_sC 60 G (pm_oAL 0 29 P st G) := pm_dn_eq (i := .aload_n 0) (len := 1) rfl
theorem u_60_29 (P : PL) (st : List PV) (G : PW) : pm_dn pm_sC 60 29 P st G = pm_go pm_sC 60 G (pm_oGf pm_sC 3 8 32 P st G) := pm_dn_eq (i := .getfield 21) (len := 3) rfl
theorem u_60_32 (P : PL) (st : List PV) (G : PW) : pm_dn pm_sC 60 32 P st G = pm_go pm_sC 60 G (pm_oIL 1 33 P st G) := pm_dn_eq (i := .iload_n 1) (len := 1) rfl
theorem u_60_33 (P : PL) (st : List PV) (G : PW) : pm_dn pm_sC 60 33 P st G = pm_go pm_sC 60 G (pm_oK (-6) 35 P st G) := pm_dn_eq (i := .bipush (-6)) (len := 2) rfl
theorem u_60_35 (P : PL) (st : List PV) (G : PW) : pm_dn pm_sC 60 35 P st G = pm_go pm_sC 60 G (pm_oCs 104 3 3 38 P st G) := pm_dn_eq (i := .invokestatic 92) (len := 3) rfl
theorem u_60_38 (P : PL) (st : List PV) (G : PW) : pm_dn pm_sC 60 38 P st G = pm_go pm_sC 60 G (pm_oAL 0 39 P st G) := pm_dn_eq (i := .aload_n 0) (len := 1) rfl
theorem u_60_39 (P : PL) (st : List PV) (G : PW) : pm_dn pm_sC 60 39 P st G = pm_go pm_sC 60 G (pm_oGf pm_sC 3 9 42 P st G) := pm_dn_eq (i := .getfield 24) (len := 3) rfl
theorem u_60_42 (P : PL) (st : List PV) (G : PW) : pm_dn pm_sC 60 42 P st G = pm_go pm_sC 60 G (pm_oIL 1 43 P st G) := pm_dn_eq (i := .iload_n 1) (len := 1) rfl
theorem u_60_43 (P : PL) (st : List PV) (G : PW) : pm_dn pm_sC 60 43 P st G = pm_go pm_sC 60 G (pm_oK (-6) 45 P st G) := pm_dn_eq (i := .bipush (-6)) (len := 2) rfl
theorem u_60_45 (P : PL) (st : List PV) (G : PW) : pm_dn pm_sC 60 45 P st G = pm_go pm_sC 60 G (pm_oCs 104 3 3 48 P st G) := pm_dn_eq (i := .invokestatic 92) (len := 3) rfl
theorem u_60_48 (P : PL) (st : List PV) (G : PW) : pm_dn pm_sC 60 48 P st G = pm_go pm_sC 60 G (pm_oAL 0 49 P st G) := pm_dn_eq (i := .aload_n 0) (len := 1) rfl
theorem u_60_49 (P : PL) (st : List PV) (G : PW) : pm_dn pm_sC 60 49 P st G = pm_go pm_sC 60 G (pm_oGf pm_sC 3 10 52 P st G) := pm_dn_eq (i := .getfield 27) (len := 3) rfl
theorem u_60_52 (P : PL) (st : List PV) (G : PW) : pm_dn pm_sC 60 52 P st G = pm_go pm_sC 60 G (pm_oIL 1 53 P st G) := pm_dn_eq (i := .iload_n 1) (len := 1) rfl
theorem u_60_53 (P : PL) (st : List PV) (G : PW) : pm_dn pm_sC 60 53 P st G = pm_go pm_sC 60 G (pm_oK (-6) 55 P st G) := pm_dn_eq (i := .bipush (-6)) (len := 2) rfl
theorem u_60_55 (P : PL) (st : List PV) (G : PW) : pm_dn pm_sC 60 55 P st G = pm_go pm_sC 60 G (pm_oCs 104 3 3 58 P st G) := pm_dn_eq (i := .invokestatic 92) (len := 3) rfl
theorem u_60_58 (P : PL) (st : List PV) (G : PW) : pm_dn pm_sC 60 58 P st G = pm_go pm_sC 60 G (pm_oAL 0 59 P st G) := pm_dn_eq (i := .aload_n 0) (len := 1) rfl
theorem u_60_59 (P : PL) (st : List PV) (G : PW) : pm_dn pm_sC 60 59 P st G = pm_go pm_sC 60 G (pm_oGf pm_sC 3 11 62 P st G) := pm_dn_eq (i := .getfield 30) (len := 3) rfl
theorem u_60_62 (P : PL) (st : List PV) (G : PW) : pm_dn pm_sC 60 62 P st G = pm_go pm_sC 60 G (pm_oIL 1 63 P st G) := pm_dn_eq (i := .iload_n 1) (len := 1) rfl
theorem u_60_63 (P : PL) (st : List PV) (G : PW) : pm_dn pm_sC 60 63 P st G = pm_go pm_sC 60 G (pm_oK (-6) 65 P st G) := pm_dn_eq (i := .bipush (-6)) (len := 2) rfl
theorem u_60_65 (P : PL) (st : List PV) (G : PW) : pm_dn pm_sC 60 65 P st G = pm_go pm_sC 60 G (pm_oCs 104 3 3 68 P st G) := pm_dn_eq (i := .invokestatic 92) (len := 3) rfl
theorem u_60_68 (P : PL) (st : List PV) (G : PW) : pm_dn pm_sC 60 68 P st G = pm_go pm_sC 60 G (pm_oRv P st G) := pm_dn_eq (i := .return_) (len := 1) rfl
theorem ue_61 (a0 : Nat) (G : PW) : pm_ca pm_sC 61 [.inr (.inr a0)] G = pm_dn pm_sC 61 0 [some (.inr (.inr a0)), none, none, none] [] G := rfl
theorem u_61_0 (P : PL) (st : List PV) (G : PW) : pm_dn pm_sC 61 0 P st G = pm_go pm_sC 61 G (pm_oK 1 1 P st G) := pm_dn_eq (i := .iconst 1) (len := 1) rfl
theorem u_61_1 (P : PL) (st : List PV) (G : PW) : pm_dn pm_sC 61 1 P st G = pm_go pm_sC 61 G (pm_oIS 1 2 P st G) := pm_dn_eq (i := .istore_n 1) (len := 1) rfl
theorem u_61_2 (P : PL) (st : List PV) (G : PW) : pm_dn pm_sC 61 2 P st G = pm_go pm_sC 61 G (pm_oIL 1 3 P st G) := pm_dn_eq (i := .iload_n 1) (len := 1) rfl
theorem u_61_3 (P : PL) (st : List PV) (G : PW) : pm_dn pm_sC 61 3 P st G = pm_go pm_sC 61 G (pm_oAL 0 4 P st G) := pm_dn_eq (i := .aload_n 0) (len := 1) rfl
theorem u_61_4 (P : PL) (st : List PV) (G : PW) : pm_dn pm_sC 61 4 P st G = pm_go pm_sC 61 G (pm_oGf pm_sC 3 3 7 P st G) := pm_dn_eq (i := .getfield 49) (len := 3) rfl
theorem u_61_7 (P : PL) (st : List PV) (G : PW) : pm_dn pm_sC 61 7 P st G = pm_go pm_sC 61 G (pm_oIc .gt (some 81) 10 P st G) := pm_dn_eq (i := .if_icmp .gt 74) (len := 3) rfl
theorem u_61_10 (P : PL) (st : List PV) (G : PW) : pm_dn pm_sC 61 10 P st G = pm_go pm_sC 61 G (pm_oAL 0 11 P st G) := pm_dn_eq (i := .aload_n 0) (len := 1) rfl
theorem u_61_11 (P : PL) (st : List PV) (G : PW) : pm_dn pm_sC 61 11 P st G = pm_go pm_sC 61 G (pm_oIL 1 12 P st G) := pm_dn_eq (i := .iload_n 1) (len := 1) rfl
theorem u_61_12 (P : PL) (st : List PV) (G : PW) : pm_dn pm_sC 61 12 P st G = pm_go pm_sC 61 G (pm_oCv pm_sC 55 1 2 3 15 P st G) := pm_dn_eq (i := .invokevirtual 96) (len := 3) rfl
theorem u_61_15 (P : PL) (st : List PV) (G : PW) : pm_dn pm_sC 61 15 P st G = pm_go pm_sC 61 G (pm_oIS 2 16 P st G) := pm_dn_eq (i := .istore_n 2) (len := 1) rfl
theorem u_61_16 (P : PL) (st : List PV) (G : PW) : pm_dn pm_sC 61 16 P st G = pm_go pm_sC 61 G (pm_oK 0 17 P st G) := pm_dn_eq (i := .iconst 0) (len := 1) rfl
theorem u_61_17 (P : PL) (st : List PV) (G : PW) : pm_dn pm_sC 61 17 P st G = pm_go pm_sC 61 G (pm_oIS 3 18 P st G) := pm_dn_eq (i := .istore_n 3) (len := 1) rfl
theorem u_61_18 (P : PL) (st : List PV) (G : PW) : pm_dn pm_sC 61 18 P st G = pm_go pm_sC 61 G (pm_oIL 3 19 P st G) := pm_dn_eq (i := .iload_n 3) (len := 1) rfl
theorem u_61_19 (P : PL) (st : List PV) (G : PW) : pm_dn pm_sC 61 19 P st G = pm_go pm_sC 61 G (pm_oAL 0 20 P st G) := pm_dn_eq (i := .aload_n 0) (len := 1) rfl
theorem u_61_20 (P : PL) (st : List PV) (G : PW) : pm_dn pm_sC 61 20 P st G = pm_go pm_sC 61 G (pm_oIL 1 21 P st G) := pm_dn_eq (i := .iload_n 1) (len := 1) rfl
theorem u_61_21 (P : PL) (st : List PV) (G : PW) : pm_dn pm_sC 61 21 P st G = pm_go pm_sC 61 G (pm_oCv pm_sC 56 1 2 3 24 P st G) := pm_dn_eq (i := .invokevirtual 99) (len := 3) rfl
theorem u_61_24 (P : PL) (st : List PV) (G : PW) : pm_dn pm_sC 61 24 P st G = pm_go pm_sC 61 G (pm_oIc .ge (some 75) 27 P st G) := pm_dn_eq (i := .if_icmp .ge 51) (len := 3) rfl
theorem u_61_27 (P : PL) (st : List PV) (G : PW) : pm_dn pm_sC 61 27 P st G = pm_go pm_sC 61 G (pm_oAL 0 28 P st G) := pm_dn_eq (i := .aload_n 0) (len := 1) rfl
theorem u_61_28 (P : PL) (st : List PV) (G : PW) : pm_dn pm_sC 61 28 P st G = pm_go pm_sC 61 G (pm_oIL 2 29 P st G) := pm_dn_eq (i := .iload_n 2) (len := 1) rfl
theorem u_61_29 (P : PL) (st : List PV) (G : PW) : pm_dn pm_sC 61 29 P st G = pm_go pm_sC 61 G (pm_oIL 3 30 P st G) := pm_dn_eq (i := .iload_n 3) (len := 1) rfl
theorem u_61_30 (P : PL) (st : List PV) (G : PW) : pm_dn pm_sC 61 30 P st G = pm_go pm_sC 61 G (pm_oAdd 31 P st G) := pm_dn_eq (i := .iadd) (len := 1) rfl
theorem u_61_31 (P : PL) (st : List PV) (G : PW) : pm_dn pm_sC 61 31 P st G = pm_go pm_sC 61 G (pm_oK 0 32 P st G) := pm_dn_eq (i := .iconst 0) (len := 1) rfl
theorem u_61_32 (P : PL) (st : List PV) (G : PW) : pm_dn pm_sC 61 32 P st G = pm_go pm_sC 61 G (pm_oIL 1 33 P st G) := pm_dn_eq (i := .iload_n 1) (len := 1) rfl
theorem u_61_33 (P : PL) (st : List PV) (G : PW) : pm_dn pm_sC 61 33 P st G = pm_go pm_sC 61 G (pm_oIL 3 34 P st G) := pm_dn_eq (i := .iload_n 3) (len := 1) rfl
theorem u_61_34 (P : PL) (st : List PV) (G : PW) : pm_dn pm_sC 61 34 P st G = pm_go pm_sC 61 G (pm_oCv pm_sC 60 4 5 3 37 P st G) := pm_dn_eq (i := .invokevirtual 65) (len := 3) rfl
theorem u_61_37 (P : PL) (st : List PV) (G : PW) : pm_dn pm_sC 61 37 P st G = pm_go pm_sC 61 G (pm_oAL 0 38 P st G) := pm_dn_eq (i := .aload_n 0) (len := 1) rfl
theorem u_61_38 (P : PL) (st : List PV) (G : PW) : pm_dn pm_sC 61 38 P st G = pm_go pm_sC 61 G (pm_oGf pm_sC 3 8 41 P st G) := pm_dn_eq (i := .getfield 21) (len := 3) rfl
theorem u_61_41 (P : PL) (st : List PV) (G : PW) : pm_dn pm_sC 61 41 P st G = pm_go pm_sC 61 G (pm_oIL 2 42 P st G) := pm_dn_eq (i := .iload_n 2) (len := 1) rfl
theorem u_61_42 (P : PL) (st : List PV) (G : PW) : pm_dn pm_sC 61 42 P st G = pm_go pm_sC 61 G (pm_oIL 3 43 P st G) := pm_dn_eq (i := .iload_n 3) (len := 1) rfl
theorem u_61_43 (P : PL) (st : List PV) (G : PW) : pm_dn pm_sC 61 43 P st G = pm_go pm_sC 61 G (pm_oAdd 44 P st G) := pm_dn_eq (i := .iadd) (len := 1) rfl
theorem u_61_44 (P : PL) (st : List PV) (G : PW) : pm_dn pm_sC 61 44 P st G = pm_go pm_sC 61 G (pm_oAL 0 45 P st G) := pm_dn_eq (i := .aload_n 0) (len := 1) rfl
theorem u_61_45 (P : PL) (st : List PV) (G : PW) : pm_dn pm_sC 61 45 P st G = pm_go pm_sC 61 G (pm_oIL 1 46 P st G) := pm_dn_eq (i := .iload_n 1) (len := 1) rfl
theorem u_61_46 (P : PL) (st : List PV) (G : PW) : pm_dn pm_sC 61 46 P st G = pm_go pm_sC 61 G (pm_oIL 3 47 P st G) := pm_dn_eq (i := .iload_n 3) (len := 1) rfl
theorem u_61_47 (P : PL) (st : List PV) (G : PW) : pm_dn pm_sC 61 47 P st G = pm_go pm_sC 61 G (pm_oCv pm_sC 63 2 3 3 50 P st G) := pm_dn_eq (i := .invokevirtual 102) (len := 3) rfl
theorem u_61_50 (P : PL) (st : List PV) (G : PW) : pm_dn pm_sC 61 50 P st G = pm_go pm_sC 61 G (pm_oCs 104 3 3 53 P st G) := pm_dn_eq (i := .invokestatic 92) (len := 3) rfl
theorem u_61_53 (P : PL) (st : List PV) (G : PW) : pm_dn pm_sC 61 53 P st G = pm_go pm_sC 61 G (pm_oAL 0 54 P st G) := pm_dn_eq (i := .aload_n 0) (len := 1) rfl
theorem u_61_54 (P : PL) (st : List PV) (G : PW) : pm_dn pm_sC 61 54 P st G = pm_go pm_sC 61 G (pm_oGf pm_sC 3 9 57 P st G) := pm_dn_eq (i := .getfield 24) (len := 3) rfl
theorem u_61_57 (P : PL) (st : List PV) (G : PW) : pm_dn pm_sC 61 57 P st G = pm_go pm_sC 61 G (pm_oIL 2 58 P st G) := pm_dn_eq (i := .iload_n 2) (len := 1) rfl
theorem u_61_58 (P : PL) (st : List PV) (G : PW) : pm_dn pm_sC 61 58 P st G = pm_go pm_sC 61 G (pm_oIL 3 59 P st G) := pm_dn_eq (i := .iload_n 3) (len := 1) rfl
theorem u_61_59 (P : PL) (st : List PV) (G : PW) : pm_dn pm_sC 61 59 P st G = pm_go pm_sC 61 G (pm_oAdd 60 P st G) := pm_dn_eq (i := .iadd) (len := 1) rfl
theorem u_61_60 (P : PL) (st : List PV) (G : PW) : pm_dn pm_sC 61 60 P st G = pm_go pm_sC 61 G (pm_oAL 0 61 P st G) := pm_dn_eq (i := .aload_n 0) (len := 1) rfl
theorem u_61_61 (P : PL) (st : List PV) (G : PW) : pm_dn pm_sC 61 61 P st G = pm_go pm_sC 61 G (pm_oIL 1 62 P st G) := pm_dn_eq (i := .iload_n 1) (len := 1) rfl
theorem u_61_62 (P : PL) (st : List PV) (G : PW) : pm_dn pm_sC 61 62 P st G = pm_go pm_sC 61 G (pm_oIL 3 63 P st G) := pm_dn_eq (i := .iload_n 3) (len := 1) rfl
theorem u_61_63 (P : PL) (st : List PV) (G : PW) : pm_dn pm_sC 61 63 P st G = pm_go pm_sC 61 G (pm_oCv pm_sC 64 2 5 3 66 P st G) := pm_dn_eq (i := .invokevirtual 106) (len := 3) rfl
theorem u_61_66 (P : PL) (st : List PV) (G : PW) : pm_dn pm_sC 61 66 P st G = pm_go pm_sC 61 G (pm_oCs 104 3 3 69 P st G) := pm_dn_eq (i := .invokestatic 92) (len := 3) rfl
theorem u_61_69 (P : PL) (st : List PV) (G : PW) : pm_dn pm_sC 61 69 P st G = pm_go pm_sC 61 G (pm_oInc 3 1 72 P st G) := pm_dn_eq (i := .iinc 3 1) (len := 3) rfl
theorem u_61_72 (P : PL) (st : List PV) (G : PW) : pm_dn pm_sC 61 72 P st G = pm_go pm_sC 61 G (pm_oGo (some 18) P st G) := pm_dn_eq (i := .goto (-54)) (len := 3) rfl
theorem u_61_75 (P : PL) (st : List PV) (G : PW) : pm_dn pm_sC 61 75 P st G = pm_go pm_sC 61 G (pm_oInc 1 1 78 P st G) := pm_dn_eq (i := .iinc 1 1) (len := 3) rfl
theorem u_61_78 (P : PL) (st : List PV) (G : PW) : pm_dn pm_sC 61 78 P st G = pm_go pm_sC 61 G (pm_oGo (some 2) P st G) := pm_dn_eq (i := .goto (-76)) (len := 3) rfl
theorem u_61_81 (P : PL) (st : List PV) (G : PW) : pm_dn pm_sC 61 81 P st G = pm_go pm_sC 61 G (pm_oRv P st G) := pm_dn_eq (i := .return_) (len := 1) rfl
theorem ue_62 (a0 : Nat) (G : PW) : pm_ca pm_sC 62 [.inr (.inr a0)] G = pm_dn pm_sC 62 0 [some (.inr (.inr a0)), none, none, none] [] G := rfl
theorem u_62_0 (P : PL) (st : List PV) (G : PW) : pm_dn pm_sC 62 0 P st G = pm_go pm_sC 62 G (pm_oK 1 1 P st G) := pm_dn_eq (i := .iconst 1) (len := 1) rfl
theorem u_62_1 (P : PL) (st : List PV) (G : PW) : pm_dn pm_sC 62 1 P st G = pm_go pm_sC 62 G (pm_oIS 1 2 P st G) := pm_dn_eq (i := .istore_n 1) (len := 1) rfl
theorem u_62_2 (P : PL) (st : List PV) (G : PW) : pm_dn pm_sC 62 2 P st G = pm_go pm_sC 62 G (pm_oIL 1 3 P st G) := pm_dn_eq (i := .iload_n 1) (len := 1) rfl
theorem u_62_3 (P : PL) (st : List PV) (G : PW) : pm_dn pm_sC 62 3 P st G = pm_go pm_sC 62 G (pm_oAL 0 4 P st G) := pm_dn_eq (i := .aload_n 0) (len := 1) rfl
theorem u_62_4 (P : PL) (st : List PV) (G : PW) : pm_dn pm_sC 62 4 P st G = pm_go pm_sC 62 G (pm_oCv pm_sC 57 0 1 3 7 P st G) := pm_dn_eq (i := .invokevirtual 109) (len := 3) rfl
theorem u_62_7 (P : PL) (st : List PV) (G : PW) : pm_dn pm_sC 62 7 P st G = pm_go pm_sC 62 G (pm_oIc .gt (some 65) 10 P st G) := pm_dn_eq (i := .if_icmp .gt 58) (len := 3) rfl
theorem u_62_10 (P : PL) (st : List PV) (G : PW) : pm_dn pm_sC 62 10 P st G = pm_go pm_sC 62 G (pm_oAL 0 11 P st G) := pm_dn_eq (i := .aload_n 0) (len := 1) rfl
theorem u_62_11 (P : PL) (st : List PV) (G : PW) : pm_dn pm_sC 62 11 P st G = pm_go pm_sC 62 G (pm_oIL 1 12 P st G) := pm_dn_eq (i := .iload_n 1) (len := 1) rfl
theorem u_62_12 (P : PL) (st : List PV) (G : PW) : pm_dn pm_sC 62 12 P st G = pm_go pm_sC 62 G (pm_oCv pm_sC 59 1 4 3 15 P st G) := pm_dn_eq (i := .invokevirtual 112) (len := 3) rfl
theorem u_62_15 (P : PL) (st : List PV) (G : PW) : pm_dn pm_sC 62 15 P st G = pm_go pm_sC 62 G (pm_oIS 2 16 P st G) := pm_dn_eq (i := .istore_n 2) (len := 1) rfl
theorem u_62_16 (P : PL) (st : List PV) (G : PW) : pm_dn pm_sC 62 16 P st G = pm_go pm_sC 62 G (pm_oK 0 17 P st G) := pm_dn_eq (i := .iconst 0) (len := 1) rfl
theorem u_62_17 (P : PL) (st : List PV) (G : PW) : pm_dn pm_sC 62 17 P st G = pm_go pm_sC 62 G (pm_oIS 3 18 P st G) := pm_dn_eq (i := .istore_n 3) (len := 1) rfl
theorem u_62_18 (P : PL) (st : List PV) (G : PW) : pm_dn pm_sC 62 18 P st G = pm_go pm_sC 62 G (pm_oIL 3 19 P st G) := pm_dn_eq (i := .iload_n 3) (len := 1) rfl
theorem u_62_19 (P : PL) (st : List PV) (G : PW) : pm_dn pm_sC 62 19 P st G = pm_go pm_sC 62 G (pm_oAL 0 20 P st G) := pm_dn_eq (i := .aload_n 0) (len := 1) rfl
theorem u_62_20 (P : PL) (st : List PV) (G : PW) : pm_dn pm_sC 62 20 P st G = pm_go pm_sC 62 G (pm_oIL 1 21 P st G) := pm_dn_eq (i := .iload_n 1) (len := 1) rfl
theorem u_62_21 (P : PL) (st : List PV) (G : PW) : pm_dn pm_sC 62 21 P st G = pm_go pm_sC 62 G (pm_oCv pm_sC 58 1 2 3 24 P st G) := pm_dn_eq (i := .invokevirtual 89) (len := 3) rfl
theorem u_62_24 (P : PL) (st : List PV) (G : PW) : pm_dn pm_sC 62 24 P st G = pm_go pm_sC 62 G (pm_oIc .ge (some 59) 27 P st G) := pm_dn_eq (i := .if_icmp .ge 35) (len := 3) rfl
theorem u_62_27 (P : PL) (st : List PV) (G : PW) : pm_dn pm_sC 62 27 P st G = pm_go pm_sC 62 G (pm_oAL 0 28 P st G) := pm_dn_eq (i := .aload_n 0) (len := 1) rfl
theorem u_62_28 (P : PL) (st : List PV) (G : PW) : pm_dn pm_sC 62 28 P st G = pm_go pm_sC 62 G (pm_oIL 2 29 P st G) := pm_dn_eq (i := .iload_n 2) (len := 1) rfl
theorem u_62_29 (P : PL) (st : List PV) (G : PW) : pm_dn pm_sC 62 29 P st G = pm_go pm_sC 62 G (pm_oIL 3 30 P st G) := pm_dn_eq (i := .iload_n 3) (len := 1) rfl
theorem u_62_30 (P : PL) (st : List PV) (G : PW) : pm_dn pm_sC 62 30 P st G = pm_go pm_sC 62 G (pm_oAdd 31 P st G) := pm_dn_eq (i := .iadd) (len := 1) rfl
theorem u_62_31 (P : PL) (st : List PV) (G : PW) : pm_dn pm_sC 62 31 P st G = pm_go pm_sC 62 G (pm_oK 1 32 P st G) := pm_dn_eq (i := .iconst 1) (len := 1) rfl
theorem u_62_32 (P : PL) (st : List PV) (G : PW) : pm_dn pm_sC 62 32 P st G = pm_go pm_sC 62 G (pm_oIL 1 33 P st G) := pm_dn_eq (i := .iload_n 1) (len := 1) rfl
theorem u_62_33 (P : PL) (st : List PV) (G : PW) : pm_dn pm_sC 62 33 P st G = pm_go pm_sC 62 G (pm_oIL 3 34 P st G) := pm_dn_eq (i := .iload_n 3) (len := 1) rfl
theorem u_62_34 (P : PL) (st : List PV) (G : PW) : pm_dn pm_sC 62 34 P st G = pm_go pm_sC 62 G (pm_oCv pm_sC 60 4 5 3 37 P st G) := pm_dn_eq (i := .invokevirtual 65) (len := 3) rfl
theorem u_62_37 (P : PL) (st : List PV) (G : PW) : pm_dn pm_sC 62 37 P st G = pm_go pm_sC 62 G (pm_oAL 0 38 P st G) := pm_dn_eq (i := .aload_n 0) (len := 1) rfl
theorem u_62_38 (P : PL) (st : List PV) (G : PW) : pm_dn pm_sC 62 38 P st G = pm_go pm_sC 62 G (pm_oGf pm_sC 3 8 41 P st G) := pm_dn_eq (i := .getfield 21) (len := 3) rfl
theorem u_62_41 (P : PL) (st : List PV) (G : PW) : pm_dn pm_sC 62 41 P st G = pm_go pm_sC 62 G (pm_oIL 2 42 P st G) := pm_dn_eq (i := .iload_n 2) (len := 1) rfl
theorem u_62_42 (P : PL) (st : List PV) (G : PW) : pm_dn pm_sC 62 42 P st G = pm_go pm_sC 62 G (pm_oIL 3 43 P st G) := pm_dn_eq (i := .iload_n 3) (len := 1) rfl
theorem u_62_43 (P : PL) (st : List PV) (G : PW) : pm_dn pm_sC 62 43 P st G = pm_go pm_sC 62 G (pm_oAdd 44 P st G) := pm_dn_eq (i := .iadd) (len := 1) rfl
theorem u_62_44 (P : PL) (st : List PV) (G : PW) : pm_dn pm_sC 62 44 P st G = pm_go pm_sC 62 G (pm_oAL 0 45 P st G) := pm_dn_eq (i := .aload_n 0) (len := 1) rfl
theorem u_62_45 (P : PL) (st : List PV) (G : PW) : pm_dn pm_sC 62 45 P st G = pm_go pm_sC 62 G (pm_oIL 1 46 P st G) := pm_dn_eq (i := .iload_n 1) (len := 1) rfl
theorem u_62_46 (P : PL) (st : List PV) (G : PW) : pm_dn pm_sC 62 46 P st G = pm_go pm_sC 62 G (pm_oIL 3 47 P st G) := pm_dn_eq (i := .iload_n 3) (len := 1) rfl
theorem u_62_47 (P : PL) (st : List PV) (G : PW) : pm_dn pm_sC 62 47 P st G = pm_go pm_sC 62 G (pm_oCv pm_sC 65 2 3 3 50 P st G) := pm_dn_eq (i := .invokevirtual 115) (len := 3) rfl
theorem u_62_50 (P : PL) (st : List PV) (G : PW) : pm_dn pm_sC 62 50 P st G = pm_go pm_sC 62 G (pm_oCs 104 3 3 53 P st G) := pm_dn_eq (i := .invokestatic 92) (len := 3) rfl
theorem u_62_53 (P : PL) (st : List PV) (G : PW) : pm_dn pm_sC 62 53 P st G = pm_go pm_sC 62 G (pm_oInc 3 1 56 P st G) := pm_dn_eq (i := .iinc 3 1) (len := 3) rfl
theorem u_62_56 (P : PL) (st : List PV) (G : PW) : pm_dn pm_sC 62 56 P st G = pm_go pm_sC 62 G (pm_oGo (some 18) P st G) := pm_dn_eq (i := .goto (-38)) (len := 3) rfl
theorem u_62_59 (P : PL) (st : List PV) (G : PW) : pm_dn pm_sC 62 59 P st G = pm_go pm_sC 62 G (pm_oInc 1 1 62 P st G) := pm_dn_eq (i := .iinc 1 1) (len := 3) rfl
theorem u_62_62 (P : PL) (st : List PV) (G : PW) : pm_dn pm_sC 62 62 P st G = pm_go pm_sC 62 G (pm_oGo (some 2) P st G) := pm_dn_eq (i := .goto (-60)) (len := 3) rfl
theorem u_62_65 (P : PL) (st : List PV) (G : PW) : pm_dn pm_sC 62 65 P st G = pm_go pm_sC 62 G (pm_oRv P st G) := pm_dn_eq (i := .return_) (len := 1) rfl
theorem ue_63 (a0 : Nat) (a1 : Int) (a2 : Int) (G : PW) : pm_ca pm_sC 63 [.inr (.inr a0), .inl a1, .inl a2] G = pm_dn pm_sC 63 0 [some (.inr (.inr a0)), some (.inl a1), some (.inl a2)] [] G := rfl
theorem u_63_0 (P : PL) (st : List PV) (G : PW) : pm_dn pm_sC 63 0 P st G = pm_go pm_sC 63 G (pm_oIL 1 1 P st G) := pm_dn_eq (i := .iload_n 1) (len := 1) rfl
theorem u_63_1 (P : PL) (st : List PV) (G : PW) : pm_dn pm_sC 63 1 P st G = pm_go pm_sC 63 G (pm_oAL 0 2 P st G) := pm_dn_eq (i := .aload_n 0) (len := 1) rfl
theorem u_63_2 (P : PL) (st : List PV) (G : PW) : pm_dn pm_sC 63 2 P st G = pm_go pm_sC 63 G (pm_oGf pm_sC 3 3 5 P st G) := pm_dn_eq (i := .getfield 49) (len := 3) rfl
theorem u_63_5 (P : PL) (st : List PV) (G : PW) : pm_dn pm_sC 63 5 P st G = pm_go pm_sC 63 G (pm_oIc .ne (some 19) 8 P st G) := pm_dn_eq (i := .if_icmp .ne 14) (len := 3) rfl
theorem u_63_8 (P : PL) (st : List PV) (G : PW) : pm_dn pm_sC 63 8 P st G = pm_go pm_sC 63 G (pm_oAL 0 9 P st G) := pm_dn_eq (i := .aload_n 0) (len := 1) rfl
theorem u_63_9 (P : PL) (st : List PV) (G : PW) : pm_dn pm_sC 63 9 P st G = pm_go pm_sC 63 G (pm_oCv pm_sC 51 0 1 3 12 P st G) := pm_dn_eq (i := .invokevirtual 61) (len := 3) rfl
theorem u_63_12 (P : PL) (st : List PV) (G : PW) : pm_dn pm_sC 63 12 P st G = pm_go pm_sC 63 G (pm_oK 0 13 P st G) := pm_dn_eq (i := .iconst 0) (len := 1) rfl
theorem u_63_13 (P : PL) (st : List PV) (G : PW) : pm_dn pm_sC 63 13 P st G = pm_go pm_sC 63 G (pm_oCs 106 2 2 16 P st G) := pm_dn_eq (i := .invokestatic 118) (len := 3) rfl
theorem u_63_16 (P : PL) (st : List PV) (G : PW) : pm_dn pm_sC 63 16 P st G = pm_go pm_sC 63 G (pm_oGo (some 36) P st G) := pm_dn_eq (i := .goto 20) (len := 3) rfl
theorem u_63_19 (P : PL) (st : List PV) (G : PW) : pm_dn pm_sC 63 19 P st G = pm_go pm_sC 63 G (pm_oAL 0 20 P st G) := pm_dn_eq (i := .aload_n 0) (len := 1) rfl
theorem u_63_20 (P : PL) (st : List PV) (G : PW) : pm_dn pm_sC 63 20 P st G = pm_go pm_sC 63 G (pm_oIL 1 21 P st G) := pm_dn_eq (i := .iload_n 1) (len := 1) rfl
theorem u_63_21 (P : PL) (st : List PV) (G : PW) : pm_dn pm_sC 63 21 P st G = pm_go pm_sC 63 G (pm_oK 1 22 P st G) := pm_dn_eq (i := .iconst 1) (len := 1) rfl
theorem u_63_22 (P : PL) (st : List PV) (G : PW) : pm_dn pm_sC 63 22 P st G = pm_go pm_sC 63 G (pm_oAdd 23 P st G) := pm_dn_eq (i := .iadd) (len := 1) rfl
theorem u_63_23 (P : PL) (st : List PV) (G : PW) : pm_dn pm_sC 63 23 P st G = pm_go pm_sC 63 G (pm_oCv pm_sC 55 1 2 3 26 P st G) := pm_dn_eq (i := .invokevirtual 96) (len := 3) rfl
theorem u_63_26 (P : PL) (st : List PV) (G : PW) : pm_dn pm_sC 63 26 P st G = pm_go pm_sC 63 G (pm_oIL 2 27 P st G) := pm_dn_eq (i := .iload_n 2) (len := 1) rfl
theorem u_63_27 (P : PL) (st : List PV) (G : PW) : pm_dn pm_sC 63 27 P st G = pm_go pm_sC 63 G (pm_oK 2 28 P st G) := pm_dn_eq (i := .iconst 2) (len := 1) rfl
theorem u_63_28 (P : PL) (st : List PV) (G : PW) : pm_dn pm_sC 63 28 P st G = pm_go pm_sC 63 G (pm_oDiv 29 P st G) := pm_dn_eq (i := .idiv) (len := 1) rfl
theorem u_63_29 (P : PL) (st : List PV) (G : PW) : pm_dn pm_sC 63 29 P st G = pm_go pm_sC 63 G (pm_oAdd 30 P st G) := pm_dn_eq (i := .iadd) (len := 1) rfl
theorem u_63_30 (P : PL) (st : List PV) (G : PW) : pm_dn pm_sC 63 30 P st G = pm_go pm_sC 63 G (pm_oIL 2 31 P st G) := pm_dn_eq (i := .iload_n 2) (len := 1) rfl
theorem u_63_31 (P : PL) (st : List PV) (G : PW) : pm_dn pm_sC 63 31 P st G = pm_go pm_sC 63 G (pm_oK 2 32 P st G) := pm_dn_eq (i := .iconst 2) (len := 1) rfl
theorem u_63_32 (P : PL) (st : List PV) (G : PW) : pm_dn pm_sC 63 32 P st G = pm_go pm_sC 63 G (pm_oRem 33 P st G) := pm_dn_eq (i := .irem) (len := 1) rfl
theorem u_63_33 (P : PL) (st : List PV) (G : PW) : pm_dn pm_sC 63 33 P st G = pm_go pm_sC 63 G (pm_oCs 106 2 2 36 P st G) := pm_dn_eq (i := .invokestatic 118) (len := 3) rfl
theorem u_63_36 (P : PL) (st : List PV) (G : PW) : pm_dn pm_sC 63 36 P st G = pm_go pm_sC 63 G (pm_oRi 0 P st G) := pm_dn_eq (i := .ireturn) (len := 1) rfl
theorem ue_64 (a0 : Nat) (a1 : Int) (a2 : Int) (G : PW) : pm_ca pm_sC 64 [.inr (.inr a0), .inl a1, .inl a2] G = pm_dn pm_sC 64 0 [some (.inr (.inr a0)), some (.inl a1), some (.inl a2), none, none] [] G := rfl
theorem u_64_0 (P : PL) (st : List PV) (G : PW) : pm_dn pm_sC 64 0 P st G = pm_go pm_sC 64 G (pm_oIL 1 1 P st G) := pm_dn_eq (i := .iload_n 1) (len := 1) rfl
theorem u_64_1 (P : PL) (st : List PV) (G : PW) : pm_dn pm_sC 64 1 P st G = pm_go pm_sC 64 G (pm_oK 1 2 P st G) := pm_dn_eq (i := .iconst 1) (len := 1) rfl
theorem u_64_2 (P : PL) (st : List PV) (G : PW) : pm_dn pm_sC 64 2 P st G = pm_go pm_sC 64 G (pm_oIc .ne (some 21) 5 P st G) := pm_dn_eq (i := .if_icmp .ne 19) (len := 3) rfl
theorem u_64_5 (P : PL) (st : List PV) (G : PW) : pm_dn pm_sC 64 5 P st G = pm_go pm_sC 64 G (pm_oAL 0 6 P st G) := pm_dn_eq (i := .aload_n 0) (len := 1) rfl
theorem u_64_6 (P : PL) (st : List PV) (G : PW) : pm_dn pm_sC 64 6 P st G = pm_go pm_sC 64 G (pm_oK 1 7 P st G) := pm_dn_eq (i := .iconst 1) (len := 1) rfl
theorem u_64_7 (P : PL) (st : List PV) (G : PW) : pm_dn pm_sC 64 7 P st G = pm_go pm_sC 64 G (pm_oCv pm_sC 59 1 4 3 10 P st G) := pm_dn_eq (i := .invokevirtual 112) (len := 3) rfl
theorem u_64_10 (P : PL) (st : List PV) (G : PW) : pm_dn pm_sC 64 10 P st G = pm_go pm_sC 64 G (pm_oIL 2 11 P st G) := pm_dn_eq (i := .iload_n 2) (len := 1) rfl
theorem u_64_11 (P : PL) (st : List PV) (G : PW) : pm_dn pm_sC 64 11 P st G = pm_go pm_sC 64 G (pm_oK 2 12 P st G) := pm_dn_eq (i := .iconst 2) (len := 1) rfl
theorem u_64_12 (P : PL) (st : List PV) (G : PW) : pm_dn pm_sC 64 12 P st G = pm_go pm_sC 64 G (pm_oDiv 13 P st G) := pm_dn_eq (i := .idiv) (len := 1) rfl
theorem u_64_13 (P : PL) (st : List PV) (G : PW) : pm_dn pm_sC 64 13 P st G = pm_go pm_sC 64 G (pm_oAdd 14 P st G) := pm_dn_eq (i := .iadd) (len := 1) rfl
theorem u_64_14 (P : PL) (st : List PV) (G : PW) : pm_dn pm_sC 64 14 P st G = pm_go pm_sC 64 G (pm_oIL 2 15 P st G) := pm_dn_eq (i := .iload_n 2) (len := 1) rfl
theorem u_64_15 (P : PL) (st : List PV) (G : PW) : pm_dn pm_sC 64 15 P st G = pm_go pm_sC 64 G (pm_oK 2 16 P st G) := pm_dn_eq (i := .iconst 2) (len := 1) rfl
theorem u_64_16 (P : PL) (st : List PV) (G : PW) : pm_dn pm_sC 64 16 P st G = pm_go pm_sC 64 G (pm_oRem 17 P st G) := pm_dn_eq (i := .irem) (len := 1) rfl
theorem u_64_17 (P : PL) (st : List PV) (G : PW) : pm_dn pm_sC 64 17 P st G = pm_go pm_sC 64 G (pm_oCs 106 2 2 20 P st G) := pm_dn_eq (i := .invokestatic 118) (len := 3) rfl
theorem u_64_20 (P : PL) (st : List PV) (G : PW) : pm_dn pm_sC 64 20 P st G = pm_go pm_sC 64 G (pm_oRi 0 P st G) := pm_dn_eq (i := .ireturn) (len := 1) rfl
theorem u_64_21 (P : PL) (st : List PV) (G : PW) : pm_dn pm_sC 64 21 P st G = pm_go pm_sC 64 G (pm_oAL 0 22 P st G) := pm_dn_eq (i := .aload_n 0) (len := 1) rfl
theorem u_64_22 (P : PL) (st : List PV) (G : PW) : pm_dn pm_sC 64 22 P st G = pm_go pm_sC 64 G (pm_oGf pm_sC 3 1 25 P st G) := pm_dn_eq (i := .getfield 43) (len := 3) rfl
theorem u_64_25 (P : PL) (st : List PV) (G : PW) : pm_dn pm_sC 64 25 P st G = pm_go pm_sC 64 G (pm_oK 1 26 P st G) := pm_dn_eq (i := .iconst 1) (len := 1) rfl
theorem u_64_26 (P : PL) (st : List PV) (G : PW) : pm_dn pm_sC 64 26 P st G = pm_go pm_sC 64 G (pm_oIc .ne (some 39) 29 P st G) := pm_dn_eq (i := .if_icmp .ne 13) (len := 3) rfl
theorem u_64_29 (P : PL) (st : List PV) (G : PW) : pm_dn pm_sC 64 29 P st G = pm_go pm_sC 64 G (pm_oIL 1 30 P st G) := pm_dn_eq (i := .iload_n 1) (len := 1) rfl
theorem u_64_30 (P : PL) (st : List PV) (G : PW) : pm_dn pm_sC 64 30 P st G = pm_go pm_sC 64 G (pm_oK 2 31 P st G) := pm_dn_eq (i := .iconst 2) (len := 1) rfl
theorem u_64_31 (P : PL) (st : List PV) (G : PW) : pm_dn pm_sC 64 31 P st G = pm_go pm_sC 64 G (pm_oRem 32 P st G) := pm_dn_eq (i := .irem) (len := 1) rfl
theorem u_64_32 (P : PL) (st : List PV) (G : PW) : pm_dn pm_sC 64 32 P st G = pm_go pm_sC 64 G (pm_oIf .ne (some 39) 35 P st G) := pm_dn_eq (i := .ifCond .ne 7) (len := 3) rfl
theorem u_64_35 (P : PL) (st : List PV) (G : PW) : pm_dn pm_sC 64 35 P st G = pm_go pm_sC 64 G (pm_oK 1 36 P st G) := pm_dn_eq (i := .iconst 1) (len := 1) rfl
theorem u_64_36 (P : PL) (st : List PV) (G : PW) : pm_dn pm_sC 64 36 P st G = pm_go pm_sC 64 G (pm_oGo (some 40) P st G) := pm_dn_eq (i := .goto 4) (len := 3) rfl
theorem u_64_39 (P : PL) (st : List PV) (G : PW) : pm_dn pm_sC 64 39 P st G = pm_go pm_sC 64 G (pm_oK 0 40 P st G) := pm_dn_eq (i := .iconst 0) (len := 1) rfl
theorem u_64_40 (P : PL) (st : List PV) (G : PW) : pm_dn pm_sC 64 40 P st G = pm_go pm_sC 64 G (pm_oIS 3 41 P st G) := pm_dn_eq (i := .istore_n 3) (len := 1) rfl
theorem u_64_41 (P : PL) (st : List PV) (G : PW) : pm_dn pm_sC 64 41 P st G = pm_go pm_sC 64 G (pm_oIL 3 42 P st G) := pm_dn_eq (i := .iload_n 3) (len := 1) rfl
theorem u_64_42 (P : PL) (st : List PV) (G : PW) : pm_dn pm_sC 64 42 P st G = pm_go pm_sC 64 G (pm_oIf .eq (some 57) 45 P st G) := pm_dn_eq (i := .ifCond .eq 15) (len := 3) rfl
theorem u_64_45 (P : PL) (st : List PV) (G : PW) : pm_dn pm_sC 64 45 P st G = pm_go pm_sC 64 G (pm_oAL 0 46 P st G) := pm_dn_eq (i := .aload_n 0) (len := 1) rfl
theorem u_64_46 (P : PL) (st : List PV) (G : PW) : pm_dn pm_sC 64 46 P st G = pm_go pm_sC 64 G (pm_oIL 1 47 P st G) := pm_dn_eq (i := .iload_n 1) (len := 1) rfl
theorem u_64_47 (P : PL) (st : List PV) (G : PW) : pm_dn pm_sC 64 47 P st G = pm_go pm_sC 64 G (pm_oCv pm_sC 56 1 2 3 50 P st G) := pm_dn_eq (i := .invokevirtual 99) (len := 3) rfl
theorem u_64_50 (P : PL) (st : List PV) (G : PW) : pm_dn pm_sC 64 50 P st G = pm_go pm_sC 64 G (pm_oK 1 51 P st G) := pm_dn_eq (i := .iconst 1) (len := 1) rfl
theorem u_64_51 (P : PL) (st : List PV) (G : PW) : pm_dn pm_sC 64 51 P st G = pm_go pm_sC 64 G (pm_oSub 52 P st G) := pm_dn_eq (i := .isub) (len := 1) rfl
theorem u_64_52 (P : PL) (st : List PV) (G : PW) : pm_dn pm_sC 64 52 P st G = pm_go pm_sC 64 G (pm_oIL 2 53 P st G) := pm_dn_eq (i := .iload_n 2) (len := 1) rfl
theorem u_64_53 (P : PL) (st : List PV) (G : PW) : pm_dn pm_sC 64 53 P st G = pm_go pm_sC 64 G (pm_oSub 54 P st G) := pm_dn_eq (i := .isub) (len := 1) rfl
theorem u_64_54 (P : PL) (st : List PV) (G : PW) : pm_dn pm_sC 64 54 P st G = pm_go pm_sC 64 G (pm_oGo (some 58) P st G) := pm_dn_eq (i := .goto 4) (len := 3) rfl
theorem u_64_57 (P : PL) (st : List PV) (G : PW) : pm_dn pm_sC 64 57 P st G = pm_go pm_sC 64 G (pm_oIL 2 58 P st G) := pm_dn_eq (i := .iload_n 2) (len := 1) rfl
theorem u_64_58 (P : PL) (st : List PV) (G : PW) : pm_dn pm_sC 64 58 P st G = pm_go pm_sC 64 G (pm_oIS 4 60 P st G) := pm_dn_eq (i := .istore 4) (len := 2) rfl
theorem u_64_60 (P : PL) (st : List PV) (G : PW) : pm_dn pm_sC 64 60 P st G = pm_go pm_sC 64 G (pm_oAL 0 61 P st G) := pm_dn_eq (i := .aload_n 0) (len := 1) rfl
theorem u_64_61 (P : PL) (st : List PV) (G : PW) : pm_dn pm_sC 64 61 P st G = pm_go pm_sC 64 G (pm_oK 2 62 P st G) := pm_dn_eq (i := .iconst 2) (len := 1) rfl
theorem u_64_62 (P : PL) (st : List PV) (G : PW) : pm_dn pm_sC 64 62 P st G = pm_go pm_sC 64 G (pm_oIL 1 63 P st G) := pm_dn_eq (i := .iload_n 1) (len := 1) rfl
theorem u_64_63 (P : PL) (st : List PV) (G : PW) : pm_dn pm_sC 64 63 P st G = pm_go pm_sC 64 G (pm_oK 1 64 P st G) := pm_dn_eq (i := .iconst 1) (len := 1) rfl
theorem u_64_64 (P : PL) (st : List PV) (G : PW) : pm_dn pm_sC 64 64 P st G = pm_go pm_sC 64 G (pm_oSub 65 P st G) := pm_dn_eq (i := .isub) (len := 1) rfl
theorem u_64_65 (P : PL) (st : List PV) (G : PW) : pm_dn pm_sC 64 65 P st G = pm_go pm_sC 64 G (pm_oMul 66 P st G) := pm_dn_eq (i := .imul) (len := 1) rfl
theorem u_64_66 (P : PL) (st : List PV) (G : PW) : pm_dn pm_sC 64 66 P st G = pm_go pm_sC 64 G (pm_oCv pm_sC 59 1 4 3 69 P st G) := pm_dn_eq (i := .invokevirtual 112) (len := 3) rfl
theorem u_64_69 (P : PL) (st : List PV) (G : PW) : pm_dn pm_sC 64 69 P st G = pm_go pm_sC 64 G (pm_oIL 4 71 P st G) := pm_dn_eq (i := .iload 4) (len := 2) rfl
theorem u_64_71 (P : PL) (st : List PV) (G : PW) : pm_dn pm_sC 64 71 P st G = pm_go pm_sC 64 G (pm_oAdd 72 P st G) := pm_dn_eq (i := .iadd) (len := 1) rfl
theorem u_64_72 (P : PL) (st : List PV) (G : PW) : pm_dn pm_sC 64 72 P st G = pm_go pm_sC 64 G (pm_oK 1 73 P st G) := pm_dn_eq (i := .iconst 1) (len := 1) rfl
theorem u_64_73 (P : PL) (st : List PV) (G : PW) : pm_dn pm_sC 64 73 P st G = pm_go pm_sC 64 G (pm_oCs 106 2 2 76 P st G) := pm_dn_eq (i := .invokestatic 118) (len := 3) rfl
theorem u_64_76 (P : PL) (st : List PV) (G : PW) : pm_dn pm_sC 64 76 P st G = pm_go pm_sC 64 G (pm_oRi 0 P st G) := pm_dn_eq (i := .ireturn) (len := 1) rfl
theorem ue_65 (a0 : Nat) (a1 : Int) (a2 : Int) (G : PW) : pm_ca pm_sC 65 [.inr (.inr a0), .inl a1, .inl a2] G = pm_dn pm_sC 65 0 [some (.inr (.inr a0)), some (.inl a1), some (.inl a2)] [] G := rfl
theorem u_65_0 (P : PL) (st : List PV) (G : PW) : pm_dn pm_sC 65 0 P st G = pm_go pm_sC 65 G (pm_oIL 1 1 P st G) := pm_dn_eq (i := .iload_n 1) (len := 1) rfl
theorem u_65_1 (P : PL) (st : List PV) (G : PW) : pm_dn pm_sC 65 1 P st G = pm_go pm_sC 65 G (pm_oAL 0 2 P st G) := pm_dn_eq (i := .aload_n 0) (len := 1) rfl
theorem u_65_2 (P : PL) (st : List PV) (G : PW) : pm_dn pm_sC 65 2 P st G = pm_go pm_sC 65 G (pm_oCv pm_sC 57 0 1 3 5 P st G) := pm_dn_eq (i := .invokevirtual 109) (len := 3) rfl
theorem u_65_5 (P : PL) (st : List PV) (G : PW) : pm_dn pm_sC 65 5 P st G = pm_go pm_sC 65 G (pm_oIc .ne (some 17) 8 P st G) := pm_dn_eq (i := .if_icmp .ne 12) (len := 3) rfl
theorem u_65_8 (P : PL) (st : List PV) (G : PW) : pm_dn pm_sC 65 8 P st G = pm_go pm_sC 65 G (pm_oAL 0 9 P st G) := pm_dn_eq (i := .aload_n 0) (len := 1) rfl
theorem u_65_9 (P : PL) (st : List PV) (G : PW) : pm_dn pm_sC 65 9 P st G = pm_go pm_sC 65 G (pm_oCv pm_sC 51 0 1 3 12 P st G) := pm_dn_eq (i := .invokevirtual 61) (len := 3) rfl
theorem u_65_12 (P : PL) (st : List PV) (G : PW) : pm_dn pm_sC 65 12 P st G = pm_go pm_sC 65 G (pm_oK 1 13 P st G) := pm_dn_eq (i := .iconst 1) (len := 1) rfl
theorem u_65_13 (P : PL) (st : List PV) (G : PW) : pm_dn pm_sC 65 13 P st G = pm_go pm_sC 65 G (pm_oCs 106 2 2 16 P st G) := pm_dn_eq (i := .invokestatic 118) (len := 3) rfl
theorem u_65_16 (P : PL) (st : List PV) (G : PW) : pm_dn pm_sC 65 16 P st G = pm_go pm_sC 65 G (pm_oRi 0 P st G) := pm_dn_eq (i := .ireturn) (len := 1) rfl
theorem u_65_17 (P : PL) (st : List PV) (G : PW) : pm_dn pm_sC 65 17 P st G = pm_go pm_sC 65 G (pm_oIL 1 18 P st G) := pm_dn_eq (i := .iload_n 1) (len := 1) rfl
theorem u_65_18 (P : PL) (st : List PV) (G : PW) : pm_dn pm_sC 65 18 P st G = pm_go pm_sC 65 G (pm_oK 2 19 P st G) := pm_dn_eq (i := .iconst 2) (len := 1) rfl
theorem u_65_19 (P : PL) (st : List PV) (G : PW) : pm_dn pm_sC 65 19 P st G = pm_go pm_sC 65 G (pm_oRem 20 P st G) := pm_dn_eq (i := .irem) (len := 1) rfl
theorem u_65_20 (P : PL) (st : List PV) (G : PW) : pm_dn pm_sC 65 20 P st G = pm_go pm_sC 65 G (pm_oK 1 21 P st G) := pm_dn_eq (i := .iconst 1) (len := 1) rfl
theorem u_65_21 (P : PL) (st : List PV) (G : PW) : pm_dn pm_sC 65 21 P st G = pm_go pm_sC 65 G (pm_oIc .ne (some 38) 24 P st G) := pm_dn_eq (i := .if_icmp .ne 17) (len := 3) rfl
theorem u_65_24 (P : PL) (st : List PV) (G : PW) : pm_dn pm_sC 65 24 P st G = pm_go pm_sC 65 G (pm_oAL 0 25 P st G) := pm_dn_eq (i := .aload_n 0) (len := 1) rfl
theorem u_65_25 (P : PL) (st : List PV) (G : PW) : pm_dn pm_sC 65 25 P st G = pm_go pm_sC 65 G (pm_oIL 1 26 P st G) := pm_dn_eq (i := .iload_n 1) (len := 1) rfl
theorem u_65_26 (P : PL) (st : List PV) (G : PW) : pm_dn pm_sC 65 26 P st G = pm_go pm_sC 65 G (pm_oK 1 27 P st G) := pm_dn_eq (i := .iconst 1) (len := 1) rfl
theorem u_65_27 (P : PL) (st : List PV) (G : PW) : pm_dn pm_sC 65 27 P st G = pm_go pm_sC 65 G (pm_oAdd 28 P st G) := pm_dn_eq (i := .iadd) (len := 1) rfl
theorem u_65_28 (P : PL) (st : List PV) (G : PW) : pm_dn pm_sC 65 28 P st G = pm_go pm_sC 65 G (pm_oCv pm_sC 59 1 4 3 31 P st G) := pm_dn_eq (i := .invokevirtual 112) (len := 3) rfl
theorem u_65_31 (P : PL) (st : List PV) (G : PW) : pm_dn pm_sC 65 31 P st G = pm_go pm_sC 65 G (pm_oIL 2 32 P st G) := pm_dn_eq (i := .iload_n 2) (len := 1) rfl
theorem u_65_32 (P : PL) (st : List PV) (G : PW) : pm_dn pm_sC 65 32 P st G = pm_go pm_sC 65 G (pm_oAdd 33 P st G) := pm_dn_eq (i := .iadd) (len := 1) rfl
theorem u_65_33 (P : PL) (st : List PV) (G : PW) : pm_dn pm_sC 65 33 P st G = pm_go pm_sC 65 G (pm_oK 0 34 P st G) := pm_dn_eq (i := .iconst 0) (len := 1) rfl
theorem u_65_34 (P : PL) (st : List PV) (G : PW) : pm_dn pm_sC 65 34 P st G = pm_go pm_sC 65 G (pm_oCs 106 2 2 37 P st G) := pm_dn_eq (i := .invokestatic 118) (len := 3) rfl
theorem u_65_37 (P : PL) (st : List PV) (G : PW) : pm_dn pm_sC 65 37 P st G = pm_go pm_sC 65 G (pm_oRi 0 P st G) := pm_dn_eq (i := .ireturn) (len := 1) rfl
theorem u_65_38 (P : PL) (st : List PV) (G : PW) : pm_dn pm_sC 65 38 P st G = pm_go pm_sC 65 G (pm_oAL 0 39 P st G) := pm_dn_eq (i := .aload_n 0) (len := 1) rfl
theorem u_65_39 (P : PL) (st : List PV) (G : PW) : pm_dn pm_sC 65 39 P st G = pm_go pm_sC 65 G (pm_oIL 1 40 P st G) := pm_dn_eq (i := .iload_n 1) (len := 1) rfl
theorem u_65_40 (P : PL) (st : List PV) (G : PW) : pm_dn pm_sC 65 40 P st G = pm_go pm_sC 65 G (pm_oK 1 41 P st G) := pm_dn_eq (i := .iconst 1) (len := 1) rfl
theorem u_65_41 (P : PL) (st : List PV) (G : PW) : pm_dn pm_sC 65 41 P st G = pm_go pm_sC 65 G (pm_oAdd 42 P st G) := pm_dn_eq (i := .iadd) (len := 1) rfl
theorem u_65_42 (P : PL) (st : List PV) (G : PW) : pm_dn pm_sC 65 42 P st G = pm_go pm_sC 65 G (pm_oCv pm_sC 59 1 4 3 45 P st G) := pm_dn_eq (i := .invokevirtual 112) (len := 3) rfl
theorem u_65_45 (P : PL) (st : List PV) (G : PW) : pm_dn pm_sC 65 45 P st G = pm_go pm_sC 65 G (pm_oIL 2 46 P st G) := pm_dn_eq (i := .iload_n 2) (len := 1) rfl
theorem u_65_46 (P : PL) (st : List PV) (G : PW) : pm_dn pm_sC 65 46 P st G = pm_go pm_sC 65 G (pm_oK 2 47 P st G) := pm_dn_eq (i := .iconst 2) (len := 1) rfl
theorem u_65_47 (P : PL) (st : List PV) (G : PW) : pm_dn pm_sC 65 47 P st G = pm_go pm_sC 65 G (pm_oDiv 48 P st G) := pm_dn_eq (i := .idiv) (len := 1) rfl
theorem u_65_48 (P : PL) (st : List PV) (G : PW) : pm_dn pm_sC 65 48 P st G = pm_go pm_sC 65 G (pm_oAdd 49 P st G) := pm_dn_eq (i := .iadd) (len := 1) rfl
theorem u_65_49 (P : PL) (st : List PV) (G : PW) : pm_dn pm_sC 65 49 P st G = pm_go pm_sC 65 G (pm_oIL 2 50 P st G) := pm_dn_eq (i := .iload_n 2) (len := 1) rfl
theorem u_65_50 (P : PL) (st : List PV) (G : PW) : pm_dn pm_sC 65 50 P st G = pm_go pm_sC 65 G (pm_oK 2 51 P st G) := pm_dn_eq (i := .iconst 2) (len := 1) rfl
theorem u_65_51 (P : PL) (st : List PV) (G : PW) : pm_dn pm_sC 65 51 P st G = pm_go pm_sC 65 G (pm_oRem 52 P st G) := pm_dn_eq (i := .irem) (len := 1) rfl
theorem u_65_52 (P : PL) (st : List PV) (G : PW) : pm_dn pm_sC 65 52 P st G = pm_go pm_sC 65 G (pm_oCs 106 2 2 55 P st G) := pm_dn_eq (i := .invokestatic 118) (len := 3) rfl
theorem u_65_55 (P : PL) (st : List PV) (G : PW) : pm_dn pm_sC 65 55 P st G = pm_go pm_sC 65 G (pm_oRi 0 P st G) := pm_dn_eq (i := .ireturn) (len := 1) rfl
theorem ue_66 (a0 : Nat) (G : PW) : pm_ca pm_sC 66 [.inr (.inr a0)] G = pm_dn pm_sC 66 0 [some (.inr (.inr a0)), none, none, none] [] G := rfl
theorem u_66_0 (P : PL) (st : List PV) (G : PW) : pm_dn pm_sC 66 0 P st G = pm_go pm_sC 66 G (pm_oAL 0 1 P st G) := pm_dn_eq (i := .aload_n 0) (len := 1) rfl
theorem u_66_1 (P : PL) (st : List PV) (G : PW) : pm_dn pm_sC 66 1 P st G = pm_go pm_sC 66 G (pm_oGf pm_sC 3 12 4 P st G) := pm_dn_eq (i := .getfield 33) (len := 3) rfl
theorem u_66_4 (P : PL) (st : List PV) (G : PW) : pm_dn pm_sC 66 4 P st G = pm_go pm_sC 66 G (pm_oK 0 5 P st G) := pm_dn_eq (i := .iconst 0) (len := 1) rfl
theorem u_66_5 (P : PL) (st : List PV) (G : PW) : pm_dn pm_sC 66 5 P st G = pm_go pm_sC 66 G (pm_oK 0 6 P st G) := pm_dn_eq (i := .iconst 0) (len := 1) rfl
theorem u_66_6 (P : PL) (st : List PV) (G : PW) : pm_dn pm_sC 66 6 P st G = pm_go pm_sC 66 G (pm_oCs 104 3 3 9 P st G) := pm_dn_eq (i := .invokestatic 92) (len := 3) rfl
theorem u_66_9 (P : PL) (st : List PV) (G : PW) : pm_dn pm_sC 66 9 P st G = pm_go pm_sC 66 G (pm_oK 1 10 P st G) := pm_dn_eq (i := .iconst 1) (len := 1) rfl
theorem u_66_10 (P : PL) (st : List PV) (G : PW) : pm_dn pm_sC 66 10 P st G = pm_go pm_sC 66 G (pm_oIS 1 11 P st G) := pm_dn_eq (i := .istore_n 1) (len := 1) rfl
theorem u_66_11 (P : PL) (st : List PV) (G : PW) : pm_dn pm_sC 66 11 P st G = pm_go pm_sC 66 G (pm_oIL 1 12 P st G) := pm_dn_eq (i := .iload_n 1) (len := 1) rfl
theorem u_66_12 (P : PL) (st : List PV) (G : PW) : pm_dn pm_sC 66 12 P st G = pm_go pm_sC 66 G (pm_oAL 0 13 P st G) := pm_dn_eq (i := .aload_n 0) (len := 1) rfl
theorem u_66_13 (P : PL) (st : List PV) (G : PW) : pm_dn pm_sC 66 13 P st G = pm_go pm_sC 66 G (pm_oGf pm_sC 3 2 16 P st G) := pm_dn_eq (i := .getfield 46) (len := 3) rfl
theorem u_66_16 (P : PL) (st : List PV) (G : PW) : pm_dn pm_sC 66 16 P st G = pm_go pm_sC 66 G (pm_oIc .ge (some 79) 19 P st G) := pm_dn_eq (i := .if_icmp .ge 63) (len := 3) rfl
theorem u_66_19 (P : PL) (st : List PV) (G : PW) : pm_dn pm_sC 66 19 P st G = pm_go pm_sC 66 G (pm_oIL 1 20 P st G) := pm_dn_eq (i := .iload_n 1) (len := 1) rfl
theorem u_66_20 (P : PL) (st : List PV) (G : PW) : pm_dn pm_sC 66 20 P st G = pm_go pm_sC 66 G (pm_oK 1 21 P st G) := pm_dn_eq (i := .iconst 1) (len := 1) rfl
theorem u_66_21 (P : PL) (st : List PV) (G : PW) : pm_dn pm_sC 66 21 P st G = pm_go pm_sC 66 G (pm_oSub 22 P st G) := pm_dn_eq (i := .isub) (len := 1) rfl
theorem u_66_22 (P : PL) (st : List PV) (G : PW) : pm_dn pm_sC 66 22 P st G = pm_go pm_sC 66 G (pm_oIS 2 23 P st G) := pm_dn_eq (i := .istore_n 2) (len := 1) rfl
theorem u_66_23 (P : PL) (st : List PV) (G : PW) : pm_dn pm_sC 66 23 P st G = pm_go pm_sC 66 G (pm_oIL 2 24 P st G) := pm_dn_eq (i := .iload_n 2) (len := 1) rfl
theorem u_66_24 (P : PL) (st : List PV) (G : PW) : pm_dn pm_sC 66 24 P st G = pm_go pm_sC 66 G (pm_oIf .lt (some 72) 27 P st G) := pm_dn_eq (i := .ifCond .lt 48) (len := 3) rfl
theorem u_66_27 (P : PL) (st : List PV) (G : PW) : pm_dn pm_sC 66 27 P st G = pm_go pm_sC 66 G (pm_oAL 0 28 P st G) := pm_dn_eq (i := .aload_n 0) (len := 1) rfl
theorem u_66_28 (P : PL) (st : List PV) (G : PW) : pm_dn pm_sC 66 28 P st G = pm_go pm_sC 66 G (pm_oGf pm_sC 3 12 31 P st G) := pm_dn_eq (i := .getfield 33) (len := 3) rfl
theorem u_66_31 (P : PL) (st : List PV) (G : PW) : pm_dn pm_sC 66 31 P st G = pm_go pm_sC 66 G (pm_oIL 2 32 P st G) := pm_dn_eq (i := .iload_n 2) (len := 1) rfl
theorem u_66_32 (P : PL) (st : List PV) (G : PW) : pm_dn pm_sC 66 32 P st G = pm_go pm_sC 66 G (pm_oCs 103 2 2 35 P st G) := pm_dn_eq (i := .invokestatic 81) (len := 3) rfl
theorem u_66_35 (P : PL) (st : List PV) (G : PW) : pm_dn pm_sC 66 35 P st G = pm_go pm_sC 66 G (pm_oIS 3 36 P st G) := pm_dn_eq (i := .istore_n 3) (len := 1) rfl
theorem u_66_36 (P : PL) (st : List PV) (G : PW) : pm_dn pm_sC 66 36 P st G = pm_go pm_sC 66 G (pm_oAL 0 37 P st G) := pm_dn_eq (i := .aload_n 0) (len := 1) rfl
theorem u_66_37 (P : PL) (st : List PV) (G : PW) : pm_dn pm_sC 66 37 P st G = pm_go pm_sC 66 G (pm_oGf pm_sC 3 12 40 P st G) := pm_dn_eq (i := .getfield 33) (len := 3) rfl
theorem u_66_40 (P : PL) (st : List PV) (G : PW) : pm_dn pm_sC 66 40 P st G = pm_go pm_sC 66 G (pm_oK 2 41 P st G) := pm_dn_eq (i := .iconst 2) (len := 1) rfl
theorem u_66_41 (P : PL) (st : List PV) (G : PW) : pm_dn pm_sC 66 41 P st G = pm_go pm_sC 66 G (pm_oIL 2 42 P st G) := pm_dn_eq (i := .iload_n 2) (len := 1) rfl
theorem u_66_42 (P : PL) (st : List PV) (G : PW) : pm_dn pm_sC 66 42 P st G = pm_go pm_sC 66 G (pm_oMul 43 P st G) := pm_dn_eq (i := .imul) (len := 1) rfl
theorem u_66_43 (P : PL) (st : List PV) (G : PW) : pm_dn pm_sC 66 43 P st G = pm_go pm_sC 66 G (pm_oIL 3 44 P st G) := pm_dn_eq (i := .iload_n 3) (len := 1) rfl
theorem u_66_44 (P : PL) (st : List PV) (G : PW) : pm_dn pm_sC 66 44 P st G = pm_go pm_sC 66 G (pm_oCs 104 3 3 47 P st G) := pm_dn_eq (i := .invokestatic 92) (len := 3) rfl
theorem u_66_47 (P : PL) (st : List PV) (G : PW) : pm_dn pm_sC 66 47 P st G = pm_go pm_sC 66 G (pm_oAL 0 48 P st G) := pm_dn_eq (i := .aload_n 0) (len := 1) rfl
theorem u_66_48 (P : PL) (st : List PV) (G : PW) : pm_dn pm_sC 66 48 P st G = pm_go pm_sC 66 G (pm_oGf pm_sC 3 12 51 P st G) := pm_dn_eq (i := .getfield 33) (len := 3) rfl
theorem u_66_51 (P : PL) (st : List PV) (G : PW) : pm_dn pm_sC 66 51 P st G = pm_go pm_sC 66 G (pm_oK 2 52 P st G) := pm_dn_eq (i := .iconst 2) (len := 1) rfl
theorem u_66_52 (P : PL) (st : List PV) (G : PW) : pm_dn pm_sC 66 52 P st G = pm_go pm_sC 66 G (pm_oIL 2 53 P st G) := pm_dn_eq (i := .iload_n 2) (len := 1) rfl
theorem u_66_53 (P : PL) (st : List PV) (G : PW) : pm_dn pm_sC 66 53 P st G = pm_go pm_sC 66 G (pm_oMul 54 P st G) := pm_dn_eq (i := .imul) (len := 1) rfl
theorem u_66_54 (P : PL) (st : List PV) (G : PW) : pm_dn pm_sC 66 54 P st G = pm_go pm_sC 66 G (pm_oK 1 55 P st G) := pm_dn_eq (i := .iconst 1) (len := 1) rfl
theorem u_66_55 (P : PL) (st : List PV) (G : PW) : pm_dn pm_sC 66 55 P st G = pm_go pm_sC 66 G (pm_oAdd 56 P st G) := pm_dn_eq (i := .iadd) (len := 1) rfl
theorem u_66_56 (P : PL) (st : List PV) (G : PW) : pm_dn pm_sC 66 56 P st G = pm_go pm_sC 66 G (pm_oK 2 57 P st G) := pm_dn_eq (i := .iconst 2) (len := 1) rfl
theorem u_66_57 (P : PL) (st : List PV) (G : PW) : pm_dn pm_sC 66 57 P st G = pm_go pm_sC 66 G (pm_oIL 1 58 P st G) := pm_dn_eq (i := .iload_n 1) (len := 1) rfl
theorem u_66_58 (P : PL) (st : List PV) (G : PW) : pm_dn pm_sC 66 58 P st G = pm_go pm_sC 66 G (pm_oMul 59 P st G) := pm_dn_eq (i := .imul) (len := 1) rfl
theorem u_66_59 (P : PL) (st : List PV) (G : PW) : pm_dn pm_sC 66 59 P st G = pm_go pm_sC 66 G (pm_oK 1 60 P st G) := pm_dn_eq (i := .iconst 1) (len := 1) rfl
theorem u_66_60 (P : PL) (st : List PV) (G : PW) : pm_dn pm_sC 66 60 P st G = pm_go pm_sC 66 G (pm_oSub 61 P st G) := pm_dn_eq (i := .isub) (len := 1) rfl
theorem u_66_61 (P : PL) (st : List PV) (G : PW) : pm_dn pm_sC 66 61 P st G = pm_go pm_sC 66 G (pm_oIL 3 62 P st G) := pm_dn_eq (i := .iload_n 3) (len := 1) rfl
theorem u_66_62 (P : PL) (st : List PV) (G : PW) : pm_dn pm_sC 66 62 P st G = pm_go pm_sC 66 G (pm_oSub 63 P st G) := pm_dn_eq (i := .isub) (len := 1) rfl
theorem u_66_63 (P : PL) (st : List PV) (G : PW) : pm_dn pm_sC 66 63 P st G = pm_go pm_sC 66 G (pm_oCs 104 3 3 66 P st G) := pm_dn_eq (i := .invokestatic 92) (len := 3) rfl
theorem u_66_66 (P : PL) (st : List PV) (G : PW) : pm_dn pm_sC 66 66 P st G = pm_go pm_sC 66 G (pm_oInc 2 (-1) 69 P st G) := pm_dn_eq (i := .iinc 2 (-1)) (len := 3) rfl
theorem u_66_69 (P : PL) (st : List PV) (G : PW) : pm_dn pm_sC 66 69 P st G = pm_go pm_sC 66 G (pm_oGo (some 23) P st G) := pm_dn_eq (i := .goto (-46)) (len := 3) rfl
theorem u_66_72 (P : PL) (st : List PV) (G : PW) : pm_dn pm_sC 66 72 P st G = pm_go pm_sC 66 G (pm_oIL 1 73 P st G) := pm_dn_eq (i := .iload_n 1) (len := 1) rfl
theorem u_66_73 (P : PL) (st : List PV) (G : PW) : pm_dn pm_sC 66 73 P st G = pm_go pm_sC 66 G (pm_oK 2 74 P st G) := pm_dn_eq (i := .iconst 2) (len := 1) rfl
theorem u_66_74 (P : PL) (st : List PV) (G : PW) : pm_dn pm_sC 66 74 P st G = pm_go pm_sC 66 G (pm_oMul 75 P st G) := pm_dn_eq (i := .imul) (len := 1) rfl
theorem u_66_75 (P : PL) (st : List PV) (G : PW) : pm_dn pm_sC 66 75 P st G = pm_go pm_sC 66 G (pm_oIS 1 76 P st G) := pm_dn_eq (i := .istore_n 1) (len := 1) rfl
theorem u_66_76 (P : PL) (st : List PV) (G : PW) : pm_dn pm_sC 66 76 P st G = pm_go pm_sC 66 G (pm_oGo (some 11) P st G) := pm_dn_eq (i := .goto (-65)) (len := 3) rfl
theorem u_66_79 (P : PL) (st : List PV) (G : PW) : pm_dn pm_sC 66 79 P st G = pm_go pm_sC 66 G (pm_oRv P st G) := pm_dn_eq (i := .return_) (len := 1) rfl
theorem ue_67 (a0 : Nat) (G : PW) : pm_ca pm_sC 67 [.inr (.inr a0)] G = pm_dn pm_sC 67 0 [some (.inr (.inr a0)), none, none] [] G := rfl
theorem u_67_0 (P : PL) (st : List PV) (G : PW) : pm_dn pm_sC 67 0 P st G = pm_go pm_sC 67 G (pm_oK 0 1 P st G) := pm_dn_eq (i := .iconst 0) (len := 1) rfl
theorem u_67_1 (P : PL) (st : List PV) (G : PW) : pm_dn pm_sC 67 1 P st G = pm_go pm_sC 67 G (pm_oIS 1 2 P st G) := pm_dn_eq (i := .istore_n 1) (len := 1) rfl
theorem u_67_2 (P : PL) (st : List PV) (G : PW) : pm_dn pm_sC 67 2 P st G = pm_go pm_sC 67 G (pm_oIL 1 3 P st G) := pm_dn_eq (i := .iload_n 1) (len := 1) rfl
theorem u_67_3 (P : PL) (st : List PV) (G : PW) : pm_dn pm_sC 67 3 P st G = pm_go pm_sC 67 G (pm_oAL 0 4 P st G) := pm_dn_eq (i := .aload_n 0) (len := 1) rfl
theorem u_67_4 (P : PL) (st : List PV) (G : PW) : pm_dn pm_sC 67 4 P st G = pm_go pm_sC 67 G (pm_oGf pm_sC 3 2 7 P st G) := pm_dn_eq (i := .getfield 46) (len := 3) rfl
theorem u_67_7 (P : PL) (st : List PV) (G : PW) : pm_dn pm_sC 67 7 P st G = pm_go pm_sC 67 G (pm_oIc .ge (some 39) 10 P st G) := pm_dn_eq (i := .if_icmp .ge 32) (len := 3) rfl
theorem u_67_10 (P : PL) (st : List PV) (G : PW) : pm_dn pm_sC 67 10 P st G = pm_go pm_sC 67 G (pm_oAL 0 11 P st G) := pm_dn_eq (i := .aload_n 0) (len := 1) rfl
theorem u_67_11 (P : PL) (st : List PV) (G : PW) : pm_dn pm_sC 67 11 P st G = pm_go pm_sC 67 G (pm_oGf pm_sC 3 13 14 P st G) := pm_dn_eq (i := .getfield 36) (len := 3) rfl
theorem u_67_14 (P : PL) (st : List PV) (G : PW) : pm_dn pm_sC 67 14 P st G = pm_go pm_sC 67 G (pm_oIL 1 15 P st G) := pm_dn_eq (i := .iload_n 1) (len := 1) rfl
theorem u_67_15 (P : PL) (st : List PV) (G : PW) : pm_dn pm_sC 67 15 P st G = pm_go pm_sC 67 G (pm_oAL 0 16 P st G) := pm_dn_eq (i := .aload_n 0) (len := 1) rfl
theorem u_67_16 (P : PL) (st : List PV) (G : PW) : pm_dn pm_sC 67 16 P st G = pm_go pm_sC 67 G (pm_oIL 1 17 P st G) := pm_dn_eq (i := .iload_n 1) (len := 1) rfl
theorem u_67_17 (P : PL) (st : List PV) (G : PW) : pm_dn pm_sC 67 17 P st G = pm_go pm_sC 67 G (pm_oCv pm_sC 54 1 3 3 20 P st G) := pm_dn_eq (i := .invokevirtual 121) (len := 3) rfl
theorem u_67_20 (P : PL) (st : List PV) (G : PW) : pm_dn pm_sC 67 20 P st G = pm_go pm_sC 67 G (pm_oK 16 22 P st G) := pm_dn_eq (i := .bipush 16) (len := 2) rfl
theorem u_67_22 (P : PL) (st : List PV) (G : PW) : pm_dn pm_sC 67 22 P st G = pm_go pm_sC 67 G (pm_oIc .ne (some 29) 25 P st G) := pm_dn_eq (i := .if_icmp .ne 7) (len := 3) rfl
theorem u_67_25 (P : PL) (st : List PV) (G : PW) : pm_dn pm_sC 67 25 P st G = pm_go pm_sC 67 G (pm_oK 1 26 P st G) := pm_dn_eq (i := .iconst 1) (len := 1) rfl
theorem u_67_26 (P : PL) (st : List PV) (G : PW) : pm_dn pm_sC 67 26 P st G = pm_go pm_sC 67 G (pm_oGo (some 30) P st G) := pm_dn_eq (i := .goto 4) (len := 3) rfl
theorem u_67_29 (P : PL) (st : List PV) (G : PW) : pm_dn pm_sC 67 29 P st G = pm_go pm_sC 67 G (pm_oK 0 30 P st G) := pm_dn_eq (i := .iconst 0) (len := 1) rfl
theorem u_67_30 (P : PL) (st : List PV) (G : PW) : pm_dn pm_sC 67 30 P st G = pm_go pm_sC 67 G (pm_oCs 104 3 3 33 P st G) := pm_dn_eq (i := .invokestatic 92) (len := 3) rfl
theorem u_67_33 (P : PL) (st : List PV) (G : PW) : pm_dn pm_sC 67 33 P st G = pm_go pm_sC 67 G (pm_oInc 1 1 36 P st G) := pm_dn_eq (i := .iinc 1 1) (len := 3) rfl
theorem u_67_36 (P : PL) (st : List PV) (G : PW) : pm_dn pm_sC 67 36 P st G = pm_go pm_sC 67 G (pm_oGo (some 2) P st G) := pm_dn_eq (i := .goto (-34)) (len := 3) rfl
theorem u_67_39 (P : PL) (st : List PV) (G : PW) : pm_dn pm_sC 67 39 P st G = pm_go pm_sC 67 G (pm_oK 0 40 P st G) := pm_dn_eq (i := .iconst 0) (len := 1) rfl
theorem u_67_40 (P : PL) (st : List PV) (G : PW) : pm_dn pm_sC 67 40 P st G = pm_go pm_sC 67 G (pm_oIS 1 41 P st G) := pm_dn_eq (i := .istore_n 1) (len := 1) rfl
theorem u_67_41 (P : PL) (st : List PV) (G : PW) : pm_dn pm_sC 67 41 P st G = pm_go pm_sC 67 G (pm_oIL 1 42 P st G) := pm_dn_eq (i := .iload_n 1) (len := 1) rfl
theorem u_67_42 (P : PL) (st : List PV) (G : PW) : pm_dn pm_sC 67 42 P st G = pm_go pm_sC 67 G (pm_oAL 0 43 P st G) := pm_dn_eq (i := .aload_n 0) (len := 1) rfl
theorem u_67_43 (P : PL) (st : List PV) (G : PW) : pm_dn pm_sC 67 43 P st G = pm_go pm_sC 67 G (pm_oCv pm_sC 51 0 1 3 46 P st G) := pm_dn_eq (i := .invokevirtual 61) (len := 3) rfl
theorem u_67_46 (P : PL) (st : List PV) (G : PW) : pm_dn pm_sC 67 46 P st G = pm_go pm_sC 67 G (pm_oIc .ge (some 110) 49 P st G) := pm_dn_eq (i := .if_icmp .ge 64) (len := 3) rfl
theorem u_67_49 (P : PL) (st : List PV) (G : PW) : pm_dn pm_sC 67 49 P st G = pm_go pm_sC 67 G (pm_oAL 0 50 P st G) := pm_dn_eq (i := .aload_n 0) (len := 1) rfl
theorem u_67_50 (P : PL) (st : List PV) (G : PW) : pm_dn pm_sC 67 50 P st G = pm_go pm_sC 67 G (pm_oIL 1 51 P st G) := pm_dn_eq (i := .iload_n 1) (len := 1) rfl
theorem u_67_51 (P : PL) (st : List PV) (G : PW) : pm_dn pm_sC 67 51 P st G = pm_go pm_sC 67 G (pm_oCv pm_sC 68 1 2 3 54 P st G) := pm_dn_eq (i := .invokevirtual 124) (len := 3) rfl
theorem u_67_54 (P : PL) (st : List PV) (G : PW) : pm_dn pm_sC 67 54 P st G = pm_go pm_sC 67 G (pm_oIS 2 55 P st G) := pm_dn_eq (i := .istore_n 2) (len := 1) rfl
theorem u_67_55 (P : PL) (st : List PV) (G : PW) : pm_dn pm_sC 67 55 P st G = pm_go pm_sC 67 G (pm_oAL 0 56 P st G) := pm_dn_eq (i := .aload_n 0) (len := 1) rfl
theorem u_67_56 (P : PL) (st : List PV) (G : PW) : pm_dn pm_sC 67 56 P st G = pm_go pm_sC 67 G (pm_oGf pm_sC 3 13 59 P st G) := pm_dn_eq (i := .getfield 36) (len := 3) rfl
theorem u_67_59 (P : PL) (st : List PV) (G : PW) : pm_dn pm_sC 67 59 P st G = pm_go pm_sC 67 G (pm_oAL 0 60 P st G) := pm_dn_eq (i := .aload_n 0) (len := 1) rfl
theorem u_67_60 (P : PL) (st : List PV) (G : PW) : pm_dn pm_sC 67 60 P st G = pm_go pm_sC 67 G (pm_oGf pm_sC 3 8 63 P st G) := pm_dn_eq (i := .getfield 21) (len := 3) rfl
theorem u_67_63 (P : PL) (st : List PV) (G : PW) : pm_dn pm_sC 67 63 P st G = pm_go pm_sC 67 G (pm_oIL 1 64 P st G) := pm_dn_eq (i := .iload_n 1) (len := 1) rfl
theorem u_67_64 (P : PL) (st : List PV) (G : PW) : pm_dn pm_sC 67 64 P st G = pm_go pm_sC 67 G (pm_oCs 103 2 2 67 P st G) := pm_dn_eq (i := .invokestatic 81) (len := 3) rfl
theorem u_67_67 (P : PL) (st : List PV) (G : PW) : pm_dn pm_sC 67 67 P st G = pm_go pm_sC 67 G (pm_oIL 2 68 P st G) := pm_dn_eq (i := .iload_n 2) (len := 1) rfl
theorem u_67_68 (P : PL) (st : List PV) (G : PW) : pm_dn pm_sC 67 68 P st G = pm_go pm_sC 67 G (pm_oK 2 69 P st G) := pm_dn_eq (i := .iconst 2) (len := 1) rfl
theorem u_67_69 (P : PL) (st : List PV) (G : PW) : pm_dn pm_sC 67 69 P st G = pm_go pm_sC 67 G (pm_oIc .ne (some 76) 72 P st G) := pm_dn_eq (i := .if_icmp .ne 7) (len := 3) rfl
theorem u_67_72 (P : PL) (st : List PV) (G : PW) : pm_dn pm_sC 67 72 P st G = pm_go pm_sC 67 G (pm_oK 1 73 P st G) := pm_dn_eq (i := .iconst 1) (len := 1) rfl
theorem u_67_73 (P : PL) (st : List PV) (G : PW) : pm_dn pm_sC 67 73 P st G = pm_go pm_sC 67 G (pm_oGo (some 77) P st G) := pm_dn_eq (i := .goto 4) (len := 3) rfl
theorem u_67_76 (P : PL) (st : List PV) (G : PW) : pm_dn pm_sC 67 76 P st G = pm_go pm_sC 67 G (pm_oK 0 77 P st G) := pm_dn_eq (i := .iconst 0) (len := 1) rfl
theorem u_67_77 (P : PL) (st : List PV) (G : PW) : pm_dn pm_sC 67 77 P st G = pm_go pm_sC 67 G (pm_oCs 104 3 3 80 P st G) := pm_dn_eq (i := .invokestatic 92) (len := 3) rfl
theorem u_67_80 (P : PL) (st : List PV) (G : PW) : pm_dn pm_sC 67 80 P st G = pm_go pm_sC 67 G (pm_oAL 0 81 P st G) := pm_dn_eq (i := .aload_n 0) (len := 1) rfl
theorem u_67_81 (P : PL) (st : List PV) (G : PW) : pm_dn pm_sC 67 81 P st G = pm_go pm_sC 67 G (pm_oGf pm_sC 3 13 84 P st G) := pm_dn_eq (i := .getfield 36) (len := 3) rfl
theorem u_67_84 (P : PL) (st : List PV) (G : PW) : pm_dn pm_sC 67 84 P st G = pm_go pm_sC 67 G (pm_oAL 0 85 P st G) := pm_dn_eq (i := .aload_n 0) (len := 1) rfl
theorem u_67_85 (P : PL) (st : List PV) (G : PW) : pm_dn pm_sC 67 85 P st G = pm_go pm_sC 67 G (pm_oGf pm_sC 3 9 88 P st G) := pm_dn_eq (i := .getfield 24) (len := 3) rfl
theorem u_67_88 (P : PL) (st : List PV) (G : PW) : pm_dn pm_sC 67 88 P st G = pm_go pm_sC 67 G (pm_oIL 1 89 P st G) := pm_dn_eq (i := .iload_n 1) (len := 1) rfl
theorem u_67_89 (P : PL) (st : List PV) (G : PW) : pm_dn pm_sC 67 89 P st G = pm_go pm_sC 67 G (pm_oCs 103 2 2 92 P st G) := pm_dn_eq (i := .invokestatic 81) (len := 3) rfl
theorem u_67_92 (P : PL) (st : List PV) (G : PW) : pm_dn pm_sC 67 92 P st G = pm_go pm_sC 67 G (pm_oIL 2 93 P st G) := pm_dn_eq (i := .iload_n 2) (len := 1) rfl
theorem u_67_93 (P : PL) (st : List PV) (G : PW) : pm_dn pm_sC 67 93 P st G = pm_go pm_sC 67 G (pm_oIf .le (some 100) 96 P st G) := pm_dn_eq (i := .ifCond .le 7) (len := 3) rfl
theorem u_67_96 (P : PL) (st : List PV) (G : PW) : pm_dn pm_sC 67 96 P st G = pm_go pm_sC 67 G (pm_oK 1 97 P st G) := pm_dn_eq (i := .iconst 1) (len := 1) rfl
theorem u_67_97 (P : PL) (st : List PV) (G : PW) : pm_dn pm_sC 67 97 P st G = pm_go pm_sC 67 G (pm_oGo (some 101) P st G) := pm_dn_eq (i := .goto 4) (len := 3) rfl
theorem u_67_100 (P : PL) (st : List PV) (G : PW) : pm_dn pm_sC 67 100 P st G = pm_go pm_sC 67 G (pm_oK 0 101 P st G) := pm_dn_eq (i := .iconst 0) (len := 1) rfl
theorem u_67_101 (P : PL) (st : List PV) (G : PW) : pm_dn pm_sC 67 101 P st G = pm_go pm_sC 67 G (pm_oCs 104 3 3 104 P st G) := pm_dn_eq (i := .invokestatic 92) (len := 3) rfl
theorem u_67_104 (P : PL) (st : List PV) (G : PW) : pm_dn pm_sC 67 104 P st G = pm_go pm_sC 67 G (pm_oInc 1 1 107 P st G) := pm_dn_eq (i := .iinc 1 1) (len := 3) rfl
theorem u_67_107 (P : PL) (st : List PV) (G : PW) : pm_dn pm_sC 67 107 P st G = pm_go pm_sC 67 G (pm_oGo (some 41) P st G) := pm_dn_eq (i := .goto (-66)) (len := 3) rfl
theorem u_67_110 (P : PL) (st : List PV) (G : PW) : pm_dn pm_sC 67 110 P st G = pm_go pm_sC 67 G (pm_oRv P st G) := pm_dn_eq (i := .return_) (len := 1) rfl
theorem ue_68 (a0 : Nat) (a1 : Int) (G : PW) : pm_ca pm_sC 68 [.inr (.inr a0), .inl a1] G = pm_dn pm_sC 68 0 [some (.inr (.inr a0)), some (.inl a1)] [] G := rfl
theorem u_68_0 (P : PL) (st : List PV) (G : PW) : pm_dn pm_sC 68 0 P st G = pm_go pm_sC 68 G (pm_oAL 0 1 P st G) := pm_dn_eq (i := .aload_n 0) (len := 1) rfl
theorem u_68_1 (P : PL) (st : List PV) (G : PW) : pm_dn pm_sC 68 1 P st G = pm_go pm_sC 68 G (pm_oGf pm_sC 3 13 4 P st G) := pm_dn_eq (i := .getfield 36) (len := 3) rfl
theorem u_68_4 (P : PL) (st : List PV) (G : PW) : pm_dn pm_sC 68 4 P st G = pm_go pm_sC 68 G (pm_oIL 1 5 P st G) := pm_dn_eq (i := .iload_n 1) (len := 1) rfl
theorem u_68_5 (P : PL) (st : List PV) (G : PW) : pm_dn pm_sC 68 5 P st G = pm_go pm_sC 68 G (pm_oK 0 6 P st G) := pm_dn_eq (i := .iconst 0) (len := 1) rfl
theorem u_68_6 (P : PL) (st : List PV) (G : PW) : pm_dn pm_sC 68 6 P st G = pm_go pm_sC 68 G (pm_oCs 106 2 2 9 P st G) := pm_dn_eq (i := .invokestatic 118) (len := 3) rfl
theorem u_68_9 (P : PL) (st : List PV) (G : PW) : pm_dn pm_sC 68 9 P st G = pm_go pm_sC 68 G (pm_oCs 103 2 2 12 P st G) := pm_dn_eq (i := .invokestatic 81) (len := 3) rfl
theorem u_68_12 (P : PL) (st : List PV) (G : PW) : pm_dn pm_sC 68 12 P st G = pm_go pm_sC 68 G (pm_oAL 0 13 P st G) := pm_dn_eq (i := .aload_n 0) (len := 1) rfl
theorem u_68_13 (P : PL) (st : List PV) (G : PW) : pm_dn pm_sC 68 13 P st G = pm_go pm_sC 68 G (pm_oGf pm_sC 3 13 16 P st G) := pm_dn_eq (i := .getfield 36) (len := 3) rfl
theorem u_68_16 (P : PL) (st : List PV) (G : PW) : pm_dn pm_sC 68 16 P st G = pm_go pm_sC 68 G (pm_oIL 1 17 P st G) := pm_dn_eq (i := .iload_n 1) (len := 1) rfl
theorem u_68_17 (P : PL) (st : List PV) (G : PW) : pm_dn pm_sC 68 17 P st G = pm_go pm_sC 68 G (pm_oK 1 18 P st G) := pm_dn_eq (i := .iconst 1) (len := 1) rfl
theorem u_68_18 (P : PL) (st : List PV) (G : PW) : pm_dn pm_sC 68 18 P st G = pm_go pm_sC 68 G (pm_oCs 106 2 2 21 P st G) := pm_dn_eq (i := .invokestatic 118) (len := 3) rfl
theorem u_68_21 (P : PL) (st : List PV) (G : PW) : pm_dn pm_sC 68 21 P st G = pm_go pm_sC 68 G (pm_oCs 103 2 2 24 P st G) := pm_dn_eq (i := .invokestatic 81) (len := 3) rfl
theorem u_68_24 (P : PL) (st : List PV) (G : PW) : pm_dn pm_sC 68 24 P st G = pm_go pm_sC 68 G (pm_oAdd 25 P st G) := pm_dn_eq (i := .iadd) (len := 1) rfl
theorem u_68_25 (P : PL) (st : List PV) (G : PW) : pm_dn pm_sC 68 25 P st G = pm_go pm_sC 68 G (pm_oRi 0 P st G) := pm_dn_eq (i := .ireturn) (len := 1) rfl
theorem ue_69 (a0 : Nat) (G : PW) : pm_ca pm_sC 69 [.inr (.inr a0)] G = pm_dn pm_sC 69 0 [some (.inr (.inr a0)), none, none, none, none, none, none] [] G := rfl
theorem u_69_0 (P : PL) (st : List PV) (G : PW) : pm_dn pm_sC 69 0 P st G = pm_go pm_sC 69 G (pm_oK 0 1 P st G) := pm_dn_eq (i := .iconst 0) (len := 1) rfl
theorem u_69_1 (P : PL) (st : List PV) (G : PW) : pm_dn pm_sC 69 1 P st G = pm_go pm_sC 69 G (pm_oIS 1 2 P st G) := pm_dn_eq (i := .istore_n 1) (len := 1) rfl
theorem u_69_2 (P : PL) (st : List PV) (G : PW) : pm_dn pm_sC 69 2 P st G = pm_go pm_sC 69 G (pm_oAL 0 3 P st G) := pm_dn_eq (i := .aload_n 0) (len := 1) rfl
theorem u_69_3 (P : PL) (st : List PV) (G : PW) : pm_dn pm_sC 69 3 P st G = pm_go pm_sC 69 G (pm_oCv pm_sC 57 0 1 3 6 P st G) := pm_dn_eq (i := .invokevirtual 109) (len := 3) rfl
theorem u_69_6 (P : PL) (st : List PV) (G : PW) : pm_dn pm_sC 69 6 P st G = pm_go pm_sC 69 G (pm_oIS 2 7 P st G) := pm_dn_eq (i := .istore_n 2) (len := 1) rfl
theorem u_69_7 (P : PL) (st : List PV) (G : PW) : pm_dn pm_sC 69 7 P st G = pm_go pm_sC 69 G (pm_oIL 2 8 P st G) := pm_dn_eq (i := .iload_n 2) (len := 1) rfl
theorem u_69_8 (P : PL) (st : List PV) (G : PW) : pm_dn pm_sC 69 8 P st G = pm_go pm_sC 69 G (pm_oK 1 9 P st G) := pm_dn_eq (i := .iconst 1) (len := 1) rfl
theorem u_69_9 (P : PL) (st : List PV) (G : PW) : pm_dn pm_sC 69 9 P st G = pm_go pm_sC 69 G (pm_oIc .lt (some 119) 12 P st G) := pm_dn_eq (i := .if_icmp .lt 110) (len := 3) rfl
theorem u_69_12 (P : PL) (st : List PV) (G : PW) : pm_dn pm_sC 69 12 P st G = pm_go pm_sC 69 G (pm_oAL 0 13 P st G) := pm_dn_eq (i := .aload_n 0) (len := 1) rfl
theorem u_69_13 (P : PL) (st : List PV) (G : PW) : pm_dn pm_sC 69 13 P st G = pm_go pm_sC 69 G (pm_oIL 2 14 P st G) := pm_dn_eq (i := .iload_n 2) (len := 1) rfl
theorem u_69_14 (P : PL) (st : List PV) (G : PW) : pm_dn pm_sC 69 14 P st G = pm_go pm_sC 69 G (pm_oCv pm_sC 59 1 4 3 17 P st G) := pm_dn_eq (i := .invokevirtual 112) (len := 3) rfl
theorem u_69_17 (P : PL) (st : List PV) (G : PW) : pm_dn pm_sC 69 17 P st G = pm_go pm_sC 69 G (pm_oIS 3 18 P st G) := pm_dn_eq (i := .istore_n 3) (len := 1) rfl
theorem u_69_18 (P : PL) (st : List PV) (G : PW) : pm_dn pm_sC 69 18 P st G = pm_go pm_sC 69 G (pm_oIL 3 19 P st G) := pm_dn_eq (i := .iload_n 3) (len := 1) rfl
theorem u_69_19 (P : PL) (st : List PV) (G : PW) : pm_dn pm_sC 69 19 P st G = pm_go pm_sC 69 G (pm_oAL 0 20 P st G) := pm_dn_eq (i := .aload_n 0) (len := 1) rfl
theorem u_69_20 (P : PL) (st : List PV) (G : PW) : pm_dn pm_sC 69 20 P st G = pm_go pm_sC 69 G (pm_oIL 2 21 P st G) := pm_dn_eq (i := .iload_n 2) (len := 1) rfl
theorem u_69_21 (P : PL) (st : List PV) (G : PW) : pm_dn pm_sC 69 21 P st G = pm_go pm_sC 69 G (pm_oCv pm_sC 58 1 2 3 24 P st G) := pm_dn_eq (i := .invokevirtual 89) (len := 3) rfl
theorem u_69_24 (P : PL) (st : List PV) (G : PW) : pm_dn pm_sC 69 24 P st G = pm_go pm_sC 69 G (pm_oAdd 25 P st G) := pm_dn_eq (i := .iadd) (len := 1) rfl
theorem u_69_25 (P : PL) (st : List PV) (G : PW) : pm_dn pm_sC 69 25 P st G = pm_go pm_sC 69 G (pm_oIS 4 27 P st G) := pm_dn_eq (i := .istore 4) (len := 2) rfl
theorem u_69_27 (P : PL) (st : List PV) (G : PW) : pm_dn pm_sC 69 27 P st G = pm_go pm_sC 69 G (pm_oK 0 28 P st G) := pm_dn_eq (i := .iconst 0) (len := 1) rfl
theorem u_69_28 (P : PL) (st : List PV) (G : PW) : pm_dn pm_sC 69 28 P st G = pm_go pm_sC 69 G (pm_oIS 5 30 P st G) := pm_dn_eq (i := .istore 5) (len := 2) rfl
theorem u_69_30 (P : PL) (st : List PV) (G : PW) : pm_dn pm_sC 69 30 P st G = pm_go pm_sC 69 G (pm_oIL 3 31 P st G) := pm_dn_eq (i := .iload_n 3) (len := 1) rfl
theorem u_69_31 (P : PL) (st : List PV) (G : PW) : pm_dn pm_sC 69 31 P st G = pm_go pm_sC 69 G (pm_oIS 6 33 P st G) := pm_dn_eq (i := .istore 6) (len := 2) rfl
theorem u_69_33 (P : PL) (st : List PV) (G : PW) : pm_dn pm_sC 69 33 P st G = pm_go pm_sC 69 G (pm_oIL 6 35 P st G) := pm_dn_eq (i := .iload 6) (len := 2) rfl
theorem u_69_35 (P : PL) (st : List PV) (G : PW) : pm_dn pm_sC 69 35 P st G = pm_go pm_sC 69 G (pm_oIL 4 37 P st G) := pm_dn_eq (i := .iload 4) (len := 2) rfl
theorem u_69_37 (P : PL) (st : List PV) (G : PW) : pm_dn pm_sC 69 37 P st G = pm_go pm_sC 69 G (pm_oIc .ge (some 65) 40 P st G) := pm_dn_eq (i := .if_icmp .ge 28) (len := 3) rfl
theorem u_69_40 (P : PL) (st : List PV) (G : PW) : pm_dn pm_sC 69 40 P st G = pm_go pm_sC 69 G (pm_oIL 5 42 P st G) := pm_dn_eq (i := .iload 5) (len := 2) rfl
theorem u_69_42 (P : PL) (st : List PV) (G : PW) : pm_dn pm_sC 69 42 P st G = pm_go pm_sC 69 G (pm_oAL 0 43 P st G) := pm_dn_eq (i := .aload_n 0) (len := 1) rfl
theorem u_69_43 (P : PL) (st : List PV) (G : PW) : pm_dn pm_sC 69 43 P st G = pm_go pm_sC 69 G (pm_oIL 6 45 P st G) := pm_dn_eq (i := .iload 6) (len := 2) rfl
theorem u_69_45 (P : PL) (st : List PV) (G : PW) : pm_dn pm_sC 69 45 P st G = pm_go pm_sC 69 G (pm_oCv pm_sC 68 1 2 3 48 P st G) := pm_dn_eq (i := .invokevirtual 124) (len := 3) rfl
theorem u_69_48 (P : PL) (st : List PV) (G : PW) : pm_dn pm_sC 69 48 P st G = pm_go pm_sC 69 G (pm_oIf .ne (some 55) 51 P st G) := pm_dn_eq (i := .ifCond .ne 7) (len := 3) rfl
theorem u_69_51 (P : PL) (st : List PV) (G : PW) : pm_dn pm_sC 69 51 P st G = pm_go pm_sC 69 G (pm_oK 1 52 P st G) := pm_dn_eq (i := .iconst 1) (len := 1) rfl
theorem u_69_52 (P : PL) (st : List PV) (G : PW) : pm_dn pm_sC 69 52 P st G = pm_go pm_sC 69 G (pm_oGo (some 56) P st G) := pm_dn_eq (i := .goto 4) (len := 3) rfl
theorem u_69_55 (P : PL) (st : List PV) (G : PW) : pm_dn pm_sC 69 55 P st G = pm_go pm_sC 69 G (pm_oK 0 56 P st G) := pm_dn_eq (i := .iconst 0) (len := 1) rfl
theorem u_69_56 (P : PL) (st : List PV) (G : PW) : pm_dn pm_sC 69 56 P st G = pm_go pm_sC 69 G (pm_oAdd 57 P st G) := pm_dn_eq (i := .iadd) (len := 1) rfl
theorem u_69_57 (P : PL) (st : List PV) (G : PW) : pm_dn pm_sC 69 57 P st G = pm_go pm_sC 69 G (pm_oIS 5 59 P st G) := pm_dn_eq (i := .istore 5) (len := 2) rfl
theorem u_69_59 (P : PL) (st : List PV) (G : PW) : pm_dn pm_sC 69 59 P st G = pm_go pm_sC 69 G (pm_oInc 6 1 62 P st G) := pm_dn_eq (i := .iinc 6 1) (len := 3) rfl
theorem u_69_62 (P : PL) (st : List PV) (G : PW) : pm_dn pm_sC 69 62 P st G = pm_go pm_sC 69 G (pm_oGo (some 33) P st G) := pm_dn_eq (i := .goto (-29)) (len := 3) rfl
theorem u_69_65 (P : PL) (st : List PV) (G : PW) : pm_dn pm_sC 69 65 P st G = pm_go pm_sC 69 G (pm_oIL 3 66 P st G) := pm_dn_eq (i := .iload_n 3) (len := 1) rfl
theorem u_69_66 (P : PL) (st : List PV) (G : PW) : pm_dn pm_sC 69 66 P st G = pm_go pm_sC 69 G (pm_oIS 6 68 P st G) := pm_dn_eq (i := .istore 6) (len := 2) rfl
theorem u_69_68 (P : PL) (st : List PV) (G : PW) : pm_dn pm_sC 69 68 P st G = pm_go pm_sC 69 G (pm_oIL 6 70 P st G) := pm_dn_eq (i := .iload 6) (len := 2) rfl
theorem u_69_70 (P : PL) (st : List PV) (G : PW) : pm_dn pm_sC 69 70 P st G = pm_go pm_sC 69 G (pm_oIL 4 72 P st G) := pm_dn_eq (i := .iload 4) (len := 2) rfl
theorem u_69_72 (P : PL) (st : List PV) (G : PW) : pm_dn pm_sC 69 72 P st G = pm_go pm_sC 69 G (pm_oIc .ge (some 108) 75 P st G) := pm_dn_eq (i := .if_icmp .ge 36) (len := 3) rfl
theorem u_69_75 (P : PL) (st : List PV) (G : PW) : pm_dn pm_sC 69 75 P st G = pm_go pm_sC 69 G (pm_oAL 0 76 P st G) := pm_dn_eq (i := .aload_n 0) (len := 1) rfl
theorem u_69_76 (P : PL) (st : List PV) (G : PW) : pm_dn pm_sC 69 76 P st G = pm_go pm_sC 69 G (pm_oGf pm_sC 3 10 79 P st G) := pm_dn_eq (i := .getfield 27) (len := 3) rfl
theorem u_69_79 (P : PL) (st : List PV) (G : PW) : pm_dn pm_sC 69 79 P st G = pm_go pm_sC 69 G (pm_oIL 6 81 P st G) := pm_dn_eq (i := .iload 6) (len := 2) rfl
theorem u_69_81 (P : PL) (st : List PV) (G : PW) : pm_dn pm_sC 69 81 P st G = pm_go pm_sC 69 G (pm_oIL 1 82 P st G) := pm_dn_eq (i := .iload_n 1) (len := 1) rfl
theorem u_69_82 (P : PL) (st : List PV) (G : PW) : pm_dn pm_sC 69 82 P st G = pm_go pm_sC 69 G (pm_oK 3 83 P st G) := pm_dn_eq (i := .iconst 3) (len := 1) rfl
theorem u_69_83 (P : PL) (st : List PV) (G : PW) : pm_dn pm_sC 69 83 P st G = pm_go pm_sC 69 G (pm_oAdd 84 P st G) := pm_dn_eq (i := .iadd) (len := 1) rfl
theorem u_69_84 (P : PL) (st : List PV) (G : PW) : pm_dn pm_sC 69 84 P st G = pm_go pm_sC 69 G (pm_oCs 104 3 3 87 P st G) := pm_dn_eq (i := .invokestatic 92) (len := 3) rfl
theorem u_69_87 (P : PL) (st : List PV) (G : PW) : pm_dn pm_sC 69 87 P st G = pm_go pm_sC 69 G (pm_oAL 0 88 P st G) := pm_dn_eq (i := .aload_n 0) (len := 1) rfl
theorem u_69_88 (P : PL) (st : List PV) (G : PW) : pm_dn pm_sC 69 88 P st G = pm_go pm_sC 69 G (pm_oGf pm_sC 3 11 91 P st G) := pm_dn_eq (i := .getfield 30) (len := 3) rfl
theorem u_69_91 (P : PL) (st : List PV) (G : PW) : pm_dn pm_sC 69 91 P st G = pm_go pm_sC 69 G (pm_oIL 6 93 P st G) := pm_dn_eq (i := .iload 6) (len := 2) rfl
theorem u_69_93 (P : PL) (st : List PV) (G : PW) : pm_dn pm_sC 69 93 P st G = pm_go pm_sC 69 G (pm_oIL 1 94 P st G) := pm_dn_eq (i := .iload_n 1) (len := 1) rfl
theorem u_69_94 (P : PL) (st : List PV) (G : PW) : pm_dn pm_sC 69 94 P st G = pm_go pm_sC 69 G (pm_oK 2 95 P st G) := pm_dn_eq (i := .iconst 2) (len := 1) rfl
theorem u_69_95 (P : PL) (st : List PV) (G : PW) : pm_dn pm_sC 69 95 P st G = pm_go pm_sC 69 G (pm_oAdd 96 P st G) := pm_dn_eq (i := .iadd) (len := 1) rfl
theorem u_69_96 (P : PL) (st : List PV) (G : PW) : pm_dn pm_sC 69 96 P st G = pm_go pm_sC 69 G (pm_oIL 5 98 P st G) := pm_dn_eq (i := .iload 5) (len := 2) rfl
theorem u_69_98 (P : PL) (st : List PV) (G : PW) : pm_dn pm_sC 69 98 P st G = pm_go pm_sC 69 G (pm_oAdd 99 P st G) := pm_dn_eq (i := .iadd) (len := 1) rfl
theorem u_69_99 (P : PL) (st : List PV) (G : PW) : pm_dn pm_sC 69 99 P st G = pm_go pm_sC 69 G (pm_oCs 104 3 3 102 P st G) := pm_dn_eq (i := .invokestatic 92) (len := 3) rfl
theorem u_69_102 (P : PL) (st : List PV) (G : PW) : pm_dn pm_sC 69 102 P st G = pm_go pm_sC 69 G (pm_oInc 6 1 105 P st G) := pm_dn_eq (i := .iinc 6 1) (len := 3) rfl
theorem u_69_105 (P : PL) (st : List PV) (G : PW) : pm_dn pm_sC 69 105 P st G = pm_go pm_sC 69 G (pm_oGo (some 68) P st G) := pm_dn_eq (i := .goto (-37)) (len := 3) rfl
theorem u_69_108 (P : PL) (st : List PV) (G : PW) : pm_dn pm_sC 69 108 P st G = pm_go pm_sC 69 G (pm_oIL 1 109 P st G) := pm_dn_eq (i := .iload_n 1) (len := 1) rfl
theorem u_69_109 (P : PL) (st : List PV) (G : PW) : pm_dn pm_sC 69 109 P st G = pm_go pm_sC 69 G (pm_oIL 5 111 P st G) := pm_dn_eq (i := .iload 5) (len := 2) rfl
theorem u_69_111 (P : PL) (st : List PV) (G : PW) : pm_dn pm_sC 69 111 P st G = pm_go pm_sC 69 G (pm_oAdd 112 P st G) := pm_dn_eq (i := .iadd) (len := 1) rfl
theorem u_69_112 (P : PL) (st : List PV) (G : PW) : pm_dn pm_sC 69 112 P st G = pm_go pm_sC 69 G (pm_oIS 1 113 P st G) := pm_dn_eq (i := .istore_n 1) (len := 1) rfl
theorem u_69_113 (P : PL) (st : List PV) (G : PW) : pm_dn pm_sC 69 113 P st G = pm_go pm_sC 69 G (pm_oInc 2 (-1) 116 P st G) := pm_dn_eq (i := .iinc 2 (-1)) (len := 3) rfl
theorem u_69_116 (P : PL) (st : List PV) (G : PW) : pm_dn pm_sC 69 116 P st G = pm_go pm_sC 69 G (pm_oGo (some 7) P st G) := pm_dn_eq (i := .goto (-109)) (len := 3) rfl
theorem u_69_119 (P : PL) (st : List PV) (G : PW) : pm_dn pm_sC 69 119 P st G = pm_go pm_sC 69 G (pm_oRv P st G) := pm_dn_eq (i := .return_) (len := 1) rfl
theorem ue_70 (a0 : Nat) (a1 : Int) (a2 : Int) (G : PW) : pm_ca pm_sC 70 [.inr (.inr a0), .inl a1, .inl a2] G = pm_dn pm_sC 70 0 [some (.inr (.inr a0)), some (.inl a1), some (.inl a2)] [] G := rfl
theorem u_70_0 (P : PL) (st : List PV) (G : PW) : pm_dn pm_sC 70 0 P st G = pm_go pm_sC 70 G (pm_oIL 1 1 P st G) := pm_dn_eq (i := .iload_n 1) (len := 1) rfl
theorem u_70_1 (P : PL) (st : List PV) (G : PW) : pm_dn pm_sC 70 1 P st G = pm_go pm_sC 70 G (pm_oK 2 2 P st G) := pm_dn_eq (i := .iconst 2) (len := 1) rfl
theorem u_70_2 (P : PL) (st : List PV) (G : PW) : pm_dn pm_sC 70 2 P st G = pm_go pm_sC 70 G (pm_oIc .lt (some 20) 5 P st G) := pm_dn_eq (i := .if_icmp .lt 18) (len := 3) rfl
theorem u_70_5 (P : PL) (st : List PV) (G : PW) : pm_dn pm_sC 70 5 P st G = pm_go pm_sC 70 G (pm_oIL 1 6 P st G) := pm_dn_eq (i := .iload_n 1) (len := 1) rfl
theorem u_70_6 (P : PL) (st : List PV) (G : PW) : pm_dn pm_sC 70 6 P st G = pm_go pm_sC 70 G (pm_oK 16 8 P st G) := pm_dn_eq (i := .bipush 16) (len := 2) rfl
theorem u_70_8 (P : PL) (st : List PV) (G : PW) : pm_dn pm_sC 70 8 P st G = pm_go pm_sC 70 G (pm_oIc .gt (some 20) 11 P st G) := pm_dn_eq (i := .if_icmp .gt 12) (len := 3) rfl
theorem u_70_11 (P : PL) (st : List PV) (G : PW) : pm_dn pm_sC 70 11 P st G = pm_go pm_sC 70 G (pm_oIL 2 12 P st G) := pm_dn_eq (i := .iload_n 2) (len := 1) rfl
theorem u_70_12 (P : PL) (st : List PV) (G : PW) : pm_dn pm_sC 70 12 P st G = pm_go pm_sC 70 G (pm_oIf .lt (some 20) 15 P st G) := pm_dn_eq (i := .ifCond .lt 8) (len := 3) rfl
theorem u_70_15 (P : PL) (st : List PV) (G : PW) : pm_dn pm_sC 70 15 P st G = pm_go pm_sC 70 G (pm_oIL 2 16 P st G) := pm_dn_eq (i := .iload_n 2) (len := 1) rfl
theorem u_70_16 (P : PL) (st : List PV) (G : PW) : pm_dn pm_sC 70 16 P st G = pm_go pm_sC 70 G (pm_oK 1 17 P st G) := pm_dn_eq (i := .iconst 1) (len := 1) rfl
theorem u_70_17 (P : PL) (st : List PV) (G : PW) : pm_dn pm_sC 70 17 P st G = pm_go pm_sC 70 G (pm_oIc .le (some 23) 20 P st G) := pm_dn_eq (i := .if_icmp .le 6) (len := 3) rfl
theorem u_70_20 (P : PL) (st : List PV) (G : PW) : pm_dn pm_sC 70 20 P st G = pm_go pm_sC 70 G (pm_oK (-2) 22 P st G) := pm_dn_eq (i := .bipush (-2)) (len := 2) rfl
theorem u_70_22 (P : PL) (st : List PV) (G : PW) : pm_dn pm_sC 70 22 P st G = pm_go pm_sC 70 G (pm_oRi 0 P st G) := pm_dn_eq (i := .ireturn) (len := 1) rfl
theorem u_70_23 (P : PL) (st : List PV) (G : PW) : pm_dn pm_sC 70 23 P st G = pm_go pm_sC 70 G (pm_oAL 0 24 P st G) := pm_dn_eq (i := .aload_n 0) (len := 1) rfl
theorem u_70_24 (P : PL) (st : List PV) (G : PW) : pm_dn pm_sC 70 24 P st G = pm_go pm_sC 70 G (pm_oIL 1 25 P st G) := pm_dn_eq (i := .iload_n 1) (len := 1) rfl
theorem u_70_25 (P : PL) (st : List PV) (G : PW) : pm_dn pm_sC 70 25 P st G = pm_go pm_sC 70 G (pm_oIL 2 26 P st G) := pm_dn_eq (i := .iload_n 2) (len := 1) rfl
theorem u_70_26 (P : PL) (st : List PV) (G : PW) : pm_dn pm_sC 70 26 P st G = pm_go pm_sC 70 G (pm_oCv pm_sC 89 2 3 5 29 P st G) := pm_dn_eq (i := .invokevirtual 50) (len := 3) rfl
theorem u_70_29 (P : PL) (st : List PV) (G : PW) : pm_dn pm_sC 70 29 P st G = pm_go pm_sC 70 G (pm_oAL 0 30 P st G) := pm_dn_eq (i := .aload_n 0) (len := 1) rfl
theorem u_70_30 (P : PL) (st : List PV) (G : PW) : pm_dn pm_sC 70 30 P st G = pm_go pm_sC 70 G (pm_oCv pm_sC 100 0 2 5 33 P st G) := pm_dn_eq (i := .invokevirtual 54) (len := 3) rfl
theorem u_70_33 (P : PL) (st : List PV) (G : PW) : pm_dn pm_sC 70 33 P st G = pm_go pm_sC 70 G (pm_oAL 0 34 P st G) := pm_dn_eq (i := .aload_n 0) (len := 1) rfl
theorem u_70_34 (P : PL) (st : List PV) (G : PW) : pm_dn pm_sC 70 34 P st G = pm_go pm_sC 70 G (pm_oGf pm_sC 5 4 37 P st G) := pm_dn_eq (i := .getfield 29) (len := 3) rfl
theorem u_70_37 (P : PL) (st : List PV) (G : PW) : pm_dn pm_sC 70 37 P st G = pm_go pm_sC 70 G (pm_oCv pm_sC 31 0 1 1 40 P st G) := pm_dn_eq (i := .invokevirtual 57) (len := 3) rfl
theorem u_70_40 (P : PL) (st : List PV) (G : PW) : pm_dn pm_sC 70 40 P st G = pm_go pm_sC 70 G (pm_oAL 0 41 P st G) := pm_dn_eq (i := .aload_n 0) (len := 1) rfl
theorem u_70_41 (P : PL) (st : List PV) (G : PW) : pm_dn pm_sC 70 41 P st G = pm_go pm_sC 70 G (pm_oGf pm_sC 5 2 44 P st G) := pm_dn_eq (i := .getfield 19) (len := 3) rfl
theorem u_70_44 (P : PL) (st : List PV) (G : PW) : pm_dn pm_sC 70 44 P st G = pm_go pm_sC 70 G (pm_oGf pm_sC 0 0 47 P st G) := pm_dn_eq (i := .getfield 60) (len := 3) rfl
theorem u_70_47 (P : PL) (st : List PV) (G : PW) : pm_dn pm_sC 70 47 P st G = pm_go pm_sC 70 G (pm_oGf pm_sC 3 4 50 P st G) := pm_dn_eq (i := .getfield 64) (len := 3) rfl
theorem u_70_50 (P : PL) (st : List PV) (G : PW) : pm_dn pm_sC 70 50 P st G = pm_go pm_sC 70 G (pm_oRi 0 P st G) := pm_dn_eq (i := .ireturn) (len := 1) rfl
theorem ue_71 (a0 : Nat) (a1 : Int) (a2 : Int) (G : PW) : pm_ca pm_sC 71 [.inr (.inr a0), .inl a1, .inl a2] G = pm_dn pm_sC 71 0 [some (.inr (.inr a0)), some (.inl a1), some (.inl a2), none] [] G := rfl
theorem u_71_0 (P : PL) (st : List PV) (G : PW) : pm_dn pm_sC 71 0 P st G = pm_go pm_sC 71 G (pm_oAL 0 1 P st G) := pm_dn_eq (i := .aload_n 0) (len := 1) rfl
theorem u_71_1 (P : PL) (st : List PV) (G : PW) : pm_dn pm_sC 71 1 P st G = pm_go pm_sC 71 G (pm_oGf pm_sC 5 2 4 P st G) := pm_dn_eq (i := .getfield 19) (len := 3) rfl
theorem u_71_4 (P : PL) (st : List PV) (G : PW) : pm_dn pm_sC 71 4 P st G = pm_go pm_sC 71 G (pm_oGf pm_sC 0 0 7 P st G) := pm_dn_eq (i := .getfield 60) (len := 3) rfl
theorem u_71_7 (P : PL) (st : List PV) (G : PW) : pm_dn pm_sC 71 7 P st G = pm_go pm_sC 71 G (pm_oIL 1 8 P st G) := pm_dn_eq (i := .iload_n 1) (len := 1) rfl
theorem u_71_8 (P : PL) (st : List PV) (G : PW) : pm_dn pm_sC 71 8 P st G = pm_go pm_sC 71 G (pm_oCv pm_sC 49 1 2 3 11 P st G) := pm_dn_eq (i := .invokevirtual 70) (len := 3) rfl
theorem u_71_11 (P : PL) (st : List PV) (G : PW) : pm_dn pm_sC 71 11 P st G = pm_go pm_sC 71 G (pm_oIf .ne (some 16) 14 P st G) := pm_dn_eq (i := .ifCond .ne 5) (len := 3) rfl
theorem u_71_14 (P : PL) (st : List PV) (G : PW) : pm_dn pm_sC 71 14 P st G = pm_go pm_sC 71 G (pm_oK (-1) 15 P st G) := pm_dn_eq (i := .iconst (-1)) (len := 1) rfl
theorem u_71_15 (P : PL) (st : List PV) (G : PW) : pm_dn pm_sC 71 15 P st G = pm_go pm_sC 71 G (pm_oRi 0 P st G) := pm_dn_eq (i := .ireturn) (len := 1) rfl
theorem u_71_16 (P : PL) (st : List PV) (G : PW) : pm_dn pm_sC 71 16 P st G = pm_go pm_sC 71 G (pm_oIL 2 17 P st G) := pm_dn_eq (i := .iload_n 2) (len := 1) rfl
theorem u_71_17 (P : PL) (st : List PV) (G : PW) : pm_dn pm_sC 71 17 P st G = pm_go pm_sC 71 G (pm_oIf .lt (some 27) 20 P st G) := pm_dn_eq (i := .ifCond .lt 10) (len := 3) rfl
theorem u_71_20 (P : PL) (st : List PV) (G : PW) : pm_dn pm_sC 71 20 P st G = pm_go pm_sC 71 G (pm_oIL 2 21 P st G) := pm_dn_eq (i := .iload_n 2) (len := 1) rfl
theorem u_71_21 (P : PL) (st : List PV) (G : PW) : pm_dn pm_sC 71 21 P st G = pm_go pm_sC 71 G (pm_oK 9999 24 P st G) := pm_dn_eq (i := .sipush 9999) (len := 3) rfl
theorem u_71_24 (P : PL) (st : List PV) (G : PW) : pm_dn pm_sC 71 24 P st G = pm_go pm_sC 71 G (pm_oIc .le (some 30) 27 P st G) := pm_dn_eq (i := .if_icmp .le 6) (len := 3) rfl
theorem u_71_27 (P : PL) (st : List PV) (G : PW) : pm_dn pm_sC 71 27 P st G = pm_go pm_sC 71 G (pm_oK (-2) 29 P st G) := pm_dn_eq (i := .bipush (-2)) (len := 2) rfl
theorem u_71_29 (P : PL) (st : List PV) (G : PW) : pm_dn pm_sC 71 29 P st G = pm_go pm_sC 71 G (pm_oRi 0 P st G) := pm_dn_eq (i := .ireturn) (len := 1) rfl
theorem u_71_30 (P : PL) (st : List PV) (G : PW) : pm_dn pm_sC 71 30 P st G = pm_go pm_sC 71 G (pm_oAL 0 31 P st G) := pm_dn_eq (i := .aload_n 0) (len := 1) rfl
theorem u_71_31 (P : PL) (st : List PV) (G : PW) : pm_dn pm_sC 71 31 P st G = pm_go pm_sC 71 G (pm_oIL 1 32 P st G) := pm_dn_eq (i := .iload_n 1) (len := 1) rfl
theorem u_71_32 (P : PL) (st : List PV) (G : PW) : pm_dn pm_sC 71 32 P st G = pm_go pm_sC 71 G (pm_oCv pm_sC 101 1 2 5 35 P st G) := pm_dn_eq (i := .invokevirtual 74) (len := 3) rfl
theorem u_71_35 (P : PL) (st : List PV) (G : PW) : pm_dn pm_sC 71 35 P st G = pm_go pm_sC 71 G (pm_oIS 3 36 P st G) := pm_dn_eq (i := .istore_n 3) (len := 1) rfl
theorem u_71_36 (P : PL) (st : List PV) (G : PW) : pm_dn pm_sC 71 36 P st G = pm_go pm_sC 71 G (pm_oAL 0 37 P st G) := pm_dn_eq (i := .aload_n 0) (len := 1) rfl
theorem u_71_37 (P : PL) (st : List PV) (G : PW) : pm_dn pm_sC 71 37 P st G = pm_go pm_sC 71 G (pm_oIL 1 38 P st G) := pm_dn_eq (i := .iload_n 1) (len := 1) rfl
theorem u_71_38 (P : PL) (st : List PV) (G : PW) : pm_dn pm_sC 71 38 P st G = pm_go pm_sC 71 G (pm_oIL 2 39 P st G) := pm_dn_eq (i := .iload_n 2) (len := 1) rfl
theorem u_71_39 (P : PL) (st : List PV) (G : PW) : pm_dn pm_sC 71 39 P st G = pm_go pm_sC 71 G (pm_oCv pm_sC 102 2 3 5 42 P st G) := pm_dn_eq (i := .invokevirtual 78) (len := 3) rfl
theorem u_71_42 (P : PL) (st : List PV) (G : PW) : pm_dn pm_sC 71 42 P st G = pm_go pm_sC 71 G (pm_oIL 3 43 P st G) := pm_dn_eq (i := .iload_n 3) (len := 1) rfl
theorem u_71_43 (P : PL) (st : List PV) (G : PW) : pm_dn pm_sC 71 43 P st G = pm_go pm_sC 71 G (pm_oRi 0 P st G) := pm_dn_eq (i := .ireturn) (len := 1) rfl
theorem ue_72 (a0 : Nat) (a1 : Int) (a2 : Int) (G : PW) : pm_ca pm_sC 72 [.inr (.inr a0), .inl a1, .inl a2] G = pm_dn pm_sC 72 0 [some (.inr (.inr a0)), some (.inl a1), some (.inl a2), none, none] [] G := rfl
theorem u_72_0 (P : PL) (st : List PV) (G : PW) : pm_dn pm_sC 72 0 P st G = pm_go pm_sC 72 G (pm_oAL 0 1 P st G) := pm_dn_eq (i := .aload_n 0) (len := 1) rfl
theorem u_72_1 (P : PL) (st : List PV) (G : PW) : pm_dn pm_sC 72 1 P st G = pm_go pm_sC 72 G (pm_oGf pm_sC 5 2 4 P st G) := pm_dn_eq (i := .getfield 19) (len := 3) rfl
theorem u_72_4 (P : PL) (st : List PV) (G : PW) : pm_dn pm_sC 72 4 P st G = pm_go pm_sC 72 G (pm_oGf pm_sC 0 0 7 P st G) := pm_dn_eq (i := .getfield 60) (len := 3) rfl
theorem u_72_7 (P : PL) (st : List PV) (G : PW) : pm_dn pm_sC 72 7 P st G = pm_go pm_sC 72 G (pm_oIL 1 8 P st G) := pm_dn_eq (i := .iload_n 1) (len := 1) rfl
theorem u_72_8 (P : PL) (st : List PV) (G : PW) : pm_dn pm_sC 72 8 P st G = pm_go pm_sC 72 G (pm_oCv pm_sC 50 1 2 3 11 P st G) := pm_dn_eq (i := .invokevirtual 81) (len := 3) rfl
theorem u_72_11 (P : PL) (st : List PV) (G : PW) : pm_dn pm_sC 72 11 P st G = pm_go pm_sC 72 G (pm_oIf .ne (some 16) 14 P st G) := pm_dn_eq (i := .ifCond .ne 5) (len := 3) rfl
theorem u_72_14 (P : PL) (st : List PV) (G : PW) : pm_dn pm_sC 72 14 P st G = pm_go pm_sC 72 G (pm_oK (-1) 15 P st G) := pm_dn_eq (i := .iconst (-1)) (len := 1) rfl
theorem u_72_15 (P : PL) (st : List PV) (G : PW) : pm_dn pm_sC 72 15 P st G = pm_go pm_sC 72 G (pm_oRi 0 P st G) := pm_dn_eq (i := .ireturn) (len := 1) rfl
theorem u_72_16 (P : PL) (st : List PV) (G : PW) : pm_dn pm_sC 72 16 P st G = pm_go pm_sC 72 G (pm_oIL 2 17 P st G) := pm_dn_eq (i := .iload_n 2) (len := 1) rfl
theorem u_72_17 (P : PL) (st : List PV) (G : PW) : pm_dn pm_sC 72 17 P st G = pm_go pm_sC 72 G (pm_oIf .lt (some 25) 20 P st G) := pm_dn_eq (i := .ifCond .lt 8) (len := 3) rfl
theorem u_72_20 (P : PL) (st : List PV) (G : PW) : pm_dn pm_sC 72 20 P st G = pm_go pm_sC 72 G (pm_oIL 2 21 P st G) := pm_dn_eq (i := .iload_n 2) (len := 1) rfl
theorem u_72_21 (P : PL) (st : List PV) (G : PW) : pm_dn pm_sC 72 21 P st G = pm_go pm_sC 72 G (pm_oK 1 22 P st G) := pm_dn_eq (i := .iconst 1) (len := 1) rfl
theorem u_72_22 (P : PL) (st : List PV) (G : PW) : pm_dn pm_sC 72 22 P st G = pm_go pm_sC 72 G (pm_oIc .le (some 28) 25 P st G) := pm_dn_eq (i := .if_icmp .le 6) (len := 3) rfl
theorem u_72_25 (P : PL) (st : List PV) (G : PW) : pm_dn pm_sC 72 25 P st G = pm_go pm_sC 72 G (pm_oK (-2) 27 P st G) := pm_dn_eq (i := .bipush (-2)) (len := 2) rfl
theorem u_72_27 (P : PL) (st : List PV) (G : PW) : pm_dn pm_sC 72 27 P st G = pm_go pm_sC 72 G (pm_oRi 0 P st G) := pm_dn_eq (i := .ireturn) (len := 1) rfl
theorem u_72_28 (P : PL) (st : List PV) (G : PW) : pm_dn pm_sC 72 28 P st G = pm_go pm_sC 72 G (pm_oAL 0 29 P st G) := pm_dn_eq (i := .aload_n 0) (len := 1) rfl
theorem u_72_29 (P : PL) (st : List PV) (G : PW) : pm_dn pm_sC 72 29 P st G = pm_go pm_sC 72 G (pm_oGf pm_sC 5 2 32 P st G) := pm_dn_eq (i := .getfield 19) (len := 3) rfl
theorem u_72_32 (P : PL) (st : List PV) (G : PW) : pm_dn pm_sC 72 32 P st G = pm_go pm_sC 72 G (pm_oIL 1 33 P st G) := pm_dn_eq (i := .iload_n 1) (len := 1) rfl
theorem u_72_33 (P : PL) (st : List PV) (G : PW) : pm_dn pm_sC 72 33 P st G = pm_go pm_sC 72 G (pm_oCv pm_sC 9 1 2 0 36 P st G) := pm_dn_eq (i := .invokevirtual 84) (len := 3) rfl
theorem u_72_36 (P : PL) (st : List PV) (G : PW) : pm_dn pm_sC 72 36 P st G = pm_go pm_sC 72 G (pm_oIf .ne (some 42) 39 P st G) := pm_dn_eq (i := .ifCond .ne 6) (len := 3) rfl
theorem u_72_39 (P : PL) (st : List PV) (G : PW) : pm_dn pm_sC 72 39 P st G = pm_go pm_sC 72 G (pm_oK (-5) 41 P st G) := pm_dn_eq (i := .bipush (-5)) (len := 2) rfl
theorem u_72_41 (P : PL) (st : List PV) (G : PW) : pm_dn pm_sC 72 41 P st G = pm_go pm_sC 72 G (pm_oRi 0 P st G) := pm_dn_eq (i := .ireturn) (len := 1) rfl
theorem u_72_42 (P : PL) (st : List PV) (G : PW) : pm_dn pm_sC 72 42 P st G = pm_go pm_sC 72 G (pm_oAL 0 43 P st G) := pm_dn_eq (i := .aload_n 0) (len := 1) rfl
theorem u_72_43 (P : PL) (st : List PV) (G : PW) : pm_dn pm_sC 72 43 P st G = pm_go pm_sC 72 G (pm_oGf pm_sC 5 2 46 P st G) := pm_dn_eq (i := .getfield 19) (len := 3) rfl
theorem u_72_46 (P : PL) (st : List PV) (G : PW) : pm_dn pm_sC 72 46 P st G = pm_go pm_sC 72 G (pm_oIL 1 47 P st G) := pm_dn_eq (i := .iload_n 1) (len := 1) rfl
theorem u_72_47 (P : PL) (st : List PV) (G : PW) : pm_dn pm_sC 72 47 P st G = pm_go pm_sC 72 G (pm_oIL 2 48 P st G) := pm_dn_eq (i := .iload_n 2) (len := 1) rfl
theorem u_72_48 (P : PL) (st : List PV) (G : PW) : pm_dn pm_sC 72 48 P st G = pm_go pm_sC 72 G (pm_oCv pm_sC 5 2 3 0 51 P st G) := pm_dn_eq (i := .invokevirtual 87) (len := 3) rfl
theorem u_72_51 (P : PL) (st : List PV) (G : PW) : pm_dn pm_sC 72 51 P st G = pm_go pm_sC 72 G (pm_oIS 3 52 P st G) := pm_dn_eq (i := .istore_n 3) (len := 1) rfl
theorem u_72_52 (P : PL) (st : List PV) (G : PW) : pm_dn pm_sC 72 52 P st G = pm_go pm_sC 72 G (pm_oIL 1 53 P st G) := pm_dn_eq (i := .iload_n 1) (len := 1) rfl
theorem u_72_53 (P : PL) (st : List PV) (G : PW) : pm_dn pm_sC 72 53 P st G = pm_go pm_sC 72 G (pm_oIL 2 54 P st G) := pm_dn_eq (i := .iload_n 2) (len := 1) rfl
theorem u_72_54 (P : PL) (st : List PV) (G : PW) : pm_dn pm_sC 72 54 P st G = pm_go pm_sC 72 G (pm_oCs 24 2 2 57 P st G) := pm_dn_eq (i := .invokestatic 91) (len := 3) rfl
theorem u_72_57 (P : PL) (st : List PV) (G : PW) : pm_dn pm_sC 72 57 P st G = pm_go pm_sC 72 G (pm_oIS 4 59 P st G) := pm_dn_eq (i := .istore 4) (len := 2) rfl
theorem u_72_59 (P : PL) (st : List PV) (G : PW) : pm_dn pm_sC 72 59 P st G = pm_go pm_sC 72 G (pm_oAL 0 60 P st G) := pm_dn_eq (i := .aload_n 0) (len := 1) rfl
theorem u_72_60 (P : PL) (st : List PV) (G : PW) : pm_dn pm_sC 72 60 P st G = pm_go pm_sC 72 G (pm_oGf pm_sC 5 4 63 P st G) := pm_dn_eq (i := .getfield 29) (len := 3) rfl
theorem u_72_63 (P : PL) (st : List PV) (G : PW) : pm_dn pm_sC 72 63 P st G = pm_go pm_sC 72 G (pm_oIL 4 65 P st G) := pm_dn_eq (i := .iload 4) (len := 2) rfl
theorem u_72_65 (P : PL) (st : List PV) (G : PW) : pm_dn pm_sC 72 65 P st G = pm_go pm_sC 72 G (pm_oCv pm_sC 29 1 2 1 68 P st G) := pm_dn_eq (i := .invokevirtual 94) (len := 3) rfl
theorem u_72_68 (P : PL) (st : List PV) (G : PW) : pm_dn pm_sC 72 68 P st G = pm_go pm_sC 72 G (pm_oAL 0 69 P st G) := pm_dn_eq (i := .aload_n 0) (len := 1) rfl
theorem u_72_69 (P : PL) (st : List PV) (G : PW) : pm_dn pm_sC 72 69 P st G = pm_go pm_sC 72 G (pm_oIL 4 71 P st G) := pm_dn_eq (i := .iload 4) (len := 2) rfl
theorem u_72_71 (P : PL) (st : List PV) (G : PW) : pm_dn pm_sC 72 71 P st G = pm_go pm_sC 72 G (pm_oCv pm_sC 90 1 3 5 74 P st G) := pm_dn_eq (i := .invokevirtual 98) (len := 3) rfl
theorem u_72_74 (P : PL) (st : List PV) (G : PW) : pm_dn pm_sC 72 74 P st G = pm_go pm_sC 72 G (pm_oPop 75 P st G) := pm_dn_eq (i := .pop) (len := 1) rfl
theorem u_72_75 (P : PL) (st : List PV) (G : PW) : pm_dn pm_sC 72 75 P st G = pm_go pm_sC 72 G (pm_oIL 3 76 P st G) := pm_dn_eq (i := .iload_n 3) (len := 1) rfl
theorem u_72_76 (P : PL) (st : List PV) (G : PW) : pm_dn pm_sC 72 76 P st G = pm_go pm_sC 72 G (pm_oRi 0 P st G) := pm_dn_eq (i := .ireturn) (len := 1) rfl
theorem ue_73 (a0 : Nat) (a1 : Int) (G : PW) : pm_ca pm_sC 73 [.inr (.inr a0), .inl a1] G = pm_dn pm_sC 73 0 [some (.inr (.inr a0)), some (.inl a1), none] [] G := rfl
theorem u_73_0 (P : PL) (st : List PV) (G : PW) : pm_dn pm_sC 73 0 P st G = pm_go pm_sC 73 G (pm_oAL 0 1 P st G) := pm_dn_eq (i := .aload_n 0) (len := 1) rfl
theorem u_73_1 (P : PL) (st : List PV) (G : PW) : pm_dn pm_sC 73 1 P st G = pm_go pm_sC 73 G (pm_oGf pm_sC 5 2 4 P st G) := pm_dn_eq (i := .getfield 19) (len := 3) rfl
theorem u_73_4 (P : PL) (st : List PV) (G : PW) : pm_dn pm_sC 73 4 P st G = pm_go pm_sC 73 G (pm_oGf pm_sC 0 0 7 P st G) := pm_dn_eq (i := .getfield 60) (len := 3) rfl
theorem u_73_7 (P : PL) (st : List PV) (G : PW) : pm_dn pm_sC 73 7 P st G = pm_go pm_sC 73 G (pm_oIL 1 8 P st G) := pm_dn_eq (i := .iload_n 1) (len := 1) rfl
theorem u_73_8 (P : PL) (st : List PV) (G : PW) : pm_dn pm_sC 73 8 P st G = pm_go pm_sC 73 G (pm_oCv pm_sC 49 1 2 3 11 P st G) := pm_dn_eq (i := .invokevirtual 70) (len := 3) rfl
theorem u_73_11 (P : PL) (st : List PV) (G : PW) : pm_dn pm_sC 73 11 P st G = pm_go pm_sC 73 G (pm_oIf .ne (some 16) 14 P st G) := pm_dn_eq (i := .ifCond .ne 5) (len := 3) rfl
theorem u_73_14 (P : PL) (st : List PV) (G : PW) : pm_dn pm_sC 73 14 P st G = pm_go pm_sC 73 G (pm_oK (-1) 15 P st G) := pm_dn_eq (i := .iconst (-1)) (len := 1) rfl
theorem u_73_15 (P : PL) (st : List PV) (G : PW) : pm_dn pm_sC 73 15 P st G = pm_go pm_sC 73 G (pm_oRi 0 P st G) := pm_dn_eq (i := .ireturn) (len := 1) rfl
theorem u_73_16 (P : PL) (st : List PV) (G : PW) : pm_dn pm_sC 73 16 P st G = pm_go pm_sC 73 G (pm_oAL 0 17 P st G) := pm_dn_eq (i := .aload_n 0) (len := 1) rfl
theorem u_73_17 (P : PL) (st : List PV) (G : PW) : pm_dn pm_sC 73 17 P st G = pm_go pm_sC 73 G (pm_oGf pm_sC 5 2 20 P st G) := pm_dn_eq (i := .getfield 19) (len := 3) rfl
theorem u_73_20 (P : PL) (st : List PV) (G : PW) : pm_dn pm_sC 73 20 P st G = pm_go pm_sC 73 G (pm_oIL 1 21 P st G) := pm_dn_eq (i := .iload_n 1) (len := 1) rfl
theorem u_73_21 (P : PL) (st : List PV) (G : PW) : pm_dn pm_sC 73 21 P st G = pm_go pm_sC 73 G (pm_oCv pm_sC 4 1 2 0 24 P st G) := pm_dn_eq (i := .invokevirtual 101) (len := 3) rfl
theorem u_73_24 (P : PL) (st : List PV) (G : PW) : pm_dn pm_sC 73 24 P st G = pm_go pm_sC 73 G (pm_oIf .ne (some 38) 27 P st G) := pm_dn_eq (i := .ifCond .ne 14) (len := 3) rfl
theorem u_73_27 (P : PL) (st : List PV) (G : PW) : pm_dn pm_sC 73 27 P st G = pm_go pm_sC 73 G (pm_oAL 0 28 P st G) := pm_dn_eq (i := .aload_n 0) (len := 1) rfl
theorem u_73_28 (P : PL) (st : List PV) (G : PW) : pm_dn pm_sC 73 28 P st G = pm_go pm_sC 73 G (pm_oGf pm_sC 5 2 31 P st G) := pm_dn_eq (i := .getfield 19) (len := 3) rfl
theorem u_73_31 (P : PL) (st : List PV) (G : PW) : pm_dn pm_sC 73 31 P st G = pm_go pm_sC 73 G (pm_oIL 1 32 P st G) := pm_dn_eq (i := .iload_n 1) (len := 1) rfl
theorem u_73_32 (P : PL) (st : List PV) (G : PW) : pm_dn pm_sC 73 32 P st G = pm_go pm_sC 73 G (pm_oCv pm_sC 14 1 2 0 35 P st G) := pm_dn_eq (i := .invokevirtual 104) (len := 3) rfl
theorem u_73_35 (P : PL) (st : List PV) (G : PW) : pm_dn pm_sC 73 35 P st G = pm_go pm_sC 73 G (pm_oIf .eq (some 41) 38 P st G) := pm_dn_eq (i := .ifCond .eq 6) (len := 3) rfl
theorem u_73_38 (P : PL) (st : List PV) (G : PW) : pm_dn pm_sC 73 38 P st G = pm_go pm_sC 73 G (pm_oK (-5) 40 P st G) := pm_dn_eq (i := .bipush (-5)) (len := 2) rfl
theorem u_73_40 (P : PL) (st : List PV) (G : PW) : pm_dn pm_sC 73 40 P st G = pm_go pm_sC 73 G (pm_oRi 0 P st G) := pm_dn_eq (i := .ireturn) (len := 1) rfl
theorem u_73_41 (P : PL) (st : List PV) (G : PW) : pm_dn pm_sC 73 41 P st G = pm_go pm_sC 73 G (pm_oIL 1 42 P st G) := pm_dn_eq (i := .iload_n 1) (len := 1) rfl
theorem u_73_42 (P : PL) (st : List PV) (G : PW) : pm_dn pm_sC 73 42 P st G = pm_go pm_sC 73 G (pm_oCs 25 1 1 45 P st G) := pm_dn_eq (i := .invokestatic 107) (len := 3) rfl
theorem u_73_45 (P : PL) (st : List PV) (G : PW) : pm_dn pm_sC 73 45 P st G = pm_go pm_sC 73 G (pm_oIS 2 46 P st G) := pm_dn_eq (i := .istore_n 2) (len := 1) rfl
theorem u_73_46 (P : PL) (st : List PV) (G : PW) : pm_dn pm_sC 73 46 P st G = pm_go pm_sC 73 G (pm_oAL 0 47 P st G) := pm_dn_eq (i := .aload_n 0) (len := 1) rfl
theorem u_73_47 (P : PL) (st : List PV) (G : PW) : pm_dn pm_sC 73 47 P st G = pm_go pm_sC 73 G (pm_oGf pm_sC 5 4 50 P st G) := pm_dn_eq (i := .getfield 29) (len := 3) rfl
theorem u_73_50 (P : PL) (st : List PV) (G : PW) : pm_dn pm_sC 73 50 P st G = pm_go pm_sC 73 G (pm_oIL 2 51 P st G) := pm_dn_eq (i := .iload_n 2) (len := 1) rfl
theorem u_73_51 (P : PL) (st : List PV) (G : PW) : pm_dn pm_sC 73 51 P st G = pm_go pm_sC 73 G (pm_oCv pm_sC 29 1 2 1 54 P st G) := pm_dn_eq (i := .invokevirtual 94) (len := 3) rfl
theorem u_73_54 (P : PL) (st : List PV) (G : PW) : pm_dn pm_sC 73 54 P st G = pm_go pm_sC 73 G (pm_oAL 0 55 P st G) := pm_dn_eq (i := .aload_n 0) (len := 1) rfl
theorem u_73_55 (P : PL) (st : List PV) (G : PW) : pm_dn pm_sC 73 55 P st G = pm_go pm_sC 73 G (pm_oIL 2 56 P st G) := pm_dn_eq (i := .iload_n 2) (len := 1) rfl
theorem u_73_56 (P : PL) (st : List PV) (G : PW) : pm_dn pm_sC 73 56 P st G = pm_go pm_sC 73 G (pm_oCv pm_sC 90 1 3 5 59 P st G) := pm_dn_eq (i := .invokevirtual 98) (len := 3) rfl
theorem u_73_59 (P : PL) (st : List PV) (G : PW) : pm_dn pm_sC 73 59 P st G = pm_go pm_sC 73 G (pm_oRi 0 P st G) := pm_dn_eq (i := .ireturn) (len := 1) rfl
theorem ue_74 (a0 : Nat) (a1 : Int) (a2 : Int) (G : PW) : pm_ca pm_sC 74 [.inr (.inr a0), .inl a1, .inl a2] G = pm_dn pm_sC 74 0 [some (.inr (.inr a0)), some (.inl a1), some (.inl a2), none] [] G := rfl
theorem u_74_0 (P : PL) (st : List PV) (G : PW) : pm_dn pm_sC 74 0 P st G = pm_go pm_sC 74 G (pm_oAL 0 1 P st G) := pm_dn_eq (i := .aload_n 0) (len := 1) rfl
theorem u_74_1 (P : PL) (st : List PV) (G : PW) : pm_dn pm_sC 74 1 P st G = pm_go pm_sC 74 G (pm_oGf pm_sC 5 2 4 P st G) := pm_dn_eq (i := .getfield 19) (len := 3) rfl
theorem u_74_4 (P : PL) (st : List PV) (G : PW) : pm_dn pm_sC 74 4 P st G = pm_go pm_sC 74 G (pm_oGf pm_sC 0 0 7 P st G) := pm_dn_eq (i := .getfield 60) (len := 3) rfl
theorem u_74_7 (P : PL) (st : List PV) (G : PW) : pm_dn pm_sC 74 7 P st G = pm_go pm_sC 74 G (pm_oAS 3 8 P st G) := pm_dn_eq (i := .astore_n 3) (len := 1) rfl
theorem u_74_8 (P : PL) (st : List PV) (G : PW) : pm_dn pm_sC 74 8 P st G = pm_go pm_sC 74 G (pm_oAL 3 9 P st G) := pm_dn_eq (i := .aload_n 3) (len := 1) rfl
theorem u_74_9 (P : PL) (st : List PV) (G : PW) : pm_dn pm_sC 74 9 P st G = pm_go pm_sC 74 G (pm_oIL 1 10 P st G) := pm_dn_eq (i := .iload_n 1) (len := 1) rfl
theorem u_74_10 (P : PL) (st : List PV) (G : PW) : pm_dn pm_sC 74 10 P st G = pm_go pm_sC 74 G (pm_oCv pm_sC 50 1 2 3 13 P st G) := pm_dn_eq (i := .invokevirtual 81) (len := 3) rfl
theorem u_74_13 (P : PL) (st : List PV) (G : PW) : pm_dn pm_sC 74 13 P st G = pm_go pm_sC 74 G (pm_oIf .ne (some 18) 16 P st G) := pm_dn_eq (i := .ifCond .ne 5) (len := 3) rfl
theorem u_74_16 (P : PL) (st : List PV) (G : PW) : pm_dn pm_sC 74 16 P st G = pm_go pm_sC 74 G (pm_oK (-1) 17 P st G) := pm_dn_eq (i := .iconst (-1)) (len := 1) rfl
theorem u_74_17 (P : PL) (st : List PV) (G : PW) : pm_dn pm_sC 74 17 P st G = pm_go pm_sC 74 G (pm_oRi 0 P st G) := pm_dn_eq (i := .ireturn) (len := 1) rfl
theorem u_74_18 (P : PL) (st : List PV) (G : PW) : pm_dn pm_sC 74 18 P st G = pm_go pm_sC 74 G (pm_oIL 2 19 P st G) := pm_dn_eq (i := .iload_n 2) (len := 1) rfl
theorem u_74_19 (P : PL) (st : List PV) (G : PW) : pm_dn pm_sC 74 19 P st G = pm_go pm_sC 74 G (pm_oSw 0 11 (some 202) (some [80, 90, 100, 109, 118, 127, 136, 145, 154, 166, 178, 190]) P st G) := pm_dn_eq (i := .tableswitch 183 0 11 #[61, 71, 81, 90, 99, 108, 117, 126, 135, 147, 159, 171]) (len := 61) rfl
theorem u_74_80 (P : PL) (st : List PV) (G : PW) : pm_dn pm_sC 74 80 P st G = pm_go pm_sC 74 G (pm_oAL 0 81 P st G) := pm_dn_eq (i := .aload_n 0) (len := 1) rfl
theorem u_74_81 (P : PL) (st : List PV) (G : PW) : pm_dn pm_sC 74 81 P st G = pm_go pm_sC 74 G (pm_oGf pm_sC 5 2 84 P st G) := pm_dn_eq (i := .getfield 19) (len := 3) rfl
theorem u_74_84 (P : PL) (st : List PV) (G : PW) : pm_dn pm_sC 74 84 P st G = pm_go pm_sC 74 G (pm_oIL 1 85 P st G) := pm_dn_eq (i := .iload_n 1) (len := 1) rfl
theorem u_74_85 (P : PL) (st : List PV) (G : PW) : pm_dn pm_sC 74 85 P st G = pm_go pm_sC 74 G (pm_oK 0 86 P st G) := pm_dn_eq (i := .iconst 0) (len := 1) rfl
theorem u_74_86 (P : PL) (st : List PV) (G : PW) : pm_dn pm_sC 74 86 P st G = pm_go pm_sC 74 G (pm_oCv pm_sC 5 2 3 0 89 P st G) := pm_dn_eq (i := .invokevirtual 87) (len := 3) rfl
theorem u_74_89 (P : PL) (st : List PV) (G : PW) : pm_dn pm_sC 74 89 P st G = pm_go pm_sC 74 G (pm_oRi 0 P st G) := pm_dn_eq (i := .ireturn) (len := 1) rfl
theorem u_74_90 (P : PL) (st : List PV) (G : PW) : pm_dn pm_sC 74 90 P st G = pm_go pm_sC 74 G (pm_oAL 0 91 P st G) := pm_dn_eq (i := .aload_n 0) (len := 1) rfl
theorem u_74_91 (P : PL) (st : List PV) (G : PW) : pm_dn pm_sC 74 91 P st G = pm_go pm_sC 74 G (pm_oGf pm_sC 5 2 94 P st G) := pm_dn_eq (i := .getfield 19) (len := 3) rfl
theorem u_74_94 (P : PL) (st : List PV) (G : PW) : pm_dn pm_sC 74 94 P st G = pm_go pm_sC 74 G (pm_oIL 1 95 P st G) := pm_dn_eq (i := .iload_n 1) (len := 1) rfl
theorem u_74_95 (P : PL) (st : List PV) (G : PW) : pm_dn pm_sC 74 95 P st G = pm_go pm_sC 74 G (pm_oK 1 96 P st G) := pm_dn_eq (i := .iconst 1) (len := 1) rfl
theorem u_74_96 (P : PL) (st : List PV) (G : PW) : pm_dn pm_sC 74 96 P st G = pm_go pm_sC 74 G (pm_oCv pm_sC 5 2 3 0 99 P st G) := pm_dn_eq (i := .invokevirtual 87) (len := 3) rfl
theorem u_74_99 (P : PL) (st : List PV) (G : PW) : pm_dn pm_sC 74 99 P st G = pm_go pm_sC 74 G (pm_oRi 0 P st G) := pm_dn_eq (i := .ireturn) (len := 1) rfl
theorem u_74_100 (P : PL) (st : List PV) (G : PW) : pm_dn pm_sC 74 100 P st G = pm_go pm_sC 74 G (pm_oAL 0 101 P st G) := pm_dn_eq (i := .aload_n 0) (len := 1) rfl
theorem u_74_101 (P : PL) (st : List PV) (G : PW) : pm_dn pm_sC 74 101 P st G = pm_go pm_sC 74 G (pm_oGf pm_sC 5 2 104 P st G) := pm_dn_eq (i := .getfield 19) (len := 3) rfl
theorem u_74_104 (P : PL) (st : List PV) (G : PW) : pm_dn pm_sC 74 104 P st G = pm_go pm_sC 74 G (pm_oIL 1 105 P st G) := pm_dn_eq (i := .iload_n 1) (len := 1) rfl
theorem u_74_105 (P : PL) (st : List PV) (G : PW) : pm_dn pm_sC 74 105 P st G = pm_go pm_sC 74 G (pm_oCv pm_sC 7 1 2 0 108 P st G) := pm_dn_eq (i := .invokevirtual 110) (len := 3) rfl
theorem u_74_108 (P : PL) (st : List PV) (G : PW) : pm_dn pm_sC 74 108 P st G = pm_go pm_sC 74 G (pm_oRi 0 P st G) := pm_dn_eq (i := .ireturn) (len := 1) rfl
theorem u_74_109 (P : PL) (st : List PV) (G : PW) : pm_dn pm_sC 74 109 P st G = pm_go pm_sC 74 G (pm_oAL 0 110 P st G) := pm_dn_eq (i := .aload_n 0) (len := 1) rfl
theorem u_74_110 (P : PL) (st : List PV) (G : PW) : pm_dn pm_sC 74 110 P st G = pm_go pm_sC 74 G (pm_oGf pm_sC 5 2 113 P st G) := pm_dn_eq (i := .getfield 19) (len := 3) rfl
theorem u_74_113 (P : PL) (st : List PV) (G : PW) : pm_dn pm_sC 74 113 P st G = pm_go pm_sC 74 G (pm_oIL 1 114 P st G) := pm_dn_eq (i := .iload_n 1) (len := 1) rfl
theorem u_74_114 (P : PL) (st : List PV) (G : PW) : pm_dn pm_sC 74 114 P st G = pm_go pm_sC 74 G (pm_oCv pm_sC 8 1 2 0 117 P st G) := pm_dn_eq (i := .invokevirtual 113) (len := 3) rfl
theorem u_74_117 (P : PL) (st : List PV) (G : PW) : pm_dn pm_sC 74 117 P st G = pm_go pm_sC 74 G (pm_oRi 0 P st G) := pm_dn_eq (i := .ireturn) (len := 1) rfl
theorem u_74_118 (P : PL) (st : List PV) (G : PW) : pm_dn pm_sC 74 118 P st G = pm_go pm_sC 74 G (pm_oAL 0 119 P st G) := pm_dn_eq (i := .aload_n 0) (len := 1) rfl
theorem u_74_119 (P : PL) (st : List PV) (G : PW) : pm_dn pm_sC 74 119 P st G = pm_go pm_sC 74 G (pm_oGf pm_sC 5 2 122 P st G) := pm_dn_eq (i := .getfield 19) (len := 3) rfl
theorem u_74_122 (P : PL) (st : List PV) (G : PW) : pm_dn pm_sC 74 122 P st G = pm_go pm_sC 74 G (pm_oIL 1 123 P st G) := pm_dn_eq (i := .iload_n 1) (len := 1) rfl
theorem u_74_123 (P : PL) (st : List PV) (G : PW) : pm_dn pm_sC 74 123 P st G = pm_go pm_sC 74 G (pm_oCv pm_sC 6 1 2 0 126 P st G) := pm_dn_eq (i := .invokevirtual 116) (len := 3) rfl
theorem u_74_126 (P : PL) (st : List PV) (G : PW) : pm_dn pm_sC 74 126 P st G = pm_go pm_sC 74 G (pm_oRi 0 P st G) := pm_dn_eq (i := .ireturn) (len := 1) rfl
theorem u_74_127 (P : PL) (st : List PV) (G : PW) : pm_dn pm_sC 74 127 P st G = pm_go pm_sC 74 G (pm_oAL 3 128 P st G) := pm_dn_eq (i := .aload_n 3) (len := 1) rfl
theorem u_74_128 (P : PL) (st : List PV) (G : PW) : pm_dn pm_sC 74 128 P st G = pm_go pm_sC 74 G (pm_oGf pm_sC 3 5 131 P st G) := pm_dn_eq (i := .getfield 119) (len := 3) rfl
theorem u_74_131 (P : PL) (st : List PV) (G : PW) : pm_dn pm_sC 74 131 P st G = pm_go pm_sC 74 G (pm_oIL 1 132 P st G) := pm_dn_eq (i := .iload_n 1) (len := 1) rfl
theorem u_74_132 (P : PL) (st : List PV) (G : PW) : pm_dn pm_sC 74 132 P st G = pm_go pm_sC 74 G (pm_oCs 103 2 2 135 P st G) := pm_dn_eq (i := .invokestatic 122) (len := 3) rfl
theorem u_74_135 (P : PL) (st : List PV) (G : PW) : pm_dn pm_sC 74 135 P st G = pm_go pm_sC 74 G (pm_oRi 0 P st G) := pm_dn_eq (i := .ireturn) (len := 1) rfl
theorem u_74_136 (P : PL) (st : List PV) (G : PW) : pm_dn pm_sC 74 136 P st G = pm_go pm_sC 74 G (pm_oAL 3 137 P st G) := pm_dn_eq (i := .aload_n 3) (len := 1) rfl
theorem u_74_137 (P : PL) (st : List PV) (G : PW) : pm_dn pm_sC 74 137 P st G = pm_go pm_sC 74 G (pm_oGf pm_sC 3 6 140 P st G) := pm_dn_eq (i := .getfield 126) (len := 3) rfl
theorem u_74_140 (P : PL) (st : List PV) (G : PW) : pm_dn pm_sC 74 140 P st G = pm_go pm_sC 74 G (pm_oIL 1 141 P st G) := pm_dn_eq (i := .iload_n 1) (len := 1) rfl
theorem u_74_141 (P : PL) (st : List PV) (G : PW) : pm_dn pm_sC 74 141 P st G = pm_go pm_sC 74 G (pm_oCs 103 2 2 144 P st G) := pm_dn_eq (i := .invokestatic 122) (len := 3) rfl
theorem u_74_144 (P : PL) (st : List PV) (G : PW) : pm_dn pm_sC 74 144 P st G = pm_go pm_sC 74 G (pm_oRi 0 P st G) := pm_dn_eq (i := .ireturn) (len := 1) rfl
theorem u_74_145 (P : PL) (st : List PV) (G : PW) : pm_dn pm_sC 74 145 P st G = pm_go pm_sC 74 G (pm_oAL 3 146 P st G) := pm_dn_eq (i := .aload_n 3) (len := 1) rfl
theorem u_74_146 (P : PL) (st : List PV) (G : PW) : pm_dn pm_sC 74 146 P st G = pm_go pm_sC 74 G (pm_oGf pm_sC 3 7 149 P st G) := pm_dn_eq (i := .getfield 129) (len := 3) rfl
theorem u_74_149 (P : PL) (st : List PV) (G : PW) : pm_dn pm_sC 74 149 P st G = pm_go pm_sC 74 G (pm_oIL 1 150 P st G) := pm_dn_eq (i := .iload_n 1) (len := 1) rfl
theorem u_74_150 (P : PL) (st : List PV) (G : PW) : pm_dn pm_sC 74 150 P st G = pm_go pm_sC 74 G (pm_oCs 103 2 2 153 P st G) := pm_dn_eq (i := .invokestatic 122) (len := 3) rfl
theorem u_74_153 (P : PL) (st : List PV) (G : PW) : pm_dn pm_sC 74 153 P st G = pm_go pm_sC 74 G (pm_oRi 0 P st G) := pm_dn_eq (i := .ireturn) (len := 1) rfl
theorem u_74_154 (P : PL) (st : List PV) (G : PW) : pm_dn pm_sC 74 154 P st G = pm_go pm_sC 74 G (pm_oAL 3 155 P st G) := pm_dn_eq (i := .aload_n 3) (len := 1) rfl
theorem u_74_155 (P : PL) (st : List PV) (G : PW) : pm_dn pm_sC 74 155 P st G = pm_go pm_sC 74 G (pm_oGf pm_sC 3 8 158 P st G) := pm_dn_eq (i := .getfield 132) (len := 3) rfl
theorem u_74_158 (P : PL) (st : List PV) (G : PW) : pm_dn pm_sC 74 158 P st G = pm_go pm_sC 74 G (pm_oIL 1 159 P st G) := pm_dn_eq (i := .iload_n 1) (len := 1) rfl
theorem u_74_159 (P : PL) (st : List PV) (G : PW) : pm_dn pm_sC 74 159 P st G = pm_go pm_sC 74 G (pm_oCs 103 2 2 162 P st G) := pm_dn_eq (i := .invokestatic 122) (len := 3) rfl
theorem u_74_162 (P : PL) (st : List PV) (G : PW) : pm_dn pm_sC 74 162 P st G = pm_go pm_sC 74 G (pm_oCs 107 1 1 165 P st G) := pm_dn_eq (i := .invokestatic 135) (len := 3) rfl
theorem u_74_165 (P : PL) (st : List PV) (G : PW) : pm_dn pm_sC 74 165 P st G = pm_go pm_sC 74 G (pm_oRi 0 P st G) := pm_dn_eq (i := .ireturn) (len := 1) rfl
theorem u_74_166 (P : PL) (st : List PV) (G : PW) : pm_dn pm_sC 74 166 P st G = pm_go pm_sC 74 G (pm_oAL 3 167 P st G) := pm_dn_eq (i := .aload_n 3) (len := 1) rfl
theorem u_74_167 (P : PL) (st : List PV) (G : PW) : pm_dn pm_sC 74 167 P st G = pm_go pm_sC 74 G (pm_oGf pm_sC 3 9 170 P st G) := pm_dn_eq (i := .getfield 138) (len := 3) rfl
theorem u_74_170 (P : PL) (st : List PV) (G : PW) : pm_dn pm_sC 74 170 P st G = pm_go pm_sC 74 G (pm_oIL 1 171 P st G) := pm_dn_eq (i := .iload_n 1) (len := 1) rfl
theorem u_74_171 (P : PL) (st : List PV) (G : PW) : pm_dn pm_sC 74 171 P st G = pm_go pm_sC 74 G (pm_oCs 103 2 2 174 P st G) := pm_dn_eq (i := .invokestatic 122) (len := 3) rfl
theorem u_74_174 (P : PL) (st : List PV) (G : PW) : pm_dn pm_sC 74 174 P st G = pm_go pm_sC 74 G (pm_oCs 107 1 1 177 P st G) := pm_dn_eq (i := .invokestatic 135) (len := 3) rfl
theorem u_74_177 (P : PL) (st : List PV) (G : PW) : pm_dn pm_sC 74 177 P st G = pm_go pm_sC 74 G (pm_oRi 0 P st G) := pm_dn_eq (i := .ireturn) (len := 1) rfl
theorem u_74_178 (P : PL) (st : List PV) (G : PW) : pm_dn pm_sC 74 178 P st G = pm_go pm_sC 74 G (pm_oAL 3 179 P st G) := pm_dn_eq (i := .aload_n 3) (len := 1) rfl
theorem u_74_179 (P : PL) (st : List PV) (G : PW) : pm_dn pm_sC 74 179 P st G = pm_go pm_sC 74 G (pm_oGf pm_sC 3 8 182 P st G) := pm_dn_eq (i := .getfield 132) (len := 3) rfl
theorem u_74_182 (P : PL) (st : List PV) (G : PW) : pm_dn pm_sC 74 182 P st G = pm_go pm_sC 74 G (pm_oIL 1 183 P st G) := pm_dn_eq (i := .iload_n 1) (len := 1) rfl
theorem u_74_183 (P : PL) (st : List PV) (G : PW) : pm_dn pm_sC 74 183 P st G = pm_go pm_sC 74 G (pm_oCs 103 2 2 186 P st G) := pm_dn_eq (i := .invokestatic 122) (len := 3) rfl
theorem u_74_186 (P : PL) (st : List PV) (G : PW) : pm_dn pm_sC 74 186 P st G = pm_go pm_sC 74 G (pm_oCs 108 1 1 189 P st G) := pm_dn_eq (i := .invokestatic 141) (len := 3) rfl
theorem u_74_189 (P : PL) (st : List PV) (G : PW) : pm_dn pm_sC 74 189 P st G = pm_go pm_sC 74 G (pm_oRi 0 P st G) := pm_dn_eq (i := .ireturn) (len := 1) rfl
theorem u_74_190 (P : PL) (st : List PV) (G : PW) : pm_dn pm_sC 74 190 P st G = pm_go pm_sC 74 G (pm_oAL 3 191 P st G) := pm_dn_eq (i := .aload_n 3) (len := 1) rfl
theorem u_74_191 (P : PL) (st : List PV) (G : PW) : pm_dn pm_sC 74 191 P st G = pm_go pm_sC 74 G (pm_oGf pm_sC 3 9 194 P st G) := pm_dn_eq (i := .getfield 138) (len := 3) rfl
theorem u_74_194 (P : PL) (st : List PV) (G : PW) : pm_dn pm_sC 74 194 P st G = pm_go pm_sC 74 G (pm_oIL 1 195 P st G) := pm_dn_eq (i := .iload_n 1) (len := 1) rfl
theorem u_74_195 (P : PL) (st : List PV) (G : PW) : pm_dn pm_sC 74 195 P st G = pm_go pm_sC 74 G (pm_oCs 103 2 2 198 P st G) := pm_dn_eq (i := .invokestatic 122) (len := 3) rfl
theorem u_74_198 (P : PL) (st : List PV) (G : PW) : pm_dn pm_sC 74 198 P st G = pm_go pm_sC 74 G (pm_oCs 108 1 1 201 P st G) := pm_dn_eq (i := .invokestatic 141) (len := 3) rfl
theorem u_74_201 (P : PL) (st : List PV) (G : PW) : pm_dn pm_sC 74 201 P st G = pm_go pm_sC 74 G (pm_oRi 0 P st G) := pm_dn_eq (i := .ireturn) (len := 1) rfl
theorem u_74_202 (P : PL) (st : List PV) (G : PW) : pm_dn pm_sC 74 202 P st G = pm_go pm_sC 74 G (pm_oK (-2) 204 P st G) := pm_dn_eq (i := .bipush (-2)) (len := 2) rfl
theorem u_74_204 (P : PL) (st : List PV) (G : PW) : pm_dn pm_sC 74 204 P st G = pm_go pm_sC 74 G (pm_oRi 0 P st G) := pm_dn_eq (i := .ireturn) (len := 1) rfl
theorem ue_75 (a0 : Nat) (a1 : Int) (a2 : Int) (G : PW) : pm_ca pm_sC 75 [.inr (.inr a0), .inl a1, .inl a2] G = pm_dn pm_sC 75 0 [some (.inr (.inr a0)), some (.inl a1), some (.inl a2)] [] G := rfl
theorem u_75_0 (P : PL) (st : List PV) (G : PW) : pm_dn pm_sC 75 0 P st G = pm_go pm_sC 75 G (pm_oAL 0 1 P st G) := pm_dn_eq (i := .aload_n 0) (len := 1) rfl
theorem u_75_1 (P : PL) (st : List PV) (G : PW) : pm_dn pm_sC 75 1 P st G = pm_go pm_sC 75 G (pm_oGf pm_sC 5 2 4 P st G) := pm_dn_eq (i := .getfield 19) (len := 3) rfl
theorem u_75_4 (P : PL) (st : List PV) (G : PW) : pm_dn pm_sC 75 4 P st G = pm_go pm_sC 75 G (pm_oGf pm_sC 0 0 7 P st G) := pm_dn_eq (i := .getfield 60) (len := 3) rfl
theorem u_75_7 (P : PL) (st : List PV) (G : PW) : pm_dn pm_sC 75 7 P st G = pm_go pm_sC 75 G (pm_oIL 1 8 P st G) := pm_dn_eq (i := .iload_n 1) (len := 1) rfl
theorem u_75_8 (P : PL) (st : List PV) (G : PW) : pm_dn pm_sC 75 8 P st G = pm_go pm_sC 75 G (pm_oCv pm_sC 49 1 2 3 11 P st G) := pm_dn_eq (i := .invokevirtual 70) (len := 3) rfl
theorem u_75_11 (P : PL) (st : List PV) (G : PW) : pm_dn pm_sC 75 11 P st G = pm_go pm_sC 75 G (pm_oIf .ne (some 16) 14 P st G) := pm_dn_eq (i := .ifCond .ne 5) (len := 3) rfl
theorem u_75_14 (P : PL) (st : List PV) (G : PW) : pm_dn pm_sC 75 14 P st G = pm_go pm_sC 75 G (pm_oK (-1) 15 P st G) := pm_dn_eq (i := .iconst (-1)) (len := 1) rfl
theorem u_75_15 (P : PL) (st : List PV) (G : PW) : pm_dn pm_sC 75 15 P st G = pm_go pm_sC 75 G (pm_oRi 0 P st G) := pm_dn_eq (i := .ireturn) (len := 1) rfl
theorem u_75_16 (P : PL) (st : List PV) (G : PW) : pm_dn pm_sC 75 16 P st G = pm_go pm_sC 75 G (pm_oIL 2 17 P st G) := pm_dn_eq (i := .iload_n 2) (len := 1) rfl
theorem u_75_17 (P : PL) (st : List PV) (G : PW) : pm_dn pm_sC 75 17 P st G = pm_go pm_sC 75 G (pm_oSw 0 8 (some 151) (some [68, 74, 83, 92, 109, 115, 124, 133, 142]) P st G) := pm_dn_eq (i := .tableswitch 134 0 8 #[51, 57, 66, 75, 92, 98, 107, 116, 125]) (len := 51) rfl
theorem u_75_68 (P : PL) (st : List PV) (G : PW) : pm_dn pm_sC 75 68 P st G = pm_go pm_sC 75 G (pm_oAL 0 69 P st G) := pm_dn_eq (i := .aload_n 0) (len := 1) rfl
theorem u_75_69 (P : PL) (st : List PV) (G : PW) : pm_dn pm_sC 75 69 P st G = pm_go pm_sC 75 G (pm_oIL 1 70 P st G) := pm_dn_eq (i := .iload_n 1) (len := 1) rfl
theorem u_75_70 (P : PL) (st : List PV) (G : PW) : pm_dn pm_sC 75 70 P st G = pm_go pm_sC 75 G (pm_oCv pm_sC 101 1 2 5 73 P st G) := pm_dn_eq (i := .invokevirtual 74) (len := 3) rfl
theorem u_75_73 (P : PL) (st : List PV) (G : PW) : pm_dn pm_sC 75 73 P st G = pm_go pm_sC 75 G (pm_oRi 0 P st G) := pm_dn_eq (i := .ireturn) (len := 1) rfl
theorem u_75_74 (P : PL) (st : List PV) (G : PW) : pm_dn pm_sC 75 74 P st G = pm_go pm_sC 75 G (pm_oAL 0 75 P st G) := pm_dn_eq (i := .aload_n 0) (len := 1) rfl
theorem u_75_75 (P : PL) (st : List PV) (G : PW) : pm_dn pm_sC 75 75 P st G = pm_go pm_sC 75 G (pm_oGf pm_sC 5 2 78 P st G) := pm_dn_eq (i := .getfield 19) (len := 3) rfl
theorem u_75_78 (P : PL) (st : List PV) (G : PW) : pm_dn pm_sC 75 78 P st G = pm_go pm_sC 75 G (pm_oIL 1 79 P st G) := pm_dn_eq (i := .iload_n 1) (len := 1) rfl
theorem u_75_79 (P : PL) (st : List PV) (G : PW) : pm_dn pm_sC 75 79 P st G = pm_go pm_sC 75 G (pm_oCv pm_sC 21 1 4 0 82 P st G) := pm_dn_eq (i := .invokevirtual 144) (len := 3) rfl
theorem u_75_82 (P : PL) (st : List PV) (G : PW) : pm_dn pm_sC 75 82 P st G = pm_go pm_sC 75 G (pm_oRi 0 P st G) := pm_dn_eq (i := .ireturn) (len := 1) rfl
theorem u_75_83 (P : PL) (st : List PV) (G : PW) : pm_dn pm_sC 75 83 P st G = pm_go pm_sC 75 G (pm_oAL 0 84 P st G) := pm_dn_eq (i := .aload_n 0) (len := 1) rfl
theorem u_75_84 (P : PL) (st : List PV) (G : PW) : pm_dn pm_sC 75 84 P st G = pm_go pm_sC 75 G (pm_oGf pm_sC 5 2 87 P st G) := pm_dn_eq (i := .getfield 19) (len := 3) rfl
theorem u_75_87 (P : PL) (st : List PV) (G : PW) : pm_dn pm_sC 75 87 P st G = pm_go pm_sC 75 G (pm_oIL 1 88 P st G) := pm_dn_eq (i := .iload_n 1) (len := 1) rfl
theorem u_75_88 (P : PL) (st : List PV) (G : PW) : pm_dn pm_sC 75 88 P st G = pm_go pm_sC 75 G (pm_oCv pm_sC 22 1 4 0 91 P st G) := pm_dn_eq (i := .invokevirtual 147) (len := 3) rfl
theorem u_75_91 (P : PL) (st : List PV) (G : PW) : pm_dn pm_sC 75 91 P st G = pm_go pm_sC 75 G (pm_oRi 0 P st G) := pm_dn_eq (i := .ireturn) (len := 1) rfl
theorem u_75_92 (P : PL) (st : List PV) (G : PW) : pm_dn pm_sC 75 92 P st G = pm_go pm_sC 75 G (pm_oAL 0 93 P st G) := pm_dn_eq (i := .aload_n 0) (len := 1) rfl
theorem u_75_93 (P : PL) (st : List PV) (G : PW) : pm_dn pm_sC 75 93 P st G = pm_go pm_sC 75 G (pm_oGf pm_sC 5 2 96 P st G) := pm_dn_eq (i := .getfield 19) (len := 3) rfl
theorem u_75_96 (P : PL) (st : List PV) (G : PW) : pm_dn pm_sC 75 96 P st G = pm_go pm_sC 75 G (pm_oIL 1 97 P st G) := pm_dn_eq (i := .iload_n 1) (len := 1) rfl
theorem u_75_97 (P : PL) (st : List PV) (G : PW) : pm_dn pm_sC 75 97 P st G = pm_go pm_sC 75 G (pm_oCv pm_sC 4 1 2 0 100 P st G) := pm_dn_eq (i := .invokevirtual 101) (len := 3) rfl
theorem u_75_100 (P : PL) (st : List PV) (G : PW) : pm_dn pm_sC 75 100 P st G = pm_go pm_sC 75 G (pm_oIf .eq (some 107) 103 P st G) := pm_dn_eq (i := .ifCond .eq 7) (len := 3) rfl
theorem u_75_103 (P : PL) (st : List PV) (G : PW) : pm_dn pm_sC 75 103 P st G = pm_go pm_sC 75 G (pm_oK 1 104 P st G) := pm_dn_eq (i := .iconst 1) (len := 1) rfl
theorem u_75_104 (P : PL) (st : List PV) (G : PW) : pm_dn pm_sC 75 104 P st G = pm_go pm_sC 75 G (pm_oGo (some 108) P st G) := pm_dn_eq (i := .goto 4) (len := 3) rfl
theorem u_75_107 (P : PL) (st : List PV) (G : PW) : pm_dn pm_sC 75 107 P st G = pm_go pm_sC 75 G (pm_oK 0 108 P st G) := pm_dn_eq (i := .iconst 0) (len := 1) rfl
theorem u_75_108 (P : PL) (st : List PV) (G : PW) : pm_dn pm_sC 75 108 P st G = pm_go pm_sC 75 G (pm_oRi 0 P st G) := pm_dn_eq (i := .ireturn) (len := 1) rfl
theorem u_75_109 (P : PL) (st : List PV) (G : PW) : pm_dn pm_sC 75 109 P st G = pm_go pm_sC 75 G (pm_oAL 0 110 P st G) := pm_dn_eq (i := .aload_n 0) (len := 1) rfl
theorem u_75_110 (P : PL) (st : List PV) (G : PW) : pm_dn pm_sC 75 110 P st G = pm_go pm_sC 75 G (pm_oIL 1 111 P st G) := pm_dn_eq (i := .iload_n 1) (len := 1) rfl
theorem u_75_111 (P : PL) (st : List PV) (G : PW) : pm_dn pm_sC 75 111 P st G = pm_go pm_sC 75 G (pm_oCv pm_sC 93 1 3 5 114 P st G) := pm_dn_eq (i := .invokevirtual 150) (len := 3) rfl
theorem u_75_114 (P : PL) (st : List PV) (G : PW) : pm_dn pm_sC 75 114 P st G = pm_go pm_sC 75 G (pm_oRi 0 P st G) := pm_dn_eq (i := .ireturn) (len := 1) rfl
theorem u_75_115 (P : PL) (st : List PV) (G : PW) : pm_dn pm_sC 75 115 P st G = pm_go pm_sC 75 G (pm_oAL 0 116 P st G) := pm_dn_eq (i := .aload_n 0) (len := 1) rfl
theorem u_75_116 (P : PL) (st : List PV) (G : PW) : pm_dn pm_sC 75 116 P st G = pm_go pm_sC 75 G (pm_oGf pm_sC 5 2 119 P st G) := pm_dn_eq (i := .getfield 19) (len := 3) rfl
theorem u_75_119 (P : PL) (st : List PV) (G : PW) : pm_dn pm_sC 75 119 P st G = pm_go pm_sC 75 G (pm_oIL 1 120 P st G) := pm_dn_eq (i := .iload_n 1) (len := 1) rfl
theorem u_75_120 (P : PL) (st : List PV) (G : PW) : pm_dn pm_sC 75 120 P st G = pm_go pm_sC 75 G (pm_oCv pm_sC 13 1 4 0 123 P st G) := pm_dn_eq (i := .invokevirtual 153) (len := 3) rfl
theorem u_75_123 (P : PL) (st : List PV) (G : PW) : pm_dn pm_sC 75 123 P st G = pm_go pm_sC 75 G (pm_oRi 0 P st G) := pm_dn_eq (i := .ireturn) (len := 1) rfl
theorem u_75_124 (P : PL) (st : List PV) (G : PW) : pm_dn pm_sC 75 124 P st G = pm_go pm_sC 75 G (pm_oAL 0 125 P st G) := pm_dn_eq (i := .aload_n 0) (len := 1) rfl
theorem u_75_125 (P : PL) (st : List PV) (G : PW) : pm_dn pm_sC 75 125 P st G = pm_go pm_sC 75 G (pm_oGf pm_sC 5 2 128 P st G) := pm_dn_eq (i := .getfield 19) (len := 3) rfl
theorem u_75_128 (P : PL) (st : List PV) (G : PW) : pm_dn pm_sC 75 128 P st G = pm_go pm_sC 75 G (pm_oIL 1 129 P st G) := pm_dn_eq (i := .iload_n 1) (len := 1) rfl
theorem u_75_129 (P : PL) (st : List PV) (G : PW) : pm_dn pm_sC 75 129 P st G = pm_go pm_sC 75 G (pm_oCv pm_sC 16 1 2 0 132 P st G) := pm_dn_eq (i := .invokevirtual 156) (len := 3) rfl
theorem u_75_132 (P : PL) (st : List PV) (G : PW) : pm_dn pm_sC 75 132 P st G = pm_go pm_sC 75 G (pm_oRi 0 P st G) := pm_dn_eq (i := .ireturn) (len := 1) rfl
theorem u_75_133 (P : PL) (st : List PV) (G : PW) : pm_dn pm_sC 75 133 P st G = pm_go pm_sC 75 G (pm_oAL 0 134 P st G) := pm_dn_eq (i := .aload_n 0) (len := 1) rfl
theorem u_75_134 (P : PL) (st : List PV) (G : PW) : pm_dn pm_sC 75 134 P st G = pm_go pm_sC 75 G (pm_oGf pm_sC 5 2 137 P st G) := pm_dn_eq (i := .getfield 19) (len := 3) rfl
theorem u_75_137 (P : PL) (st : List PV) (G : PW) : pm_dn pm_sC 75 137 P st G = pm_go pm_sC 75 G (pm_oIL 1 138 P st G) := pm_dn_eq (i := .iload_n 1) (len := 1) rfl
theorem u_75_138 (P : PL) (st : List PV) (G : PW) : pm_dn pm_sC 75 138 P st G = pm_go pm_sC 75 G (pm_oCv pm_sC 17 1 2 0 141 P st G) := pm_dn_eq (i := .invokevirtual 159) (len := 3) rfl
theorem u_75_141 (P : PL) (st : List PV) (G : PW) : pm_dn pm_sC 75 141 P st G = pm_go pm_sC 75 G (pm_oRi 0 P st G) := pm_dn_eq (i := .ireturn) (len := 1) rfl
theorem u_75_142 (P : PL) (st : List PV) (G : PW) : pm_dn pm_sC 75 142 P st G = pm_go pm_sC 75 G (pm_oAL 0 143 P st G) := pm_dn_eq (i := .aload_n 0) (len := 1) rfl
theorem u_75_143 (P : PL) (st : List PV) (G : PW) : pm_dn pm_sC 75 143 P st G = pm_go pm_sC 75 G (pm_oGf pm_sC 5 2 146 P st G) := pm_dn_eq (i := .getfield 19) (len := 3) rfl
theorem u_75_146 (P : PL) (st : List PV) (G : PW) : pm_dn pm_sC 75 146 P st G = pm_go pm_sC 75 G (pm_oIL 1 147 P st G) := pm_dn_eq (i := .iload_n 1) (len := 1) rfl
theorem u_75_147 (P : PL) (st : List PV) (G : PW) : pm_dn pm_sC 75 147 P st G = pm_go pm_sC 75 G (pm_oCv pm_sC 23 1 5 0 150 P st G) := pm_dn_eq (i := .invokevirtual 162) (len := 3) rfl
theorem u_75_150 (P : PL) (st : List PV) (G : PW) : pm_dn pm_sC 75 150 P st G = pm_go pm_sC 75 G (pm_oRi 0 P st G) := pm_dn_eq (i := .ireturn) (len := 1) rfl
theorem u_75_151 (P : PL) (st : List PV) (G : PW) : pm_dn pm_sC 75 151 P st G = pm_go pm_sC 75 G (pm_oK (-2) 153 P st G) := pm_dn_eq (i := .bipush (-2)) (len := 2) rfl
theorem u_75_153 (P : PL) (st : List PV) (G : PW) : pm_dn pm_sC 75 153 P st G = pm_go pm_sC 75 G (pm_oRi 0 P st G) := pm_dn_eq (i := .ireturn) (len := 1) rfl
theorem ue_76 (a0 : Nat) (a1 : Int) (G : PW) : pm_ca pm_sC 76 [.inr (.inr a0), .inl a1] G = pm_dn pm_sC 76 0 [some (.inr (.inr a0)), some (.inl a1), none, none] [] G := rfl
theorem u_76_0 (P : PL) (st : List PV) (G : PW) : pm_dn pm_sC 76 0 P st G = pm_go pm_sC 76 G (pm_oIL 1 1 P st G) := pm_dn_eq (i := .iload_n 1) (len := 1) rfl
theorem u_76_1 (P : PL) (st : List PV) (G : PW) : pm_dn pm_sC 76 1 P st G = pm_go pm_sC 76 G (pm_oIf .ge (some 7) 4 P st G) := pm_dn_eq (i := .ifCond .ge 6) (len := 3) rfl
theorem u_76_4 (P : PL) (st : List PV) (G : PW) : pm_dn pm_sC 76 4 P st G = pm_go pm_sC 76 G (pm_oK (-6) 6 P st G) := pm_dn_eq (i := .bipush (-6)) (len := 2) rfl
theorem u_76_6 (P : PL) (st : List PV) (G : PW) : pm_dn pm_sC 76 6 P st G = pm_go pm_sC 76 G (pm_oRi 0 P st G) := pm_dn_eq (i := .ireturn) (len := 1) rfl
theorem u_76_7 (P : PL) (st : List PV) (G : PW) : pm_dn pm_sC 76 7 P st G = pm_go pm_sC 76 G (pm_oK 0 8 P st G) := pm_dn_eq (i := .iconst 0) (len := 1) rfl
theorem u_76_8 (P : PL) (st : List PV) (G : PW) : pm_dn pm_sC 76 8 P st G = pm_go pm_sC 76 G (pm_oIS 2 9 P st G) := pm_dn_eq (i := .istore_n 2) (len := 1) rfl
theorem u_76_9 (P : PL) (st : List PV) (G : PW) : pm_dn pm_sC 76 9 P st G = pm_go pm_sC 76 G (pm_oK 0 10 P st G) := pm_dn_eq (i := .iconst 0) (len := 1) rfl
theorem u_76_10 (P : PL) (st : List PV) (G : PW) : pm_dn pm_sC 76 10 P st G = pm_go pm_sC 76 G (pm_oIS 3 11 P st G) := pm_dn_eq (i := .istore_n 3) (len := 1) rfl
theorem u_76_11 (P : PL) (st : List PV) (G : PW) : pm_dn pm_sC 76 11 P st G = pm_go pm_sC 76 G (pm_oIL 3 12 P st G) := pm_dn_eq (i := .iload_n 3) (len := 1) rfl
theorem u_76_12 (P : PL) (st : List PV) (G : PW) : pm_dn pm_sC 76 12 P st G = pm_go pm_sC 76 G (pm_oAL 0 13 P st G) := pm_dn_eq (i := .aload_n 0) (len := 1) rfl
theorem u_76_13 (P : PL) (st : List PV) (G : PW) : pm_dn pm_sC 76 13 P st G = pm_go pm_sC 76 G (pm_oGf pm_sC 5 2 16 P st G) := pm_dn_eq (i := .getfield 19) (len := 3) rfl
theorem u_76_16 (P : PL) (st : List PV) (G : PW) : pm_dn pm_sC 76 16 P st G = pm_go pm_sC 76 G (pm_oGf pm_sC 0 0 19 P st G) := pm_dn_eq (i := .getfield 60) (len := 3) rfl
theorem u_76_19 (P : PL) (st : List PV) (G : PW) : pm_dn pm_sC 76 19 P st G = pm_go pm_sC 76 G (pm_oGf pm_sC 3 4 22 P st G) := pm_dn_eq (i := .getfield 64) (len := 3) rfl
theorem u_76_22 (P : PL) (st : List PV) (G : PW) : pm_dn pm_sC 76 22 P st G = pm_go pm_sC 76 G (pm_oIc .ge (some 52) 25 P st G) := pm_dn_eq (i := .if_icmp .ge 30) (len := 3) rfl
theorem u_76_25 (P : PL) (st : List PV) (G : PW) : pm_dn pm_sC 76 25 P st G = pm_go pm_sC 76 G (pm_oAL 0 26 P st G) := pm_dn_eq (i := .aload_n 0) (len := 1) rfl
theorem u_76_26 (P : PL) (st : List PV) (G : PW) : pm_dn pm_sC 76 26 P st G = pm_go pm_sC 76 G (pm_oGf pm_sC 5 2 29 P st G) := pm_dn_eq (i := .getfield 19) (len := 3) rfl
theorem u_76_29 (P : PL) (st : List PV) (G : PW) : pm_dn pm_sC 76 29 P st G = pm_go pm_sC 76 G (pm_oIL 3 30 P st G) := pm_dn_eq (i := .iload_n 3) (len := 1) rfl
theorem u_76_30 (P : PL) (st : List PV) (G : PW) : pm_dn pm_sC 76 30 P st G = pm_go pm_sC 76 G (pm_oCv pm_sC 9 1 2 0 33 P st G) := pm_dn_eq (i := .invokevirtual 84) (len := 3) rfl
theorem u_76_33 (P : PL) (st : List PV) (G : PW) : pm_dn pm_sC 76 33 P st G = pm_go pm_sC 76 G (pm_oIf .eq (some 46) 36 P st G) := pm_dn_eq (i := .ifCond .eq 13) (len := 3) rfl
theorem u_76_36 (P : PL) (st : List PV) (G : PW) : pm_dn pm_sC 76 36 P st G = pm_go pm_sC 76 G (pm_oIL 2 37 P st G) := pm_dn_eq (i := .iload_n 2) (len := 1) rfl
theorem u_76_37 (P : PL) (st : List PV) (G : PW) : pm_dn pm_sC 76 37 P st G = pm_go pm_sC 76 G (pm_oIL 1 38 P st G) := pm_dn_eq (i := .iload_n 1) (len := 1) rfl
theorem u_76_38 (P : PL) (st : List PV) (G : PW) : pm_dn pm_sC 76 38 P st G = pm_go pm_sC 76 G (pm_oIc .ne (some 43) 41 P st G) := pm_dn_eq (i := .if_icmp .ne 5) (len := 3) rfl
theorem u_76_41 (P : PL) (st : List PV) (G : PW) : pm_dn pm_sC 76 41 P st G = pm_go pm_sC 76 G (pm_oIL 3 42 P st G) := pm_dn_eq (i := .iload_n 3) (len := 1) rfl
theorem u_76_42 (P : PL) (st : List PV) (G : PW) : pm_dn pm_sC 76 42 P st G = pm_go pm_sC 76 G (pm_oRi 0 P st G) := pm_dn_eq (i := .ireturn) (len := 1) rfl
theorem u_76_43 (P : PL) (st : List PV) (G : PW) : pm_dn pm_sC 76 43 P st G = pm_go pm_sC 76 G (pm_oInc 2 1 46 P st G) := pm_dn_eq (i := .iinc 2 1) (len := 3) rfl
theorem u_76_46 (P : PL) (st : List PV) (G : PW) : pm_dn pm_sC 76 46 P st G = pm_go pm_sC 76 G (pm_oInc 3 1 49 P st G) := pm_dn_eq (i := .iinc 3 1) (len := 3) rfl
theorem u_76_49 (P : PL) (st : List PV) (G : PW) : pm_dn pm_sC 76 49 P st G = pm_go pm_sC 76 G (pm_oGo (some 11) P st G) := pm_dn_eq (i := .goto (-38)) (len := 3) rfl
theorem u_76_52 (P : PL) (st : List PV) (G : PW) : pm_dn pm_sC 76 52 P st G = pm_go pm_sC 76 G (pm_oK (-6) 54 P st G) := pm_dn_eq (i := .bipush (-6)) (len := 2) rfl
theorem u_76_54 (P : PL) (st : List PV) (G : PW) : pm_dn pm_sC 76 54 P st G = pm_go pm_sC 76 G (pm_oRi 0 P st G) := pm_dn_eq (i := .ireturn) (len := 1) rfl
theorem ue_77 (a0 : Nat) (a1 : Int) (G : PW) : pm_ca pm_sC 77 [.inr (.inr a0), .inl a1] G = pm_dn pm_sC 77 0 [some (.inr (.inr a0)), some (.inl a1)] [] G := rfl
theorem u_77_0 (P : PL) (st : List PV) (G : PW) : pm_dn pm_sC 77 0 P st G = pm_go pm_sC 77 G (pm_oIL 1 1 P st G) := pm_dn_eq (i := .iload_n 1) (len := 1) rfl
theorem u_77_1 (P : PL) (st : List PV) (G : PW) : pm_dn pm_sC 77 1 P st G = pm_go pm_sC 77 G (pm_oSw 0 13 (some 189) (some [72, 83, 94, 105, 116, 125, 134, 143, 148, 156, 161, 167, 173, 181]) P st G) := pm_dn_eq (i := .tableswitch 188 0 13 #[71, 82, 93, 104, 115, 124, 133, 142, 147, 155, 160, 166, 172, 180]) (len := 71) rfl
theorem u_77_72 (P : PL) (st : List PV) (G : PW) : pm_dn pm_sC 77 72 P st G = pm_go pm_sC 77 G (pm_oAL 0 73 P st G) := pm_dn_eq (i := .aload_n 0) (len := 1) rfl
theorem u_77_73 (P : PL) (st : List PV) (G : PW) : pm_dn pm_sC 77 73 P st G = pm_go pm_sC 77 G (pm_oGf pm_sC 5 2 76 P st G) := pm_dn_eq (i := .getfield 19) (len := 3) rfl
theorem u_77_76 (P : PL) (st : List PV) (G : PW) : pm_dn pm_sC 77 76 P st G = pm_go pm_sC 77 G (pm_oGf pm_sC 0 0 79 P st G) := pm_dn_eq (i := .getfield 60) (len := 3) rfl
theorem u_77_79 (P : PL) (st : List PV) (G : PW) : pm_dn pm_sC 77 79 P st G = pm_go pm_sC 77 G (pm_oGf pm_sC 3 0 82 P st G) := pm_dn_eq (i := .getfield 165) (len := 3) rfl
theorem u_77_82 (P : PL) (st : List PV) (G : PW) : pm_dn pm_sC 77 82 P st G = pm_go pm_sC 77 G (pm_oRi 0 P st G) := pm_dn_eq (i := .ireturn) (len := 1) rfl
theorem u_77_83 (P : PL) (st : List PV) (G : PW) : pm_dn pm_sC 77 83 P st G = pm_go pm_sC 77 G (pm_oAL 0 84 P st G) := pm_dn_eq (i := .aload_n 0) (len := 1) rfl
theorem u_77_84 (P : PL) (st : List PV) (G : PW) : pm_dn pm_sC 77 84 P st G = pm_go pm_sC 77 G (pm_oGf pm_sC 5 2 87 P st G) := pm_dn_eq (i := .getfield 19) (len := 3) rfl
theorem u_77_87 (P : PL) (st : List PV) (G : PW) : pm_dn pm_sC 77 87 P st G = pm_go pm_sC 77 G (pm_oGf pm_sC 0 0 90 P st G) := pm_dn_eq (i := .getfield 60) (len := 3) rfl
theorem u_77_90 (P : PL) (st : List PV) (G : PW) : pm_dn pm_sC 77 90 P st G = pm_go pm_sC 77 G (pm_oGf pm_sC 3 2 93 P st G) := pm_dn_eq (i := .getfield 168) (len := 3) rfl
theorem u_77_93 (P : PL) (st : List PV) (G : PW) : pm_dn pm_sC 77 93 P st G = pm_go pm_sC 77 G (pm_oRi 0 P st G) := pm_dn_eq (i := .ireturn) (len := 1) rfl
theorem u_77_94 (P : PL) (st : List PV) (G : PW) : pm_dn pm_sC 77 94 P st G = pm_go pm_sC 77 G (pm_oAL 0 95 P st G) := pm_dn_eq (i := .aload_n 0) (len := 1) rfl
theorem u_77_95 (P : PL) (st : List PV) (G : PW) : pm_dn pm_sC 77 95 P st G = pm_go pm_sC 77 G (pm_oGf pm_sC 5 2 98 P st G) := pm_dn_eq (i := .getfield 19) (len := 3) rfl
theorem u_77_98 (P : PL) (st : List PV) (G : PW) : pm_dn pm_sC 77 98 P st G = pm_go pm_sC 77 G (pm_oGf pm_sC 0 0 101 P st G) := pm_dn_eq (i := .getfield 60) (len := 3) rfl
theorem u_77_101 (P : PL) (st : List PV) (G : PW) : pm_dn pm_sC 77 101 P st G = pm_go pm_sC 77 G (pm_oGf pm_sC 3 4 104 P st G) := pm_dn_eq (i := .getfield 64) (len := 3) rfl
theorem u_77_104 (P : PL) (st : List PV) (G : PW) : pm_dn pm_sC 77 104 P st G = pm_go pm_sC 77 G (pm_oRi 0 P st G) := pm_dn_eq (i := .ireturn) (len := 1) rfl
theorem u_77_105 (P : PL) (st : List PV) (G : PW) : pm_dn pm_sC 77 105 P st G = pm_go pm_sC 77 G (pm_oAL 0 106 P st G) := pm_dn_eq (i := .aload_n 0) (len := 1) rfl
theorem u_77_106 (P : PL) (st : List PV) (G : PW) : pm_dn pm_sC 77 106 P st G = pm_go pm_sC 77 G (pm_oGf pm_sC 5 2 109 P st G) := pm_dn_eq (i := .getfield 19) (len := 3) rfl
theorem u_77_109 (P : PL) (st : List PV) (G : PW) : pm_dn pm_sC 77 109 P st G = pm_go pm_sC 77 G (pm_oGf pm_sC 0 0 112 P st G) := pm_dn_eq (i := .getfield 60) (len := 3) rfl
theorem u_77_112 (P : PL) (st : List PV) (G : PW) : pm_dn pm_sC 77 112 P st G = pm_go pm_sC 77 G (pm_oGf pm_sC 3 1 115 P st G) := pm_dn_eq (i := .getfield 171) (len := 3) rfl
theorem u_77_115 (P : PL) (st : List PV) (G : PW) : pm_dn pm_sC 77 115 P st G = pm_go pm_sC 77 G (pm_oRi 0 P st G) := pm_dn_eq (i := .ireturn) (len := 1) rfl
theorem u_77_116 (P : PL) (st : List PV) (G : PW) : pm_dn pm_sC 77 116 P st G = pm_go pm_sC 77 G (pm_oAL 0 117 P st G) := pm_dn_eq (i := .aload_n 0) (len := 1) rfl
theorem u_77_117 (P : PL) (st : List PV) (G : PW) : pm_dn pm_sC 77 117 P st G = pm_go pm_sC 77 G (pm_oGf pm_sC 5 2 120 P st G) := pm_dn_eq (i := .getfield 19) (len := 3) rfl
theorem u_77_120 (P : PL) (st : List PV) (G : PW) : pm_dn pm_sC 77 120 P st G = pm_go pm_sC 77 G (pm_oK 3 121 P st G) := pm_dn_eq (i := .iconst 3) (len := 1) rfl
theorem u_77_121 (P : PL) (st : List PV) (G : PW) : pm_dn pm_sC 77 121 P st G = pm_go pm_sC 77 G (pm_oCv pm_sC 20 1 4 0 124 P st G) := pm_dn_eq (i := .invokevirtual 174) (len := 3) rfl
theorem u_77_124 (P : PL) (st : List PV) (G : PW) : pm_dn pm_sC 77 124 P st G = pm_go pm_sC 77 G (pm_oRi 0 P st G) := pm_dn_eq (i := .ireturn) (len := 1) rfl
theorem u_77_125 (P : PL) (st : List PV) (G : PW) : pm_dn pm_sC 77 125 P st G = pm_go pm_sC 77 G (pm_oAL 0 126 P st G) := pm_dn_eq (i := .aload_n 0) (len := 1) rfl
theorem u_77_126 (P : PL) (st : List PV) (G : PW) : pm_dn pm_sC 77 126 P st G = pm_go pm_sC 77 G (pm_oGf pm_sC 5 2 129 P st G) := pm_dn_eq (i := .getfield 19) (len := 3) rfl
theorem u_77_129 (P : PL) (st : List PV) (G : PW) : pm_dn pm_sC 77 129 P st G = pm_go pm_sC 77 G (pm_oK 2 130 P st G) := pm_dn_eq (i := .iconst 2) (len := 1) rfl
theorem u_77_130 (P : PL) (st : List PV) (G : PW) : pm_dn pm_sC 77 130 P st G = pm_go pm_sC 77 G (pm_oCv pm_sC 20 1 4 0 133 P st G) := pm_dn_eq (i := .invokevirtual 174) (len := 3) rfl
theorem u_77_133 (P : PL) (st : List PV) (G : PW) : pm_dn pm_sC 77 133 P st G = pm_go pm_sC 77 G (pm_oRi 0 P st G) := pm_dn_eq (i := .ireturn) (len := 1) rfl
theorem u_77_134 (P : PL) (st : List PV) (G : PW) : pm_dn pm_sC 77 134 P st G = pm_go pm_sC 77 G (pm_oAL 0 135 P st G) := pm_dn_eq (i := .aload_n 0) (len := 1) rfl
theorem u_77_135 (P : PL) (st : List PV) (G : PW) : pm_dn pm_sC 77 135 P st G = pm_go pm_sC 77 G (pm_oGf pm_sC 5 2 138 P st G) := pm_dn_eq (i := .getfield 19) (len := 3) rfl
theorem u_77_138 (P : PL) (st : List PV) (G : PW) : pm_dn pm_sC 77 138 P st G = pm_go pm_sC 77 G (pm_oK 1 139 P st G) := pm_dn_eq (i := .iconst 1) (len := 1) rfl
theorem u_77_139 (P : PL) (st : List PV) (G : PW) : pm_dn pm_sC 77 139 P st G = pm_go pm_sC 77 G (pm_oCv pm_sC 20 1 4 0 142 P st G) := pm_dn_eq (i := .invokevirtual 174) (len := 3) rfl
theorem u_77_142 (P : PL) (st : List PV) (G : PW) : pm_dn pm_sC 77 142 P st G = pm_go pm_sC 77 G (pm_oRi 0 P st G) := pm_dn_eq (i := .ireturn) (len := 1) rfl
theorem u_77_143 (P : PL) (st : List PV) (G : PW) : pm_dn pm_sC 77 143 P st G = pm_go pm_sC 77 G (pm_oAL 0 144 P st G) := pm_dn_eq (i := .aload_n 0) (len := 1) rfl
theorem u_77_144 (P : PL) (st : List PV) (G : PW) : pm_dn pm_sC 77 144 P st G = pm_go pm_sC 77 G (pm_oCv pm_sC 94 0 3 5 147 P st G) := pm_dn_eq (i := .invokevirtual 177) (len := 3) rfl
theorem u_77_147 (P : PL) (st : List PV) (G : PW) : pm_dn pm_sC 77 147 P st G = pm_go pm_sC 77 G (pm_oRi 0 P st G) := pm_dn_eq (i := .ireturn) (len := 1) rfl
theorem u_77_148 (P : PL) (st : List PV) (G : PW) : pm_dn pm_sC 77 148 P st G = pm_go pm_sC 77 G (pm_oAL 0 149 P st G) := pm_dn_eq (i := .aload_n 0) (len := 1) rfl
theorem u_77_149 (P : PL) (st : List PV) (G : PW) : pm_dn pm_sC 77 149 P st G = pm_go pm_sC 77 G (pm_oGf pm_sC 5 2 152 P st G) := pm_dn_eq (i := .getfield 19) (len := 3) rfl
theorem u_77_152 (P : PL) (st : List PV) (G : PW) : pm_dn pm_sC 77 152 P st G = pm_go pm_sC 77 G (pm_oCv pm_sC 15 0 3 0 155 P st G) := pm_dn_eq (i := .invokevirtual 181) (len := 3) rfl
theorem u_77_155 (P : PL) (st : List PV) (G : PW) : pm_dn pm_sC 77 155 P st G = pm_go pm_sC 77 G (pm_oRi 0 P st G) := pm_dn_eq (i := .ireturn) (len := 1) rfl
theorem u_77_156 (P : PL) (st : List PV) (G : PW) : pm_dn pm_sC 77 156 P st G = pm_go pm_sC 77 G (pm_oAL 0 157 P st G) := pm_dn_eq (i := .aload_n 0) (len := 1) rfl
theorem u_77_157 (P : PL) (st : List PV) (G : PW) : pm_dn pm_sC 77 157 P st G = pm_go pm_sC 77 G (pm_oCv pm_sC 95 0 3 5 160 P st G) := pm_dn_eq (i := .invokevirtual 184) (len := 3) rfl
theorem u_77_160 (P : PL) (st : List PV) (G : PW) : pm_dn pm_sC 77 160 P st G = pm_go pm_sC 77 G (pm_oRi 0 P st G) := pm_dn_eq (i := .ireturn) (len := 1) rfl
theorem u_77_161 (P : PL) (st : List PV) (G : PW) : pm_dn pm_sC 77 161 P st G = pm_go pm_sC 77 G (pm_oAL 0 162 P st G) := pm_dn_eq (i := .aload_n 0) (len := 1) rfl
theorem u_77_162 (P : PL) (st : List PV) (G : PW) : pm_dn pm_sC 77 162 P st G = pm_go pm_sC 77 G (pm_oK 0 163 P st G) := pm_dn_eq (i := .iconst 0) (len := 1) rfl
theorem u_77_163 (P : PL) (st : List PV) (G : PW) : pm_dn pm_sC 77 163 P st G = pm_go pm_sC 77 G (pm_oCv pm_sC 96 1 7 5 166 P st G) := pm_dn_eq (i := .invokevirtual 187) (len := 3) rfl
theorem u_77_166 (P : PL) (st : List PV) (G : PW) : pm_dn pm_sC 77 166 P st G = pm_go pm_sC 77 G (pm_oRi 0 P st G) := pm_dn_eq (i := .ireturn) (len := 1) rfl
theorem u_77_167 (P : PL) (st : List PV) (G : PW) : pm_dn pm_sC 77 167 P st G = pm_go pm_sC 77 G (pm_oAL 0 168 P st G) := pm_dn_eq (i := .aload_n 0) (len := 1) rfl
theorem u_77_168 (P : PL) (st : List PV) (G : PW) : pm_dn pm_sC 77 168 P st G = pm_go pm_sC 77 G (pm_oK 1 169 P st G) := pm_dn_eq (i := .iconst 1) (len := 1) rfl
theorem u_77_169 (P : PL) (st : List PV) (G : PW) : pm_dn pm_sC 77 169 P st G = pm_go pm_sC 77 G (pm_oCv pm_sC 96 1 7 5 172 P st G) := pm_dn_eq (i := .invokevirtual 187) (len := 3) rfl
theorem u_77_172 (P : PL) (st : List PV) (G : PW) : pm_dn pm_sC 77 172 P st G = pm_go pm_sC 77 G (pm_oRi 0 P st G) := pm_dn_eq (i := .ireturn) (len := 1) rfl
theorem u_77_173 (P : PL) (st : List PV) (G : PW) : pm_dn pm_sC 77 173 P st G = pm_go pm_sC 77 G (pm_oAL 0 174 P st G) := pm_dn_eq (i := .aload_n 0) (len := 1) rfl
theorem u_77_174 (P : PL) (st : List PV) (G : PW) : pm_dn pm_sC 77 174 P st G = pm_go pm_sC 77 G (pm_oGf pm_sC 5 5 177 P st G) := pm_dn_eq (i := .getfield 36) (len := 3) rfl
theorem u_77_177 (P : PL) (st : List PV) (G : PW) : pm_dn pm_sC 77 177 P st G = pm_go pm_sC 77 G (pm_oGf pm_sC 2 1 180 P st G) := pm_dn_eq (i := .getfield 191) (len := 3) rfl
theorem u_77_180 (P : PL) (st : List PV) (G : PW) : pm_dn pm_sC 77 180 P st G = pm_go pm_sC 77 G (pm_oRi 0 P st G) := pm_dn_eq (i := .ireturn) (len := 1) rfl
theorem u_77_181 (P : PL) (st : List PV) (G : PW) : pm_dn pm_sC 77 181 P st G = pm_go pm_sC 77 G (pm_oAL 0 182 P st G) := pm_dn_eq (i := .aload_n 0) (len := 1) rfl
theorem u_77_182 (P : PL) (st : List PV) (G : PW) : pm_dn pm_sC 77 182 P st G = pm_go pm_sC 77 G (pm_oGf pm_sC 5 4 185 P st G) := pm_dn_eq (i := .getfield 29) (len := 3) rfl
theorem u_77_185 (P : PL) (st : List PV) (G : PW) : pm_dn pm_sC 77 185 P st G = pm_go pm_sC 77 G (pm_oGf pm_sC 1 1 188 P st G) := pm_dn_eq (i := .getfield 194) (len := 3) rfl
theorem u_77_188 (P : PL) (st : List PV) (G : PW) : pm_dn pm_sC 77 188 P st G = pm_go pm_sC 77 G (pm_oRi 0 P st G) := pm_dn_eq (i := .ireturn) (len := 1) rfl
theorem u_77_189 (P : PL) (st : List PV) (G : PW) : pm_dn pm_sC 77 189 P st G = pm_go pm_sC 77 G (pm_oK (-2) 191 P st G) := pm_dn_eq (i := .bipush (-2)) (len := 2) rfl
theorem u_77_191 (P : PL) (st : List PV) (G : PW) : pm_dn pm_sC 77 191 P st G = pm_go pm_sC 77 G (pm_oRi 0 P st G) := pm_dn_eq (i := .ireturn) (len := 1) rfl
theorem ue_78 (a0 : Nat) (G : PW) : pm_ca pm_sC 78 [.inr (.inr a0)] G = pm_dn pm_sC 78 0 [some (.inr (.inr a0))] [] G := rfl
theorem u_78_0 (P : PL) (st : List PV) (G : PW) : pm_dn pm_sC 78 0 P st G = pm_go pm_sC 78 G (pm_oAL 0 1 P st G) := pm_dn_eq (i := .aload_n 0) (len := 1) rfl
theorem u_78_1 (P : PL) (st : List PV) (G : PW) : pm_dn pm_sC 78 1 P st G = pm_go pm_sC 78 G (pm_oK (-6) 3 P st G) := pm_dn_eq (i := .bipush (-6)) (len := 2) rfl
theorem u_78_3 (P : PL) (st : List PV) (G : PW) : pm_dn pm_sC 78 3 P st G = pm_go pm_sC 78 G (pm_oCv pm_sC 97 1 6 5 6 P st G) := pm_dn_eq (i := .invokevirtual 195) (len := 3) rfl
theorem u_78_6 (P : PL) (st : List PV) (G : PW) : pm_dn pm_sC 78 6 P st G = pm_go pm_sC 78 G (pm_oPop 7 P st G) := pm_dn_eq (i := .pop) (len := 1) rfl
theorem u_78_7 (P : PL) (st : List PV) (G : PW) : pm_dn pm_sC 78 7 P st G = pm_go pm_sC 78 G (pm_oAL 0 8 P st G) := pm_dn_eq (i := .aload_n 0) (len := 1) rfl
theorem u_78_8 (P : PL) (st : List PV) (G : PW) : pm_dn pm_sC 78 8 P st G = pm_go pm_sC 78 G (pm_oGf pm_sC 5 3 11 P st G) := pm_dn_eq (i := .getfield 23) (len := 3) rfl
theorem u_78_11 (P : PL) (st : List PV) (G : PW) : pm_dn pm_sC 78 11 P st G = pm_go pm_sC 78 G (pm_oCv pm_sC 15 0 3 0 14 P st G) := pm_dn_eq (i := .invokevirtual 181) (len := 3) rfl
theorem u_78_14 (P : PL) (st : List PV) (G : PW) : pm_dn pm_sC 78 14 P st G = pm_go pm_sC 78 G (pm_oRi 0 P st G) := pm_dn_eq (i := .ireturn) (len := 1) rfl
theorem ue_79 (a0 : Nat) (a1 : Int) (G : PW) : pm_ca pm_sC 79 [.inr (.inr a0), .inl a1] G = pm_dn pm_sC 79 0 [some (.inr (.inr a0)), some (.inl a1), none] [] G := rfl
theorem u_79_0 (P : PL) (st : List PV) (G : PW) : pm_dn pm_sC 79 0 P st G = pm_go pm_sC 79 G (pm_oAL 0 1 P st G) := pm_dn_eq (i := .aload_n 0) (len := 1) rfl
theorem u_79_1 (P : PL) (st : List PV) (G : PW) : pm_dn pm_sC 79 1 P st G = pm_go pm_sC 79 G (pm_oGf pm_sC 5 2 4 P st G) := pm_dn_eq (i := .getfield 19) (len := 3) rfl
theorem u_79_4 (P : PL) (st : List PV) (G : PW) : pm_dn pm_sC 79 4 P st G = pm_go pm_sC 79 G (pm_oGf pm_sC 0 0 7 P st G) := pm_dn_eq (i := .getfield 60) (len := 3) rfl
theorem u_79_7 (P : PL) (st : List PV) (G : PW) : pm_dn pm_sC 79 7 P st G = pm_go pm_sC 79 G (pm_oIL 1 8 P st G) := pm_dn_eq (i := .iload_n 1) (len := 1) rfl
theorem u_79_8 (P : PL) (st : List PV) (G : PW) : pm_dn pm_sC 79 8 P st G = pm_go pm_sC 79 G (pm_oCv pm_sC 49 1 2 3 11 P st G) := pm_dn_eq (i := .invokevirtual 70) (len := 3) rfl
theorem u_79_11 (P : PL) (st : List PV) (G : PW) : pm_dn pm_sC 79 11 P st G = pm_go pm_sC 79 G (pm_oIf .ne (some 16) 14 P st G) := pm_dn_eq (i := .ifCond .ne 5) (len := 3) rfl
theorem u_79_14 (P : PL) (st : List PV) (G : PW) : pm_dn pm_sC 79 14 P st G = pm_go pm_sC 79 G (pm_oK (-1) 15 P st G) := pm_dn_eq (i := .iconst (-1)) (len := 1) rfl
theorem u_79_15 (P : PL) (st : List PV) (G : PW) : pm_dn pm_sC 79 15 P st G = pm_go pm_sC 79 G (pm_oRi 0 P st G) := pm_dn_eq (i := .ireturn) (len := 1) rfl
theorem u_79_16 (P : PL) (st : List PV) (G : PW) : pm_dn pm_sC 79 16 P st G = pm_go pm_sC 79 G (pm_oAL 0 17 P st G) := pm_dn_eq (i := .aload_n 0) (len := 1) rfl
theorem u_79_17 (P : PL) (st : List PV) (G : PW) : pm_dn pm_sC 79 17 P st G = pm_go pm_sC 79 G (pm_oGf pm_sC 5 2 20 P st G) := pm_dn_eq (i := .getfield 19) (len := 3) rfl
theorem u_79_20 (P : PL) (st : List PV) (G : PW) : pm_dn pm_sC 79 20 P st G = pm_go pm_sC 79 G (pm_oIL 1 21 P st G) := pm_dn_eq (i := .iload_n 1) (len := 1) rfl
theorem u_79_21 (P : PL) (st : List PV) (G : PW) : pm_dn pm_sC 79 21 P st G = pm_go pm_sC 79 G (pm_oCv pm_sC 14 1 2 0 24 P st G) := pm_dn_eq (i := .invokevirtual 104) (len := 3) rfl
theorem u_79_24 (P : PL) (st : List PV) (G : PW) : pm_dn pm_sC 79 24 P st G = pm_go pm_sC 79 G (pm_oIf .eq (some 42) 27 P st G) := pm_dn_eq (i := .ifCond .eq 18) (len := 3) rfl
theorem u_79_27 (P : PL) (st : List PV) (G : PW) : pm_dn pm_sC 79 27 P st G = pm_go pm_sC 79 G (pm_oAL 0 28 P st G) := pm_dn_eq (i := .aload_n 0) (len := 1) rfl
theorem u_79_28 (P : PL) (st : List PV) (G : PW) : pm_dn pm_sC 79 28 P st G = pm_go pm_sC 79 G (pm_oGf pm_sC 5 2 31 P st G) := pm_dn_eq (i := .getfield 19) (len := 3) rfl
theorem u_79_31 (P : PL) (st : List PV) (G : PW) : pm_dn pm_sC 79 31 P st G = pm_go pm_sC 79 G (pm_oCv pm_sC 15 0 3 0 34 P st G) := pm_dn_eq (i := .invokevirtual 181) (len := 3) rfl
theorem u_79_34 (P : PL) (st : List PV) (G : PW) : pm_dn pm_sC 79 34 P st G = pm_go pm_sC 79 G (pm_oIL 1 35 P st G) := pm_dn_eq (i := .iload_n 1) (len := 1) rfl
theorem u_79_35 (P : PL) (st : List PV) (G : PW) : pm_dn pm_sC 79 35 P st G = pm_go pm_sC 79 G (pm_oIc .eq (some 42) 38 P st G) := pm_dn_eq (i := .if_icmp .eq 7) (len := 3) rfl
theorem u_79_38 (P : PL) (st : List PV) (G : PW) : pm_dn pm_sC 79 38 P st G = pm_go pm_sC 79 G (pm_oK 1 39 P st G) := pm_dn_eq (i := .iconst 1) (len := 1) rfl
theorem u_79_39 (P : PL) (st : List PV) (G : PW) : pm_dn pm_sC 79 39 P st G = pm_go pm_sC 79 G (pm_oGo (some 43) P st G) := pm_dn_eq (i := .goto 4) (len := 3) rfl
theorem u_79_42 (P : PL) (st : List PV) (G : PW) : pm_dn pm_sC 79 42 P st G = pm_go pm_sC 79 G (pm_oK 0 43 P st G) := pm_dn_eq (i := .iconst 0) (len := 1) rfl
theorem u_79_43 (P : PL) (st : List PV) (G : PW) : pm_dn pm_sC 79 43 P st G = pm_go pm_sC 79 G (pm_oIS 2 44 P st G) := pm_dn_eq (i := .istore_n 2) (len := 1) rfl
theorem u_79_44 (P : PL) (st : List PV) (G : PW) : pm_dn pm_sC 79 44 P st G = pm_go pm_sC 79 G (pm_oAL 0 45 P st G) := pm_dn_eq (i := .aload_n 0) (len := 1) rfl
theorem u_79_45 (P : PL) (st : List PV) (G : PW) : pm_dn pm_sC 79 45 P st G = pm_go pm_sC 79 G (pm_oGf pm_sC 5 2 48 P st G) := pm_dn_eq (i := .getfield 19) (len := 3) rfl
theorem u_79_48 (P : PL) (st : List PV) (G : PW) : pm_dn pm_sC 79 48 P st G = pm_go pm_sC 79 G (pm_oIL 1 49 P st G) := pm_dn_eq (i := .iload_n 1) (len := 1) rfl
theorem u_79_49 (P : PL) (st : List PV) (G : PW) : pm_dn pm_sC 79 49 P st G = pm_go pm_sC 79 G (pm_oCv pm_sC 4 1 2 0 52 P st G) := pm_dn_eq (i := .invokevirtual 101) (len := 3) rfl
theorem u_79_52 (P : PL) (st : List PV) (G : PW) : pm_dn pm_sC 79 52 P st G = pm_go pm_sC 79 G (pm_oIf .ne (some 59) 55 P st G) := pm_dn_eq (i := .ifCond .ne 7) (len := 3) rfl
theorem u_79_55 (P : PL) (st : List PV) (G : PW) : pm_dn pm_sC 79 55 P st G = pm_go pm_sC 79 G (pm_oIL 2 56 P st G) := pm_dn_eq (i := .iload_n 2) (len := 1) rfl
theorem u_79_56 (P : PL) (st : List PV) (G : PW) : pm_dn pm_sC 79 56 P st G = pm_go pm_sC 79 G (pm_oIf .eq (some 62) 59 P st G) := pm_dn_eq (i := .ifCond .eq 6) (len := 3) rfl
theorem u_79_59 (P : PL) (st : List PV) (G : PW) : pm_dn pm_sC 79 59 P st G = pm_go pm_sC 79 G (pm_oK (-5) 61 P st G) := pm_dn_eq (i := .bipush (-5)) (len := 2) rfl
theorem u_79_61 (P : PL) (st : List PV) (G : PW) : pm_dn pm_sC 79 61 P st G = pm_go pm_sC 79 G (pm_oRi 0 P st G) := pm_dn_eq (i := .ireturn) (len := 1) rfl
theorem u_79_62 (P : PL) (st : List PV) (G : PW) : pm_dn pm_sC 79 62 P st G = pm_go pm_sC 79 G (pm_oAL 0 63 P st G) := pm_dn_eq (i := .aload_n 0) (len := 1) rfl
theorem u_79_63 (P : PL) (st : List PV) (G : PW) : pm_dn pm_sC 79 63 P st G = pm_go pm_sC 79 G (pm_oIL 1 64 P st G) := pm_dn_eq (i := .iload_n 1) (len := 1) rfl
theorem u_79_64 (P : PL) (st : List PV) (G : PW) : pm_dn pm_sC 79 64 P st G = pm_go pm_sC 79 G (pm_oCv pm_sC 97 1 6 5 67 P st G) := pm_dn_eq (i := .invokevirtual 195) (len := 3) rfl
theorem u_79_67 (P : PL) (st : List PV) (G : PW) : pm_dn pm_sC 79 67 P st G = pm_go pm_sC 79 G (pm_oRi 0 P st G) := pm_dn_eq (i := .ireturn) (len := 1) rfl
