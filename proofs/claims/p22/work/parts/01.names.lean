-- ===== PART A: goes FIRST, ahead of the names: the tables' words, and 'selects' of the private methods out of them =====
/-- a private method of a class that the tables say can be made, by its rows of tables_1 -/
def lw_okq (q : MethodName × Nat) : Prop := (q.1.cls ≠ "java/lang/invoke/MethodHandle" ∧ q.1.cls ≠ "java/lang/invoke/VarHandle") ∧ Cond.instantiable q.1.cls q.2 ∈ tables_1 ∧ Cond.privateMethod q.1 ∈ tables_1 ∧ Cond.instanceMethod q.1 ∈ tables_1
theorem lw_p0 : lw_okq (⟨"TwoLives", "begin", "(II)V"⟩, 8) := ⟨⟨by decide +kernel, by decide +kernel⟩, List.mem_of_getElem? (i := 8) (by decide +kernel), List.mem_of_getElem? (i := 161) (by decide +kernel), List.mem_of_getElem? (i := 162) (by decide +kernel)⟩
theorem lw_p1 : lw_okq (⟨"TwoLives$Plan", "layUpper", "()V"⟩, 14) := ⟨⟨by decide +kernel, by decide +kernel⟩, List.mem_of_getElem? (i := 22) (by decide +kernel), List.mem_of_getElem? (i := 169) (by decide +kernel), List.mem_of_getElem? (i := 170) (by decide +kernel)⟩
theorem lw_p2 : lw_okq (⟨"TwoLives$Plan", "upperStart", "(I)I"⟩, 14) := ⟨⟨by decide +kernel, by decide +kernel⟩, List.mem_of_getElem? (i := 22) (by decide +kernel), List.mem_of_getElem? (i := 173) (by decide +kernel), List.mem_of_getElem? (i := 174) (by decide +kernel)⟩
theorem lw_p3 : lw_okq (⟨"TwoLives$Plan", "upperMatches", "(I)I"⟩, 14) := ⟨⟨by decide +kernel, by decide +kernel⟩, List.mem_of_getElem? (i := 22) (by decide +kernel), List.mem_of_getElem? (i := 177) (by decide +kernel), List.mem_of_getElem? (i := 178) (by decide +kernel)⟩
theorem lw_p4 : lw_okq (⟨"TwoLives$Plan", "layMatch", "(IIII)V"⟩, 14) := ⟨⟨by decide +kernel, by decide +kernel⟩, List.mem_of_getElem? (i := 22) (by decide +kernel), List.mem_of_getElem? (i := 181) (by decide +kernel), List.mem_of_getElem? (i := 182) (by decide +kernel)⟩
theorem lw_p5 : lw_okq (⟨"TwoLives$Plan", "afterUpperWin", "(II)I"⟩, 14) := ⟨⟨by decide +kernel, by decide +kernel⟩, List.mem_of_getElem? (i := 22) (by decide +kernel), List.mem_of_getElem? (i := 188) (by decide +kernel), List.mem_of_getElem? (i := 189) (by decide +kernel)⟩
theorem lw_p6 : lw_okq (⟨"TwoLives$Plan", "afterUpperLoss", "(II)I"⟩, 14) := ⟨⟨by decide +kernel, by decide +kernel⟩, List.mem_of_getElem? (i := 22) (by decide +kernel), List.mem_of_getElem? (i := 199) (by decide +kernel), List.mem_of_getElem? (i := 200) (by decide +kernel)⟩
theorem lw_p7 : lw_okq (⟨"TwoLives$Plan", "lowerStart", "(I)I"⟩, 14) := ⟨⟨by decide +kernel, by decide +kernel⟩, List.mem_of_getElem? (i := 22) (by decide +kernel), List.mem_of_getElem? (i := 203) (by decide +kernel), List.mem_of_getElem? (i := 204) (by decide +kernel)⟩
theorem lw_p8 : lw_okq (⟨"TwoLives$Plan", "lowerMatches", "(I)I"⟩, 14) := ⟨⟨by decide +kernel, by decide +kernel⟩, List.mem_of_getElem? (i := 22) (by decide +kernel), List.mem_of_getElem? (i := 207) (by decide +kernel), List.mem_of_getElem? (i := 208) (by decide +kernel)⟩
theorem lw_p9 : lw_okq (⟨"TwoLives$Plan", "layLower", "()V"⟩, 14) := ⟨⟨by decide +kernel, by decide +kernel⟩, List.mem_of_getElem? (i := 22) (by decide +kernel), List.mem_of_getElem? (i := 211) (by decide +kernel), List.mem_of_getElem? (i := 212) (by decide +kernel)⟩
theorem lw_p10 : lw_okq (⟨"TwoLives$Plan", "lowerRounds", "()I"⟩, 14) := ⟨⟨by decide +kernel, by decide +kernel⟩, List.mem_of_getElem? (i := 22) (by decide +kernel), List.mem_of_getElem? (i := 215) (by decide +kernel), List.mem_of_getElem? (i := 216) (by decide +kernel)⟩
theorem lw_p11 : lw_okq (⟨"TwoLives$Plan", "afterLowerWin", "(II)I"⟩, 14) := ⟨⟨by decide +kernel, by decide +kernel⟩, List.mem_of_getElem? (i := 22) (by decide +kernel), List.mem_of_getElem? (i := 219) (by decide +kernel), List.mem_of_getElem? (i := 220) (by decide +kernel)⟩
theorem lw_p12 : lw_okq (⟨"TwoLives$Plan", "orderSeeds", "()V"⟩, 14) := ⟨⟨by decide +kernel, by decide +kernel⟩, List.mem_of_getElem? (i := 22) (by decide +kernel), List.mem_of_getElem? (i := 227) (by decide +kernel), List.mem_of_getElem? (i := 228) (by decide +kernel)⟩
theorem lw_p13 : lw_okq (⟨"TwoLives$Plan", "findByes", "()V"⟩, 14) := ⟨⟨by decide +kernel, by decide +kernel⟩, List.mem_of_getElem? (i := 22) (by decide +kernel), List.mem_of_getElem? (i := 234) (by decide +kernel), List.mem_of_getElem? (i := 235) (by decide +kernel)⟩
theorem lw_p14 : lw_okq (⟨"TwoLives$Plan", "byesIn", "(I)I"⟩, 14) := ⟨⟨by decide +kernel, by decide +kernel⟩, List.mem_of_getElem? (i := 22) (by decide +kernel), List.mem_of_getElem? (i := 242) (by decide +kernel), List.mem_of_getElem? (i := 243) (by decide +kernel)⟩
theorem lw_p15 : lw_okq (⟨"TwoLives$Plan", "sharePlaces", "()V"⟩, 14) := ⟨⟨by decide +kernel, by decide +kernel⟩, List.mem_of_getElem? (i := 22) (by decide +kernel), List.mem_of_getElem? (i := 246) (by decide +kernel), List.mem_of_getElem? (i := 247) (by decide +kernel)⟩
def lw_privs_1 : List (MethodName × Nat) := [(⟨"TwoLives", "begin", "(II)V"⟩, 8), (⟨"TwoLives$Plan", "layUpper", "()V"⟩, 14), (⟨"TwoLives$Plan", "upperStart", "(I)I"⟩, 14), (⟨"TwoLives$Plan", "upperMatches", "(I)I"⟩, 14), (⟨"TwoLives$Plan", "layMatch", "(IIII)V"⟩, 14), (⟨"TwoLives$Plan", "afterUpperWin", "(II)I"⟩, 14), (⟨"TwoLives$Plan", "afterUpperLoss", "(II)I"⟩, 14), (⟨"TwoLives$Plan", "lowerStart", "(I)I"⟩, 14), (⟨"TwoLives$Plan", "lowerMatches", "(I)I"⟩, 14), (⟨"TwoLives$Plan", "layLower", "()V"⟩, 14), (⟨"TwoLives$Plan", "lowerRounds", "()I"⟩, 14), (⟨"TwoLives$Plan", "afterLowerWin", "(II)I"⟩, 14), (⟨"TwoLives$Plan", "orderSeeds", "()V"⟩, 14), (⟨"TwoLives$Plan", "findByes", "()V"⟩, 14), (⟨"TwoLives$Plan", "byesIn", "(I)I"⟩, 14), (⟨"TwoLives$Plan", "sharePlaces", "()V"⟩, 14)]
theorem lw_r1 : ∀ q ∈ lw_privs_1, lw_okq q := List.forall_mem_cons.mpr ⟨lw_p0, List.forall_mem_cons.mpr ⟨lw_p1, List.forall_mem_cons.mpr ⟨lw_p2, List.forall_mem_cons.mpr ⟨lw_p3, List.forall_mem_cons.mpr ⟨lw_p4, List.forall_mem_cons.mpr ⟨lw_p5, List.forall_mem_cons.mpr ⟨lw_p6, List.forall_mem_cons.mpr ⟨lw_p7, List.forall_mem_cons.mpr ⟨lw_p8, List.forall_mem_cons.mpr ⟨lw_p9, List.forall_mem_cons.mpr ⟨lw_p10, List.forall_mem_cons.mpr ⟨lw_p11, List.forall_mem_cons.mpr ⟨lw_p12, List.forall_mem_cons.mpr ⟨lw_p13, List.forall_mem_cons.mpr ⟨lw_p14, List.forall_mem_cons.mpr ⟨lw_p15, fun _ h => absurd h List.not_mem_nil⟩⟩⟩⟩⟩⟩⟩⟩⟩⟩⟩⟩⟩⟩⟩⟩
theorem lw_p16 : lw_okq (⟨"TwoLives$Bracket", "decide", "(III)V"⟩, 6) := ⟨⟨by decide +kernel, by decide +kernel⟩, List.mem_of_getElem? (i := 16) (by decide +kernel), List.mem_of_getElem? (i := 274) (by decide +kernel), List.mem_of_getElem? (i := 275) (by decide +kernel)⟩
theorem lw_p17 : lw_okq (⟨"TwoLives", "rateAsAtFirst", "()V"⟩, 8) := ⟨⟨by decide +kernel, by decide +kernel⟩, List.mem_of_getElem? (i := 8) (by decide +kernel), List.mem_of_getElem? (i := 284) (by decide +kernel), List.mem_of_getElem? (i := 285) (by decide +kernel)⟩
theorem lw_p18 : lw_okq (⟨"TwoLives", "setRating", "(II)V"⟩, 8) := ⟨⟨by decide +kernel, by decide +kernel⟩, List.mem_of_getElem? (i := 8) (by decide +kernel), List.mem_of_getElem? (i := 288) (by decide +kernel), List.mem_of_getElem? (i := 289) (by decide +kernel)⟩
theorem lw_p19 : lw_okq (⟨"TwoLives", "perform", "(I)I"⟩, 8) := ⟨⟨by decide +kernel, by decide +kernel⟩, List.mem_of_getElem? (i := 8) (by decide +kernel), List.mem_of_getElem? (i := 352) (by decide +kernel), List.mem_of_getElem? (i := 353) (by decide +kernel)⟩
theorem lw_p20 : lw_okq (⟨"TwoLives", "enter", "(I)V"⟩, 8) := ⟨⟨by decide +kernel, by decide +kernel⟩, List.mem_of_getElem? (i := 8) (by decide +kernel), List.mem_of_getElem? (i := 364) (by decide +kernel), List.mem_of_getElem? (i := 365) (by decide +kernel)⟩
theorem lw_p21 : lw_okq (⟨"TwoLives", "ratingOf", "(I)I"⟩, 8) := ⟨⟨by decide +kernel, by decide +kernel⟩, List.mem_of_getElem? (i := 8) (by decide +kernel), List.mem_of_getElem? (i := 427) (by decide +kernel), List.mem_of_getElem? (i := 428) (by decide +kernel)⟩
theorem lw_p22 : lw_okq (⟨"TwoLives", "whereNext", "(I)I"⟩, 8) := ⟨⟨by decide +kernel, by decide +kernel⟩, List.mem_of_getElem? (i := 8) (by decide +kernel), List.mem_of_getElem? (i := 441) (by decide +kernel), List.mem_of_getElem? (i := 442) (by decide +kernel)⟩
theorem lw_p23 : lw_okq (⟨"TwoLives$Bracket", "place", "(I[I)I"⟩, 6) := ⟨⟨by decide +kernel, by decide +kernel⟩, List.mem_of_getElem? (i := 16) (by decide +kernel), List.mem_of_getElem? (i := 450) (by decide +kernel), List.mem_of_getElem? (i := 451) (by decide +kernel)⟩
theorem lw_p24 : lw_okq (⟨"TwoLives", "playableMatches", "()I"⟩, 8) := ⟨⟨by decide +kernel, by decide +kernel⟩, List.mem_of_getElem? (i := 8) (by decide +kernel), List.mem_of_getElem? (i := 476) (by decide +kernel), List.mem_of_getElem? (i := 477) (by decide +kernel)⟩
theorem lw_p25 : lw_okq (⟨"TwoLives", "placedPlayers", "()I"⟩, 8) := ⟨⟨by decide +kernel, by decide +kernel⟩, List.mem_of_getElem? (i := 8) (by decide +kernel), List.mem_of_getElem? (i := 481) (by decide +kernel), List.mem_of_getElem? (i := 482) (by decide +kernel)⟩
theorem lw_p26 : lw_okq (⟨"TwoLives", "resultsToCome", "(Z)I"⟩, 8) := ⟨⟨by decide +kernel, by decide +kernel⟩, List.mem_of_getElem? (i := 8) (by decide +kernel), List.mem_of_getElem? (i := 485) (by decide +kernel), List.mem_of_getElem? (i := 486) (by decide +kernel)⟩
theorem lw_p27 : lw_okq (⟨"TwoLives", "playTrial", "(I)I"⟩, 8) := ⟨⟨by decide +kernel, by decide +kernel⟩, List.mem_of_getElem? (i := 8) (by decide +kernel), List.mem_of_getElem? (i := 493) (by decide +kernel), List.mem_of_getElem? (i := 494) (by decide +kernel)⟩
theorem lw_p28 : lw_okq (⟨"TwoLives", "favouredSide", "(I)I"⟩, 8) := ⟨⟨by decide +kernel, by decide +kernel⟩, List.mem_of_getElem? (i := 8) (by decide +kernel), List.mem_of_getElem? (i := 505) (by decide +kernel), List.mem_of_getElem? (i := 506) (by decide +kernel)⟩
theorem lw_p29 : lw_okq (⟨"TwoLives", "replay", "()V"⟩, 8) := ⟨⟨by decide +kernel, by decide +kernel⟩, List.mem_of_getElem? (i := 8) (by decide +kernel), List.mem_of_getElem? (i := 517) (by decide +kernel), List.mem_of_getElem? (i := 518) (by decide +kernel)⟩
def lw_privs_2 : List (MethodName × Nat) := [(⟨"TwoLives$Bracket", "decide", "(III)V"⟩, 6), (⟨"TwoLives", "rateAsAtFirst", "()V"⟩, 8), (⟨"TwoLives", "setRating", "(II)V"⟩, 8), (⟨"TwoLives", "perform", "(I)I"⟩, 8), (⟨"TwoLives", "enter", "(I)V"⟩, 8), (⟨"TwoLives", "ratingOf", "(I)I"⟩, 8), (⟨"TwoLives", "whereNext", "(I)I"⟩, 8), (⟨"TwoLives$Bracket", "place", "(I[I)I"⟩, 6), (⟨"TwoLives", "playableMatches", "()I"⟩, 8), (⟨"TwoLives", "placedPlayers", "()I"⟩, 8), (⟨"TwoLives", "resultsToCome", "(Z)I"⟩, 8), (⟨"TwoLives", "playTrial", "(I)I"⟩, 8), (⟨"TwoLives", "favouredSide", "(I)I"⟩, 8), (⟨"TwoLives", "replay", "()V"⟩, 8)]
theorem lw_r2 : ∀ q ∈ lw_privs_2, lw_okq q := List.forall_mem_cons.mpr ⟨lw_p16, List.forall_mem_cons.mpr ⟨lw_p17, List.forall_mem_cons.mpr ⟨lw_p18, List.forall_mem_cons.mpr ⟨lw_p19, List.forall_mem_cons.mpr ⟨lw_p20, List.forall_mem_cons.mpr ⟨lw_p21, List.forall_mem_cons.mpr ⟨lw_p22, List.forall_mem_cons.mpr ⟨lw_p23, List.forall_mem_cons.mpr ⟨lw_p24, List.forall_mem_cons.mpr ⟨lw_p25, List.forall_mem_cons.mpr ⟨lw_p26, List.forall_mem_cons.mpr ⟨lw_p27, List.forall_mem_cons.mpr ⟨lw_p28, List.forall_mem_cons.mpr ⟨lw_p29, fun _ h => absurd h List.not_mem_nil⟩⟩⟩⟩⟩⟩⟩⟩⟩⟩⟩⟩⟩⟩
def lw_privs : List (MethodName × Nat) := lw_privs_1 ++ (lw_privs_2)
def lw_tbl : List Cond := k2_sels lw_privs ++ tables_1
theorem lw_privs_ok : ∀ q ∈ lw_privs, lw_okq q := by
  show ∀ q ∈ lw_privs_1 ++ (lw_privs_2), lw_okq q
  exact List.forall_mem_append.mpr ⟨lw_r1, lw_r2⟩
theorem goodIn_r {big : List Cond} (ws : List Cond) (ps : List Nat) (hp : ws = ps.filterMap (fun i => big[i]?)) (h : ws.all goodWord = true) : GoodIn big ws := by
  intro w hw
  have h1 := List.all_eq_true.mp h w hw
  rw [hp] at hw
  obtain ⟨i, -, hi⟩ := List.mem_filterMap.mp hw
  have hm : w ∈ big := by first | exact List.mem_of_getElem? hi | exact List.getElem?_mem hi
  exact ⟨hm, good_of_word h1⟩
theorem goodIn_app {big a b : List Cond} (ha : GoodIn big a) (hb : GoodIn big b) : GoodIn big (a ++ b) := fun w h => (List.mem_append.mp h).elim (ha w) (hb w)
theorem goodIn_ca {big a b : List Cond} {c : Cond} (ha : GoodIn big (c :: a)) (hb : GoodIn big b) : GoodIn big (c :: (a ++ b)) := fun w h => (List.mem_cons.mp h).elim (fun e => ha w (List.mem_cons.mpr (Or.inl e))) (fun h => (List.mem_append.mp h).elim (fun h => ha w (List.mem_cons.mpr (Or.inr h))) (hb w))
theorem goodIn_sub {big ws : List Cond} (hm : ∀ w ∈ ws, w ∈ big) (h : ws.all goodWord = true) : GoodIn big ws := fun w hw => ⟨hm w hw, good_of_word (List.all_eq_true.mp h w hw)⟩
def RX0 : String := "TwoLives$Bracket"
def TX0 : u_T := fun k => match k with
  | 0 => ("TwoLives$Bracket", "plan", "LTwoLives$Plan;", true)
  | 1 => ("TwoLives$Bracket", "results", "[I", true)
  | 2 => ("TwoLives$Bracket", "gone", "[I", true)
  | 3 => ("TwoLives$Bracket", "seats", "[I", true)
  | 4 => ("TwoLives$Bracket", "how", "[I", true)
  | _ => ("TwoLives$Bracket", "wonBy", "[I", true)
def tyX0 : Nat → FieldType := fun k => match k with
  | 0 => .object "TwoLives$Plan"
  | 1 => .array .int
  | 2 => .array .int
  | 3 => .array .int
  | 4 => .array .int
  | _ => .array .int
abbrev wsX00 : List Cond := u_ws RX0 TX0 6
theorem nmX0 : ∀ a, a < 6 → ∀ b, b < 6 → a ≠ b → (TX0 a).2.1 ≠ (TX0 b).2.1 := by decide +kernel
theorem tyX0_ok : ∀ k, k < 6 → parseFieldDescriptor (TX0 k).2.2.1 = some (tyX0 k) := by decide +kernel
abbrev cX0_init : ByteArray := prog_2_method_1_code
def yX0_init : MethodName := ⟨RX0, "<init>", "()V"⟩
abbrev cX0_clear : ByteArray := prog_2_method_2_code
def yX0_clear : MethodName := ⟨RX0, "clear", "()V"⟩
abbrev cX0_copyFrom : ByteArray := prog_2_method_3_code
def yX0_copyFrom : MethodName := ⟨RX0, "copyFrom", "(LTwoLives$Bracket;)V"⟩
abbrev cX0_enterResult : ByteArray := prog_2_method_4_code
def yX0_enterResult : MethodName := ⟨RX0, "enterResult", "(II)V"⟩
abbrev cX0_letGo : ByteArray := prog_2_method_5_code
def yX0_letGo : MethodName := ⟨RX0, "letGo", "(I)V"⟩
abbrev cX0_isGone : ByteArray := prog_2_method_6_code
def yX0_isGone : MethodName := ⟨RX0, "isGone", "(I)Z"⟩
abbrev cX0_sideOf : ByteArray := prog_2_method_7_code
def yX0_sideOf : MethodName := ⟨RX0, "sideOf", "(II)I"⟩
abbrev cX0_howDecided : ByteArray := prog_2_method_8_code
def yX0_howDecided : MethodName := ⟨RX0, "howDecided", "(I)I"⟩
abbrev cX0_winner : ByteArray := prog_2_method_9_code
def yX0_winner : MethodName := ⟨RX0, "winner", "(I)I"⟩
abbrev cX0_loser : ByteArray := prog_2_method_10_code
def yX0_loser : MethodName := ⟨RX0, "loser", "(I)I"⟩
abbrev cX0_canBePlayed : ByteArray := prog_2_method_11_code
def yX0_canBePlayed : MethodName := ⟨RX0, "canBePlayed", "(I)Z"⟩
abbrev cX0_settle : ByteArray := prog_2_method_12_code
def yX0_settle : MethodName := ⟨RX0, "settle", "()V"⟩
abbrev cX0_settleMatch : ByteArray := prog_2_method_13_code
def yX0_settleMatch : MethodName := ⟨RX0, "settleMatch", "(I)V"⟩
abbrev cX0_decide : ByteArray := prog_2_method_14_code
def yX0_decide : MethodName := ⟨RX0, "decide", "(III)V"⟩
abbrev cX0_nextMatch : ByteArray := prog_2_method_15_code
def yX0_nextMatch : MethodName := ⟨RX0, "nextMatch", "(I)I"⟩
abbrev cX0_hasPlace : ByteArray := prog_2_method_16_code
def yX0_hasPlace : MethodName := ⟨RX0, "hasPlace", "(I)Z"⟩
abbrev cX0_champion : ByteArray := prog_2_method_17_code
def yX0_champion : MethodName := ⟨RX0, "champion", "()I"⟩
abbrev cX0_bestPlace : ByteArray := prog_2_method_18_code
def yX0_bestPlace : MethodName := ⟨RX0, "bestPlace", "(I)I"⟩
abbrev cX0_lastPlace : ByteArray := prog_2_method_19_code
def yX0_lastPlace : MethodName := ⟨RX0, "lastPlace", "(I)I"⟩
abbrev cX0_place : ByteArray := prog_2_method_20_code
def yX0_place : MethodName := ⟨RX0, "place", "(I[I)I"⟩
abbrev cX0_decidedMatches : ByteArray := prog_2_method_21_code
def yX0_decidedMatches : MethodName := ⟨RX0, "decidedMatches", "()I"⟩
abbrev cX0_decided : ByteArray := prog_2_method_22_code
def yX0_decided : MethodName := ⟨RX0, "decided", "(I)I"⟩
abbrev cX0_wins : ByteArray := prog_2_method_23_code
def yX0_wins : MethodName := ⟨RX0, "wins", "(I)I"⟩
abbrev cX0_losses : ByteArray := prog_2_method_24_code
def yX0_losses : MethodName := ⟨RX0, "losses", "(I)I"⟩
abbrev cX0_played : ByteArray := prog_2_method_25_code
def yX0_played : MethodName := ⟨RX0, "played", "(I)I"⟩
def RX1 : String := "TwoLives$History"
def TX1 : u_T := fun k => match k with
  | 0 => ("TwoLives$History", "acts", "[I", true)
  | _ => ("TwoLives$History", "length", "I", false)
def tyX1 : Nat → FieldType := fun k => match k with
  | 0 => .array .int
  | _ => .int
abbrev wsX10 : List Cond := u_ws RX1 TX1 2
theorem nmX1 : ∀ a, a < 2 → ∀ b, b < 2 → a ≠ b → (TX1 a).2.1 ≠ (TX1 b).2.1 := by decide +kernel
theorem tyX1_ok : ∀ k, k < 2 → parseFieldDescriptor (TX1 k).2.2.1 = some (tyX1 k) := by decide +kernel
abbrev cX1_init : ByteArray := prog_3_method_1_code
def yX1_init : MethodName := ⟨RX1, "<init>", "()V"⟩
abbrev cX1_resultAct : ByteArray := prog_3_method_2_code
def yX1_resultAct : MethodName := ⟨RX1, "resultAct", "(II)I"⟩
abbrev cX1_withdrawalAct : ByteArray := prog_3_method_3_code
def yX1_withdrawalAct : MethodName := ⟨RX1, "withdrawalAct", "(I)I"⟩
abbrev cX1_isResult : ByteArray := prog_3_method_4_code
def yX1_isResult : MethodName := ⟨RX1, "isResult", "(I)Z"⟩
abbrev cX1_seatOf : ByteArray := prog_3_method_5_code
def yX1_seatOf : MethodName := ⟨RX1, "seatOf", "(I)I"⟩
abbrev cX1_playerOf : ByteArray := prog_3_method_6_code
def yX1_playerOf : MethodName := ⟨RX1, "playerOf", "(I)I"⟩
abbrev cX1_add : ByteArray := prog_3_method_7_code
def yX1_add : MethodName := ⟨RX1, "add", "(I)V"⟩
abbrev cX1_dropLast : ByteArray := prog_3_method_8_code
def yX1_dropLast : MethodName := ⟨RX1, "dropLast", "()V"⟩
abbrev cX1_clear : ByteArray := prog_3_method_9_code
def yX1_clear : MethodName := ⟨RX1, "clear", "()V"⟩
abbrev cX1_act : ByteArray := prog_3_method_10_code
def yX1_act : MethodName := ⟨RX1, "act", "(I)I"⟩
def RX2 : String := "TwoLives$Pad"
def TX2 : u_T := fun k => match k with
  | 0 => ("TwoLives$Pad", "signs", "[C", true)
  | 1 => ("TwoLives$Pad", "length", "I", false)
  | 2 => ("TwoLives$Pad", "reading", "I", false)
  | _ => ("TwoLives$Pad", "number", "I", false)
def tyX2 : Nat → FieldType := fun k => match k with
  | 0 => .array .char
  | 1 => .int
  | 2 => .int
  | _ => .int
abbrev wsX20 : List Cond := u_ws RX2 TX2 4
theorem nmX2 : ∀ a, a < 4 → ∀ b, b < 4 → a ≠ b → (TX2 a).2.1 ≠ (TX2 b).2.1 := by decide +kernel
theorem tyX2_ok : ∀ k, k < 4 → parseFieldDescriptor (TX2 k).2.2.1 = some (tyX2 k) := by decide +kernel
abbrev cX2_init : ByteArray := prog_4_method_1_code
def yX2_init : MethodName := ⟨RX2, "<init>", "()V"⟩
def RX3 : String := "TwoLives$Plan"
def TX3 : u_T := fun k => match k with
  | 0 => ("TwoLives$Plan", "players", "I", false)
  | 1 => ("TwoLives$Plan", "cross", "I", false)
  | 2 => ("TwoLives$Plan", "size", "I", false)
  | 3 => ("TwoLives$Plan", "rounds", "I", false)
  | 4 => ("TwoLives$Plan", "matches", "I", false)
  | 5 => ("TwoLives$Plan", "part", "[I", true)
  | 6 => ("TwoLives$Plan", "round", "[I", true)
  | 7 => ("TwoLives$Plan", "index", "[I", true)
  | 8 => ("TwoLives$Plan", "winnerSeat", "[I", true)
  | 9 => ("TwoLives$Plan", "loserSeat", "[I", true)
  | 10 => ("TwoLives$Plan", "bestPlace", "[I", true)
  | 11 => ("TwoLives$Plan", "lastPlace", "[I", true)
  | 12 => ("TwoLives$Plan", "seeds", "[I", true)
  | _ => ("TwoLives$Plan", "byes", "[I", true)
def tyX3 : Nat → FieldType := fun k => match k with
  | 0 => .int
  | 1 => .int
  | 2 => .int
  | 3 => .int
  | 4 => .int
  | 5 => .array .int
  | 6 => .array .int
  | 7 => .array .int
  | 8 => .array .int
  | 9 => .array .int
  | 10 => .array .int
  | 11 => .array .int
  | 12 => .array .int
  | _ => .array .int
abbrev wsX30 : List Cond := u_ws RX3 TX3 14
theorem nmX3 : ∀ a, a < 14 → ∀ b, b < 14 → a ≠ b → (TX3 a).2.1 ≠ (TX3 b).2.1 := by decide +kernel
theorem tyX3_ok : ∀ k, k < 14 → parseFieldDescriptor (TX3 k).2.2.1 = some (tyX3 k) := by decide +kernel
abbrev cX3_init : ByteArray := prog_5_method_1_code
def yX3_init : MethodName := ⟨RX3, "<init>", "()V"⟩
abbrev cX3_lay : ByteArray := prog_5_method_2_code
def yX3_lay : MethodName := ⟨RX3, "lay", "(II)V"⟩
abbrev cX3_hasPlayer : ByteArray := prog_5_method_3_code
def yX3_hasPlayer : MethodName := ⟨RX3, "hasPlayer", "(I)Z"⟩
abbrev cX3_hasMatch : ByteArray := prog_5_method_4_code
def yX3_hasMatch : MethodName := ⟨RX3, "hasMatch", "(I)Z"⟩
abbrev cX3_firstFinal : ByteArray := prog_5_method_5_code
def yX3_firstFinal : MethodName := ⟨RX3, "firstFinal", "()I"⟩
abbrev cX3_secondFinal : ByteArray := prog_5_method_6_code
def yX3_secondFinal : MethodName := ⟨RX3, "secondFinal", "()I"⟩
abbrev cX3_firstRoundPlayer : ByteArray := prog_5_method_8_code
def yX3_firstRoundPlayer : MethodName := ⟨RX3, "firstRoundPlayer", "(I)I"⟩
abbrev cX3_upperStart : ByteArray := prog_5_method_9_code
def yX3_upperStart : MethodName := ⟨RX3, "upperStart", "(I)I"⟩
abbrev cX3_upperMatches : ByteArray := prog_5_method_10_code
def yX3_upperMatches : MethodName := ⟨RX3, "upperMatches", "(I)I"⟩
abbrev cX3_lowerRounds : ByteArray := prog_5_method_11_code
def yX3_lowerRounds : MethodName := ⟨RX3, "lowerRounds", "()I"⟩
abbrev cX3_lowerMatches : ByteArray := prog_5_method_12_code
def yX3_lowerMatches : MethodName := ⟨RX3, "lowerMatches", "(I)I"⟩
abbrev cX3_lowerStart : ByteArray := prog_5_method_13_code
def yX3_lowerStart : MethodName := ⟨RX3, "lowerStart", "(I)I"⟩
abbrev cX3_layMatch : ByteArray := prog_5_method_14_code
def yX3_layMatch : MethodName := ⟨RX3, "layMatch", "(IIII)V"⟩
abbrev cX3_layUpper : ByteArray := prog_5_method_15_code
def yX3_layUpper : MethodName := ⟨RX3, "layUpper", "()V"⟩
abbrev cX3_layLower : ByteArray := prog_5_method_16_code
def yX3_layLower : MethodName := ⟨RX3, "layLower", "()V"⟩
abbrev cX3_afterUpperWin : ByteArray := prog_5_method_17_code
def yX3_afterUpperWin : MethodName := ⟨RX3, "afterUpperWin", "(II)I"⟩
abbrev cX3_afterUpperLoss : ByteArray := prog_5_method_18_code
def yX3_afterUpperLoss : MethodName := ⟨RX3, "afterUpperLoss", "(II)I"⟩
abbrev cX3_afterLowerWin : ByteArray := prog_5_method_19_code
def yX3_afterLowerWin : MethodName := ⟨RX3, "afterLowerWin", "(II)I"⟩
abbrev cX3_orderSeeds : ByteArray := prog_5_method_20_code
def yX3_orderSeeds : MethodName := ⟨RX3, "orderSeeds", "()V"⟩
abbrev cX3_findByes : ByteArray := prog_5_method_21_code
def yX3_findByes : MethodName := ⟨RX3, "findByes", "()V"⟩
abbrev cX3_byesIn : ByteArray := prog_5_method_22_code
def yX3_byesIn : MethodName := ⟨RX3, "byesIn", "(I)I"⟩
abbrev cX3_sharePlaces : ByteArray := prog_5_method_23_code
def yX3_sharePlaces : MethodName := ⟨RX3, "sharePlaces", "()V"⟩
def RX4 : String := "TwoLives$Slot"
def TX4 : u_T := fun k => match k with
  | 0 => ("TwoLives$Slot", "used", "Z", false)
  | 1 => ("TwoLives$Slot", "players", "I", false)
  | 2 => ("TwoLives$Slot", "cross", "I", false)
  | 3 => ("TwoLives$Slot", "ratings", "[I", true)
  | _ => ("TwoLives$Slot", "history", "LTwoLives$History;", true)
def tyX4 : Nat → FieldType := fun k => match k with
  | 0 => .boolean
  | 1 => .int
  | 2 => .int
  | 3 => .array .int
  | _ => .object "TwoLives$History"
abbrev wsX40 : List Cond := u_ws RX4 TX4 5
theorem nmX4 : ∀ a, a < 5 → ∀ b, b < 5 → a ≠ b → (TX4 a).2.1 ≠ (TX4 b).2.1 := by decide +kernel
theorem tyX4_ok : ∀ k, k < 5 → parseFieldDescriptor (TX4 k).2.2.1 = some (tyX4 k) := by decide +kernel
abbrev cX4_init : ByteArray := prog_6_method_1_code
def yX4_init : MethodName := ⟨RX4, "<init>", "()V"⟩
def RX5 : String := "TwoLives"
def TX5 : u_T := fun k => match k with
  | 0 => ("TwoLives", "ratings", "[I", true)
  | 1 => ("TwoLives", "turn", "[I", true)
  | 2 => ("TwoLives", "live", "LTwoLives$Bracket;", true)
  | 3 => ("TwoLives", "trial", "LTwoLives$Bracket;", true)
  | 4 => ("TwoLives", "history", "LTwoLives$History;", true)
  | 5 => ("TwoLives", "pad", "LTwoLives$Pad;", true)
  | 6 => ("TwoLives", "firstSlot", "LTwoLives$Slot;", true)
  | _ => ("TwoLives", "secondSlot", "LTwoLives$Slot;", true)
def tyX5 : Nat → FieldType := fun k => match k with
  | 0 => .array .int
  | 1 => .array .int
  | 2 => .object "TwoLives$Bracket"
  | 3 => .object "TwoLives$Bracket"
  | 4 => .object "TwoLives$History"
  | 5 => .object "TwoLives$Pad"
  | 6 => .object "TwoLives$Slot"
  | _ => .object "TwoLives$Slot"
abbrev wsX50 : List Cond := u_ws RX5 TX5 8
theorem nmX5 : ∀ a, a < 8 → ∀ b, b < 8 → a ≠ b → (TX5 a).2.1 ≠ (TX5 b).2.1 := by decide +kernel
theorem tyX5_ok : ∀ k, k < 8 → parseFieldDescriptor (TX5 k).2.2.1 = some (tyX5 k) := by decide +kernel
abbrev cX5_init : ByteArray := prog_1_method_1_code
def yX5_init : MethodName := ⟨RX5, "<init>", "()V"⟩
abbrev cX5_setUp : ByteArray := prog_1_method_2_code
def yX5_setUp : MethodName := ⟨RX5, "setUp", "(II)I"⟩
abbrev cX5_result : ByteArray := prog_1_method_4_code
def yX5_result : MethodName := ⟨RX5, "result", "(II)I"⟩
abbrev cX5_withdraw : ByteArray := prog_1_method_5_code
def yX5_withdraw : MethodName := ⟨RX5, "withdraw", "(I)I"⟩
abbrev cX5_match : ByteArray := prog_1_method_6_code
def yX5_match : MethodName := ⟨RX5, "match", "(II)I"⟩
abbrev cX5_player : ByteArray := prog_1_method_7_code
def yX5_player : MethodName := ⟨RX5, "player", "(II)I"⟩
abbrev cX5_open : ByteArray := prog_1_method_8_code
def yX5_open : MethodName := ⟨RX5, "open", "(I)I"⟩
abbrev cX5_count : ByteArray := prog_1_method_9_code
def yX5_count : MethodName := ⟨RX5, "count", "(I)I"⟩
abbrev cX5_forecast : ByteArray := prog_1_method_10_code
def yX5_forecast : MethodName := ⟨RX5, "forecast", "()I"⟩
abbrev cX5_undo : ByteArray := prog_1_method_18_code
def yX5_undo : MethodName := ⟨RX5, "undo", "()I"⟩
abbrev cX5_begin : ByteArray := prog_1_method_21_code
def yX5_begin : MethodName := ⟨RX5, "begin", "(II)V"⟩
abbrev cX5_perform : ByteArray := prog_1_method_22_code
def yX5_perform : MethodName := ⟨RX5, "perform", "(I)I"⟩
abbrev cX5_enter : ByteArray := prog_1_method_23_code
def yX5_enter : MethodName := ⟨RX5, "enter", "(I)V"⟩
abbrev cX5_replay : ByteArray := prog_1_method_24_code
def yX5_replay : MethodName := ⟨RX5, "replay", "()V"⟩
abbrev cX5_whereNext : ByteArray := prog_1_method_25_code
def yX5_whereNext : MethodName := ⟨RX5, "whereNext", "(I)I"⟩
abbrev cX5_playableMatches : ByteArray := prog_1_method_26_code
def yX5_playableMatches : MethodName := ⟨RX5, "playableMatches", "()I"⟩
abbrev cX5_placedPlayers : ByteArray := prog_1_method_27_code
def yX5_placedPlayers : MethodName := ⟨RX5, "placedPlayers", "()I"⟩
abbrev cX5_resultsToCome : ByteArray := prog_1_method_28_code
def yX5_resultsToCome : MethodName := ⟨RX5, "resultsToCome", "(Z)I"⟩
abbrev cX5_playTrial : ByteArray := prog_1_method_29_code
def yX5_playTrial : MethodName := ⟨RX5, "playTrial", "(I)I"⟩
abbrev cX5_favouredSide : ByteArray := prog_1_method_31_code
def yX5_favouredSide : MethodName := ⟨RX5, "favouredSide", "(I)I"⟩
abbrev cX5_rateAsAtFirst : ByteArray := prog_1_method_32_code
def yX5_rateAsAtFirst : MethodName := ⟨RX5, "rateAsAtFirst", "()V"⟩
abbrev cX5_ratingOf : ByteArray := prog_1_method_33_code
def yX5_ratingOf : MethodName := ⟨RX5, "ratingOf", "(I)I"⟩
abbrev cX5_setRating : ByteArray := prog_1_method_34_code
def yX5_setRating : MethodName := ⟨RX5, "setRating", "(II)V"⟩
abbrev cX5_at : ByteArray := prog_1_method_35_code
def yX5_at : MethodName := ⟨RX5, "at", "([II)I"⟩
abbrev cX5_store : ByteArray := prog_1_method_36_code
def yX5_store : MethodName := ⟨RX5, "store", "([III)V"⟩
abbrev cX5_copy : ByteArray := prog_1_method_37_code
def yX5_copy : MethodName := ⟨RX5, "copy", "([I[I)V"⟩
abbrev cX5_seat : ByteArray := prog_1_method_38_code
def yX5_seat : MethodName := ⟨RX5, "seat", "(II)I"⟩
abbrev cX5_matchOfSeat : ByteArray := prog_1_method_39_code
def yX5_matchOfSeat : MethodName := ⟨RX5, "matchOfSeat", "(I)I"⟩
abbrev cX5_sideOfSeat : ByteArray := prog_1_method_40_code
def yX5_sideOfSeat : MethodName := ⟨RX5, "sideOfSeat", "(I)I"⟩
def RL : String := "TwoLivesLaw"
abbrev cL_cell : ByteArray := method_2_code
def yL_cell : MethodName := ⟨RL, "cell", "([III)I"⟩
abbrev cL_numberOf : ByteArray := method_3_code
def yL_numberOf : MethodName := ⟨RL, "numberOf", "(LTwoLives;III)I"⟩
abbrev cL_isPlanned : ByteArray := method_4_code
def yL_isPlanned : MethodName := ⟨RL, "isPlanned", "(LTwoLives;II)Z"⟩
abbrev cL_isSeeded : ByteArray := method_5_code
def yL_isSeeded : MethodName := ⟨RL, "isSeeded", "(LTwoLives;I)Z"⟩
abbrev cL_fits : ByteArray := method_6_code
def yL_fits : MethodName := ⟨RL, "fits", "(LTwoLives;I)Z"⟩
abbrev cL_arePlaced : ByteArray := method_7_code
def yL_arePlaced : MethodName := ⟨RL, "arePlaced", "(LTwoLives;I)Z"⟩
abbrev cL_law : ByteArray := code
def yL_law : MethodName := ⟨RL, "law", "([I)Z"⟩
theorem dX0_init_0 : decode cX0_init 0 = .ok (.aload_n 0, 1) := by decide +kernel
theorem dX0_init_1 : decode cX0_init 1 = .ok (.invokespecial 3, 3) := by decide +kernel
theorem dX0_init_4 : decode cX0_init 4 = .ok (.aload_n 0, 1) := by decide +kernel
theorem dX0_init_5 : decode cX0_init 5 = .ok (.new 9, 3) := by decide +kernel
theorem dX0_init_8 : decode cX0_init 8 = .ok (.dup, 1) := by decide +kernel
theorem dX0_init_9 : decode cX0_init 9 = .ok (.invokespecial 11, 3) := by decide +kernel
theorem dX0_init_12 : decode cX0_init 12 = .ok (.putfield 12, 3) := by decide +kernel
theorem dX0_init_15 : decode cX0_init 15 = .ok (.aload_n 0, 1) := by decide +kernel
theorem dX0_init_16 : decode cX0_init 16 = .ok (.bipush 31, 2) := by decide +kernel
theorem dX0_init_18 : decode cX0_init 18 = .ok (.newarray .int, 2) := by decide +kernel
theorem dX0_init_20 : decode cX0_init 20 = .ok (.putfield 18, 3) := by decide +kernel
theorem dX0_init_23 : decode cX0_init 23 = .ok (.aload_n 0, 1) := by decide +kernel
theorem dX0_init_24 : decode cX0_init 24 = .ok (.bipush 16, 2) := by decide +kernel
theorem dX0_init_26 : decode cX0_init 26 = .ok (.newarray .int, 2) := by decide +kernel
theorem dX0_init_28 : decode cX0_init 28 = .ok (.putfield 22, 3) := by decide +kernel
theorem dX0_init_31 : decode cX0_init 31 = .ok (.aload_n 0, 1) := by decide +kernel
theorem dX0_init_32 : decode cX0_init 32 = .ok (.bipush 62, 2) := by decide +kernel
theorem dX0_init_34 : decode cX0_init 34 = .ok (.newarray .int, 2) := by decide +kernel
theorem dX0_init_36 : decode cX0_init 36 = .ok (.putfield 25, 3) := by decide +kernel
theorem dX0_init_39 : decode cX0_init 39 = .ok (.aload_n 0, 1) := by decide +kernel
theorem dX0_init_40 : decode cX0_init 40 = .ok (.bipush 31, 2) := by decide +kernel
theorem dX0_init_42 : decode cX0_init 42 = .ok (.newarray .int, 2) := by decide +kernel
theorem dX0_init_44 : decode cX0_init 44 = .ok (.putfield 28, 3) := by decide +kernel
theorem dX0_init_47 : decode cX0_init 47 = .ok (.aload_n 0, 1) := by decide +kernel
theorem dX0_init_48 : decode cX0_init 48 = .ok (.bipush 31, 2) := by decide +kernel
theorem dX0_init_50 : decode cX0_init 50 = .ok (.newarray .int, 2) := by decide +kernel
theorem dX0_init_52 : decode cX0_init 52 = .ok (.putfield 31, 3) := by decide +kernel
theorem dX0_init_55 : decode cX0_init 55 = .ok (.return_, 1) := by decide +kernel
theorem dX1_init_0 : decode cX1_init 0 = .ok (.aload_n 0, 1) := by decide +kernel
theorem dX1_init_1 : decode cX1_init 1 = .ok (.invokespecial 3, 3) := by decide +kernel
theorem dX1_init_4 : decode cX1_init 4 = .ok (.aload_n 0, 1) := by decide +kernel
theorem dX1_init_5 : decode cX1_init 5 = .ok (.bipush 47, 2) := by decide +kernel
theorem dX1_init_7 : decode cX1_init 7 = .ok (.newarray .int, 2) := by decide +kernel
theorem dX1_init_9 : decode cX1_init 9 = .ok (.putfield 9, 3) := by decide +kernel
theorem dX1_init_12 : decode cX1_init 12 = .ok (.return_, 1) := by decide +kernel
theorem dX2_init_0 : decode cX2_init 0 = .ok (.aload_n 0, 1) := by decide +kernel
theorem dX2_init_1 : decode cX2_init 1 = .ok (.invokespecial 3, 3) := by decide +kernel
theorem dX2_init_4 : decode cX2_init 4 = .ok (.aload_n 0, 1) := by decide +kernel
theorem dX2_init_5 : decode cX2_init 5 = .ok (.bipush 60, 2) := by decide +kernel
theorem dX2_init_7 : decode cX2_init 7 = .ok (.newarray .char, 2) := by decide +kernel
theorem dX2_init_9 : decode cX2_init 9 = .ok (.putfield 9, 3) := by decide +kernel
theorem dX2_init_12 : decode cX2_init 12 = .ok (.return_, 1) := by decide +kernel
theorem dX3_init_0 : decode cX3_init 0 = .ok (.aload_n 0, 1) := by decide +kernel
theorem dX3_init_1 : decode cX3_init 1 = .ok (.invokespecial 3, 3) := by decide +kernel
theorem dX3_init_4 : decode cX3_init 4 = .ok (.aload_n 0, 1) := by decide +kernel
theorem dX3_init_5 : decode cX3_init 5 = .ok (.bipush 31, 2) := by decide +kernel
theorem dX3_init_7 : decode cX3_init 7 = .ok (.newarray .int, 2) := by decide +kernel
theorem dX3_init_9 : decode cX3_init 9 = .ok (.putfield 9, 3) := by decide +kernel
theorem dX3_init_12 : decode cX3_init 12 = .ok (.aload_n 0, 1) := by decide +kernel
theorem dX3_init_13 : decode cX3_init 13 = .ok (.bipush 31, 2) := by decide +kernel
theorem dX3_init_15 : decode cX3_init 15 = .ok (.newarray .int, 2) := by decide +kernel
theorem dX3_init_17 : decode cX3_init 17 = .ok (.putfield 15, 3) := by decide +kernel
theorem dX3_init_20 : decode cX3_init 20 = .ok (.aload_n 0, 1) := by decide +kernel
theorem dX3_init_21 : decode cX3_init 21 = .ok (.bipush 31, 2) := by decide +kernel
theorem dX3_init_23 : decode cX3_init 23 = .ok (.newarray .int, 2) := by decide +kernel
theorem dX3_init_25 : decode cX3_init 25 = .ok (.putfield 18, 3) := by decide +kernel
theorem dX3_init_28 : decode cX3_init 28 = .ok (.aload_n 0, 1) := by decide +kernel
theorem dX3_init_29 : decode cX3_init 29 = .ok (.bipush 31, 2) := by decide +kernel
theorem dX3_init_31 : decode cX3_init 31 = .ok (.newarray .int, 2) := by decide +kernel
theorem dX3_init_33 : decode cX3_init 33 = .ok (.putfield 21, 3) := by decide +kernel
theorem dX3_init_36 : decode cX3_init 36 = .ok (.aload_n 0, 1) := by decide +kernel
theorem dX3_init_37 : decode cX3_init 37 = .ok (.bipush 31, 2) := by decide +kernel
theorem dX3_init_39 : decode cX3_init 39 = .ok (.newarray .int, 2) := by decide +kernel
theorem dX3_init_41 : decode cX3_init 41 = .ok (.putfield 24, 3) := by decide +kernel
theorem dX3_init_44 : decode cX3_init 44 = .ok (.aload_n 0, 1) := by decide +kernel
theorem dX3_init_45 : decode cX3_init 45 = .ok (.bipush 31, 2) := by decide +kernel
theorem dX3_init_47 : decode cX3_init 47 = .ok (.newarray .int, 2) := by decide +kernel
theorem dX3_init_49 : decode cX3_init 49 = .ok (.putfield 27, 3) := by decide +kernel
theorem dX3_init_52 : decode cX3_init 52 = .ok (.aload_n 0, 1) := by decide +kernel
theorem dX3_init_53 : decode cX3_init 53 = .ok (.bipush 31, 2) := by decide +kernel
theorem dX3_init_55 : decode cX3_init 55 = .ok (.newarray .int, 2) := by decide +kernel
theorem dX3_init_57 : decode cX3_init 57 = .ok (.putfield 30, 3) := by decide +kernel
theorem dX3_init_60 : decode cX3_init 60 = .ok (.aload_n 0, 1) := by decide +kernel
theorem dX3_init_61 : decode cX3_init 61 = .ok (.bipush 16, 2) := by decide +kernel
theorem dX3_init_63 : decode cX3_init 63 = .ok (.newarray .int, 2) := by decide +kernel
theorem dX3_init_65 : decode cX3_init 65 = .ok (.putfield 33, 3) := by decide +kernel
theorem dX3_init_68 : decode cX3_init 68 = .ok (.aload_n 0, 1) := by decide +kernel
theorem dX3_init_69 : decode cX3_init 69 = .ok (.bipush 62, 2) := by decide +kernel
theorem dX3_init_71 : decode cX3_init 71 = .ok (.newarray .int, 2) := by decide +kernel
theorem dX3_init_73 : decode cX3_init 73 = .ok (.putfield 36, 3) := by decide +kernel
theorem dX3_init_76 : decode cX3_init 76 = .ok (.return_, 1) := by decide +kernel
theorem dX4_init_0 : decode cX4_init 0 = .ok (.aload_n 0, 1) := by decide +kernel
theorem dX4_init_1 : decode cX4_init 1 = .ok (.invokespecial 3, 3) := by decide +kernel
theorem dX4_init_4 : decode cX4_init 4 = .ok (.aload_n 0, 1) := by decide +kernel
theorem dX4_init_5 : decode cX4_init 5 = .ok (.bipush 16, 2) := by decide +kernel
theorem dX4_init_7 : decode cX4_init 7 = .ok (.newarray .int, 2) := by decide +kernel
theorem dX4_init_9 : decode cX4_init 9 = .ok (.putfield 9, 3) := by decide +kernel
theorem dX4_init_12 : decode cX4_init 12 = .ok (.aload_n 0, 1) := by decide +kernel
theorem dX4_init_13 : decode cX4_init 13 = .ok (.new 15, 3) := by decide +kernel
theorem dX4_init_16 : decode cX4_init 16 = .ok (.dup, 1) := by decide +kernel
theorem dX4_init_17 : decode cX4_init 17 = .ok (.invokespecial 17, 3) := by decide +kernel
theorem dX4_init_20 : decode cX4_init 20 = .ok (.putfield 18, 3) := by decide +kernel
theorem dX4_init_23 : decode cX4_init 23 = .ok (.return_, 1) := by decide +kernel
theorem dX5_init_0 : decode cX5_init 0 = .ok (.aload_n 0, 1) := by decide +kernel
theorem dX5_init_1 : decode cX5_init 1 = .ok (.invokespecial 3, 3) := by decide +kernel
theorem dX5_init_4 : decode cX5_init 4 = .ok (.aload_n 0, 1) := by decide +kernel
theorem dX5_init_5 : decode cX5_init 5 = .ok (.bipush 16, 2) := by decide +kernel
theorem dX5_init_7 : decode cX5_init 7 = .ok (.newarray .int, 2) := by decide +kernel
theorem dX5_init_9 : decode cX5_init 9 = .ok (.putfield 9, 3) := by decide +kernel
theorem dX5_init_12 : decode cX5_init 12 = .ok (.aload_n 0, 1) := by decide +kernel
theorem dX5_init_13 : decode cX5_init 13 = .ok (.bipush 8, 2) := by decide +kernel
theorem dX5_init_15 : decode cX5_init 15 = .ok (.newarray .int, 2) := by decide +kernel
theorem dX5_init_17 : decode cX5_init 17 = .ok (.putfield 13, 3) := by decide +kernel
theorem dX5_init_20 : decode cX5_init 20 = .ok (.aload_n 0, 1) := by decide +kernel
theorem dX5_init_21 : decode cX5_init 21 = .ok (.new 16, 3) := by decide +kernel
theorem dX5_init_24 : decode cX5_init 24 = .ok (.dup, 1) := by decide +kernel
theorem dX5_init_25 : decode cX5_init 25 = .ok (.invokespecial 18, 3) := by decide +kernel
theorem dX5_init_28 : decode cX5_init 28 = .ok (.putfield 19, 3) := by decide +kernel
theorem dX5_init_31 : decode cX5_init 31 = .ok (.aload_n 0, 1) := by decide +kernel
theorem dX5_init_32 : decode cX5_init 32 = .ok (.new 16, 3) := by decide +kernel
theorem dX5_init_35 : decode cX5_init 35 = .ok (.dup, 1) := by decide +kernel
theorem dX5_init_36 : decode cX5_init 36 = .ok (.invokespecial 18, 3) := by decide +kernel
theorem dX5_init_39 : decode cX5_init 39 = .ok (.putfield 23, 3) := by decide +kernel
theorem dX5_init_42 : decode cX5_init 42 = .ok (.aload_n 0, 1) := by decide +kernel
theorem dX5_init_43 : decode cX5_init 43 = .ok (.new 26, 3) := by decide +kernel
theorem dX5_init_46 : decode cX5_init 46 = .ok (.dup, 1) := by decide +kernel
theorem dX5_init_47 : decode cX5_init 47 = .ok (.invokespecial 28, 3) := by decide +kernel
theorem dX5_init_50 : decode cX5_init 50 = .ok (.putfield 29, 3) := by decide +kernel
theorem dX5_init_53 : decode cX5_init 53 = .ok (.aload_n 0, 1) := by decide +kernel
theorem dX5_init_54 : decode cX5_init 54 = .ok (.new 33, 3) := by decide +kernel
theorem dX5_init_57 : decode cX5_init 57 = .ok (.dup, 1) := by decide +kernel
theorem dX5_init_58 : decode cX5_init 58 = .ok (.invokespecial 35, 3) := by decide +kernel
theorem dX5_init_61 : decode cX5_init 61 = .ok (.putfield 36, 3) := by decide +kernel
theorem dX5_init_64 : decode cX5_init 64 = .ok (.aload_n 0, 1) := by decide +kernel
theorem dX5_init_65 : decode cX5_init 65 = .ok (.new 40, 3) := by decide +kernel
theorem dX5_init_68 : decode cX5_init 68 = .ok (.dup, 1) := by decide +kernel
theorem dX5_init_69 : decode cX5_init 69 = .ok (.invokespecial 42, 3) := by decide +kernel
theorem dX5_init_72 : decode cX5_init 72 = .ok (.putfield 43, 3) := by decide +kernel
theorem dX5_init_75 : decode cX5_init 75 = .ok (.aload_n 0, 1) := by decide +kernel
theorem dX5_init_76 : decode cX5_init 76 = .ok (.new 40, 3) := by decide +kernel
theorem dX5_init_79 : decode cX5_init 79 = .ok (.dup, 1) := by decide +kernel
theorem dX5_init_80 : decode cX5_init 80 = .ok (.invokespecial 42, 3) := by decide +kernel
theorem dX5_init_83 : decode cX5_init 83 = .ok (.putfield 47, 3) := by decide +kernel
theorem dX5_init_86 : decode cX5_init 86 = .ok (.aload_n 0, 1) := by decide +kernel
theorem dX5_init_87 : decode cX5_init 87 = .ok (.bipush 8, 2) := by decide +kernel
theorem dX5_init_89 : decode cX5_init 89 = .ok (.iconst 0, 1) := by decide +kernel
theorem dX5_init_90 : decode cX5_init 90 = .ok (.invokevirtual 50, 3) := by decide +kernel
theorem dX5_init_93 : decode cX5_init 93 = .ok (.aload_n 0, 1) := by decide +kernel
theorem dX5_init_94 : decode cX5_init 94 = .ok (.invokevirtual 54, 3) := by decide +kernel
theorem dX5_init_97 : decode cX5_init 97 = .ok (.return_, 1) := by decide +kernel
theorem dL_cell_0 : decode cL_cell 0 = .ok (.aload_n 0, 1) := by decide +kernel
theorem dL_cell_1 : decode cL_cell 1 = .ok (.arraylength, 1) := by decide +kernel
theorem dL_cell_2 : decode cL_cell 2 = .ok (.ifCond .ne 12, 3) := by decide +kernel
theorem dL_cell_5 : decode cL_cell 5 = .ok (.iload_n 1, 1) := by decide +kernel
theorem dL_cell_6 : decode cL_cell 6 = .ok (.bipush 37, 2) := by decide +kernel
theorem dL_cell_8 : decode cL_cell 8 = .ok (.imul, 1) := by decide +kernel
theorem dL_cell_9 : decode cL_cell 9 = .ok (.iconst 5, 1) := by decide +kernel
theorem dL_cell_10 : decode cL_cell 10 = .ok (.iadd, 1) := by decide +kernel
theorem dL_cell_11 : decode cL_cell 11 = .ok (.goto 17, 3) := by decide +kernel
theorem dL_cell_14 : decode cL_cell 14 = .ok (.aload_n 0, 1) := by decide +kernel
theorem dL_cell_15 : decode cL_cell 15 = .ok (.iload_n 1, 1) := by decide +kernel
theorem dL_cell_16 : decode cL_cell 16 = .ok (.aload_n 0, 1) := by decide +kernel
theorem dL_cell_17 : decode cL_cell 17 = .ok (.arraylength, 1) := by decide +kernel
theorem dL_cell_18 : decode cL_cell 18 = .ok (.irem, 1) := by decide +kernel
theorem dL_cell_19 : decode cL_cell 19 = .ok (.iaload, 1) := by decide +kernel
theorem dL_cell_20 : decode cL_cell 20 = .ok (.iload_n 1, 1) := by decide +kernel
theorem dL_cell_21 : decode cL_cell 21 = .ok (.bipush 7, 2) := by decide +kernel
theorem dL_cell_23 : decode cL_cell 23 = .ok (.irem, 1) := by decide +kernel
theorem dL_cell_24 : decode cL_cell 24 = .ok (.ishr, 1) := by decide +kernel
theorem dL_cell_25 : decode cL_cell 25 = .ok (.ldc 7, 2) := by decide +kernel
theorem dL_cell_27 : decode cL_cell 27 = .ok (.iand, 1) := by decide +kernel
theorem dL_cell_28 : decode cL_cell 28 = .ok (.iload_n 2, 1) := by decide +kernel
theorem dL_cell_29 : decode cL_cell 29 = .ok (.irem, 1) := by decide +kernel
theorem dL_cell_30 : decode cL_cell 30 = .ok (.ireturn, 1) := by decide +kernel
theorem dL_fits_0 : decode cL_fits 0 = .ok (.bipush 17, 2) := by decide +kernel
theorem dL_fits_2 : decode cL_fits 2 = .ok (.newarray .int, 2) := by decide +kernel
theorem dL_fits_4 : decode cL_fits 4 = .ok (.astore_n 2, 1) := by decide +kernel
theorem dL_fits_5 : decode cL_fits 5 = .ok (.bipush 17, 2) := by decide +kernel
theorem dL_fits_7 : decode cL_fits 7 = .ok (.newarray .int, 2) := by decide +kernel
theorem dL_fits_9 : decode cL_fits 9 = .ok (.astore_n 3, 1) := by decide +kernel
theorem dL_fits_10 : decode cL_fits 10 = .ok (.bipush 17, 2) := by decide +kernel
theorem dL_fits_12 : decode cL_fits 12 = .ok (.newarray .int, 2) := by decide +kernel
theorem dL_fits_14 : decode cL_fits 14 = .ok (.astore 4, 2) := by decide +kernel
theorem dL_fits_16 : decode cL_fits 16 = .ok (.iconst 4, 1) := by decide +kernel
theorem dL_fits_17 : decode cL_fits 17 = .ok (.newarray .int, 2) := by decide +kernel
theorem dL_fits_19 : decode cL_fits 19 = .ok (.astore 5, 2) := by decide +kernel
theorem dL_fits_21 : decode cL_fits 21 = .ok (.iconst 0, 1) := by decide +kernel
theorem dL_fits_22 : decode cL_fits 22 = .ok (.istore 6, 2) := by decide +kernel
theorem dL_fits_24 : decode cL_fits 24 = .ok (.iload 6, 2) := by decide +kernel
theorem dL_fits_26 : decode cL_fits 26 = .ok (.aload_n 0, 1) := by decide +kernel
theorem dL_fits_27 : decode cL_fits 27 = .ok (.iconst 2, 1) := by decide +kernel
theorem dL_fits_28 : decode cL_fits 28 = .ok (.invokevirtual 8, 3) := by decide +kernel
theorem dL_fits_31 : decode cL_fits 31 = .ok (.if_icmp .ge 408, 3) := by decide +kernel
theorem dL_fits_34 : decode cL_fits 34 = .ok (.aload_n 0, 1) := by decide +kernel
theorem dL_fits_35 : decode cL_fits 35 = .ok (.iload 6, 2) := by decide +kernel
theorem dL_fits_37 : decode cL_fits 37 = .ok (.iconst 0, 1) := by decide +kernel
theorem dL_fits_38 : decode cL_fits 38 = .ok (.invokevirtual 14, 3) := by decide +kernel
theorem dL_fits_41 : decode cL_fits 41 = .ok (.istore 7, 2) := by decide +kernel
theorem dL_fits_43 : decode cL_fits 43 = .ok (.aload_n 0, 1) := by decide +kernel
theorem dL_fits_44 : decode cL_fits 44 = .ok (.iload 6, 2) := by decide +kernel
theorem dL_fits_46 : decode cL_fits 46 = .ok (.iconst 1, 1) := by decide +kernel
theorem dL_fits_47 : decode cL_fits 47 = .ok (.invokevirtual 14, 3) := by decide +kernel
theorem dL_fits_50 : decode cL_fits 50 = .ok (.istore 8, 2) := by decide +kernel
theorem dL_fits_52 : decode cL_fits 52 = .ok (.aload_n 0, 1) := by decide +kernel
theorem dL_fits_53 : decode cL_fits 53 = .ok (.iload 6, 2) := by decide +kernel
theorem dL_fits_55 : decode cL_fits 55 = .ok (.iconst 4, 1) := by decide +kernel
theorem dL_fits_56 : decode cL_fits 56 = .ok (.invokevirtual 14, 3) := by decide +kernel
theorem dL_fits_59 : decode cL_fits 59 = .ok (.istore 9, 2) := by decide +kernel
theorem dL_fits_61 : decode cL_fits 61 = .ok (.aload_n 0, 1) := by decide +kernel
theorem dL_fits_62 : decode cL_fits 62 = .ok (.iload 6, 2) := by decide +kernel
theorem dL_fits_64 : decode cL_fits 64 = .ok (.iconst 2, 1) := by decide +kernel
theorem dL_fits_65 : decode cL_fits 65 = .ok (.invokevirtual 14, 3) := by decide +kernel
theorem dL_fits_68 : decode cL_fits 68 = .ok (.istore 10, 2) := by decide +kernel
theorem dL_fits_70 : decode cL_fits 70 = .ok (.aload_n 0, 1) := by decide +kernel
theorem dL_fits_71 : decode cL_fits 71 = .ok (.iload 6, 2) := by decide +kernel
theorem dL_fits_73 : decode cL_fits 73 = .ok (.iconst 3, 1) := by decide +kernel
theorem dL_fits_74 : decode cL_fits 74 = .ok (.invokevirtual 14, 3) := by decide +kernel
theorem dL_fits_77 : decode cL_fits 77 = .ok (.istore 11, 2) := by decide +kernel
theorem dL_fits_79 : decode cL_fits 79 = .ok (.aload 5, 2) := by decide +kernel
theorem dL_fits_81 : decode cL_fits 81 = .ok (.iload 9, 2) := by decide +kernel
theorem dL_fits_83 : decode cL_fits 83 = .ok (.dup2, 1) := by decide +kernel
theorem dL_fits_84 : decode cL_fits 84 = .ok (.iaload, 1) := by decide +kernel
theorem dL_fits_85 : decode cL_fits 85 = .ok (.iconst 1, 1) := by decide +kernel
theorem dL_fits_86 : decode cL_fits 86 = .ok (.iadd, 1) := by decide +kernel
theorem dL_fits_87 : decode cL_fits 87 = .ok (.iastore, 1) := by decide +kernel
theorem dL_fits_88 : decode cL_fits 88 = .ok (.iload 7, 2) := by decide +kernel
theorem dL_fits_90 : decode cL_fits 90 = .ok (.ifCond .lt 12, 3) := by decide +kernel
theorem dL_fits_93 : decode cL_fits 93 = .ok (.iload 8, 2) := by decide +kernel
theorem dL_fits_95 : decode cL_fits 95 = .ok (.ifCond .lt 7, 3) := by decide +kernel
theorem dL_fits_98 : decode cL_fits 98 = .ok (.iconst 1, 1) := by decide +kernel
theorem dL_fits_99 : decode cL_fits 99 = .ok (.goto 4, 3) := by decide +kernel
theorem dL_fits_102 : decode cL_fits 102 = .ok (.iconst 0, 1) := by decide +kernel
theorem dL_fits_103 : decode cL_fits 103 = .ok (.istore 12, 2) := by decide +kernel
theorem dL_fits_105 : decode cL_fits 105 = .ok (.iload 9, 2) := by decide +kernel
theorem dL_fits_107 : decode cL_fits 107 = .ok (.ifCond .le 7, 3) := by decide +kernel
theorem dL_fits_110 : decode cL_fits 110 = .ok (.iconst 1, 1) := by decide +kernel
theorem dL_fits_111 : decode cL_fits 111 = .ok (.goto 4, 3) := by decide +kernel
theorem dL_fits_114 : decode cL_fits 114 = .ok (.iconst 0, 1) := by decide +kernel
theorem dL_fits_115 : decode cL_fits 115 = .ok (.iload 10, 2) := by decide +kernel
theorem dL_fits_117 : decode cL_fits 117 = .ok (.ifCond .lt 7, 3) := by decide +kernel
theorem dL_fits_120 : decode cL_fits 120 = .ok (.iconst 1, 1) := by decide +kernel
theorem dL_fits_121 : decode cL_fits 121 = .ok (.goto 4, 3) := by decide +kernel
theorem dL_fits_124 : decode cL_fits 124 = .ok (.iconst 0, 1) := by decide +kernel
theorem dL_fits_125 : decode cL_fits 125 = .ok (.if_icmp .ne 107, 3) := by decide +kernel
theorem dL_fits_128 : decode cL_fits 128 = .ok (.iload 9, 2) := by decide +kernel
theorem dL_fits_130 : decode cL_fits 130 = .ok (.ifCond .le 7, 3) := by decide +kernel
theorem dL_fits_133 : decode cL_fits 133 = .ok (.iconst 1, 1) := by decide +kernel
theorem dL_fits_134 : decode cL_fits 134 = .ok (.goto 4, 3) := by decide +kernel
theorem dL_fits_137 : decode cL_fits 137 = .ok (.iconst 0, 1) := by decide +kernel
theorem dL_fits_138 : decode cL_fits 138 = .ok (.iload 11, 2) := by decide +kernel
theorem dL_fits_140 : decode cL_fits 140 = .ok (.ifCond .lt 7, 3) := by decide +kernel
theorem dL_fits_143 : decode cL_fits 143 = .ok (.iconst 1, 1) := by decide +kernel
theorem dL_fits_144 : decode cL_fits 144 = .ok (.goto 4, 3) := by decide +kernel
theorem dL_fits_147 : decode cL_fits 147 = .ok (.iconst 0, 1) := by decide +kernel
theorem dL_fits_148 : decode cL_fits 148 = .ok (.if_icmp .ne 84, 3) := by decide +kernel
theorem dL_fits_151 : decode cL_fits 151 = .ok (.iload 9, 2) := by decide +kernel
theorem dL_fits_153 : decode cL_fits 153 = .ok (.ifCond .le 31, 3) := by decide +kernel
theorem dL_fits_156 : decode cL_fits 156 = .ok (.iload 10, 2) := by decide +kernel
theorem dL_fits_158 : decode cL_fits 158 = .ok (.iload 7, 2) := by decide +kernel
theorem dL_fits_160 : decode cL_fits 160 = .ok (.if_icmp .ne 10, 3) := by decide +kernel
theorem dL_fits_163 : decode cL_fits 163 = .ok (.iload 11, 2) := by decide +kernel
theorem dL_fits_165 : decode cL_fits 165 = .ok (.iload 8, 2) := by decide +kernel
theorem dL_fits_167 : decode cL_fits 167 = .ok (.if_icmp .eq 17, 3) := by decide +kernel
theorem dL_fits_170 : decode cL_fits 170 = .ok (.iload 10, 2) := by decide +kernel
theorem dL_fits_172 : decode cL_fits 172 = .ok (.iload 8, 2) := by decide +kernel
theorem dL_fits_174 : decode cL_fits 174 = .ok (.if_icmp .ne 58, 3) := by decide +kernel
theorem dL_fits_177 : decode cL_fits 177 = .ok (.iload 11, 2) := by decide +kernel
theorem dL_fits_179 : decode cL_fits 179 = .ok (.iload 7, 2) := by decide +kernel
theorem dL_fits_181 : decode cL_fits 181 = .ok (.if_icmp .ne 51, 3) := by decide +kernel
theorem dL_fits_184 : decode cL_fits 184 = .ok (.iload 12, 2) := by decide +kernel
theorem dL_fits_186 : decode cL_fits 186 = .ok (.ifCond .eq 36, 3) := by decide +kernel
theorem dL_fits_189 : decode cL_fits 189 = .ok (.iload 7, 2) := by decide +kernel
theorem dL_fits_191 : decode cL_fits 191 = .ok (.bipush 16, 2) := by decide +kernel
theorem dL_fits_193 : decode cL_fits 193 = .ok (.if_icmp .eq 10, 3) := by decide +kernel
theorem dL_fits_196 : decode cL_fits 196 = .ok (.iload 8, 2) := by decide +kernel
theorem dL_fits_198 : decode cL_fits 198 = .ok (.bipush 16, 2) := by decide +kernel
theorem dL_fits_200 : decode cL_fits 200 = .ok (.if_icmp .ne 7, 3) := by decide +kernel
theorem dL_fits_203 : decode cL_fits 203 = .ok (.iconst 1, 1) := by decide +kernel
theorem dL_fits_204 : decode cL_fits 204 = .ok (.goto 4, 3) := by decide +kernel
theorem dL_fits_207 : decode cL_fits 207 = .ok (.iconst 0, 1) := by decide +kernel
theorem dL_fits_208 : decode cL_fits 208 = .ok (.iload 9, 2) := by decide +kernel
theorem dL_fits_210 : decode cL_fits 210 = .ok (.iconst 1, 1) := by decide +kernel
theorem dL_fits_211 : decode cL_fits 211 = .ok (.if_icmp .ne 7, 3) := by decide +kernel
theorem dL_fits_214 : decode cL_fits 214 = .ok (.iconst 1, 1) := by decide +kernel
theorem dL_fits_215 : decode cL_fits 215 = .ok (.goto 4, 3) := by decide +kernel
theorem dL_fits_218 : decode cL_fits 218 = .ok (.iconst 0, 1) := by decide +kernel
theorem dL_fits_219 : decode cL_fits 219 = .ok (.if_icmp .ne 13, 3) := by decide +kernel
theorem dL_fits_222 : decode cL_fits 222 = .ok (.iload 12, 2) := by decide +kernel
theorem dL_fits_224 : decode cL_fits 224 = .ok (.ifCond .ne 10, 3) := by decide +kernel
theorem dL_fits_227 : decode cL_fits 227 = .ok (.iload 9, 2) := by decide +kernel
theorem dL_fits_229 : decode cL_fits 229 = .ok (.ifCond .le 5, 3) := by decide +kernel
theorem dL_fits_232 : decode cL_fits 232 = .ok (.iconst 0, 1) := by decide +kernel
theorem dL_fits_233 : decode cL_fits 233 = .ok (.ireturn, 1) := by decide +kernel
theorem dL_fits_234 : decode cL_fits 234 = .ok (.iload 12, 2) := by decide +kernel
theorem dL_fits_236 : decode cL_fits 236 = .ok (.ifCond .eq 30, 3) := by decide +kernel
theorem dL_fits_239 : decode cL_fits 239 = .ok (.iload 9, 2) := by decide +kernel
theorem dL_fits_241 : decode cL_fits 241 = .ok (.ifCond .ne 25, 3) := by decide +kernel
theorem dL_fits_244 : decode cL_fits 244 = .ok (.aload_n 0, 1) := by decide +kernel
theorem dL_fits_245 : decode cL_fits 245 = .ok (.iload 7, 2) := by decide +kernel
theorem dL_fits_247 : decode cL_fits 247 = .ok (.iconst 3, 1) := by decide +kernel
theorem dL_fits_248 : decode cL_fits 248 = .ok (.invokevirtual 24, 3) := by decide +kernel
theorem dL_fits_251 : decode cL_fits 251 = .ok (.iconst 1, 1) := by decide +kernel
theorem dL_fits_252 : decode cL_fits 252 = .ok (.if_icmp .eq 30, 3) := by decide +kernel
theorem dL_fits_255 : decode cL_fits 255 = .ok (.aload_n 0, 1) := by decide +kernel
theorem dL_fits_256 : decode cL_fits 256 = .ok (.iload 8, 2) := by decide +kernel
theorem dL_fits_258 : decode cL_fits 258 = .ok (.iconst 3, 1) := by decide +kernel
theorem dL_fits_259 : decode cL_fits 259 = .ok (.invokevirtual 24, 3) := by decide +kernel
theorem dL_fits_262 : decode cL_fits 262 = .ok (.iconst 1, 1) := by decide +kernel
theorem dL_fits_263 : decode cL_fits 263 = .ok (.if_icmp .eq 19, 3) := by decide +kernel
theorem dL_fits_266 : decode cL_fits 266 = .ok (.iload 9, 2) := by decide +kernel
theorem dL_fits_268 : decode cL_fits 268 = .ok (.iconst 2, 1) := by decide +kernel
theorem dL_fits_269 : decode cL_fits 269 = .ok (.if_icmp .ne 15, 3) := by decide +kernel
theorem dL_fits_272 : decode cL_fits 272 = .ok (.aload_n 0, 1) := by decide +kernel
theorem dL_fits_273 : decode cL_fits 273 = .ok (.iload 11, 2) := by decide +kernel
theorem dL_fits_275 : decode cL_fits 275 = .ok (.iconst 3, 1) := by decide +kernel
theorem dL_fits_276 : decode cL_fits 276 = .ok (.invokevirtual 24, 3) := by decide +kernel
theorem dL_fits_279 : decode cL_fits 279 = .ok (.ifCond .ne 5, 3) := by decide +kernel
theorem dL_fits_282 : decode cL_fits 282 = .ok (.iconst 0, 1) := by decide +kernel
theorem dL_fits_283 : decode cL_fits 283 = .ok (.ireturn, 1) := by decide +kernel
theorem dL_fits_284 : decode cL_fits 284 = .ok (.iload 9, 2) := by decide +kernel
theorem dL_fits_286 : decode cL_fits 286 = .ok (.ifCond .le 39, 3) := by decide +kernel
theorem dL_fits_289 : decode cL_fits 289 = .ok (.aload_n 0, 1) := by decide +kernel
theorem dL_fits_290 : decode cL_fits 290 = .ok (.iload 6, 2) := by decide +kernel
theorem dL_fits_292 : decode cL_fits 292 = .ok (.bipush 8, 2) := by decide +kernel
theorem dL_fits_294 : decode cL_fits 294 = .ok (.invokevirtual 14, 3) := by decide +kernel
theorem dL_fits_297 : decode cL_fits 297 = .ok (.ifCond .lt 28, 3) := by decide +kernel
theorem dL_fits_300 : decode cL_fits 300 = .ok (.aload_n 0, 1) := by decide +kernel
theorem dL_fits_301 : decode cL_fits 301 = .ok (.aload_n 0, 1) := by decide +kernel
theorem dL_fits_302 : decode cL_fits 302 = .ok (.iload 6, 2) := by decide +kernel
theorem dL_fits_304 : decode cL_fits 304 = .ok (.bipush 8, 2) := by decide +kernel
theorem dL_fits_306 : decode cL_fits 306 = .ok (.invokevirtual 14, 3) := by decide +kernel
theorem dL_fits_309 : decode cL_fits 309 = .ok (.aload_n 0, 1) := by decide +kernel
theorem dL_fits_310 : decode cL_fits 310 = .ok (.iload 6, 2) := by decide +kernel
theorem dL_fits_312 : decode cL_fits 312 = .ok (.bipush 10, 2) := by decide +kernel
theorem dL_fits_314 : decode cL_fits 314 = .ok (.invokevirtual 14, 3) := by decide +kernel
theorem dL_fits_317 : decode cL_fits 317 = .ok (.invokevirtual 14, 3) := by decide +kernel
theorem dL_fits_320 : decode cL_fits 320 = .ok (.iload 10, 2) := by decide +kernel
theorem dL_fits_322 : decode cL_fits 322 = .ok (.if_icmp .ne 44, 3) := by decide +kernel
theorem dL_fits_325 : decode cL_fits 325 = .ok (.iload 9, 2) := by decide +kernel
theorem dL_fits_327 : decode cL_fits 327 = .ok (.ifCond .le 41, 3) := by decide +kernel
theorem dL_fits_330 : decode cL_fits 330 = .ok (.aload_n 0, 1) := by decide +kernel
theorem dL_fits_331 : decode cL_fits 331 = .ok (.iload 6, 2) := by decide +kernel
theorem dL_fits_333 : decode cL_fits 333 = .ok (.bipush 9, 2) := by decide +kernel
theorem dL_fits_335 : decode cL_fits 335 = .ok (.invokevirtual 14, 3) := by decide +kernel
theorem dL_fits_338 : decode cL_fits 338 = .ok (.ifCond .lt 30, 3) := by decide +kernel
theorem dL_fits_341 : decode cL_fits 341 = .ok (.aload_n 0, 1) := by decide +kernel
theorem dL_fits_342 : decode cL_fits 342 = .ok (.aload_n 0, 1) := by decide +kernel
theorem dL_fits_343 : decode cL_fits 343 = .ok (.iload 6, 2) := by decide +kernel
theorem dL_fits_345 : decode cL_fits 345 = .ok (.bipush 9, 2) := by decide +kernel
theorem dL_fits_347 : decode cL_fits 347 = .ok (.invokevirtual 14, 3) := by decide +kernel
theorem dL_fits_350 : decode cL_fits 350 = .ok (.aload_n 0, 1) := by decide +kernel
theorem dL_fits_351 : decode cL_fits 351 = .ok (.iload 6, 2) := by decide +kernel
theorem dL_fits_353 : decode cL_fits 353 = .ok (.bipush 11, 2) := by decide +kernel
theorem dL_fits_355 : decode cL_fits 355 = .ok (.invokevirtual 14, 3) := by decide +kernel
theorem dL_fits_358 : decode cL_fits 358 = .ok (.invokevirtual 14, 3) := by decide +kernel
theorem dL_fits_361 : decode cL_fits 361 = .ok (.iload 11, 2) := by decide +kernel
theorem dL_fits_363 : decode cL_fits 363 = .ok (.if_icmp .eq 5, 3) := by decide +kernel
theorem dL_fits_366 : decode cL_fits 366 = .ok (.iconst 0, 1) := by decide +kernel
theorem dL_fits_367 : decode cL_fits 367 = .ok (.ireturn, 1) := by decide +kernel
theorem dL_fits_368 : decode cL_fits 368 = .ok (.iload 9, 2) := by decide +kernel
theorem dL_fits_370 : decode cL_fits 370 = .ok (.iconst 1, 1) := by decide +kernel
theorem dL_fits_371 : decode cL_fits 371 = .ok (.if_icmp .le 19, 3) := by decide +kernel
theorem dL_fits_374 : decode cL_fits 374 = .ok (.aload_n 2, 1) := by decide +kernel
theorem dL_fits_375 : decode cL_fits 375 = .ok (.iload 10, 2) := by decide +kernel
theorem dL_fits_377 : decode cL_fits 377 = .ok (.dup2, 1) := by decide +kernel
theorem dL_fits_378 : decode cL_fits 378 = .ok (.iaload, 1) := by decide +kernel
theorem dL_fits_379 : decode cL_fits 379 = .ok (.iconst 1, 1) := by decide +kernel
theorem dL_fits_380 : decode cL_fits 380 = .ok (.iadd, 1) := by decide +kernel
theorem dL_fits_381 : decode cL_fits 381 = .ok (.iastore, 1) := by decide +kernel
theorem dL_fits_382 : decode cL_fits 382 = .ok (.aload_n 3, 1) := by decide +kernel
theorem dL_fits_383 : decode cL_fits 383 = .ok (.iload 11, 2) := by decide +kernel
theorem dL_fits_385 : decode cL_fits 385 = .ok (.dup2, 1) := by decide +kernel
theorem dL_fits_386 : decode cL_fits 386 = .ok (.iaload, 1) := by decide +kernel
theorem dL_fits_387 : decode cL_fits 387 = .ok (.iconst 1, 1) := by decide +kernel
theorem dL_fits_388 : decode cL_fits 388 = .ok (.iadd, 1) := by decide +kernel
theorem dL_fits_389 : decode cL_fits 389 = .ok (.iastore, 1) := by decide +kernel
theorem dL_fits_390 : decode cL_fits 390 = .ok (.iload 9, 2) := by decide +kernel
theorem dL_fits_392 : decode cL_fits 392 = .ok (.ifCond .ne 41, 3) := by decide +kernel
theorem dL_fits_395 : decode cL_fits 395 = .ok (.aload 4, 2) := by decide +kernel
theorem dL_fits_397 : decode cL_fits 397 = .ok (.iload 7, 2) := by decide +kernel
theorem dL_fits_399 : decode cL_fits 399 = .ok (.ifCond .ge 8, 3) := by decide +kernel
theorem dL_fits_402 : decode cL_fits 402 = .ok (.bipush 16, 2) := by decide +kernel
theorem dL_fits_404 : decode cL_fits 404 = .ok (.goto 5, 3) := by decide +kernel
theorem dL_fits_407 : decode cL_fits 407 = .ok (.iload 7, 2) := by decide +kernel
theorem dL_fits_409 : decode cL_fits 409 = .ok (.iconst 1, 1) := by decide +kernel
theorem dL_fits_410 : decode cL_fits 410 = .ok (.iload 6, 2) := by decide +kernel
theorem dL_fits_412 : decode cL_fits 412 = .ok (.iadd, 1) := by decide +kernel
theorem dL_fits_413 : decode cL_fits 413 = .ok (.iastore, 1) := by decide +kernel
theorem dL_fits_414 : decode cL_fits 414 = .ok (.aload 4, 2) := by decide +kernel
theorem dL_fits_416 : decode cL_fits 416 = .ok (.iload 8, 2) := by decide +kernel
theorem dL_fits_418 : decode cL_fits 418 = .ok (.ifCond .ge 8, 3) := by decide +kernel
theorem dL_fits_421 : decode cL_fits 421 = .ok (.bipush 16, 2) := by decide +kernel
theorem dL_fits_423 : decode cL_fits 423 = .ok (.goto 5, 3) := by decide +kernel
theorem dL_fits_426 : decode cL_fits 426 = .ok (.iload 8, 2) := by decide +kernel
theorem dL_fits_428 : decode cL_fits 428 = .ok (.iconst 1, 1) := by decide +kernel
theorem dL_fits_429 : decode cL_fits 429 = .ok (.iload 6, 2) := by decide +kernel
theorem dL_fits_431 : decode cL_fits 431 = .ok (.iadd, 1) := by decide +kernel
theorem dL_fits_432 : decode cL_fits 432 = .ok (.iastore, 1) := by decide +kernel
theorem dL_fits_433 : decode cL_fits 433 = .ok (.iinc 6 1, 3) := by decide +kernel
theorem dL_fits_436 : decode cL_fits 436 = .ok (.goto (-412), 3) := by decide +kernel
theorem dL_fits_439 : decode cL_fits 439 = .ok (.iconst 0, 1) := by decide +kernel
theorem dL_fits_440 : decode cL_fits 440 = .ok (.istore 6, 2) := by decide +kernel
theorem dL_fits_442 : decode cL_fits 442 = .ok (.iconst 0, 1) := by decide +kernel
theorem dL_fits_443 : decode cL_fits 443 = .ok (.istore 7, 2) := by decide +kernel
theorem dL_fits_445 : decode cL_fits 445 = .ok (.iload 7, 2) := by decide +kernel
theorem dL_fits_447 : decode cL_fits 447 = .ok (.iload_n 1, 1) := by decide +kernel
theorem dL_fits_448 : decode cL_fits 448 = .ok (.if_icmp .ge 243, 3) := by decide +kernel
theorem dL_fits_451 : decode cL_fits 451 = .ok (.aload_n 0, 1) := by decide +kernel
theorem dL_fits_452 : decode cL_fits 452 = .ok (.iload 7, 2) := by decide +kernel
theorem dL_fits_454 : decode cL_fits 454 = .ok (.bipush 6, 2) := by decide +kernel
theorem dL_fits_456 : decode cL_fits 456 = .ok (.invokevirtual 24, 3) := by decide +kernel
theorem dL_fits_459 : decode cL_fits 459 = .ok (.istore 8, 2) := by decide +kernel
theorem dL_fits_461 : decode cL_fits 461 = .ok (.iload 8, 2) := by decide +kernel
theorem dL_fits_463 : decode cL_fits 463 = .ok (.iconst 1, 1) := by decide +kernel
theorem dL_fits_464 : decode cL_fits 464 = .ok (.if_icmp .ne 7, 3) := by decide +kernel
theorem dL_fits_467 : decode cL_fits 467 = .ok (.iconst 1, 1) := by decide +kernel
theorem dL_fits_468 : decode cL_fits 468 = .ok (.goto 4, 3) := by decide +kernel
theorem dL_fits_471 : decode cL_fits 471 = .ok (.iconst 0, 1) := by decide +kernel
theorem dL_fits_472 : decode cL_fits 472 = .ok (.istore 9, 2) := by decide +kernel
theorem dL_fits_474 : decode cL_fits 474 = .ok (.iload 6, 2) := by decide +kernel
theorem dL_fits_476 : decode cL_fits 476 = .ok (.iload 8, 2) := by decide +kernel
theorem dL_fits_478 : decode cL_fits 478 = .ok (.ifCond .lt 7, 3) := by decide +kernel
theorem dL_fits_481 : decode cL_fits 481 = .ok (.iconst 1, 1) := by decide +kernel
theorem dL_fits_482 : decode cL_fits 482 = .ok (.goto 4, 3) := by decide +kernel
theorem dL_fits_485 : decode cL_fits 485 = .ok (.iconst 0, 1) := by decide +kernel
theorem dL_fits_486 : decode cL_fits 486 = .ok (.iadd, 1) := by decide +kernel
theorem dL_fits_487 : decode cL_fits 487 = .ok (.istore 6, 2) := by decide +kernel
theorem dL_fits_489 : decode cL_fits 489 = .ok (.aload_n 0, 1) := by decide +kernel
theorem dL_fits_490 : decode cL_fits 490 = .ok (.iload 7, 2) := by decide +kernel
theorem dL_fits_492 : decode cL_fits 492 = .ok (.iconst 1, 1) := by decide +kernel
theorem dL_fits_493 : decode cL_fits 493 = .ok (.invokevirtual 24, 3) := by decide +kernel
theorem dL_fits_496 : decode cL_fits 496 = .ok (.aload_n 2, 1) := by decide +kernel
theorem dL_fits_497 : decode cL_fits 497 = .ok (.iload 7, 2) := by decide +kernel
theorem dL_fits_499 : decode cL_fits 499 = .ok (.iaload, 1) := by decide +kernel
theorem dL_fits_500 : decode cL_fits 500 = .ok (.if_icmp .ne 183, 3) := by decide +kernel
theorem dL_fits_503 : decode cL_fits 503 = .ok (.aload_n 0, 1) := by decide +kernel
theorem dL_fits_504 : decode cL_fits 504 = .ok (.iload 7, 2) := by decide +kernel
theorem dL_fits_506 : decode cL_fits 506 = .ok (.iconst 2, 1) := by decide +kernel
theorem dL_fits_507 : decode cL_fits 507 = .ok (.invokevirtual 24, 3) := by decide +kernel
theorem dL_fits_510 : decode cL_fits 510 = .ok (.aload_n 3, 1) := by decide +kernel
theorem dL_fits_511 : decode cL_fits 511 = .ok (.iload 7, 2) := by decide +kernel
theorem dL_fits_513 : decode cL_fits 513 = .ok (.iaload, 1) := by decide +kernel
theorem dL_fits_514 : decode cL_fits 514 = .ok (.if_icmp .ne 169, 3) := by decide +kernel
theorem dL_fits_517 : decode cL_fits 517 = .ok (.aload_n 3, 1) := by decide +kernel
theorem dL_fits_518 : decode cL_fits 518 = .ok (.iload 7, 2) := by decide +kernel
theorem dL_fits_520 : decode cL_fits 520 = .ok (.iaload, 1) := by decide +kernel
theorem dL_fits_521 : decode cL_fits 521 = .ok (.iconst 2, 1) := by decide +kernel
theorem dL_fits_522 : decode cL_fits 522 = .ok (.if_icmp .gt 161, 3) := by decide +kernel
theorem dL_fits_525 : decode cL_fits 525 = .ok (.iload 8, 2) := by decide +kernel
theorem dL_fits_527 : decode cL_fits 527 = .ok (.iconst 1, 1) := by decide +kernel
theorem dL_fits_528 : decode cL_fits 528 = .ok (.if_icmp .le 7, 3) := by decide +kernel
theorem dL_fits_531 : decode cL_fits 531 = .ok (.iconst 1, 1) := by decide +kernel
theorem dL_fits_532 : decode cL_fits 532 = .ok (.goto 4, 3) := by decide +kernel
theorem dL_fits_535 : decode cL_fits 535 = .ok (.iconst 0, 1) := by decide +kernel
theorem dL_fits_536 : decode cL_fits 536 = .ok (.aload_n 3, 1) := by decide +kernel
theorem dL_fits_537 : decode cL_fits 537 = .ok (.iload 7, 2) := by decide +kernel
theorem dL_fits_539 : decode cL_fits 539 = .ok (.iaload, 1) := by decide +kernel
theorem dL_fits_540 : decode cL_fits 540 = .ok (.iconst 2, 1) := by decide +kernel
theorem dL_fits_541 : decode cL_fits 541 = .ok (.if_icmp .ne 7, 3) := by decide +kernel
theorem dL_fits_544 : decode cL_fits 544 = .ok (.iconst 1, 1) := by decide +kernel
theorem dL_fits_545 : decode cL_fits 545 = .ok (.goto 4, 3) := by decide +kernel
theorem dL_fits_548 : decode cL_fits 548 = .ok (.iconst 0, 1) := by decide +kernel
theorem dL_fits_549 : decode cL_fits 549 = .ok (.if_icmp .eq 26, 3) := by decide +kernel
theorem dL_fits_552 : decode cL_fits 552 = .ok (.iload 8, 2) := by decide +kernel
theorem dL_fits_554 : decode cL_fits 554 = .ok (.iconst 2, 1) := by decide +kernel
theorem dL_fits_555 : decode cL_fits 555 = .ok (.if_icmp .ne 128, 3) := by decide +kernel
theorem dL_fits_558 : decode cL_fits 558 = .ok (.aload_n 3, 1) := by decide +kernel
theorem dL_fits_559 : decode cL_fits 559 = .ok (.iload 7, 2) := by decide +kernel
theorem dL_fits_561 : decode cL_fits 561 = .ok (.iaload, 1) := by decide +kernel
theorem dL_fits_562 : decode cL_fits 562 = .ok (.iconst 1, 1) := by decide +kernel
theorem dL_fits_563 : decode cL_fits 563 = .ok (.if_icmp .ne 120, 3) := by decide +kernel
theorem dL_fits_566 : decode cL_fits 566 = .ok (.aload_n 0, 1) := by decide +kernel
theorem dL_fits_567 : decode cL_fits 567 = .ok (.bipush 8, 2) := by decide +kernel
theorem dL_fits_569 : decode cL_fits 569 = .ok (.invokevirtual 8, 3) := by decide +kernel
theorem dL_fits_572 : decode cL_fits 572 = .ok (.ifCond .lt 111, 3) := by decide +kernel
theorem dL_fits_575 : decode cL_fits 575 = .ok (.iload 9, 2) := by decide +kernel
theorem dL_fits_577 : decode cL_fits 577 = .ok (.aload_n 0, 1) := by decide +kernel
theorem dL_fits_578 : decode cL_fits 578 = .ok (.bipush 8, 2) := by decide +kernel
theorem dL_fits_580 : decode cL_fits 580 = .ok (.invokevirtual 8, 3) := by decide +kernel
theorem dL_fits_583 : decode cL_fits 583 = .ok (.iload 7, 2) := by decide +kernel
theorem dL_fits_585 : decode cL_fits 585 = .ok (.if_icmp .ne 7, 3) := by decide +kernel
theorem dL_fits_588 : decode cL_fits 588 = .ok (.iconst 1, 1) := by decide +kernel
theorem dL_fits_589 : decode cL_fits 589 = .ok (.goto 4, 3) := by decide +kernel
theorem dL_fits_592 : decode cL_fits 592 = .ok (.iconst 0, 1) := by decide +kernel
theorem dL_fits_593 : decode cL_fits 593 = .ok (.if_icmp .ne 90, 3) := by decide +kernel
theorem dL_fits_596 : decode cL_fits 596 = .ok (.aload_n 0, 1) := by decide +kernel
theorem dL_fits_597 : decode cL_fits 597 = .ok (.iload 7, 2) := by decide +kernel
theorem dL_fits_599 : decode cL_fits 599 = .ok (.iconst 5, 1) := by decide +kernel
theorem dL_fits_600 : decode cL_fits 600 = .ok (.invokevirtual 24, 3) := by decide +kernel
theorem dL_fits_603 : decode cL_fits 603 = .ok (.aload 4, 2) := by decide +kernel
theorem dL_fits_605 : decode cL_fits 605 = .ok (.iload 7, 2) := by decide +kernel
theorem dL_fits_607 : decode cL_fits 607 = .ok (.iaload, 1) := by decide +kernel
theorem dL_fits_608 : decode cL_fits 608 = .ok (.ifCond .ne 8, 3) := by decide +kernel
theorem dL_fits_611 : decode cL_fits 611 = .ok (.bipush (-6), 2) := by decide +kernel
theorem dL_fits_613 : decode cL_fits 613 = .ok (.goto 10, 3) := by decide +kernel
theorem dL_fits_616 : decode cL_fits 616 = .ok (.aload 4, 2) := by decide +kernel
theorem dL_fits_618 : decode cL_fits 618 = .ok (.iload 7, 2) := by decide +kernel
theorem dL_fits_620 : decode cL_fits 620 = .ok (.iaload, 1) := by decide +kernel
theorem dL_fits_621 : decode cL_fits 621 = .ok (.iconst 1, 1) := by decide +kernel
theorem dL_fits_622 : decode cL_fits 622 = .ok (.isub, 1) := by decide +kernel
theorem dL_fits_623 : decode cL_fits 623 = .ok (.if_icmp .ne 60, 3) := by decide +kernel
theorem dL_fits_626 : decode cL_fits 626 = .ok (.aload 4, 2) := by decide +kernel
theorem dL_fits_628 : decode cL_fits 628 = .ok (.iload 7, 2) := by decide +kernel
theorem dL_fits_630 : decode cL_fits 630 = .ok (.iaload, 1) := by decide +kernel
theorem dL_fits_631 : decode cL_fits 631 = .ok (.ifCond .ne 7, 3) := by decide +kernel
theorem dL_fits_634 : decode cL_fits 634 = .ok (.iconst 1, 1) := by decide +kernel
theorem dL_fits_635 : decode cL_fits 635 = .ok (.goto 4, 3) := by decide +kernel
theorem dL_fits_638 : decode cL_fits 638 = .ok (.iconst 0, 1) := by decide +kernel
theorem dL_fits_639 : decode cL_fits 639 = .ok (.iload 8, 2) := by decide +kernel
theorem dL_fits_641 : decode cL_fits 641 = .ok (.ifCond .lt 7, 3) := by decide +kernel
theorem dL_fits_644 : decode cL_fits 644 = .ok (.iconst 1, 1) := by decide +kernel
theorem dL_fits_645 : decode cL_fits 645 = .ok (.goto 4, 3) := by decide +kernel
theorem dL_fits_648 : decode cL_fits 648 = .ok (.iconst 0, 1) := by decide +kernel
theorem dL_fits_649 : decode cL_fits 649 = .ok (.if_icmp .ne 34, 3) := by decide +kernel
theorem dL_fits_652 : decode cL_fits 652 = .ok (.aload_n 0, 1) := by decide +kernel
theorem dL_fits_653 : decode cL_fits 653 = .ok (.iload 7, 2) := by decide +kernel
theorem dL_fits_655 : decode cL_fits 655 = .ok (.iconst 4, 1) := by decide +kernel
theorem dL_fits_656 : decode cL_fits 656 = .ok (.invokevirtual 24, 3) := by decide +kernel
theorem dL_fits_659 : decode cL_fits 659 = .ok (.iload 8, 2) := by decide +kernel
theorem dL_fits_661 : decode cL_fits 661 = .ok (.ifCond .lt 7, 3) := by decide +kernel
theorem dL_fits_664 : decode cL_fits 664 = .ok (.iconst 3, 1) := by decide +kernel
theorem dL_fits_665 : decode cL_fits 665 = .ok (.goto 15, 3) := by decide +kernel
theorem dL_fits_668 : decode cL_fits 668 = .ok (.aload_n 0, 1) := by decide +kernel
theorem dL_fits_669 : decode cL_fits 669 = .ok (.aload 4, 2) := by decide +kernel
theorem dL_fits_671 : decode cL_fits 671 = .ok (.iload 7, 2) := by decide +kernel
theorem dL_fits_673 : decode cL_fits 673 = .ok (.iaload, 1) := by decide +kernel
theorem dL_fits_674 : decode cL_fits 674 = .ok (.iconst 1, 1) := by decide +kernel
theorem dL_fits_675 : decode cL_fits 675 = .ok (.isub, 1) := by decide +kernel
theorem dL_fits_676 : decode cL_fits 676 = .ok (.iconst 5, 1) := by decide +kernel
theorem dL_fits_677 : decode cL_fits 677 = .ok (.invokevirtual 14, 3) := by decide +kernel
theorem dL_fits_680 : decode cL_fits 680 = .ok (.if_icmp .eq 5, 3) := by decide +kernel
theorem dL_fits_683 : decode cL_fits 683 = .ok (.iconst 0, 1) := by decide +kernel
theorem dL_fits_684 : decode cL_fits 684 = .ok (.ireturn, 1) := by decide +kernel
theorem dL_fits_685 : decode cL_fits 685 = .ok (.iinc 7 1, 3) := by decide +kernel
theorem dL_fits_688 : decode cL_fits 688 = .ok (.goto (-243), 3) := by decide +kernel
theorem dL_fits_691 : decode cL_fits 691 = .ok (.aload_n 0, 1) := by decide +kernel
theorem dL_fits_692 : decode cL_fits 692 = .ok (.iconst 4, 1) := by decide +kernel
theorem dL_fits_693 : decode cL_fits 693 = .ok (.invokevirtual 8, 3) := by decide +kernel
theorem dL_fits_696 : decode cL_fits 696 = .ok (.aload 5, 2) := by decide +kernel
theorem dL_fits_698 : decode cL_fits 698 = .ok (.iconst 3, 1) := by decide +kernel
theorem dL_fits_699 : decode cL_fits 699 = .ok (.iaload, 1) := by decide +kernel
theorem dL_fits_700 : decode cL_fits 700 = .ok (.if_icmp .ne 43, 3) := by decide +kernel
theorem dL_fits_703 : decode cL_fits 703 = .ok (.aload_n 0, 1) := by decide +kernel
theorem dL_fits_704 : decode cL_fits 704 = .ok (.iconst 5, 1) := by decide +kernel
theorem dL_fits_705 : decode cL_fits 705 = .ok (.invokevirtual 8, 3) := by decide +kernel
theorem dL_fits_708 : decode cL_fits 708 = .ok (.aload 5, 2) := by decide +kernel
theorem dL_fits_710 : decode cL_fits 710 = .ok (.iconst 2, 1) := by decide +kernel
theorem dL_fits_711 : decode cL_fits 711 = .ok (.iaload, 1) := by decide +kernel
theorem dL_fits_712 : decode cL_fits 712 = .ok (.if_icmp .ne 31, 3) := by decide +kernel
theorem dL_fits_715 : decode cL_fits 715 = .ok (.aload_n 0, 1) := by decide +kernel
theorem dL_fits_716 : decode cL_fits 716 = .ok (.bipush 6, 2) := by decide +kernel
theorem dL_fits_718 : decode cL_fits 718 = .ok (.invokevirtual 8, 3) := by decide +kernel
theorem dL_fits_721 : decode cL_fits 721 = .ok (.aload 5, 2) := by decide +kernel
theorem dL_fits_723 : decode cL_fits 723 = .ok (.iconst 1, 1) := by decide +kernel
theorem dL_fits_724 : decode cL_fits 724 = .ok (.iaload, 1) := by decide +kernel
theorem dL_fits_725 : decode cL_fits 725 = .ok (.if_icmp .ne 18, 3) := by decide +kernel
theorem dL_fits_728 : decode cL_fits 728 = .ok (.aload_n 0, 1) := by decide +kernel
theorem dL_fits_729 : decode cL_fits 729 = .ok (.bipush 9, 2) := by decide +kernel
theorem dL_fits_731 : decode cL_fits 731 = .ok (.invokevirtual 8, 3) := by decide +kernel
theorem dL_fits_734 : decode cL_fits 734 = .ok (.iload 6, 2) := by decide +kernel
theorem dL_fits_736 : decode cL_fits 736 = .ok (.if_icmp .ne 7, 3) := by decide +kernel
theorem dL_fits_739 : decode cL_fits 739 = .ok (.iconst 1, 1) := by decide +kernel
theorem dL_fits_740 : decode cL_fits 740 = .ok (.goto 4, 3) := by decide +kernel
theorem dL_fits_743 : decode cL_fits 743 = .ok (.iconst 0, 1) := by decide +kernel
theorem dL_fits_744 : decode cL_fits 744 = .ok (.ireturn, 1) := by decide +kernel
theorem dL_arePlaced_0 : decode cL_arePlaced 0 = .ok (.bipush 20, 2) := by decide +kernel
theorem dL_arePlaced_2 : decode cL_arePlaced 2 = .ok (.newarray .int, 2) := by decide +kernel
theorem dL_arePlaced_4 : decode cL_arePlaced 4 = .ok (.astore_n 2, 1) := by decide +kernel
theorem dL_arePlaced_5 : decode cL_arePlaced 5 = .ok (.iconst 0, 1) := by decide +kernel
theorem dL_arePlaced_6 : decode cL_arePlaced 6 = .ok (.istore_n 3, 1) := by decide +kernel
theorem dL_arePlaced_7 : decode cL_arePlaced 7 = .ok (.iload_n 3, 1) := by decide +kernel
theorem dL_arePlaced_8 : decode cL_arePlaced 8 = .ok (.iload_n 1, 1) := by decide +kernel
theorem dL_arePlaced_9 : decode cL_arePlaced 9 = .ok (.if_icmp .ge 125, 3) := by decide +kernel
theorem dL_arePlaced_12 : decode cL_arePlaced 12 = .ok (.aload_n 0, 1) := by decide +kernel
theorem dL_arePlaced_13 : decode cL_arePlaced 13 = .ok (.iload_n 3, 1) := by decide +kernel
theorem dL_arePlaced_14 : decode cL_arePlaced 14 = .ok (.bipush 6, 2) := by decide +kernel
theorem dL_arePlaced_16 : decode cL_arePlaced 16 = .ok (.invokevirtual 24, 3) := by decide +kernel
theorem dL_arePlaced_19 : decode cL_arePlaced 19 = .ok (.istore 4, 2) := by decide +kernel
theorem dL_arePlaced_21 : decode cL_arePlaced 21 = .ok (.aload_n 0, 1) := by decide +kernel
theorem dL_arePlaced_22 : decode cL_arePlaced 22 = .ok (.iload_n 3, 1) := by decide +kernel
theorem dL_arePlaced_23 : decode cL_arePlaced 23 = .ok (.bipush 7, 2) := by decide +kernel
theorem dL_arePlaced_25 : decode cL_arePlaced 25 = .ok (.invokevirtual 24, 3) := by decide +kernel
theorem dL_arePlaced_28 : decode cL_arePlaced 28 = .ok (.istore 5, 2) := by decide +kernel
theorem dL_arePlaced_30 : decode cL_arePlaced 30 = .ok (.iload 4, 2) := by decide +kernel
theorem dL_arePlaced_32 : decode cL_arePlaced 32 = .ok (.iconst 1, 1) := by decide +kernel
theorem dL_arePlaced_33 : decode cL_arePlaced 33 = .ok (.if_icmp .lt 16, 3) := by decide +kernel
theorem dL_arePlaced_36 : decode cL_arePlaced 36 = .ok (.iload 5, 2) := by decide +kernel
theorem dL_arePlaced_38 : decode cL_arePlaced 38 = .ok (.iload 4, 2) := by decide +kernel
theorem dL_arePlaced_40 : decode cL_arePlaced 40 = .ok (.if_icmp .lt 9, 3) := by decide +kernel
theorem dL_arePlaced_43 : decode cL_arePlaced 43 = .ok (.iload 5, 2) := by decide +kernel
theorem dL_arePlaced_45 : decode cL_arePlaced 45 = .ok (.iload_n 1, 1) := by decide +kernel
theorem dL_arePlaced_46 : decode cL_arePlaced 46 = .ok (.if_icmp .le 5, 3) := by decide +kernel
theorem dL_arePlaced_49 : decode cL_arePlaced 49 = .ok (.iconst 0, 1) := by decide +kernel
theorem dL_arePlaced_50 : decode cL_arePlaced 50 = .ok (.ireturn, 1) := by decide +kernel
theorem dL_arePlaced_51 : decode cL_arePlaced 51 = .ok (.aload_n 2, 1) := by decide +kernel
theorem dL_arePlaced_52 : decode cL_arePlaced 52 = .ok (.iload 4, 2) := by decide +kernel
theorem dL_arePlaced_54 : decode cL_arePlaced 54 = .ok (.dup2, 1) := by decide +kernel
theorem dL_arePlaced_55 : decode cL_arePlaced 55 = .ok (.iaload, 1) := by decide +kernel
theorem dL_arePlaced_56 : decode cL_arePlaced 56 = .ok (.iconst 1, 1) := by decide +kernel
theorem dL_arePlaced_57 : decode cL_arePlaced 57 = .ok (.iadd, 1) := by decide +kernel
theorem dL_arePlaced_58 : decode cL_arePlaced 58 = .ok (.iastore, 1) := by decide +kernel
theorem dL_arePlaced_59 : decode cL_arePlaced 59 = .ok (.iconst 0, 1) := by decide +kernel
theorem dL_arePlaced_60 : decode cL_arePlaced 60 = .ok (.istore 6, 2) := by decide +kernel
theorem dL_arePlaced_62 : decode cL_arePlaced 62 = .ok (.iload 6, 2) := by decide +kernel
theorem dL_arePlaced_64 : decode cL_arePlaced 64 = .ok (.iload_n 1, 1) := by decide +kernel
theorem dL_arePlaced_65 : decode cL_arePlaced 65 = .ok (.if_icmp .ge 63, 3) := by decide +kernel
theorem dL_arePlaced_68 : decode cL_arePlaced 68 = .ok (.aload_n 0, 1) := by decide +kernel
theorem dL_arePlaced_69 : decode cL_arePlaced 69 = .ok (.iload 6, 2) := by decide +kernel
theorem dL_arePlaced_71 : decode cL_arePlaced 71 = .ok (.bipush 6, 2) := by decide +kernel
theorem dL_arePlaced_73 : decode cL_arePlaced 73 = .ok (.invokevirtual 24, 3) := by decide +kernel
theorem dL_arePlaced_76 : decode cL_arePlaced 76 = .ok (.iload 4, 2) := by decide +kernel
theorem dL_arePlaced_78 : decode cL_arePlaced 78 = .ok (.if_icmp .ne 16, 3) := by decide +kernel
theorem dL_arePlaced_81 : decode cL_arePlaced 81 = .ok (.aload_n 0, 1) := by decide +kernel
theorem dL_arePlaced_82 : decode cL_arePlaced 82 = .ok (.iload 6, 2) := by decide +kernel
theorem dL_arePlaced_84 : decode cL_arePlaced 84 = .ok (.bipush 7, 2) := by decide +kernel
theorem dL_arePlaced_86 : decode cL_arePlaced 86 = .ok (.invokevirtual 24, 3) := by decide +kernel
theorem dL_arePlaced_89 : decode cL_arePlaced 89 = .ok (.iload 5, 2) := by decide +kernel
theorem dL_arePlaced_91 : decode cL_arePlaced 91 = .ok (.if_icmp .ne 29, 3) := by decide +kernel
theorem dL_arePlaced_94 : decode cL_arePlaced 94 = .ok (.aload_n 0, 1) := by decide +kernel
theorem dL_arePlaced_95 : decode cL_arePlaced 95 = .ok (.iload 6, 2) := by decide +kernel
theorem dL_arePlaced_97 : decode cL_arePlaced 97 = .ok (.bipush 6, 2) := by decide +kernel
theorem dL_arePlaced_99 : decode cL_arePlaced 99 = .ok (.invokevirtual 24, 3) := by decide +kernel
theorem dL_arePlaced_102 : decode cL_arePlaced 102 = .ok (.iload 4, 2) := by decide +kernel
theorem dL_arePlaced_104 : decode cL_arePlaced 104 = .ok (.if_icmp .le 18, 3) := by decide +kernel
theorem dL_arePlaced_107 : decode cL_arePlaced 107 = .ok (.aload_n 0, 1) := by decide +kernel
theorem dL_arePlaced_108 : decode cL_arePlaced 108 = .ok (.iload 6, 2) := by decide +kernel
theorem dL_arePlaced_110 : decode cL_arePlaced 110 = .ok (.bipush 6, 2) := by decide +kernel
theorem dL_arePlaced_112 : decode cL_arePlaced 112 = .ok (.invokevirtual 24, 3) := by decide +kernel
theorem dL_arePlaced_115 : decode cL_arePlaced 115 = .ok (.iload 5, 2) := by decide +kernel
theorem dL_arePlaced_117 : decode cL_arePlaced 117 = .ok (.if_icmp .gt 5, 3) := by decide +kernel
theorem dL_arePlaced_120 : decode cL_arePlaced 120 = .ok (.iconst 0, 1) := by decide +kernel
theorem dL_arePlaced_121 : decode cL_arePlaced 121 = .ok (.ireturn, 1) := by decide +kernel
theorem dL_arePlaced_122 : decode cL_arePlaced 122 = .ok (.iinc 6 1, 3) := by decide +kernel
theorem dL_arePlaced_125 : decode cL_arePlaced 125 = .ok (.goto (-63), 3) := by decide +kernel
theorem dL_arePlaced_128 : decode cL_arePlaced 128 = .ok (.iinc 3 1, 3) := by decide +kernel
theorem dL_arePlaced_131 : decode cL_arePlaced 131 = .ok (.goto (-124), 3) := by decide +kernel
theorem dL_arePlaced_134 : decode cL_arePlaced 134 = .ok (.iconst 1, 1) := by decide +kernel
theorem dL_arePlaced_135 : decode cL_arePlaced 135 = .ok (.istore_n 3, 1) := by decide +kernel
theorem dL_arePlaced_136 : decode cL_arePlaced 136 = .ok (.iload_n 3, 1) := by decide +kernel
theorem dL_arePlaced_137 : decode cL_arePlaced 137 = .ok (.iload_n 1, 1) := by decide +kernel
theorem dL_arePlaced_138 : decode cL_arePlaced 138 = .ok (.if_icmp .gt 20, 3) := by decide +kernel
theorem dL_arePlaced_141 : decode cL_arePlaced 141 = .ok (.aload_n 2, 1) := by decide +kernel
theorem dL_arePlaced_142 : decode cL_arePlaced 142 = .ok (.iload_n 3, 1) := by decide +kernel
theorem dL_arePlaced_143 : decode cL_arePlaced 143 = .ok (.iaload, 1) := by decide +kernel
theorem dL_arePlaced_144 : decode cL_arePlaced 144 = .ok (.ifCond .ne 5, 3) := by decide +kernel
theorem dL_arePlaced_147 : decode cL_arePlaced 147 = .ok (.iconst 0, 1) := by decide +kernel
theorem dL_arePlaced_148 : decode cL_arePlaced 148 = .ok (.ireturn, 1) := by decide +kernel
theorem dL_arePlaced_149 : decode cL_arePlaced 149 = .ok (.iload_n 3, 1) := by decide +kernel
theorem dL_arePlaced_150 : decode cL_arePlaced 150 = .ok (.aload_n 2, 1) := by decide +kernel
theorem dL_arePlaced_151 : decode cL_arePlaced 151 = .ok (.iload_n 3, 1) := by decide +kernel
theorem dL_arePlaced_152 : decode cL_arePlaced 152 = .ok (.iaload, 1) := by decide +kernel
theorem dL_arePlaced_153 : decode cL_arePlaced 153 = .ok (.iadd, 1) := by decide +kernel
theorem dL_arePlaced_154 : decode cL_arePlaced 154 = .ok (.istore_n 3, 1) := by decide +kernel
theorem dL_arePlaced_155 : decode cL_arePlaced 155 = .ok (.goto (-19), 3) := by decide +kernel
theorem dL_arePlaced_158 : decode cL_arePlaced 158 = .ok (.iload_n 3, 1) := by decide +kernel
theorem dL_arePlaced_159 : decode cL_arePlaced 159 = .ok (.iload_n 1, 1) := by decide +kernel
theorem dL_arePlaced_160 : decode cL_arePlaced 160 = .ok (.iconst 1, 1) := by decide +kernel
theorem dL_arePlaced_161 : decode cL_arePlaced 161 = .ok (.iadd, 1) := by decide +kernel
theorem dL_arePlaced_162 : decode cL_arePlaced 162 = .ok (.if_icmp .ne 26, 3) := by decide +kernel
theorem dL_arePlaced_165 : decode cL_arePlaced 165 = .ok (.aload_n 2, 1) := by decide +kernel
theorem dL_arePlaced_166 : decode cL_arePlaced 166 = .ok (.iconst 1, 1) := by decide +kernel
theorem dL_arePlaced_167 : decode cL_arePlaced 167 = .ok (.iaload, 1) := by decide +kernel
theorem dL_arePlaced_168 : decode cL_arePlaced 168 = .ok (.iconst 1, 1) := by decide +kernel
theorem dL_arePlaced_169 : decode cL_arePlaced 169 = .ok (.if_icmp .ne 19, 3) := by decide +kernel
theorem dL_arePlaced_172 : decode cL_arePlaced 172 = .ok (.iload_n 1, 1) := by decide +kernel
theorem dL_arePlaced_173 : decode cL_arePlaced 173 = .ok (.iconst 2, 1) := by decide +kernel
theorem dL_arePlaced_174 : decode cL_arePlaced 174 = .ok (.if_icmp .lt 10, 3) := by decide +kernel
theorem dL_arePlaced_177 : decode cL_arePlaced 177 = .ok (.aload_n 2, 1) := by decide +kernel
theorem dL_arePlaced_178 : decode cL_arePlaced 178 = .ok (.iconst 2, 1) := by decide +kernel
theorem dL_arePlaced_179 : decode cL_arePlaced 179 = .ok (.iaload, 1) := by decide +kernel
theorem dL_arePlaced_180 : decode cL_arePlaced 180 = .ok (.iconst 1, 1) := by decide +kernel
theorem dL_arePlaced_181 : decode cL_arePlaced 181 = .ok (.if_icmp .ne 7, 3) := by decide +kernel
theorem dL_arePlaced_184 : decode cL_arePlaced 184 = .ok (.iconst 1, 1) := by decide +kernel
theorem dL_arePlaced_185 : decode cL_arePlaced 185 = .ok (.goto 4, 3) := by decide +kernel
theorem dL_arePlaced_188 : decode cL_arePlaced 188 = .ok (.iconst 0, 1) := by decide +kernel
theorem dL_arePlaced_189 : decode cL_arePlaced 189 = .ok (.ireturn, 1) := by decide +kernel
theorem dL_law_0 : decode cL_law 0 = .ok (.new 9, 3) := by decide +kernel
theorem dL_law_3 : decode cL_law 3 = .ok (.dup, 1) := by decide +kernel
theorem dL_law_4 : decode cL_law 4 = .ok (.invokespecial 27, 3) := by decide +kernel
theorem dL_law_7 : decode cL_law 7 = .ok (.astore_n 1, 1) := by decide +kernel
abbrev vwCl : List vw_C := [(RX0, TX0, 6), (RX1, TX1, 2), (RX2, TX2, 4), (RX3, TX3, 14), (RX4, TX4, 5), (RX5, TX5, 8)]
