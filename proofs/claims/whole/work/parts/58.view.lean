/-! what the reference tells of what it has laid, in the class' words -/
def vw (K : PW) (z x n : Nat) (rl : RUL) (B : BB) (ps : Nat → Nat) : Prop := fin z x n rl B ps ∧ rel (tF z) (tF z) B (K 17, K 20, K 18, K 19) ∧ mcF K (tF z) ∧ ∀ m, m < tF z → K 5 m = tPT z m ∧ K 6 m = tr (tz_round z) m
section VW
variable {K : PW} {z x n : Nat} {rl : RUL} {B : BB} {ps : Nat → Nat}
theorem v_how (h : vw K z x n rl B ps) {m : Nat} (hm : m < tF z) : K 20 m = B.2.1 m ∧ K 18 m = bw B m ∧ K 19 m = bl B m ∧ K 17 (2 * m) = B.1 (2 * m) ∧ K 17 (2 * m + 1) = B.1 (2 * m + 1) := by
  obtain ⟨a, b⟩ := rel_win h.2.1 hm
  exact ⟨(h.2.1.2.1 m hm).1, a, b, h.2.1.1 _ (by omega), h.2.1.1 _ (by omega)⟩
theorem v_rg (h : vw K z x n rl B ps) {m : Nat} (hm : m < tF z) : 0 ≤ B.2.1 m ∧ B.2.1 m ≤ 3 := by
  obtain ⟨f1, f2, f3, f4⟩ := cfg_F h.1.1
  by_cases c : B.2.1 m = 0
  · omega
  · obtain ⟨-, -, -, b3⟩ := h.1.2.2.2.1.2.2.2.1 m hm c
    rw [b3]
    exact (h.1.2.1 m _ _ (by omega)).2.2.2
/-- a match by a bye has no player who lost -/
theorem v_bye (h : fin z x n rl B ps) {m : Nat} (hm : m < tF z) (q : B.2.1 m = 1) : bl B m = 16 := by
  obtain ⟨f1, f2, f3, f4⟩ := cfg_F h.1
  obtain ⟨b0, b1, b2, b3⟩ := h.2.2.2.1.2.2.2.1 m hm (by rw [q]; decide)
  obtain ⟨r1, r2, r3, -⟩ := h.2.1 m (B.1 (2 * m)) (B.1 (2 * m + 1)) (by omega)
  have c : B.1 (2 * m) = 16 ∨ B.1 (2 * m + 1) = 16 := Decidable.byContradiction (fun y => r3 y (by rw [← b3]; exact q))
  have e := r2 c
  unfold bl
  rw [if_neg (by rw [q]; decide), b2, e]
  by_cases c2 : B.1 (2 * m + 1) = 16
  · rw [if_pos c2]
    exact c2
  · rw [if_neg c2]
    exact c.resolve_right c2
theorem v_champ (h : vw K z x n rl B ps) : mchamp K (tF z) = bch (tF z) B ∧ msecond K (tF z) = bsec (tF z) B := by
  obtain ⟨f1, f2, f3, f4⟩ := cfg_F h.1.1
  obtain ⟨a1, a2, a3, a4, a5⟩ := v_how h (show tF z - 2 < tF z by omega)
  obtain ⟨b1, b2, b3, b4, b5⟩ := v_how h (show tF z - 1 < tF z by omega)
  have r1 := (v_rg h (show tF z - 2 < tF z by omega)).1
  have r2 := (v_rg h (show tF z - 1 < tF z by omega)).1
  have hd := f_hd h.1
  rw [show 2 * tF z - 4 = 2 * (tF z - 2) by omega, show 2 * tF z - 3 = 2 * (tF z - 2) + 1 by omega] at hd
  have e1 : mchamp K (tF z) = bch (tF z) B := by
    unfold mchamp bch
    rw [a1, a2, a4, b1, b2]
    by_cases c : 0 < B.2.1 (tF z - 2) ∧ bw B (tF z - 2) = B.1 (2 * (tF z - 2))
    · rw [if_pos c]
      have w := f_won h.1 (show tF z - 2 < tF z by omega) (by omega)
      have b0 := (h.1.2.2.2.1.2.2.2.1 (tF z - 2) (by omega) (by omega)).1
      have w0 : B.2.2 (tF z - 2) = 0 := by
        refine w.resolve_right (fun y => hd b0 ?_)
        have c2 := c.2
        unfold bw at c2
        rw [if_neg (by omega), y] at c2
        exact c2.symm
      have l0 : B.2.1 (tF z - 1) = 0 := Decidable.byContradiction (fun y => by
        have := (f_s3 h.1 y).2
        omega)
      rw [if_pos ((f_bw6 h.1 (by omega)).mpr l0), if_pos w0]
    · rw [if_neg c]
      by_cases c2 : 0 < B.2.1 (tF z - 1)
      · rw [if_pos c2, if_neg (fun y => by have := (f_bw6 h.1 (by omega)).mp y; omega)]
      · rw [if_neg c2, if_pos ((f_bw6 h.1 (by omega)).mpr (by omega)), if_neg]
        intro y
        have d : ¬ B.2.1 (tF z - 2) = 0 := fun q => by
          have := h.1.2.2.2.1.2.2.2.2.2 (tF z - 2) (by omega) q
          omega
        refine c ⟨by omega, ?_⟩
        unfold bw
        rw [if_neg d, y]
        rfl
  refine ⟨e1, ?_⟩
  unfold msecond bsec
  rw [e1, b1, b3, a3]
  by_cases c : bch (tF z) B = -6
  · rw [if_pos c, if_pos c]
  · rw [if_neg c, if_neg c]
    by_cases c2 : 0 < B.2.1 (tF z - 1)
    · rw [if_pos c2, if_pos (by omega)]
    · rw [if_neg c2, if_neg (fun y => y (by omega))]
theorem v_outf (h : vw K z x n rl B ps) {p : Nat} (hp : p < n) : ffrom (moutp K (p : Int)) (tF z) 0 = if 64 ≤ ps p ∧ (ps p - 64) / 2 < tF z - 2 then (((ps p - 64) / 2 : Nat) : Int) else -6 := by
  rw [← f_out h.1 hp]
  refine ffrom_congr _ _ (fun m _ hm => ?_)
  have hm : m < tF z := by omega
  obtain ⟨a1, a2, a3, -⟩ := v_how h hm
  have r := (v_rg h hm).1
  unfold moutp
  rw [(h.2.2.2 m hm).1, a1, a3]
  by_cases c : B.2.1 m = 0
  · have e : bl B m = -6 := by
      unfold bl
      rw [if_pos c]
    rw [c, e, decide_eq_false (show ¬ ((-6 : Int) = (p : Int)) by omega)]
    simp
  · rw [decide_eq_true (show 0 < B.2.1 m by omega)]
    rfl
theorem v_out (h : vw K z x n rl B ps) {p : Nat} (hp : p < n) : mout K (tF z) (p : Int) = if 64 ≤ ps p ∧ (ps p - 64) / 2 < tF z - 2 then tr (tz_round z) ((ps p - 64) / 2) else -6 := by
  unfold mout
  rw [v_outf h hp]
  by_cases c : 64 ≤ ps p ∧ (ps p - 64) / 2 < tF z - 2
  · rw [if_pos c, if_pos c, if_neg (by omega), Int.toNat_natCast, (h.2.2.2 _ (by omega)).2]
  · rw [if_neg c, if_neg c, if_pos rfl]
/-- an end in the lower bracket -/
theorem f_end (h : fin z x n rl B ps) {p : Nat} (hp : p < n) (q : 64 ≤ ps p ∧ (ps p - 64) / 2 < tF z - 2) : tPT z ((ps p - 64) / 2) = 1 ∧ 1 ≤ tr (tz_round z) ((ps p - 64) / 2) ∧ tr (tz_round z) ((ps p - 64) / 2) ≤ 2 * (tR z : Int) - 2 := by
  obtain ⟨s, g1, g2, g3, g4, g5⟩ := f_term h hp q.1
  have es : ps p - 64 = s := by omega
  rw [es] at q ⊢
  have g5 : tPT z (s / 2) = 1 := by
    rcases g5 with g | g | g
    · exact g.2.1
    · omega
    · omega
  exact ⟨g5, (tb_round h.1 _ (by omega)).2 g5⟩
theorem v_has (h : vw K z x n rl B ps) {p : Nat} (hp : p < n) : mhas K (tF z) (p : Int) = true ↔ 64 ≤ ps p := by
  obtain ⟨c1, c2⟩ := f_champ h.1 hp
  rw [mhas_iff, (v_champ h).1, (v_champ h).2, v_out h hp, c1, c2]
  constructor
  · rintro (y | y | y)
    · by_cases c : 64 ≤ ps p ∧ (ps p - 64) / 2 < tF z - 2
      · exact c.1
      · rw [if_neg c] at y
        exact absurd rfl y
    · omega
    · omega
  · intro y
    by_cases c : (ps p - 64) / 2 < tF z - 2
    · left
      have := f_end h.1 hp ⟨y, c⟩
      rw [if_pos ⟨y, c⟩]
      omega
    · right
      by_cases e : B.2.2 ((ps p - 64) / 2) = ((ps p % 2 : Nat) : Int)
      · exact Or.inl ⟨by omega, e⟩
      · exact Or.inr ⟨by omega, e⟩
theorem v_hasp (h : vw K z x n rl B ps) {p : Nat} (hp : p < n) : mhas K (tF z) (p : Int) = bplc B (tF z) p := by
  have e : bplc B (tF z) p = true ↔ 64 ≤ ps p := by
    unfold bplc
    rw [decide_eq_true_eq, f_next h.1 hp]
    by_cases c : ps p < 64
    · rw [if_pos c]
      omega
    · rw [if_neg c]
      omega
  by_cases c : 64 ≤ ps p
  · rw [(v_has h hp).mpr c, e.mpr c]
  · rw [bfalse (v_has h hp) c, bfalse e c]
theorem v_next (h : vw K z x n rl B ps) {p : Int} : mnx K (tF z) p = ffrom (bnext B p) (tF z) 0 := next_same h.2.1
theorem v_open (h : vw K z x n rl B ps) {m : Nat} (hm : m < tF z) : mopen (K 17) (K 20) m = bplay n B m := by
  obtain ⟨a1, a2, a3, a4, a5⟩ := v_how h hm
  have e : mopen (K 17) (K 20) m = true ↔ B.2.1 m = 0 ∧ B.1 (2 * m) ≠ -6 ∧ B.1 (2 * m + 1) ≠ -6 := by
    unfold mopen
    rw [a1, a4, a5, Bool.and_eq_true, Bool.and_eq_true, decide_eq_true_eq, decide_eq_true_eq, decide_eq_true_eq]
  have f := f_mopen h.1 hm
  by_cases c : bplay (n : Int) B m = true
  · rw [c, e.mpr (f.mpr c)]
  · rw [bfalse e (fun y => c (f.mp y)), bfalse Iff.rfl c]
theorem v_lost (h : vw K z x n rl B ps) {p : Nat} (hp : p < 16) : cnt (mlost K (p : Int)) (tF z) = blos B (tF z) p := by
  unfold blos
  refine cnt_congr _ (fun m hm => ?_)
  obtain ⟨a1, a2, a3, -⟩ := v_how h hm
  have r := (v_rg h hm).1
  have e : mlost K (p : Int) m = true ↔ B.2.1 m ≠ 1 ∧ bl B m = (p : Int) := by
    rw [mlost_iff, a1, a3]
    constructor
    · rintro ⟨y1, y2⟩
      exact ⟨by omega, y2⟩
    · rintro ⟨y1, y2⟩
      refine ⟨?_, y2⟩
      have : B.2.1 m ≠ 0 := fun q => by
        unfold bl at y2
        rw [if_pos q] at y2
        omega
      omega
  by_cases c : B.2.1 m ≠ 1 ∧ bl B m = (p : Int)
  · rw [e.mpr c, decide_eq_true c]
  · rw [bfalse e c, decide_eq_false c]
theorem v_wins (h : vw K z x n rl B ps) {p : Nat} : cnt (mwon K (p : Int)) (tF z) = cnt (fun m => decide (B.2.1 m ≠ 1 ∧ bw B m = (p : Int))) (tF z) := by
  refine cnt_congr _ (fun m hm => ?_)
  obtain ⟨a1, a2, a3, -⟩ := v_how h hm
  have r := (v_rg h hm).1
  have e : mwon K (p : Int) m = true ↔ B.2.1 m ≠ 1 ∧ bw B m = (p : Int) := by
    rw [mwon_iff, a1, a2]
    constructor
    · rintro ⟨y1, y2⟩
      exact ⟨by omega, y2⟩
    · rintro ⟨y1, y2⟩
      refine ⟨?_, y2⟩
      have : B.2.1 m ≠ 0 := fun q => by
        unfold bw at y2
        rw [if_pos q] at y2
        omega
      omega
  by_cases c : B.2.1 m ≠ 1 ∧ bw B m = (p : Int)
  · rw [e.mpr c, decide_eq_true c]
  · rw [bfalse e c, decide_eq_false c]
theorem v_play (h : vw K z x n rl B ps) {p : Nat} : cnt (mplay K (p : Int)) (tF z) = cnt (fun m => bin B (p : Int) m && decide (B.2.1 m = 3)) (tF z) := by
  refine cnt_congr _ (fun m hm => ?_)
  obtain ⟨a1, a2, a3, -⟩ := v_how h hm
  have e : mplay K (p : Int) m = true ↔ (B.1 (2 * m) = (p : Int) ∨ B.1 (2 * m + 1) = (p : Int)) ∧ B.2.1 m = 3 := by
    rw [mplay_iff, a1, a2, a3]
    by_cases c : B.2.1 m = 3
    · have w := f_won h.1 hm (by rw [c]; decide)
      unfold bw bl
      rw [if_neg (by rw [c]; decide), if_neg (by rw [c]; decide)]
      rcases w with w | w
      · rw [w]
        exact ⟨fun y => ⟨y.2, y.1⟩, fun y => ⟨y.2, y.1⟩⟩
      · rw [w]
        exact ⟨fun y => ⟨y.2.symm, y.1⟩, fun y => ⟨y.2, y.1.symm⟩⟩
    · exact ⟨fun y => absurd y.1 c, fun y => absurd y.2 c⟩
  have e2 : (bin B (p : Int) m && decide (B.2.1 m = 3)) = true ↔ (B.1 (2 * m) = (p : Int) ∨ B.1 (2 * m + 1) = (p : Int)) ∧ B.2.1 m = 3 := by
    unfold bin
    rw [Bool.and_eq_true, Bool.or_eq_true, decide_eq_true_eq, decide_eq_true_eq, decide_eq_true_eq]
  by_cases c : (B.1 (2 * m) = (p : Int) ∨ B.1 (2 * m + 1) = (p : Int)) ∧ B.2.1 m = 3
  · rw [e.mpr c, e2.mpr c]
  · rw [bfalse e c, bfalse e2 c]
theorem cnt_not {p q : Nat → Bool} : ∀ N : Nat, (∀ m, m < N → p m = !q m) → cnt p N = (N : Int) - cnt q N := by
  intro N
  induction N with
  | zero => intro _; rfl
  | succ N ih =>
    intro h
    show cnt p N + _ = ((N + 1 : Nat) : Int) - (cnt q N + _)
    rw [ih (fun m hm => h m (by omega)), h N (by omega)]
    cases q N
    · show _ + 1 = _ - (_ + 0)
      omega
    · show _ + 0 = _ - (_ + 1)
      omega
theorem v_dec (h : vw K z x n rl B ps) : cnt (fun m => decide (0 < K 20 m)) (tF z) = (tF z : Int) - cnt (fun m => decide (B.2.1 m = 0)) (tF z) := by
  refine cnt_not _ (fun m hm => ?_)
  have a1 := (v_how h hm).1
  have r := (v_rg h hm).1
  rw [a1]
  by_cases c : B.2.1 m = 0
  · rw [decide_eq_true c, decide_eq_false (by omega)]
    rfl
  · rw [decide_eq_false c, decide_eq_true (by omega)]
    rfl
theorem v_by (h : vw K z x n rl B ps) {w : Int} : cnt (fun m => decide (K 20 m = w)) (tF z) = cnt (fun m => decide (B.2.1 m = w)) (tF z) := by_same h.2.1
theorem cnt_two {p : Nat → Bool} {a b : Nat} : ∀ N : Nat, a < b → b < N → p a = true → p b = true → 2 ≤ cnt p N := by
  intro N h1 h2 h3 h4
  have c1 : ∀ N k, k < N → p k = true → 1 ≤ cnt p N := by
    intro N
    induction N with
    | zero => intro k h; omega
    | succ N ih =>
      intro k h q
      show 1 ≤ cnt p N + _
      by_cases e : k = N
      · subst e
        have := (cnt_rg p k).1
        rw [q]
        show 1 ≤ _ + 1
        omega
      · have := ih k (by omega) q
        cases p N
        · show 1 ≤ _ + 0
          omega
        · show 1 ≤ _ + 1
          omega
  induction N with
  | zero => omega
  | succ N ih =>
    show 2 ≤ cnt p N + _
    by_cases e : b = N
    · subst e
      have := c1 b a h1 h3
      rw [h4]
      show 2 ≤ _ + 1
      omega
    · have := ih (by omega)
      cases p N
      · show 2 ≤ _ + 0
        omega
      · show 2 ≤ _ + 1
        omega
/-- results to come, as the class tells them -/
def bres (g : Nat → Int) (B : BB) (F n : Nat) (mo : Int) : Int := if cnt (briv g B F) n < 2 then 0 else sm (blif g B F) n - (if bunb g B F n = 1 ∧ mo = 0 then 2 else 1)
theorem bplc_iff (h : fin z x n rl B ps) {p : Nat} (hp : p < n) : bplc B (tF z) p = true ↔ 64 ≤ ps p := by
  unfold bplc
  rw [decide_eq_true_eq, f_next h hp]
  by_cases c : ps p < 64
  · rw [if_pos c]
    omega
  · rw [if_neg c]
    omega
theorem v_need {R g : Nat → Int} (h : vw K z x n (rlive R g) B ps) (hg : ∀ p, p < 16 → K 1 (50 + p) = g p) (hn16 : n ≤ 16) {mo : Int} (hmo : mo = 0 ∨ mo = 1) : nval K (tF z) n mo = bres g B (tF z) n mo := by
  obtain ⟨f1, f2, f3, f4⟩ := cfg_F h.1.1
  unfold nval bres
  rw [(v_champ h).1]
  by_cases ch : bch (tF z) B = -6
  · rw [if_pos ch]
    -- what is told of each player, summed
    have S : ∀ p, p ≤ n → sm (blif g B (tF z)) p = 2 * (p : Int) - (nrun K (tF z) p).1 - (nrun K (tF z) p).2.1 ∧ (nrun K (tF z) p).2.2.1 = cnt (briv g B (tF z)) p ∧ (nrun K (tF z) p).2.2.2.1 = cnt (fun x => briv g B (tF z) x && decide (blos B (tF z) x = 0)) p := by
      intro p
      induction p with
      | zero => intro _; exact ⟨rfl, rfl, rfl⟩
      | succ p ih =>
        intro hp
        obtain ⟨i1, i2, i3⟩ := ih (by omega)
        have hp' : p < n := by omega
        have lo : nown K (tF z) p = blos B (tF z) p := v_lost h (by omega)
        have nr : nrun K (tF z) (p + 1) = nstp K (tF z) p (nrun K (tF z) p) := rfl
        have b1 : sm (blif g B (tF z)) (p + 1) = sm (blif g B (tF z)) p + blif g B (tF z) p := rfl
        have b2 : cnt (briv g B (tF z)) (p + 1) = cnt (briv g B (tF z)) p + (bif briv g B (tF z) p then 1 else 0) := rfl
        have b3 : cnt (fun x => briv g B (tF z) x && decide (blos B (tF z) x = 0)) (p + 1) = cnt (fun x => briv g B (tF z) x && decide (blos B (tF z) x = 0)) p + (bif briv g B (tF z) p && decide (blos B (tF z) p = 0) then 1 else 0) := rfl
        rw [nr, b1, b2, b3]
        unfold nstp
        rw [lo, hg p (by omega)]
        by_cases c1 : 64 ≤ ps p
        · rw [if_pos ((v_has h hp').mpr c1)]
          have bp := (bplc_iff h.1 hp').mpr c1
          have br : briv g B (tF z) p = false := by
            unfold briv
            rw [bp]
            simp
          have bf : blif g B (tF z) p = 0 := by
            unfold blif
            rw [br]
            rfl
          have l2 : blos B (tF z) p = 2 := by
            refine (f_los h.1 hp').2 c1 (Decidable.byContradiction (fun y => ?_))
            obtain ⟨k1, k2⟩ := f_champ h.1 hp'
            obtain ⟨e1, e2⟩ := (f_ch6 h.1).mp ch
            by_cases e : B.2.2 ((ps p - 64) / 2) = ((ps p % 2 : Nat) : Int)
            · have := k1.mpr ⟨by omega, e⟩
              omega
            · have se := k2.mpr ⟨by omega, e⟩
              unfold bsec at se
              rw [if_pos ch] at se
              omega
          rw [br, bf, l2]
          dsimp only
          refine ⟨by omega, ?_, ?_⟩
          · show _ = _ + 0
            omega
          · show _ = _ + 0
            omega
        · rw [if_neg (fun y => c1 ((v_has h hp').mp y))]
          have bp := bfalse (bplc_iff h.1 hp') c1
          by_cases c2 : g p = 1
          · rw [if_pos c2]
            have br : briv g B (tF z) p = false := by
              unfold briv
              rw [decide_eq_false (fun y => y c2)]
              rfl
            have bf : blif g B (tF z) p = 0 := by
              unfold blif
              rw [br]
              rfl
            rw [br, bf]
            dsimp only
            refine ⟨by omega, ?_, ?_⟩
            · show _ = _ + 0
              omega
            · show _ = _ + 0
              omega
          · rw [if_neg c2]
            have br : briv g B (tF z) p = true := by
              unfold briv
              rw [decide_eq_true c2, bp]
              rfl
            have bf : blif g B (tF z) p = 2 - blos B (tF z) p := by
              unfold blif
              rw [br]
              rfl
            rw [br, bf]
            dsimp only
            refine ⟨by omega, ?_, ?_⟩
            · show _ = _ + 1
              omega
            · by_cases c3 : blos B (tF z) p = 0
              · rw [if_pos c3, decide_eq_true c3, i3]
                rfl
              · rw [if_neg c3, decide_eq_false c3, i3]
                rfl
    obtain ⟨s1, s2, s3⟩ := S n (Nat.le_refl _)
    -- two of them play on
    obtain ⟨m, hm, hpl⟩ := f_open h.1 ch
    obtain ⟨a, b, ha, hb, ea, eb, pa, pb⟩ := f_openp h.1 hm hpl
    have ru := rl0 (f_rule h.1 hm hpl)
    have riv : ∀ q : Nat, q < n → (ps q = 2 * m ∨ ps q = 2 * m + 1) → ¬ g q = 1 → briv g B (tF z) q = true := fun q hq e1 e2 => by
      unfold briv
      rw [decide_eq_true e2, bfalse (bplc_iff h.1 hq) (by omega)]
      rfl
    have ga : ¬ g a = 1 := fun y => ru.2.2 (Or.inl (by rw [ea]; exact ⟨by omega, by omega, y⟩))
    have gb : ¬ g b = 1 := fun y => ru.2.2 (Or.inr (by rw [eb]; exact ⟨by omega, by omega, y⟩))
    have ne : a ≠ b := fun y => by
      rw [y] at pa
      omega
    have two : 2 ≤ cnt (briv g B (tF z)) n := by
      by_cases lt : a < b
      · exact cnt_two n lt hb (riv a ha (Or.inl pa) ga) (riv b hb (Or.inr pb) gb)
      · exact cnt_two n (show b < a by omega) ha (riv b hb (Or.inr pb) gb) (riv a ha (Or.inl pa) ga)
    rw [if_neg (show ¬ cnt (briv g B (tF z)) n < 2 by omega), if_neg (show ¬ (nrun K (tF z) n).2.2.1 = 1 by rw [s2]; omega), s1, s3]
    unfold bunb
    by_cases c1 : cnt (fun x => briv g B (tF z) x && decide (blos B (tF z) x = 0)) n = 0
    · rw [if_pos (Or.inl c1), if_pos c1, if_neg (by omega)]
      omega
    · rw [if_neg c1]
      rcases hmo with hmo | hmo
      · rw [hmo, if_neg (by omega), if_pos ⟨rfl, rfl⟩]
        omega
      · rw [hmo, if_pos (by omega), if_neg (by omega)]
        omega
  · rw [if_neg ch]
    have e : cnt (briv g B (tF z)) n = 0 := cnt_zero n (fun p hp => by
      unfold briv
      rw [(bplc_iff h.1 hp).mpr (f_all h.1 ch p hp)]
      simp)
    rw [e, if_pos (by decide)]
end VW
