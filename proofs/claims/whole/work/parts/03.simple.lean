/-! the two states as images of one; the small methods -/
theorem li_0 : (0 : Int32) = nI 0 := rfl
theorem li_1 : (1 : Int32) = nI 1 := rfl
theorem li_2 : (2 : Int32) = nI 2 := rfl
theorem li_3 : (3 : Int32) = nI 3 := rfl
theorem li_4 : (4 : Int32) = nI 4 := rfl
theorem li_6 : (6 : Int32) = nI 6 := rfl
theorem li_7 : (7 : Int32) = nI 7 := rfl
theorem li_8 : (8 : Int32) = nI 8 := rfl
theorem li_9 : (9 : Int32) = nI 9 := rfl
theorem li_10 : (10 : Int32) = nI 10 := rfl
theorem li_12 : (12 : Int32) = nI 12 := rfl
theorem li_21 : (21 : Int32) = nI 21 := rfl
theorem li_24 : (24 : Int32) = nI 24 := rfl
theorem li_31 : (31 : Int32) = nI 31 := rfl
theorem li_60 : (60 : Int32) = nI 60 := rfl
theorem li_63 : (63 : Int32) = nI 63 := rfl
theorem li_127 : (127 : Int32) = nI 127 := rfl
theorem li_128 : (128 : Int32) = nI 128 := rfl
theorem li_256 : (256 : Int32) = nI 256 := rfl
theorem li_312 : (312 : Int32) = nI 312 := rfl
theorem li_384 : (384 : Int32) = nI 384 := rfl
def pc_x (p : Nat → Nat) : Nat → Int32 := fun j => if p j = 0 then -nI 3 else nI (p j - 1)
def pc_y (p : Nat → Nat) : Nat → Int32 := fun j => if p j = 0 then -nI 1 else nI (p j - 1)
def mn_ (a : Nat) : Int32 := if a = 8 then -nI 3 else nI a
theorem pc_x0 {p : Nat → Nat} {j : Nat} (h : p j = 0) : pc_x p j = -nI 3 := if_pos h
theorem pc_xs {p : Nat → Nat} {j : Nat} (h : 0 < p j) : pc_x p j = nI (p j - 1) := if_neg (by omega)
theorem pc_y0 {p : Nat → Nat} {j : Nat} (h : p j = 0) : pc_y p j = -nI 1 := if_pos h
theorem pc_ys {p : Nat → Nat} {j : Nat} (h : 0 < p j) : pc_y p j = nI (p j - 1) := if_neg (by omega)
theorem pc_xu (p : Nat → Nat) (k x : Nat) : upd (pc_x p) k (nI x) = pc_x (st_n p k (x + 1)) := by
  funext j
  show (if j = k then nI x else if p j = 0 then -nI 3 else nI (p j - 1)) = if (if j = k then x + 1 else p j) = 0 then -nI 3 else nI ((if j = k then x + 1 else p j) - 1)
  by_cases h : j = k
  · rw [if_pos h, if_pos h, if_neg (by omega)]; rfl
  · rw [if_neg h, if_neg h]
theorem pc_yu (p : Nat → Nat) (k x : Nat) : upd (pc_y p) k (nI x) = pc_y (st_n p k (x + 1)) := by
  funext j
  show (if j = k then nI x else if p j = 0 then -nI 1 else nI (p j - 1)) = if (if j = k then x + 1 else p j) = 0 then -nI 1 else nI ((if j = k then x + 1 else p j) - 1)
  by_cases h : j = k
  · rw [if_pos h, if_pos h, if_neg (by omega)]; rfl
  · rw [if_neg h, if_neg h]
theorem ng_3 {a : Nat} (h : a < 2 ^ 31) : ¬ nI a = -nI 3 := by
  intro z
  have := congrArg Int32.toInt z
  rw [nI_toInt h, show (-nI 3 : Int32).toInt = -3 from by decide] at this
  omega
theorem ng_3' {a : Nat} (h : a < 2 ^ 31) : ¬ -nI 3 = nI a := fun z => ng_3 h z.symm
theorem ng_1 {a : Nat} (h : a < 2 ^ 31) : ¬ nI a = -nI 1 := by
  intro z
  have := congrArg Int32.toInt z
  rw [nI_toInt h, show (-nI 1 : Int32).toInt = -1 from by decide] at this
  omega
theorem ng_1' {a : Nat} (h : a < 2 ^ 31) : ¬ -nI 1 = nI a := fun z => ng_1 h z.symm
theorem ng_1le {a : Nat} (h : a < 2 ^ 31) : -nI 1 ≤ nI a := by
  rw [Int32.le_iff_toInt_le, nI_toInt h, show (-nI 1 : Int32).toInt = -1 from by decide]; omega
theorem ng_1lt {a : Nat} (h : a < 2 ^ 31) : -nI 1 < nI a := by
  rw [Int32.lt_iff_toInt_lt, nI_toInt h, show (-nI 1 : Int32).toInt = -1 from by decide]; omega
/-- is a number within a range -/
def iz (a b : Nat) (x : Int32) : Bool := decide ((a : Int) ≤ x.toInt ∧ x.toInt ≤ (b : Int))
theorem iz_n {a b j : Nat} (h : j < 2 ^ 31) : iz a b (nI j) = decide (a ≤ j ∧ j ≤ b) := by
  unfold iz
  rw [nI_toInt h]
  exact decide_eq_decide.mpr (by omega)
theorem iz_c (a b : Nat) (x : Int32) : iz a b x = false ∨ ∃ j, a ≤ j ∧ j ≤ b ∧ j < 2 ^ 31 ∧ x = nI j ∧ iz a b (nI j) = true := by
  cases h : iz a b x with
  | false => exact Or.inl rfl
  | true =>
    right
    have h' := h
    unfold iz at h'
    rw [decide_eq_true_eq] at h'
    have hx : ¬ x < 0 := by
      rw [Int32.lt_iff_toInt_lt, show (0 : Int32).toInt = 0 from by decide]; omega
    obtain ⟨j, hj, rfl⟩ := nI_of hx
    rw [nI_toInt hj] at h'
    exact ⟨j, by omega, by omega, hj, rfl, h⟩
theorem iz_lt {a b : Nat} {x : Int32} (ha : a < 2 ^ 31) (hb : b < 2 ^ 31) {P : Int32 → Prop} : ((x < nI a → P (nI 0)) ∧ (¬ x < nI a → ((nI b < x → P (nI 0)) ∧ (¬ nI b < x → P (nI 1))))) ↔ P (bo_i (iz a b x)) := by
  unfold iz
  simp only [Int32.lt_iff_toInt_lt, nI_toInt ha, nI_toInt hb]
  by_cases h1 : x.toInt < a
  · rw [decide_eq_false (by omega)]; simp [h1]; exact Iff.rfl
  · by_cases h2 : (b : Int) < x.toInt
    · rw [decide_eq_false (by omega)]; simp [h1, h2]; exact Iff.rfl
    · rw [decide_eq_true (by omega)]; simp [h1, h2]; exact Iff.rfl
theorem iz_le {b : Nat} {x : Int32} (hb : b + 1 < 2 ^ 31) {P : Int32 → Prop} : ((x < nI 0 → P (nI 0)) ∧ (¬ x < nI 0 → ((nI (b + 1) ≤ x → P (nI 0)) ∧ (¬ nI (b + 1) ≤ x → P (nI 1))))) ↔ P (bo_i (iz 0 b x)) := by
  unfold iz
  simp only [Int32.lt_iff_toInt_lt, Int32.le_iff_toInt_le, nI_toInt hb, nI_toInt (show 0 < 2 ^ 31 by decide)]
  by_cases h1 : x.toInt < 0
  · rw [decide_eq_false (by omega)]; simp [h1]; exact Iff.rfl
  · by_cases h2 : ((b + 1 : Nat) : Int) ≤ x.toInt
    · rw [decide_eq_false (by omega)]; simp only [h2]; simp [h1]; exact Iff.rfl
    · rw [decide_eq_true (by omega)]; simp only [h2]; simp [h1]; exact Iff.rfl
section
variable {bg : Nat} {df iq tb up fa co fr dn : Nat → Bool} {op ov sp sv qb qi qj qv ql so ba an pk kv vo kn : Nat → Nat} {srt num : Nat → Int32}
variable {post : Int32 → Prop} {x : Int32} {a b s k t n : Nat}
theorem xc_within (ha : a < 2 ^ 31) (hb : b < 2 ^ 31) : wpX_within post x (nI a) (nI b) ↔ post (bo_i (iz a b x)) := iz_lt ha hb
theorem yc_in (ha : a < 2 ^ 31) (hb : b < 2 ^ 31) : wpY_in post x (nI a) (nI b) ↔ post (bo_i (iz a b x)) := iz_lt ha hb
theorem xc_isNode : wpX_isNode post x ↔ post (bo_i (iz 0 6 x)) := iz_le (b := 6) (by decide)
theorem xc_isKind : wpX_isKind post x ↔ post (bo_i (iz 0 2 x)) := iz_le (b := 2) (by decide)
theorem xc_isInstance : wpX_isInstance post x ↔ post (bo_i (iz 0 2 x)) := iz_le (b := 2) (by decide)
theorem xc_isLearner : wpX_isLearner post x ↔ post (bo_i (iz 0 1 x)) := iz_le (b := 1) (by decide)
theorem xc_isValue : wpX_isValue post x ↔ post (bo_i (iz 1 7 x)) := iz_lt (by decide) (by decide)
theorem xc_isBallot (hb : bg ≤ 12) : wpX_isBallot post (nI bg, ar_b df, ar_b iq, ar_b tb, ar_b up, ar_n op, ar_n ov, ar_n sp, ar_n sv, ar_n qb, ar_n qi, ar_n qv, ar_n ql, ar_n so, ar_b fa, ar_n ba, ar_n an, ar_b co, pc_x pk, ar_b fr, ar_n kv, ar_n vo, ar_n kn) x ↔ post (bo_i (iz 1 bg x)) := iz_lt (by decide) (by omega)
theorem yc_isBallot (hb : bg ≤ 12) : wpY_isBallot post (nI bg, srt, num, ar_n so, ar_n ba, ar_n an, pc_y pk, ar_n kv, ar_b fa, ar_b co, ar_b fr, ar_b dn, ar_n sp, ar_n sv, ar_n ql, ar_n qb, ar_n qj, ar_n qv, ar_n vo, ar_n kn) x ↔ post (bo_i (iz 1 bg x)) := by
  simp only [wpY_isBallot]
  refine (iz_lt (a := 1) (b := bg) (by decide) (by omega) (P := fun r => narrow .boolean (.int r) = .int r ∧ post r)).trans ?_
  simp only [bo_w, true_and]
theorem xc_tallyCell : wpX_tallyCell post (nI a) (nI b) (nI k) ↔ post (nI ((a * 3 + b) * 8 + k)) := by
  simp (disch := first | omega | assumption) only [li_0, li_1, li_2, li_3, li_4, li_6, li_7, li_8, li_9, li_10, li_12, li_21, li_24, li_31, li_60, li_63, li_127, li_128, li_256, li_312, li_384, nI_add, nu_mul, nu_sub, nu_div, nu_and, nu_or, nu_shr, nu_bit, nu_diff, bi_2, nI_leI, nI_ltI, nI_eq, vp_in_nI, nI_clamp, ar_na, ar_ba, bo_0, bo_1, bo_it, bo_if, bo_w, bo_w0, bo_w1, bo_nar, bo_n1, bo_nn0, st_bu, st_bu1, st_bu0, st_nu, forall_eq, true_implies, false_implies, forall_const, not_true_eq_false, not_false_eq_true, and_true, true_and, implies_true, and_self, Bool.false_eq_true, Bool.true_eq_false, reduceCtorEq, ite_true, ite_false, if_true, if_false, eq_self, Nat.zero_add, Nat.add_zero, Nat.le_refl, Nat.lt_irrefl, Nat.reduceEqDiff, Nat.reduceLeDiff, Nat.reduceLT, Nat.reduceAdd, Nat.reduceMul, Nat.reduceSub, wpX_tallyCell]
theorem xc_holds (hs : s < 4) (hk : k < 3) (ht : t < 128) : wpX_holds post (nI bg, ar_b df, ar_b iq, ar_b tb, ar_b up, ar_n op, ar_n ov, ar_n sp, ar_n sv, ar_n qb, ar_n qi, ar_n qv, ar_n ql, ar_n so, ar_b fa, ar_n ba, ar_n an, ar_b co, pc_x pk, ar_b fr, ar_n kv, ar_n vo, ar_n kn) (nI s) (nI k) (nI t) ↔ post (bo_i (iq (s * 384 + k * 128 + t))) := by
  simp (disch := first | omega | assumption) only [li_0, li_1, li_2, li_3, li_4, li_6, li_7, li_8, li_9, li_10, li_12, li_21, li_24, li_31, li_60, li_63, li_127, li_128, li_256, li_312, li_384, nI_add, nu_mul, nu_sub, nu_div, nu_and, nu_or, nu_shr, nu_bit, nu_diff, bi_2, nI_leI, nI_ltI, nI_eq, vp_in_nI, nI_clamp, ar_na, ar_ba, bo_0, bo_1, bo_it, bo_if, bo_w, bo_w0, bo_w1, bo_nar, bo_n1, bo_nn0, st_bu, st_bu1, st_bu0, st_nu, forall_eq, true_implies, false_implies, forall_const, not_true_eq_false, not_false_eq_true, and_true, true_and, implies_true, and_self, Bool.false_eq_true, Bool.true_eq_false, reduceCtorEq, ite_true, ite_false, if_true, if_false, eq_self, Nat.zero_add, Nat.add_zero, Nat.le_refl, Nat.lt_irrefl, Nat.reduceEqDiff, Nat.reduceLeDiff, Nat.reduceLT, Nat.reduceAdd, Nat.reduceMul, Nat.reduceSub, wpX_holds]
theorem xc_sizeOf (hs : s < 128) : wpX_sizeOf post (nI s) ↔ post (nI (sz_ s)) := by
  simp only [wpX_sizeOf]
  refine lo_fold (W := fun n i a => wX_sizeOf_4 post (nI s) n (nI a) (nI i)) (fin := fun a => post (nI a)) (I := fun i a => a ≤ i) (e := 7) (fun n a => a + s / 2 ^ n % 2) (fun _ _ h => h) ?_ ?_ ?_ 7 0 0 rfl (Nat.le_refl _)
  · intro i a _ h
    have : s / 2 ^ i % 2 < 2 := Nat.mod_lt _ (by decide)
    omega
  · intro n a _
    simp (disch := first | omega | assumption) only [li_0, li_1, li_2, li_3, li_4, li_6, li_7, li_8, li_9, li_10, li_12, li_21, li_24, li_31, li_60, li_63, li_127, li_128, li_256, li_312, li_384, nI_add, nu_mul, nu_sub, nu_div, nu_and, nu_or, nu_shr, nu_bit, nu_diff, bi_2, nI_leI, nI_ltI, nI_eq, vp_in_nI, nI_clamp, ar_na, ar_ba, bo_0, bo_1, bo_it, bo_if, bo_w, bo_w0, bo_w1, bo_nar, bo_n1, bo_nn0, st_bu, st_bu1, st_bu0, st_nu, forall_eq, true_implies, false_implies, forall_const, not_true_eq_false, not_false_eq_true, and_true, true_and, implies_true, and_self, Bool.false_eq_true, Bool.true_eq_false, reduceCtorEq, ite_true, ite_false, if_true, if_false, eq_self, Nat.zero_add, Nat.add_zero, Nat.le_refl, Nat.lt_irrefl, Nat.reduceEqDiff, Nat.reduceLeDiff, Nat.reduceLT, Nat.reduceAdd, Nat.reduceMul, Nat.reduceSub, wX_sizeOf_4]
  · intro n i a hi ha
    simp (disch := first | omega | assumption) only [li_0, li_1, li_2, li_3, li_4, li_6, li_7, li_8, li_9, li_10, li_12, li_21, li_24, li_31, li_60, li_63, li_127, li_128, li_256, li_312, li_384, nI_add, nu_mul, nu_sub, nu_div, nu_and, nu_or, nu_shr, nu_bit, nu_diff, bi_2, nI_leI, nI_ltI, nI_eq, vp_in_nI, nI_clamp, ar_na, ar_ba, bo_0, bo_1, bo_it, bo_if, bo_w, bo_w0, bo_w1, bo_nar, bo_n1, bo_nn0, st_bu, st_bu1, st_bu0, st_nu, forall_eq, true_implies, false_implies, forall_const, not_true_eq_false, not_false_eq_true, and_true, true_and, implies_true, and_self, Bool.false_eq_true, Bool.true_eq_false, reduceCtorEq, ite_true, ite_false, if_true, if_false, eq_self, Nat.zero_add, Nat.add_zero, Nat.le_refl, Nat.lt_irrefl, Nat.reduceEqDiff, Nat.reduceLeDiff, Nat.reduceLT, Nat.reduceAdd, Nat.reduceMul, Nat.reduceSub, wX_sizeOf_4, Nat.not_le.mpr hi, nu_shr, nu_and, bi_2]
theorem yc_size (hs : s < 128) : wpY_size post (nI s) ↔ post (nI (sz_ s)) := by
  simp only [wpY_size]
  refine lo_fold (W := fun n i a => wY_size_4 post (nI s) n (nI a) (nI i)) (fin := fun a => post (nI a)) (I := fun i a => a ≤ i) (e := 7) (fun n a => a + s / 2 ^ n % 2) (fun _ _ h => h) ?_ ?_ ?_ 7 0 0 rfl (Nat.le_refl _)
  · intro i a _ h
    have : s / 2 ^ i % 2 < 2 := Nat.mod_lt _ (by decide)
    omega
  · intro n a _
    simp (disch := first | omega | assumption) only [li_0, li_1, li_2, li_3, li_4, li_6, li_7, li_8, li_9, li_10, li_12, li_21, li_24, li_31, li_60, li_63, li_127, li_128, li_256, li_312, li_384, nI_add, nu_mul, nu_sub, nu_div, nu_and, nu_or, nu_shr, nu_bit, nu_diff, bi_2, nI_leI, nI_ltI, nI_eq, vp_in_nI, nI_clamp, ar_na, ar_ba, bo_0, bo_1, bo_it, bo_if, bo_w, bo_w0, bo_w1, bo_nar, bo_n1, bo_nn0, st_bu, st_bu1, st_bu0, st_nu, forall_eq, true_implies, false_implies, forall_const, not_true_eq_false, not_false_eq_true, and_true, true_and, implies_true, and_self, Bool.false_eq_true, Bool.true_eq_false, reduceCtorEq, ite_true, ite_false, if_true, if_false, eq_self, Nat.zero_add, Nat.add_zero, Nat.le_refl, Nat.lt_irrefl, Nat.reduceEqDiff, Nat.reduceLeDiff, Nat.reduceLT, Nat.reduceAdd, Nat.reduceMul, Nat.reduceSub, wY_size_4]
  · intro n i a hi ha
    simp (disch := first | omega | assumption) only [li_0, li_1, li_2, li_3, li_4, li_6, li_7, li_8, li_9, li_10, li_12, li_21, li_24, li_31, li_60, li_63, li_127, li_128, li_256, li_312, li_384, nI_add, nu_mul, nu_sub, nu_div, nu_and, nu_or, nu_shr, nu_bit, nu_diff, bi_2, nI_leI, nI_ltI, nI_eq, vp_in_nI, nI_clamp, ar_na, ar_ba, bo_0, bo_1, bo_it, bo_if, bo_w, bo_w0, bo_w1, bo_nar, bo_n1, bo_nn0, st_bu, st_bu1, st_bu0, st_nu, forall_eq, true_implies, false_implies, forall_const, not_true_eq_false, not_false_eq_true, and_true, true_and, implies_true, and_self, Bool.false_eq_true, Bool.true_eq_false, reduceCtorEq, ite_true, ite_false, if_true, if_false, eq_self, Nat.zero_add, Nat.add_zero, Nat.le_refl, Nat.lt_irrefl, Nat.reduceEqDiff, Nat.reduceLeDiff, Nat.reduceLT, Nat.reduceAdd, Nat.reduceMul, Nat.reduceSub, wY_size_4, Nat.not_le.mpr hi, nu_shr, nu_and, bi_2]
theorem mn_8 : mn_ 8 = -nI 3 := rfl
theorem mn_lt (h : a < 8) : mn_ a = nI a := if_neg (by omega)
theorem xc_lesser (ha : a ≤ 8) (hb : b ≤ 7) : wpX_lesser post (mn_ a) (nI b) ↔ post (mn_ (min a b)) := by
  rcases Nat.lt_or_ge a 8 with h | h
  · rw [mn_lt h, mn_lt (show min a b < 8 by omega)]
    by_cases z : a ≤ b
    · simp (disch := first | omega | assumption) only [li_0, li_1, li_2, li_3, li_4, li_6, li_7, li_8, li_9, li_10, li_12, li_21, li_24, li_31, li_60, li_63, li_127, li_128, li_256, li_312, li_384, nI_add, nu_mul, nu_sub, nu_div, nu_and, nu_or, nu_shr, nu_bit, nu_diff, bi_2, nI_leI, nI_ltI, nI_eq, vp_in_nI, nI_clamp, ar_na, ar_ba, bo_0, bo_1, bo_it, bo_if, bo_w, bo_w0, bo_w1, bo_nar, bo_n1, bo_nn0, st_bu, st_bu1, st_bu0, st_nu, forall_eq, true_implies, false_implies, forall_const, not_true_eq_false, not_false_eq_true, and_true, true_and, implies_true, and_self, Bool.false_eq_true, Bool.true_eq_false, reduceCtorEq, ite_true, ite_false, if_true, if_false, eq_self, Nat.zero_add, Nat.add_zero, Nat.le_refl, Nat.lt_irrefl, Nat.reduceEqDiff, Nat.reduceLeDiff, Nat.reduceLT, Nat.reduceAdd, Nat.reduceMul, Nat.reduceSub, wpX_lesser, ng_3, z, Nat.min_eq_left z]
    · simp (disch := first | omega | assumption) only [li_0, li_1, li_2, li_3, li_4, li_6, li_7, li_8, li_9, li_10, li_12, li_21, li_24, li_31, li_60, li_63, li_127, li_128, li_256, li_312, li_384, nI_add, nu_mul, nu_sub, nu_div, nu_and, nu_or, nu_shr, nu_bit, nu_diff, bi_2, nI_leI, nI_ltI, nI_eq, vp_in_nI, nI_clamp, ar_na, ar_ba, bo_0, bo_1, bo_it, bo_if, bo_w, bo_w0, bo_w1, bo_nar, bo_n1, bo_nn0, st_bu, st_bu1, st_bu0, st_nu, forall_eq, true_implies, false_implies, forall_const, not_true_eq_false, not_false_eq_true, and_true, true_and, implies_true, and_self, Bool.false_eq_true, Bool.true_eq_false, reduceCtorEq, ite_true, ite_false, if_true, if_false, eq_self, Nat.zero_add, Nat.add_zero, Nat.le_refl, Nat.lt_irrefl, Nat.reduceEqDiff, Nat.reduceLeDiff, Nat.reduceLT, Nat.reduceAdd, Nat.reduceMul, Nat.reduceSub, wpX_lesser, ng_3, z, Nat.min_eq_right (show b ≤ a by omega)]
  · obtain rfl : a = 8 := by omega
    rw [mn_8, mn_lt (show min 8 b < 8 by omega), Nat.min_eq_right (by omega)]
    simp (disch := first | omega | assumption) only [li_0, li_1, li_2, li_3, li_4, li_6, li_7, li_8, li_9, li_10, li_12, li_21, li_24, li_31, li_60, li_63, li_127, li_128, li_256, li_312, li_384, nI_add, nu_mul, nu_sub, nu_div, nu_and, nu_or, nu_shr, nu_bit, nu_diff, bi_2, nI_leI, nI_ltI, nI_eq, vp_in_nI, nI_clamp, ar_na, ar_ba, bo_0, bo_1, bo_it, bo_if, bo_w, bo_w0, bo_w1, bo_nar, bo_n1, bo_nn0, st_bu, st_bu1, st_bu0, st_nu, forall_eq, true_implies, false_implies, forall_const, not_true_eq_false, not_false_eq_true, and_true, true_and, implies_true, and_self, Bool.false_eq_true, Bool.true_eq_false, reduceCtorEq, ite_true, ite_false, if_true, if_false, eq_self, Nat.zero_add, Nat.add_zero, Nat.le_refl, Nat.lt_irrefl, Nat.reduceEqDiff, Nat.reduceLeDiff, Nat.reduceLT, Nat.reduceAdd, Nat.reduceMul, Nat.reduceSub, wpX_lesser]
end
