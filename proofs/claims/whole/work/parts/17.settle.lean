/-! a record is synced; sync -/
def sh_ (f : Nat → Nat) (base d : Nat) : Nat → Nat := fun j => if base ≤ j ∧ j < base + d then f (j + 1) else f j
theorem sh_0 {f : Nat → Nat} {base : Nat} : sh_ f base 0 = f := by
  funext j; exact if_neg (by omega)
theorem sh_s {f : Nat → Nat} {base p : Nat} : st_n (sh_ f base p) (base + p) (sh_ f base p (base + p + 1)) = sh_ f base (p + 1) := by
  funext j
  show (if j = base + p then (if base ≤ base + p + 1 ∧ base + p + 1 < base + p then f (base + p + 1 + 1) else f (base + p + 1)) else if base ≤ j ∧ j < base + p then f (j + 1) else f j) = if base ≤ j ∧ j < base + (p + 1) then f (j + 1) else f j
  by_cases e : j = base + p
  · rw [if_pos e, if_neg (by omega), if_pos (by omega), e]
  · rw [if_neg e]
    by_cases h : base ≤ j ∧ j < base + p
    · rw [if_pos h, if_pos (by omega)]
    · rw [if_neg h, if_neg (by omega)]
theorem sh_in {f : Nat → Nat} {base d j : Nat} (h1 : base ≤ j) (h2 : j < base + d) : sh_ f base d j = f (j + 1) := if_pos ⟨h1, h2⟩
theorem sh_out {f : Nat → Nat} {base d j : Nat} (h : j < base ∨ base + d ≤ j) : sh_ f base d j = f j := if_neg (by omega)
theorem lo_shift {α : Type} {f g : Nat → α → α} : ∀ d s a, (∀ k a, s ≤ k → k < s + d → g k a = f (k + 1) a) → lo_f f d (s + 1) a = lo_f g d s a
  | 0, _, _, _ => rfl
  | d + 1, s, a, h => by
    unfold lo_f
    rw [h s a (Nat.le_refl _) (by omega)]
    exact lo_shift d (s + 1) _ (fun k a h1 h2 => h k a (by omega) (by omega))
theorem or_bit {a n m : Nat} (h : (a ||| 2 ^ n) / 2 ^ m % 2 = 1) : m = n ∨ a / 2 ^ m % 2 = 1 := by
  have h' : (a ||| 2 ^ n).testBit m = true := by rw [Nat.testBit_eq_decide_div_mod_eq, decide_eq_true h]
  rw [Nat.testBit_or, Bool.or_eq_true, Nat.testBit_two_pow] at h'
  rcases h' with g | g
  · right
    rw [Nat.testBit_eq_decide_div_mod_eq, decide_eq_true_eq] at g
    exact g
  · left
    have := of_decide_eq_true g
    omega
theorem cm_8 (m : Nat) : 8 * m = m * 8 := Nat.mul_comm _ _
theorem cm_24' (b i v : Nat) : 24 * b + i * 8 + v = (b * 3 + i) * 8 + v := by omega
section
variable {bg : Nat} {df iq tb up fa co fr dn : Nat → Bool} {op ov sp sv qb qi qj qv ql so ba an pk kv vo kn : Nat → Nat} {srt num : Nat → Int32}
variable {x y z : Int32} {s k t m n i j a b v f l : Nat}
theorem xc_dropFirst {post : SX → Prop} (hn : n < 7) (hq1 : 1 ≤ ql n) (hq6 : ql n ≤ 6) : wpX_dropFirst post (nI bg, ar_b df, ar_b iq, ar_b tb, ar_b up, ar_n op, ar_n ov, ar_n sp, ar_n sv, ar_n qb, ar_n qi, ar_n qv, ar_n ql, ar_n so, ar_b fa, ar_n ba, ar_n an, ar_b co, pc_x pk, ar_b fr, ar_n kv, ar_n vo, ar_n kn) (nI n) ↔ post (nI bg, ar_b df, ar_b iq, ar_b tb, ar_b up, ar_n op, ar_n ov, ar_n sp, ar_n sv, ar_n (sh_ qb (n * 6) (ql n - 1)), ar_n (sh_ qi (n * 6) (ql n - 1)), ar_n (sh_ qv (n * 6) (ql n - 1)), ar_n (st_n ql n (ql n - 1)), ar_n so, ar_b fa, ar_n ba, ar_n an, ar_b co, pc_x pk, ar_b fr, ar_n kv, ar_n vo, ar_n kn) := by
  simp (disch := first | omega | assumption) only [li_0, li_1, li_2, li_3, li_4, li_6, li_7, li_8, li_9, li_10, li_12, li_21, li_24, li_31, li_60, li_63, li_127, li_128, li_256, li_312, li_384, nI_add, nu_mul, nu_sub, nu_div, nu_and, nu_or, nu_shr, nu_bit, nu_diff, bi_2, nI_leI, nI_ltI, nI_eq, vp_in_nI, nI_clamp, ar_na, ar_ba, bo_0, bo_1, bo_it, bo_if, bo_w, bo_w0, bo_w1, bo_nar, bo_n1, bo_nn0, st_bu, st_bu1, st_bu0, st_nu, forall_eq, true_implies, false_implies, forall_const, not_true_eq_false, not_false_eq_true, and_true, true_and, implies_true, and_self, Bool.false_eq_true, Bool.true_eq_false, reduceCtorEq, ite_true, ite_false, if_true, if_false, eq_self, Nat.zero_add, Nat.add_zero, Nat.le_refl, Nat.lt_irrefl, Nat.reduceEqDiff, Nat.reduceLeDiff, Nat.reduceLT, Nat.reduceAdd, Nat.reduceMul, Nat.reduceSub, wpX_dropFirst]
  have key := lo_fold (W := fun m p (_ : Unit) => wX_dropFirst_18 post (nI n) (nI (ql n - 1)) (nI bg) m (nI p) (ar_b df) (ar_b iq) (ar_b tb) (ar_b up) (ar_n op) (ar_n ov) (ar_n sp) (ar_n sv) (ar_n (sh_ qb (n * 6) p)) (ar_n (sh_ qi (n * 6) p)) (ar_n (sh_ qv (n * 6) p)) (ar_n (st_n ql n (ql n - 1))) (ar_n so) (ar_b fa) (ar_n ba) (ar_n an) (ar_b co) (pc_x pk) (ar_b fr) (ar_n kv) (ar_n vo) (ar_n kn)) (fin := fun _ => post (nI bg, ar_b df, ar_b iq, ar_b tb, ar_b up, ar_n op, ar_n ov, ar_n sp, ar_n sv, ar_n (sh_ qb (n * 6) (ql n - 1)), ar_n (sh_ qi (n * 6) (ql n - 1)), ar_n (sh_ qv (n * 6) (ql n - 1)), ar_n (st_n ql n (ql n - 1)), ar_n so, ar_b fa, ar_n ba, ar_n an, ar_b co, pc_x pk, ar_b fr, ar_n kv, ar_n vo, ar_n kn)) (I := fun _ _ => True) (e := ql n - 1) (fun _ a => a) (fun _ _ h => h) (fun _ _ _ _ => trivial)
    (by
      intro m _ _
      simp (disch := first | omega | assumption) only [li_0, li_1, li_2, li_3, li_4, li_6, li_7, li_8, li_9, li_10, li_12, li_21, li_24, li_31, li_60, li_63, li_127, li_128, li_256, li_312, li_384, nI_add, nu_mul, nu_sub, nu_div, nu_and, nu_or, nu_shr, nu_bit, nu_diff, bi_2, nI_leI, nI_ltI, nI_eq, vp_in_nI, nI_clamp, ar_na, ar_ba, bo_0, bo_1, bo_it, bo_if, bo_w, bo_w0, bo_w1, bo_nar, bo_n1, bo_nn0, st_bu, st_bu1, st_bu0, st_nu, forall_eq, true_implies, false_implies, forall_const, not_true_eq_false, not_false_eq_true, and_true, true_and, implies_true, and_self, Bool.false_eq_true, Bool.true_eq_false, reduceCtorEq, ite_true, ite_false, if_true, if_false, eq_self, Nat.zero_add, Nat.add_zero, Nat.le_refl, Nat.lt_irrefl, Nat.reduceEqDiff, Nat.reduceLeDiff, Nat.reduceLT, Nat.reduceAdd, Nat.reduceMul, Nat.reduceSub, wX_dropFirst_18])
    (by
      intro m p _ hp _
      simp (disch := first | omega | assumption) only [li_0, li_1, li_2, li_3, li_4, li_6, li_7, li_8, li_9, li_10, li_12, li_21, li_24, li_31, li_60, li_63, li_127, li_128, li_256, li_312, li_384, nI_add, nu_mul, nu_sub, nu_div, nu_and, nu_or, nu_shr, nu_bit, nu_diff, bi_2, nI_leI, nI_ltI, nI_eq, vp_in_nI, nI_clamp, ar_na, ar_ba, bo_0, bo_1, bo_it, bo_if, bo_w, bo_w0, bo_w1, bo_nar, bo_n1, bo_nn0, st_bu, st_bu1, st_bu0, st_nu, forall_eq, true_implies, false_implies, forall_const, not_true_eq_false, not_false_eq_true, and_true, true_and, implies_true, and_self, Bool.false_eq_true, Bool.true_eq_false, reduceCtorEq, ite_true, ite_false, if_true, if_false, eq_self, Nat.zero_add, Nat.add_zero, Nat.le_refl, Nat.lt_irrefl, Nat.reduceEqDiff, Nat.reduceLeDiff, Nat.reduceLT, Nat.reduceAdd, Nat.reduceMul, Nat.reduceSub, wX_dropFirst_18, Nat.not_le.mpr hp, sh_s]) (ql n - 1) 0 () (Nat.zero_add _) trivial
  rw [sh_0, sh_0, sh_0] at key
  exact key
theorem xc_keepAnswer {post : SX → Prop} (hn : n < 7) (hb : b ≤ 12) : wpX_keepAnswer post (nI bg, ar_b df, ar_b iq, ar_b tb, ar_b up, ar_n op, ar_n ov, ar_n sp, ar_n sv, ar_n qb, ar_n qi, ar_n qv, ar_n ql, ar_n so, ar_b fa, ar_n ba, ar_n an, ar_b co, pc_x pk, ar_b fr, ar_n kv, ar_n vo, ar_n kn) (nI b) (nI n) ↔ post (nI bg, ar_b df, ar_b iq, ar_b tb, ar_b up, ar_n op, ar_n ov, ar_n sp, ar_n sv, ar_n qb, ar_n qi, ar_n qv, ar_n ql, ar_n so, ar_b fa, ar_n ba, ar_n (st_n an b (an b ||| 2 ^ n)), ar_b co, pc_x pk, ar_b fr, ar_n (kp_ kv (b * 21 + n * 3) (fun i => sv (n * 3 + i)) 3), ar_n vo, ar_n kn) := by
  simp (disch := first | omega | assumption) only [li_0, li_1, li_2, li_3, li_4, li_6, li_7, li_8, li_9, li_10, li_12, li_21, li_24, li_31, li_60, li_63, li_127, li_128, li_256, li_312, li_384, nI_add, nu_mul, nu_sub, nu_div, nu_and, nu_or, nu_shr, nu_bit, nu_diff, bi_2, nI_leI, nI_ltI, nI_eq, vp_in_nI, nI_clamp, ar_na, ar_ba, bo_0, bo_1, bo_it, bo_if, bo_w, bo_w0, bo_w1, bo_nar, bo_n1, bo_nn0, st_bu, st_bu1, st_bu0, st_nu, forall_eq, true_implies, false_implies, forall_const, not_true_eq_false, not_false_eq_true, and_true, true_and, implies_true, and_self, Bool.false_eq_true, Bool.true_eq_false, reduceCtorEq, ite_true, ite_false, if_true, if_false, eq_self, Nat.zero_add, Nat.add_zero, Nat.le_refl, Nat.lt_irrefl, Nat.reduceEqDiff, Nat.reduceLeDiff, Nat.reduceLT, Nat.reduceAdd, Nat.reduceMul, Nat.reduceSub, wpX_keepAnswer]
  have key := lo_fold (W := fun m p (_ : Unit) => wX_keepAnswer_14 post (nI b) (nI n) (nI bg) m (nI p) (ar_b df) (ar_b iq) (ar_b tb) (ar_b up) (ar_n op) (ar_n ov) (ar_n sp) (ar_n sv) (ar_n qb) (ar_n qi) (ar_n qv) (ar_n ql) (ar_n so) (ar_b fa) (ar_n ba) (ar_n (st_n an b (an b ||| 2 ^ n))) (ar_b co) (pc_x pk) (ar_b fr) (ar_n (kp_ kv (b * 21 + n * 3) (fun i => sv (n * 3 + i)) p)) (ar_n vo) (ar_n kn)) (fin := fun _ => post (nI bg, ar_b df, ar_b iq, ar_b tb, ar_b up, ar_n op, ar_n ov, ar_n sp, ar_n sv, ar_n qb, ar_n qi, ar_n qv, ar_n ql, ar_n so, ar_b fa, ar_n ba, ar_n (st_n an b (an b ||| 2 ^ n)), ar_b co, pc_x pk, ar_b fr, ar_n (kp_ kv (b * 21 + n * 3) (fun i => sv (n * 3 + i)) 3), ar_n vo, ar_n kn)) (I := fun _ _ => True) (e := 3) (fun _ a => a) (fun _ _ h => h) (fun _ _ _ _ => trivial)
    (by
      intro m _ _
      simp (disch := first | omega | assumption) only [li_0, li_1, li_2, li_3, li_4, li_6, li_7, li_8, li_9, li_10, li_12, li_21, li_24, li_31, li_60, li_63, li_127, li_128, li_256, li_312, li_384, nI_add, nu_mul, nu_sub, nu_div, nu_and, nu_or, nu_shr, nu_bit, nu_diff, bi_2, nI_leI, nI_ltI, nI_eq, vp_in_nI, nI_clamp, ar_na, ar_ba, bo_0, bo_1, bo_it, bo_if, bo_w, bo_w0, bo_w1, bo_nar, bo_n1, bo_nn0, st_bu, st_bu1, st_bu0, st_nu, forall_eq, true_implies, false_implies, forall_const, not_true_eq_false, not_false_eq_true, and_true, true_and, implies_true, and_self, Bool.false_eq_true, Bool.true_eq_false, reduceCtorEq, ite_true, ite_false, if_true, if_false, eq_self, Nat.zero_add, Nat.add_zero, Nat.le_refl, Nat.lt_irrefl, Nat.reduceEqDiff, Nat.reduceLeDiff, Nat.reduceLT, Nat.reduceAdd, Nat.reduceMul, Nat.reduceSub, wX_keepAnswer_14])
    (by
      intro m p _ hp _
      simp (disch := first | omega | assumption) only [li_0, li_1, li_2, li_3, li_4, li_6, li_7, li_8, li_9, li_10, li_12, li_21, li_24, li_31, li_60, li_63, li_127, li_128, li_256, li_312, li_384, nI_add, nu_mul, nu_sub, nu_div, nu_and, nu_or, nu_shr, nu_bit, nu_diff, bi_2, nI_leI, nI_ltI, nI_eq, vp_in_nI, nI_clamp, ar_na, ar_ba, bo_0, bo_1, bo_it, bo_if, bo_w, bo_w0, bo_w1, bo_nar, bo_n1, bo_nn0, st_bu, st_bu1, st_bu0, st_nu, forall_eq, true_implies, false_implies, forall_const, not_true_eq_false, not_false_eq_true, and_true, true_and, implies_true, and_self, Bool.false_eq_true, Bool.true_eq_false, reduceCtorEq, ite_true, ite_false, if_true, if_false, eq_self, Nat.zero_add, Nat.add_zero, Nat.le_refl, Nat.lt_irrefl, Nat.reduceEqDiff, Nat.reduceLeDiff, Nat.reduceLT, Nat.reduceAdd, Nat.reduceMul, Nat.reduceSub, wX_keepAnswer_14, Nat.not_le.mpr hp]
      rw [← kp_s]) 3 0 () rfl trivial
  rw [kp_0] at key
  exact key
theorem xc_countVote {post : SX → Prop} (hn : n < 7) (hb : b ≤ 12) (hi : i < 3) (hv : v ≤ 7) : wpX_countVote post (nI bg, ar_b df, ar_b iq, ar_b tb, ar_b up, ar_n op, ar_n ov, ar_n sp, ar_n sv, ar_n qb, ar_n qi, ar_n qv, ar_n ql, ar_n so, ar_b fa, ar_n ba, ar_n an, ar_b co, pc_x pk, ar_b fr, ar_n kv, ar_n vo, ar_n kn) (nI b) (nI i) (nI n) (nI v) ↔ post (nI bg, ar_b df, ar_b iq, ar_b tb, ar_b up, ar_n op, ar_n ov, ar_n sp, ar_n (st_n sv (n * 3 + i) (b * 8 + v)), ar_n qb, ar_n qi, ar_n qv, ar_n ql, ar_n so, ar_b fa, ar_n ba, ar_n an, ar_b co, pc_x pk, ar_b fr, ar_n kv, ar_n (st_n vo ((b * 3 + i) * 8 + v) (vo ((b * 3 + i) * 8 + v) ||| 2 ^ n)), ar_n kn) := by
  simp (disch := first | omega | assumption) only [li_0, li_1, li_2, li_3, li_4, li_6, li_7, li_8, li_9, li_10, li_12, li_21, li_24, li_31, li_60, li_63, li_127, li_128, li_256, li_312, li_384, nI_add, nu_mul, nu_sub, nu_div, nu_and, nu_or, nu_shr, nu_bit, nu_diff, bi_2, nI_leI, nI_ltI, nI_eq, vp_in_nI, nI_clamp, ar_na, ar_ba, bo_0, bo_1, bo_it, bo_if, bo_w, bo_w0, bo_w1, bo_nar, bo_n1, bo_nn0, st_bu, st_bu1, st_bu0, st_nu, forall_eq, true_implies, false_implies, forall_const, not_true_eq_false, not_false_eq_true, and_true, true_and, implies_true, and_self, Bool.false_eq_true, Bool.true_eq_false, reduceCtorEq, ite_true, ite_false, if_true, if_false, eq_self, Nat.zero_add, Nat.add_zero, Nat.le_refl, Nat.lt_irrefl, Nat.reduceEqDiff, Nat.reduceLeDiff, Nat.reduceLT, Nat.reduceAdd, Nat.reduceMul, Nat.reduceSub, wpX_countVote, xc_tallyCell]
theorem xc_syncA {post : SX → Prop} (hn : n < 7) (hq1 : 1 ≤ ql n) (hq6 : ql n ≤ 6) (hb : qb (n * 6) ≤ 12) (hv : qv (n * 6) = 0) : wpX_syncFirst post (nI bg, ar_b df, ar_b iq, ar_b tb, ar_b up, ar_n op, ar_n ov, ar_n sp, ar_n sv, ar_n qb, ar_n qi, ar_n qv, ar_n ql, ar_n so, ar_b fa, ar_n ba, ar_n an, ar_b co, pc_x pk, ar_b fr, ar_n kv, ar_n vo, ar_n kn) (nI n) ↔ post (nI bg, ar_b df, ar_b iq, ar_b tb, ar_b up, ar_n op, ar_n ov, ar_n (st_n sp n (qb (n * 6))), ar_n sv, ar_n (sh_ qb (n * 6) (ql n - 1)), ar_n (sh_ qi (n * 6) (ql n - 1)), ar_n (sh_ qv (n * 6) (ql n - 1)), ar_n (st_n ql n (ql n - 1)), ar_n so, ar_b fa, ar_n ba, ar_n (st_n an (qb (n * 6)) (an (qb (n * 6)) ||| 2 ^ n)), ar_b co, pc_x pk, ar_b fr, ar_n (kp_ kv (qb (n * 6) * 21 + n * 3) (fun i => sv (n * 3 + i)) 3), ar_n vo, ar_n kn) := by
  simp (disch := first | omega | assumption) only [li_0, li_1, li_2, li_3, li_4, li_6, li_7, li_8, li_9, li_10, li_12, li_21, li_24, li_31, li_60, li_63, li_127, li_128, li_256, li_312, li_384, nI_add, nu_mul, nu_sub, nu_div, nu_and, nu_or, nu_shr, nu_bit, nu_diff, bi_2, nI_leI, nI_ltI, nI_eq, vp_in_nI, nI_clamp, ar_na, ar_ba, bo_0, bo_1, bo_it, bo_if, bo_w, bo_w0, bo_w1, bo_nar, bo_n1, bo_nn0, st_bu, st_bu1, st_bu0, st_nu, forall_eq, true_implies, false_implies, forall_const, not_true_eq_false, not_false_eq_true, and_true, true_and, implies_true, and_self, Bool.false_eq_true, Bool.true_eq_false, reduceCtorEq, ite_true, ite_false, if_true, if_false, eq_self, Nat.zero_add, Nat.add_zero, Nat.le_refl, Nat.lt_irrefl, Nat.reduceEqDiff, Nat.reduceLeDiff, Nat.reduceLT, Nat.reduceAdd, Nat.reduceMul, Nat.reduceSub, wpX_syncFirst, wX_syncFirst_55, hv, xc_keepAnswer, xc_dropFirst]
theorem xc_syncV {post : SX → Prop} (hn : n < 7) (hq1 : 1 ≤ ql n) (hq6 : ql n ≤ 6) (hb : qb (n * 6) ≤ 12) (hv1 : 1 ≤ qv (n * 6)) (hv7 : qv (n * 6) ≤ 7) (hi : qi (n * 6) < 3) : wpX_syncFirst post (nI bg, ar_b df, ar_b iq, ar_b tb, ar_b up, ar_n op, ar_n ov, ar_n sp, ar_n sv, ar_n qb, ar_n qi, ar_n qv, ar_n ql, ar_n so, ar_b fa, ar_n ba, ar_n an, ar_b co, pc_x pk, ar_b fr, ar_n kv, ar_n vo, ar_n kn) (nI n) ↔ post (nI bg, ar_b df, ar_b iq, ar_b tb, ar_b up, ar_n op, ar_n ov, ar_n (st_n sp n (qb (n * 6))), ar_n (st_n sv (n * 3 + qi (n * 6)) (qb (n * 6) * 8 + qv (n * 6))), ar_n (sh_ qb (n * 6) (ql n - 1)), ar_n (sh_ qi (n * 6) (ql n - 1)), ar_n (sh_ qv (n * 6) (ql n - 1)), ar_n (st_n ql n (ql n - 1)), ar_n so, ar_b fa, ar_n ba, ar_n an, ar_b co, pc_x pk, ar_b fr, ar_n kv, ar_n (st_n vo ((qb (n * 6) * 3 + qi (n * 6)) * 8 + qv (n * 6)) (vo ((qb (n * 6) * 3 + qi (n * 6)) * 8 + qv (n * 6)) ||| 2 ^ n)), ar_n kn) := by
  simp (disch := first | omega | assumption) only [li_0, li_1, li_2, li_3, li_4, li_6, li_7, li_8, li_9, li_10, li_12, li_21, li_24, li_31, li_60, li_63, li_127, li_128, li_256, li_312, li_384, nI_add, nu_mul, nu_sub, nu_div, nu_and, nu_or, nu_shr, nu_bit, nu_diff, bi_2, nI_leI, nI_ltI, nI_eq, vp_in_nI, nI_clamp, ar_na, ar_ba, bo_0, bo_1, bo_it, bo_if, bo_w, bo_w0, bo_w1, bo_nar, bo_n1, bo_nn0, st_bu, st_bu1, st_bu0, st_nu, forall_eq, true_implies, false_implies, forall_const, not_true_eq_false, not_false_eq_true, and_true, true_and, implies_true, and_self, Bool.false_eq_true, Bool.true_eq_false, reduceCtorEq, ite_true, ite_false, if_true, if_false, eq_self, Nat.zero_add, Nat.add_zero, Nat.le_refl, Nat.lt_irrefl, Nat.reduceEqDiff, Nat.reduceLeDiff, Nat.reduceLT, Nat.reduceAdd, Nat.reduceMul, Nat.reduceSub, wpX_syncFirst, wX_syncFirst_55, show ¬ qv (n * 6) = 0 by omega, xc_countVote, xc_dropFirst]
theorem yc_settle140 {post : SY → Prop} (hn : n < 7) (hq1 : 1 ≤ ql n) (hq6 : ql n ≤ 6) : wY_settle_140 post (nI n) (nI bg) srt num (ar_n so) (ar_n ba) (ar_n an) (pc_y pk) (ar_n kv) (ar_b fa) (ar_b co) (ar_b fr) (ar_b dn) (ar_n sp) (ar_n sv) (ar_n ql) (ar_n qb) (ar_n qj) (ar_n qv) (ar_n vo) (ar_n kn) ↔ post (nI bg, srt, num, ar_n so, ar_n ba, ar_n an, pc_y pk, ar_n kv, ar_b fa, ar_b co, ar_b fr, ar_b dn, ar_n sp, ar_n sv, ar_n (st_n ql n (ql n - 1)), ar_n (sh_ qb (n * 6) (ql n - 1)), ar_n (sh_ qj (n * 6) (ql n - 1)), ar_n (sh_ qv (n * 6) (ql n - 1)), ar_n vo, ar_n kn) := by
  simp (disch := first | omega | assumption) only [li_0, li_1, li_2, li_3, li_4, li_6, li_7, li_8, li_9, li_10, li_12, li_21, li_24, li_31, li_60, li_63, li_127, li_128, li_256, li_312, li_384, nI_add, nu_mul, nu_sub, nu_div, nu_and, nu_or, nu_shr, nu_bit, nu_diff, bi_2, nI_leI, nI_ltI, nI_eq, vp_in_nI, nI_clamp, ar_na, ar_ba, bo_0, bo_1, bo_it, bo_if, bo_w, bo_w0, bo_w1, bo_nar, bo_n1, bo_nn0, st_bu, st_bu1, st_bu0, st_nu, forall_eq, true_implies, false_implies, forall_const, not_true_eq_false, not_false_eq_true, and_true, true_and, implies_true, and_self, Bool.false_eq_true, Bool.true_eq_false, reduceCtorEq, ite_true, ite_false, if_true, if_false, eq_self, Nat.zero_add, Nat.add_zero, Nat.le_refl, Nat.lt_irrefl, Nat.reduceEqDiff, Nat.reduceLeDiff, Nat.reduceLT, Nat.reduceAdd, Nat.reduceMul, Nat.reduceSub, wY_settle_140, cm_6]
  have key := lo_fold (W := fun m p (_ : Unit) => wY_settle_156 post (nI n) (nI bg) m (nI (n * 6 + p)) srt num (ar_n so) (ar_n ba) (ar_n an) (pc_y pk) (ar_n kv) (ar_b fa) (ar_b co) (ar_b fr) (ar_b dn) (ar_n sp) (ar_n sv) (ar_n (st_n ql n (ql n - 1))) (ar_n (sh_ qb (n * 6) p)) (ar_n (sh_ qj (n * 6) p)) (ar_n (sh_ qv (n * 6) p)) (ar_n vo) (ar_n kn)) (fin := fun _ => post (nI bg, srt, num, ar_n so, ar_n ba, ar_n an, pc_y pk, ar_n kv, ar_b fa, ar_b co, ar_b fr, ar_b dn, ar_n sp, ar_n sv, ar_n (st_n ql n (ql n - 1)), ar_n (sh_ qb (n * 6) (ql n - 1)), ar_n (sh_ qj (n * 6) (ql n - 1)), ar_n (sh_ qv (n * 6) (ql n - 1)), ar_n vo, ar_n kn)) (I := fun _ _ => True) (e := ql n - 1) (fun _ a => a) (fun _ _ h => h) (fun _ _ _ _ => trivial)
    (by
      intro m _ _
      simp (disch := first | omega | assumption) only [li_0, li_1, li_2, li_3, li_4, li_6, li_7, li_8, li_9, li_10, li_12, li_21, li_24, li_31, li_60, li_63, li_127, li_128, li_256, li_312, li_384, nI_add, nu_mul, nu_sub, nu_div, nu_and, nu_or, nu_shr, nu_bit, nu_diff, bi_2, nI_leI, nI_ltI, nI_eq, vp_in_nI, nI_clamp, ar_na, ar_ba, bo_0, bo_1, bo_it, bo_if, bo_w, bo_w0, bo_w1, bo_nar, bo_n1, bo_nn0, st_bu, st_bu1, st_bu0, st_nu, forall_eq, true_implies, false_implies, forall_const, not_true_eq_false, not_false_eq_true, and_true, true_and, implies_true, and_self, Bool.false_eq_true, Bool.true_eq_false, reduceCtorEq, ite_true, ite_false, if_true, if_false, eq_self, Nat.zero_add, Nat.add_zero, Nat.le_refl, Nat.lt_irrefl, Nat.reduceEqDiff, Nat.reduceLeDiff, Nat.reduceLT, Nat.reduceAdd, Nat.reduceMul, Nat.reduceSub, wY_settle_156, cm_6, st_eq])
    (by
      intro m p _ hp _
      have hp' : ¬ n * 6 + (ql n - 1) ≤ n * 6 + p := by omega
      simp (disch := first | omega | assumption) only [li_0, li_1, li_2, li_3, li_4, li_6, li_7, li_8, li_9, li_10, li_12, li_21, li_24, li_31, li_60, li_63, li_127, li_128, li_256, li_312, li_384, nI_add, nu_mul, nu_sub, nu_div, nu_and, nu_or, nu_shr, nu_bit, nu_diff, bi_2, nI_leI, nI_ltI, nI_eq, vp_in_nI, nI_clamp, ar_na, ar_ba, bo_0, bo_1, bo_it, bo_if, bo_w, bo_w0, bo_w1, bo_nar, bo_n1, bo_nn0, st_bu, st_bu1, st_bu0, st_nu, forall_eq, true_implies, false_implies, forall_const, not_true_eq_false, not_false_eq_true, and_true, true_and, implies_true, and_self, Bool.false_eq_true, Bool.true_eq_false, reduceCtorEq, ite_true, ite_false, if_true, if_false, eq_self, Nat.zero_add, Nat.add_zero, Nat.le_refl, Nat.lt_irrefl, Nat.reduceEqDiff, Nat.reduceLeDiff, Nat.reduceLT, Nat.reduceAdd, Nat.reduceMul, Nat.reduceSub, wY_settle_156, cm_6, st_eq, hp', sh_s]
      exact Iff.rfl) (ql n - 1) 0 () (Nat.zero_add _) trivial
  rw [sh_0, sh_0, sh_0, Nat.add_zero] at key
  exact key
theorem yc_settle101 {post : SY → Prop} (hn : n < 7) (hb : b ≤ 12) (hq1 : 1 ≤ ql n) (hq6 : ql n ≤ 6) : (∃ m, wY_settle_101 post (nI n) (nI b) (nI bg) m (nI 0) srt num (ar_n so) (ar_n ba) (ar_n an) (pc_y pk) (ar_n kv) (ar_b fa) (ar_b co) (ar_b fr) (ar_b dn) (ar_n sp) (ar_n sv) (ar_n ql) (ar_n qb) (ar_n qj) (ar_n qv) (ar_n vo) (ar_n kn)) ↔ post (nI bg, srt, num, ar_n so, ar_n ba, ar_n an, pc_y pk, ar_n (kp_ kv (b * 21 + n * 3) (fun i => sv (n * 3 + i)) 3), ar_b fa, ar_b co, ar_b fr, ar_b dn, ar_n sp, ar_n sv, ar_n (st_n ql n (ql n - 1)), ar_n (sh_ qb (n * 6) (ql n - 1)), ar_n (sh_ qj (n * 6) (ql n - 1)), ar_n (sh_ qv (n * 6) (ql n - 1)), ar_n vo, ar_n kn) := by
  have key := lo_fold (W := fun m p (_ : Unit) => wY_settle_101 post (nI n) (nI b) (nI bg) m (nI p) srt num (ar_n so) (ar_n ba) (ar_n an) (pc_y pk) (ar_n (kp_ kv (b * 21 + n * 3) (fun i => sv (n * 3 + i)) p)) (ar_b fa) (ar_b co) (ar_b fr) (ar_b dn) (ar_n sp) (ar_n sv) (ar_n ql) (ar_n qb) (ar_n qj) (ar_n qv) (ar_n vo) (ar_n kn)) (fin := fun _ => post (nI bg, srt, num, ar_n so, ar_n ba, ar_n an, pc_y pk, ar_n (kp_ kv (b * 21 + n * 3) (fun i => sv (n * 3 + i)) 3), ar_b fa, ar_b co, ar_b fr, ar_b dn, ar_n sp, ar_n sv, ar_n (st_n ql n (ql n - 1)), ar_n (sh_ qb (n * 6) (ql n - 1)), ar_n (sh_ qj (n * 6) (ql n - 1)), ar_n (sh_ qv (n * 6) (ql n - 1)), ar_n vo, ar_n kn)) (I := fun _ _ => True) (e := 3) (fun _ a => a) (fun _ _ h => h) (fun _ _ _ _ => trivial)
    (by
      intro m _ _
      simp (disch := first | omega | assumption) only [li_0, li_1, li_2, li_3, li_4, li_6, li_7, li_8, li_9, li_10, li_12, li_21, li_24, li_31, li_60, li_63, li_127, li_128, li_256, li_312, li_384, nI_add, nu_mul, nu_sub, nu_div, nu_and, nu_or, nu_shr, nu_bit, nu_diff, bi_2, nI_leI, nI_ltI, nI_eq, vp_in_nI, nI_clamp, ar_na, ar_ba, bo_0, bo_1, bo_it, bo_if, bo_w, bo_w0, bo_w1, bo_nar, bo_n1, bo_nn0, st_bu, st_bu1, st_bu0, st_nu, forall_eq, true_implies, false_implies, forall_const, not_true_eq_false, not_false_eq_true, and_true, true_and, implies_true, and_self, Bool.false_eq_true, Bool.true_eq_false, reduceCtorEq, ite_true, ite_false, if_true, if_false, eq_self, Nat.zero_add, Nat.add_zero, Nat.le_refl, Nat.lt_irrefl, Nat.reduceEqDiff, Nat.reduceLeDiff, Nat.reduceLT, Nat.reduceAdd, Nat.reduceMul, Nat.reduceSub, wY_settle_101, yc_settle140])
    (by
      intro m p _ hp _
      simp (disch := first | omega | assumption) only [li_0, li_1, li_2, li_3, li_4, li_6, li_7, li_8, li_9, li_10, li_12, li_21, li_24, li_31, li_60, li_63, li_127, li_128, li_256, li_312, li_384, nI_add, nu_mul, nu_sub, nu_div, nu_and, nu_or, nu_shr, nu_bit, nu_diff, bi_2, nI_leI, nI_ltI, nI_eq, vp_in_nI, nI_clamp, ar_na, ar_ba, bo_0, bo_1, bo_it, bo_if, bo_w, bo_w0, bo_w1, bo_nar, bo_n1, bo_nn0, st_bu, st_bu1, st_bu0, st_nu, forall_eq, true_implies, false_implies, forall_const, not_true_eq_false, not_false_eq_true, and_true, true_and, implies_true, and_self, Bool.false_eq_true, Bool.true_eq_false, reduceCtorEq, ite_true, ite_false, if_true, if_false, eq_self, Nat.zero_add, Nat.add_zero, Nat.le_refl, Nat.lt_irrefl, Nat.reduceEqDiff, Nat.reduceLeDiff, Nat.reduceLT, Nat.reduceAdd, Nat.reduceMul, Nat.reduceSub, wY_settle_101, Nat.not_le.mpr hp, cm_3, cm_21]
      rw [← kp_s]) 3 0 () rfl trivial
  rw [kp_0] at key
  exact key
theorem yc_settleA {post : SY → Prop} (hn : n < 7) (hq1 : 1 ≤ ql n) (hq6 : ql n ≤ 6) (hb : qb (n * 6) ≤ 12) (hj : qj (n * 6) = 3) : wpY_settle post (nI bg, srt, num, ar_n so, ar_n ba, ar_n an, pc_y pk, ar_n kv, ar_b fa, ar_b co, ar_b fr, ar_b dn, ar_n sp, ar_n sv, ar_n ql, ar_n qb, ar_n qj, ar_n qv, ar_n vo, ar_n kn) (nI n) ↔ post (nI bg, srt, num, ar_n so, ar_n ba, ar_n (st_n an (qb (n * 6)) (an (qb (n * 6)) ||| 2 ^ n)), pc_y pk, ar_n (kp_ kv (qb (n * 6) * 21 + n * 3) (fun i => sv (n * 3 + i)) 3), ar_b fa, ar_b co, ar_b fr, ar_b dn, ar_n (st_n sp n (qb (n * 6))), ar_n sv, ar_n (st_n ql n (ql n - 1)), ar_n (sh_ qb (n * 6) (ql n - 1)), ar_n (sh_ qj (n * 6) (ql n - 1)), ar_n (sh_ qv (n * 6) (ql n - 1)), ar_n vo, ar_n kn) := by
  simp (disch := first | omega | assumption) only [li_0, li_1, li_2, li_3, li_4, li_6, li_7, li_8, li_9, li_10, li_12, li_21, li_24, li_31, li_60, li_63, li_127, li_128, li_256, li_312, li_384, nI_add, nu_mul, nu_sub, nu_div, nu_and, nu_or, nu_shr, nu_bit, nu_diff, bi_2, nI_leI, nI_ltI, nI_eq, vp_in_nI, nI_clamp, ar_na, ar_ba, bo_0, bo_1, bo_it, bo_if, bo_w, bo_w0, bo_w1, bo_nar, bo_n1, bo_nn0, st_bu, st_bu1, st_bu0, st_nu, forall_eq, true_implies, false_implies, forall_const, not_true_eq_false, not_false_eq_true, and_true, true_and, implies_true, and_self, Bool.false_eq_true, Bool.true_eq_false, reduceCtorEq, ite_true, ite_false, if_true, if_false, eq_self, Nat.zero_add, Nat.add_zero, Nat.le_refl, Nat.lt_irrefl, Nat.reduceEqDiff, Nat.reduceLeDiff, Nat.reduceLT, Nat.reduceAdd, Nat.reduceMul, Nat.reduceSub, wpY_settle, cm_6, hj]
  exact yc_settle101 hn hb hq1 hq6
theorem yc_settleV {post : SY → Prop} (hn : n < 7) (hq1 : 1 ≤ ql n) (hq6 : ql n ≤ 6) (hb : qb (n * 6) ≤ 12) (hv7 : qv (n * 6) ≤ 7) (hj : qj (n * 6) < 3) : wpY_settle post (nI bg, srt, num, ar_n so, ar_n ba, ar_n an, pc_y pk, ar_n kv, ar_b fa, ar_b co, ar_b fr, ar_b dn, ar_n sp, ar_n sv, ar_n ql, ar_n qb, ar_n qj, ar_n qv, ar_n vo, ar_n kn) (nI n) ↔ post (nI bg, srt, num, ar_n so, ar_n ba, ar_n an, pc_y pk, ar_n kv, ar_b fa, ar_b co, ar_b fr, ar_b dn, ar_n (st_n sp n (qb (n * 6))), ar_n (st_n sv (n * 3 + qj (n * 6)) (qb (n * 6) * 8 + qv (n * 6))), ar_n (st_n ql n (ql n - 1)), ar_n (sh_ qb (n * 6) (ql n - 1)), ar_n (sh_ qj (n * 6) (ql n - 1)), ar_n (sh_ qv (n * 6) (ql n - 1)), ar_n (st_n vo ((qb (n * 6) * 3 + qj (n * 6)) * 8 + qv (n * 6)) (vo ((qb (n * 6) * 3 + qj (n * 6)) * 8 + qv (n * 6)) ||| 2 ^ n)), ar_n kn) := by
  simp (disch := first | omega | assumption) only [li_0, li_1, li_2, li_3, li_4, li_6, li_7, li_8, li_9, li_10, li_12, li_21, li_24, li_31, li_60, li_63, li_127, li_128, li_256, li_312, li_384, nI_add, nu_mul, nu_sub, nu_div, nu_and, nu_or, nu_shr, nu_bit, nu_diff, bi_2, nI_leI, nI_ltI, nI_eq, vp_in_nI, nI_clamp, ar_na, ar_ba, bo_0, bo_1, bo_it, bo_if, bo_w, bo_w0, bo_w1, bo_nar, bo_n1, bo_nn0, st_bu, st_bu1, st_bu0, st_nu, forall_eq, true_implies, false_implies, forall_const, not_true_eq_false, not_false_eq_true, and_true, true_and, implies_true, and_self, Bool.false_eq_true, Bool.true_eq_false, reduceCtorEq, ite_true, ite_false, if_true, if_false, eq_self, Nat.zero_add, Nat.add_zero, Nat.le_refl, Nat.lt_irrefl, Nat.reduceEqDiff, Nat.reduceLeDiff, Nat.reduceLT, Nat.reduceAdd, Nat.reduceMul, Nat.reduceSub, wpY_settle, cm_3, cm_6, cm_8, cm_24', Nat.not_le.mpr hj, yc_settle140]
theorem qb_srt (hq : in_q bg up pk sp qb qi qj qv ql) (hn : n < 7) : ∀ p, p < ql n → qb (n * 6) ≤ qb (n * 6 + p)
  | 0, _ => Nat.le_refl _
  | p + 1, h => Nat.le_trans (qb_srt hq hn p (by omega)) (((hq n hn).2.2.2 p (by omega)).2.2 h)
/-- the queue behind its first record -/
theorem in_drop (H : in_all bg df iq up fr dn op ov sp sv qb qi qj qv ql so ba an pk kv vo kn srt num) {sp' sv' an' kv' vo' : Nat → Nat} (hn : n < 7) (hq1 : 1 ≤ ql n) (hsp : sp' = st_n sp n (qb (n * 6))) (hv : in_v bg pk sv' kv') (hc : in_c vo' kn an') (ha : in_a an' sp')
    (hsv : ∀ m i, m < 7 → i < 3 → sv' (m * 3 + i) = if m = n ∧ qj (n * 6) = i then 8 * qb (n * 6) + qv (n * 6) else sv (m * 3 + i)) : in_all bg df iq up fr dn op ov sp' sv' (sh_ qb (n * 6) (ql n - 1)) (sh_ qi (n * 6) (ql n - 1)) (sh_ qj (n * 6) (ql n - 1)) (sh_ qv (n * 6) (ql n - 1)) (st_n ql n (ql n - 1)) so ba an' pk kv' vo' kn srt num := by
  obtain ⟨hb, hs, hbb, hp, _, _, hq, ho, _, hd⟩ := H
  subst hsp
  refine ⟨hb, hs, hbb, hp, hv, hc, ?_, ?_, ha, hd⟩
  · intro m hm
    obtain ⟨q1, q2, q3, q4⟩ := hq m hm
    by_cases e : m = n
    · subst e
      rw [st_eq, st_eq]
      have h0 := (q4 0 (by omega)).1
      rw [Nat.add_zero] at h0
      refine ⟨by omega, h0.2.1, fun z => by have := q3 z; omega, fun p hp' => ?_⟩
      obtain ⟨g1, g2, g3⟩ := q4 (p + 1) (by omega)
      rw [sh_in (by omega) (by omega), sh_in (by omega) (by omega), sh_in (by omega) (by omega), sh_in (by omega) (by omega)]
      refine ⟨g1, qb_srt hq hm (p + 1) (by omega), fun z => ?_⟩
      rw [sh_in (by omega) (by omega)]
      exact g3 (by omega)
    · have q1n := (hq n hn).1
      rw [st_ne e, st_ne e]
      refine ⟨q1, q2, q3, fun p hp' => ?_⟩
      obtain ⟨g1, g2, g3⟩ := q4 p hp'
      rw [sh_out (by omega), sh_out (by omega), sh_out (by omega), sh_out (by omega)]
      refine ⟨g1, g2, fun z => ?_⟩
      rw [sh_out (by omega)]
      exact g3 z
  · intro m hm
    obtain ⟨q1, q2, q3, q4⟩ := hq m hm
    obtain ⟨o1, o2⟩ := ho m hm
    by_cases e : m = n
    · subst e
      rw [st_eq, st_eq]
      rw [if_neg (by omega)] at o1
      refine ⟨?_, fun i hi => ?_⟩
      · by_cases z : ql m - 1 = 0
        · rw [if_pos z, o1]
          exact congrArg qb (by omega)
        · rw [if_neg z, sh_in (by omega) (by omega), o1]
          exact congrArg qb (by omega)
      · rw [o2 i hi, hsv m i hm hi]
        unfold wv_
        obtain ⟨d, hd'⟩ : ∃ d, ql m = d + 1 := ⟨ql m - 1, by omega⟩
        rw [hd', Nat.add_sub_cancel]
        show lo_f _ d (m * 6 + 1) _ = _
        have e1 : (if m = m ∧ qj (m * 6) = i then 8 * qb (m * 6) + qv (m * 6) else sv (m * 3 + i)) = (if qj (m * 6) = i then 8 * qb (m * 6) + qv (m * 6) else sv (m * 3 + i)) := by
          by_cases z : qj (m * 6) = i
          · rw [if_pos ⟨rfl, z⟩, if_pos z]
          · rw [if_neg (fun q => z q.2), if_neg z]
        rw [e1]
        refine lo_shift _ _ _ fun k a h1 h2 => ?_
        rw [sh_in (by omega) (by omega), sh_in (by omega) (by omega), sh_in (by omega) (by omega)]
    · have q1n := (hq n hn).1
      rw [st_ne e, st_ne e]
      refine ⟨?_, fun i hi => ?_⟩
      · rw [o1]
        by_cases z : ql m = 0
        · rw [if_pos z, if_pos z]
        · rw [if_neg z, if_neg z, sh_out (by omega)]
      · rw [o2 i hi, hsv m i hm hi, if_neg (fun q => e q.1)]
        refine lo_fc _ _ _ fun k a h1 h2 => ?_
        rw [sh_out (by omega), sh_out (by omega), sh_out (by omega)]
theorem se_ (H : in_all bg df iq up fr dn op ov sp sv qb qi qj qv ql so ba an pk kv vo kn srt num) (hn : n < 7) (hq1 : 1 ≤ ql n) : ∃ sp' sv' an' kv' vo' qb' qi' qj' qv', in_all bg df iq up fr dn op ov sp' sv' qb' qi' qj' qv' (st_n ql n (ql n - 1)) so ba an' pk kv' vo' kn srt num ∧ (∀ post, (wpX_syncFirst post (nI bg, ar_b df, ar_b iq, ar_b tb, ar_b up, ar_n op, ar_n ov, ar_n sp, ar_n sv, ar_n qb, ar_n qi, ar_n qv, ar_n ql, ar_n so, ar_b fa, ar_n ba, ar_n an, ar_b co, pc_x pk, ar_b fr, ar_n kv, ar_n vo, ar_n kn) (nI n) ↔ post (nI bg, ar_b df, ar_b iq, ar_b tb, ar_b up, ar_n op, ar_n ov, ar_n sp', ar_n sv', ar_n qb', ar_n qi', ar_n qv', ar_n (st_n ql n (ql n - 1)), ar_n so, ar_b fa, ar_n ba, ar_n an', ar_b co, pc_x pk, ar_b fr, ar_n kv', ar_n vo', ar_n kn))) ∧ (∀ post, (wpY_settle post (nI bg, srt, num, ar_n so, ar_n ba, ar_n an, pc_y pk, ar_n kv, ar_b fa, ar_b co, ar_b fr, ar_b dn, ar_n sp, ar_n sv, ar_n ql, ar_n qb, ar_n qj, ar_n qv, ar_n vo, ar_n kn) (nI n) ↔ post (nI bg, srt, num, ar_n so, ar_n ba, ar_n an', pc_y pk, ar_n kv', ar_b fa, ar_b co, ar_b fr, ar_b dn, ar_n sp', ar_n sv', ar_n (st_n ql n (ql n - 1)), ar_n qb', ar_n qj', ar_n qv', ar_n vo', ar_n kn))) := by
  have H0 := H
  obtain ⟨hb, hs, hbb, hp, hv, hc, hq, ho, ha, hd⟩ := H
  obtain ⟨q1, q2, q3, q4⟩ := hq n hn
  obtain ⟨⟨r1, r2, r3⟩, r4, _⟩ := q4 0 (by omega)
  rw [Nat.add_zero] at r1 r2 r3 r4
  have hsp2 : ∀ m, sp m ≤ st_n sp n (qb (n * 6)) m := by
    intro m
    by_cases e : m = n
    · subst e; rw [st_eq]; exact r4
    · rw [st_ne e]; exact Nat.le_refl _
  rcases r3 with ⟨v0, j3⟩ | ⟨v1, v7, ji, i3, hpk⟩
  · refine ⟨_, _, _, _, _, _, _, _, _, in_drop H0 (sv' := sv) (vo' := vo) (an' := st_n an (qb (n * 6)) (an (qb (n * 6)) ||| 2 ^ n)) (kv' := kp_ kv (qb (n * 6) * 21 + n * 3) (fun i => sv (n * 3 + i)) 3) hn hq1 rfl ⟨hv.1, ?_⟩ ?_ ?_ ?_, fun post => xc_syncA hn hq1 q1 (by omega) v0, fun post => yc_settleA hn hq1 q1 (by omega) j3⟩
    · intro b' n' i' hb' hn' hi'
      by_cases e : b' = qb (n * 6) ∧ n' = n
      · obtain ⟨rfl, rfl⟩ := e
        rw [kp_in hi']
        exact hv.1 n' i' hn' hi'
      · rw [kp_out (by omega)]
        exact hv.2 b' n' i' hb' hn' hi'
    · intro j
      obtain ⟨c1, c2, c3⟩ := hc j
      refine ⟨c1, c2, ?_⟩
      by_cases e : j = qb (n * 6)
      · subst e; rw [st_eq]; exact nu_or7 c3 (nu_lt7 n hn)
      · rw [st_ne e]; exact c3
    · intro b' n' hn' h
      by_cases e : b' = qb (n * 6)
      · subst e
        rw [st_eq] at h
        rcases or_bit h with g | g
        · subst g; rw [st_eq]; exact Nat.le_refl _
        · exact Nat.le_trans (ha _ n' hn' g) (hsp2 n')
      · rw [st_ne e] at h
        exact Nat.le_trans (ha _ n' hn' h) (hsp2 n')
    · intro m i hm hi
      rw [if_neg (by omega)]
  · refine ⟨_, _, _, _, _, _, _, _, _, in_drop H0 (sv' := st_n sv (n * 3 + qi (n * 6)) (qb (n * 6) * 8 + qv (n * 6))) (vo' := st_n vo ((qb (n * 6) * 3 + qi (n * 6)) * 8 + qv (n * 6)) (vo ((qb (n * 6) * 3 + qi (n * 6)) * 8 + qv (n * 6)) ||| 2 ^ n)) (an' := an) (kv' := kv) hn hq1 rfl ⟨?_, hv.2⟩ ?_ ?_ ?_, fun post => xc_syncV hn hq1 q1 (by omega) v1 v7 i3, fun post => by have := yc_settleV (post := post) (bg := bg) (srt := srt) (num := num) (so := so) (ba := ba) (an := an) (pk := pk) (kv := kv) (fa := fa) (co := co) (fr := fr) (dn := dn) (sp := sp) (sv := sv) (ql := ql) (qb := qb) (qj := qj) (qv := qv) (vo := vo) (kn := kn) hn hq1 q1 (by omega) v7 (by omega); rw [ji] at this; exact this⟩
    · intro n' i' hn' hi'
      by_cases e : n' * 3 + i' = n * 3 + qi (n * 6)
      · rw [e, st_eq]
        obtain rfl : i' = qi (n * 6) := by omega
        refine Or.inr ⟨by omega, by omega, by omega, ?_⟩
        rw [show (qb (n * 6) * 8 + qv (n * 6)) / 8 = qb (n * 6) by omega]
        exact hpk
      · rw [st_ne e]
        exact hv.1 n' i' hn' hi'
    · intro j
      obtain ⟨c1, c2, c3⟩ := hc j
      refine ⟨?_, c2, c3⟩
      by_cases e : j = (qb (n * 6) * 3 + qi (n * 6)) * 8 + qv (n * 6)
      · rw [e, st_eq]; exact nu_or7 (hc _).1 (nu_lt7 n hn)
      · rw [st_ne e]; exact c1
    · intro b' n' hn' h
      exact Nat.le_trans (ha _ n' hn' h) (hsp2 n')
    · intro m i hm hi
      by_cases e : m = n ∧ qj (n * 6) = i
      · rw [if_pos e, e.1, ← e.2, ji, st_eq]; omega
      · rw [if_neg e, st_ne (by omega)]
end
/-- related, with so many records in a node's queue -/
def rq_ (n m : Nat) (u : SX) (v : SY) : Prop := ∃ (bg : Nat) (df iq tb up fa co fr dn : Nat → Bool) (op ov sp sv qb qi qj qv ql so ba an pk kv vo kn : Nat → Nat) (srt num : Nat → Int32), u = (nI bg, ar_b df, ar_b iq, ar_b tb, ar_b up, ar_n op, ar_n ov, ar_n sp, ar_n sv, ar_n qb, ar_n qi, ar_n qv, ar_n ql, ar_n so, ar_b fa, ar_n ba, ar_n an, ar_b co, pc_x pk, ar_b fr, ar_n kv, ar_n vo, ar_n kn) ∧ v = (nI bg, srt, num, ar_n so, ar_n ba, ar_n an, pc_y pk, ar_n kv, ar_b fa, ar_b co, ar_b fr, ar_b dn, ar_n sp, ar_n sv, ar_n ql, ar_n qb, ar_n qj, ar_n qv, ar_n vo, ar_n kn) ∧ in_all bg df iq up fr dn op ov sp sv qb qi qj qv ql so ba an pk kv vo kn srt num ∧ ql n = m
theorem rq_i {n m k : Nat} {u : SX} {v : SY} (h : rq_ n m u v) : i_Rel k u v := by
  obtain ⟨bg, df, iq, tb, up, fa, co, fr, dn, op, ov, sp, sv, qb, qi, qj, qv, ql, so, ba, an, pk, kv, vo, kn, srt, num, rfl, rfl, H, _⟩ := h
  exact ⟨_, _, _, _, _, _, _, _, _, _, _, _, _, _, _, _, _, _, _, _, _, _, _, _, _, _, _, rfl, rfl, H⟩
theorem rq_s {n m : Nat} {u : SX} {v : SY} (hn : n < 7) (h : rq_ n (m + 1) u v) : ∃ u' v', rq_ n m u' v' ∧ (∀ post, wpX_syncFirst post u (nI n) ↔ post u') ∧ (∀ post, wpY_settle post v (nI n) ↔ post v') := by
  obtain ⟨bg, df, iq, tb, up, fa, co, fr, dn, op, ov, sp, sv, qb, qi, qj, qv, ql, so, ba, an, pk, kv, vo, kn, srt, num, rfl, rfl, H, hm⟩ := h
  obtain ⟨sp', sv', an', kv', vo', qb', qi', qj', qv', H', hX, hY⟩ := se_ (tb := tb) (fa := fa) (co := co) H hn (by omega)
  exact ⟨_, _, ⟨_, _, _, _, _, _, _, _, _, _, _, _, _, _, _, _, _, _, _, _, _, _, _, _, _, _, _, rfl, rfl, H', by rw [st_eq]; omega⟩, hX, hY⟩
