/-! a node's own promise and votes, its queue; node, ask, vote, propose, power -/
theorem lo_fs {α : Type} {f : Nat → α → α} : ∀ d i a, lo_f f (d + 1) i a = f (i + d) (lo_f f d i a)
  | 0, _, _ => rfl
  | d + 1, i, a => by
    show lo_f f (d + 1) (i + 1) (f i a) = _
    rw [lo_fs d (i + 1), show i + 1 + d = i + (d + 1) by omega]
    rfl
section
variable {bg : Nat} {df iq tb up fa co fr dn : Nat → Bool} {op ov sp sv qb qi qj qv ql so ba an pk kv vo kn : Nat → Nat} {srt num : Nat → Int32}
variable {post : Int32 → Prop} {x y z : Int32} {s k t m n i j a b v f l : Nat}
theorem rc_b (hb : bg ≤ 12) {b i j v : Nat} (h : rc_ bg pk b i j v) : 1 ≤ b ∧ b ≤ 12 ∧ j ≤ 3 ∧ v ≤ 7 := by
  obtain ⟨h1, h2, h3⟩ := h
  rcases h3 with h | h <;> omega
theorem op_le (H : in_all bg df iq up fr dn op ov sp sv qb qi qj qv ql so ba an pk kv vo kn srt num) (hn : n < 7) : op n ≤ bg := by
  obtain ⟨hb, hs, hbb, hp, hv, hc, hq, ho, ha, hd⟩ := H
  obtain ⟨q1, q2, q3, q4⟩ := hq n hn
  rw [(ho n hn).1]
  by_cases z : ql n = 0
  · rw [if_pos z]; exact q2
  · rw [if_neg z]
    obtain ⟨⟨g, g2, _⟩, _⟩ := q4 (ql n - 1) (by omega)
    rw [show n * 6 + ql n - 1 = n * 6 + (ql n - 1) by omega]
    exact g2
theorem ov_lt (H : in_all bg df iq up fr dn op ov sp sv qb qi qj qv ql so ba an pk kv vo kn srt num) (hn : n < 7) (hi : i < 3) : ov (n * 3 + i) < 104 := by
  obtain ⟨hb, hs, hbb, hp, hv, hc, hq, ho, ha, hd⟩ := H
  obtain ⟨q1, q2, q3, q4⟩ := hq n hn
  rw [(ho n hn).2 i hi]
  refine lo_fI (I := fun _ a => a < 104) (ql n) (n * 6) _ ?_ (vo_lt hb (hv.1 n i hn hi))
  intro k a hk1 hk2 h
  split
  · have := rc_b hb (q4 (k - n * 6) (by omega)).1
    rw [show n * 6 + (k - n * 6) = k by omega] at this
    omega
  · exact h
theorem yc_ownPromise (H : in_all bg df iq up fr dn op ov sp sv qb qi qj qv ql so ba an pk kv vo kn srt num) (hn : n < 7) : wpY_ownPromise post (nI bg, srt, num, ar_n so, ar_n ba, ar_n an, pc_y pk, ar_n kv, ar_b fa, ar_b co, ar_b fr, ar_b dn, ar_n sp, ar_n sv, ar_n ql, ar_n qb, ar_n qj, ar_n qv, ar_n vo, ar_n kn) (nI n) ↔ post (nI (op n)) := by
  obtain ⟨hb, hs, hbb, hp, hv, hc, hq, ho, ha, hd⟩ := H
  obtain ⟨q1, q2, q3, q4⟩ := hq n hn
  rw [(ho n hn).1]
  by_cases z : ql n = 0
  · simp (disch := first | omega | assumption) only [li_0, li_1, li_2, li_3, li_4, li_6, li_7, li_8, li_9, li_10, li_12, li_21, li_24, li_31, li_60, li_63, li_127, li_128, li_256, li_312, li_384, nI_add, nu_mul, nu_sub, nu_div, nu_and, nu_or, nu_shr, nu_bit, nu_diff, bi_2, nI_leI, nI_ltI, nI_eq, vp_in_nI, nI_clamp, ar_na, ar_ba, bo_0, bo_1, bo_it, bo_if, bo_w, bo_w0, bo_w1, bo_nar, bo_n1, bo_nn0, st_bu, st_bu1, st_bu0, st_nu, forall_eq, true_implies, false_implies, forall_const, not_true_eq_false, not_false_eq_true, and_true, true_and, implies_true, and_self, Bool.false_eq_true, Bool.true_eq_false, reduceCtorEq, ite_true, ite_false, if_true, if_false, eq_self, Nat.zero_add, Nat.add_zero, Nat.le_refl, Nat.lt_irrefl, Nat.reduceEqDiff, Nat.reduceLeDiff, Nat.reduceLT, Nat.reduceAdd, Nat.reduceMul, Nat.reduceSub, wpY_ownPromise, z]
  · simp (disch := first | omega | assumption) only [li_0, li_1, li_2, li_3, li_4, li_6, li_7, li_8, li_9, li_10, li_12, li_21, li_24, li_31, li_60, li_63, li_127, li_128, li_256, li_312, li_384, nI_add, nu_mul, nu_sub, nu_div, nu_and, nu_or, nu_shr, nu_bit, nu_diff, bi_2, nI_leI, nI_ltI, nI_eq, vp_in_nI, nI_clamp, ar_na, ar_ba, bo_0, bo_1, bo_it, bo_if, bo_w, bo_w0, bo_w1, bo_nar, bo_n1, bo_nn0, st_bu, st_bu1, st_bu0, st_nu, forall_eq, true_implies, false_implies, forall_const, not_true_eq_false, not_false_eq_true, and_true, true_and, implies_true, and_self, Bool.false_eq_true, Bool.true_eq_false, reduceCtorEq, ite_true, ite_false, if_true, if_false, eq_self, Nat.zero_add, Nat.add_zero, Nat.le_refl, Nat.lt_irrefl, Nat.reduceEqDiff, Nat.reduceLeDiff, Nat.reduceLT, Nat.reduceAdd, Nat.reduceMul, Nat.reduceSub, wpY_ownPromise, z, cm_6]
theorem yc_ownVote (H : in_all bg df iq up fr dn op ov sp sv qb qi qj qv ql so ba an pk kv vo kn srt num) (hn : n < 7) (hi : i < 3) : wpY_ownVote post (nI bg, srt, num, ar_n so, ar_n ba, ar_n an, pc_y pk, ar_n kv, ar_b fa, ar_b co, ar_b fr, ar_b dn, ar_n sp, ar_n sv, ar_n ql, ar_n qb, ar_n qj, ar_n qv, ar_n vo, ar_n kn) (nI n) (nI i) ↔ post (nI (ov (n * 3 + i))) := by
  obtain ⟨hb, hs, hbb, hp, hv, hc, hq, ho, ha, hd⟩ := H
  obtain ⟨q1, q2, q3, q4⟩ := hq n hn
  rw [(ho n hn).2 i hi]
  simp (disch := first | omega | assumption) only [li_0, li_1, li_2, li_3, li_4, li_6, li_7, li_8, li_9, li_10, li_12, li_21, li_24, li_31, li_60, li_63, li_127, li_128, li_256, li_312, li_384, nI_add, nu_mul, nu_sub, nu_div, nu_and, nu_or, nu_shr, nu_bit, nu_diff, bi_2, nI_leI, nI_ltI, nI_eq, vp_in_nI, nI_clamp, ar_na, ar_ba, bo_0, bo_1, bo_it, bo_if, bo_w, bo_w0, bo_w1, bo_nar, bo_n1, bo_nn0, st_bu, st_bu1, st_bu0, st_nu, forall_eq, true_implies, false_implies, forall_const, not_true_eq_false, not_false_eq_true, and_true, true_and, implies_true, and_self, Bool.false_eq_true, Bool.true_eq_false, reduceCtorEq, ite_true, ite_false, if_true, if_false, eq_self, Nat.zero_add, Nat.add_zero, Nat.le_refl, Nat.lt_irrefl, Nat.reduceEqDiff, Nat.reduceLeDiff, Nat.reduceLT, Nat.reduceAdd, Nat.reduceMul, Nat.reduceSub, wpY_ownVote, cm_3, cm_6]
  refine lo_fold (W := fun m k a => wY_ownVote_17 post (nI n) (nI i) (nI bg) srt num (ar_n so) (ar_n ba) (ar_n an) (pc_y pk) (ar_n kv) (ar_b fa) (ar_b co) (ar_b fr) (ar_b dn) (ar_n sp) (ar_n sv) (ar_n ql) (ar_n qb) (ar_n qj) (ar_n qv) (ar_n vo) (ar_n kn) m (nI a) (nI k)) (fin := fun a => post (nI a)) (I := fun k _ => n * 6 ≤ k) (e := n * 6 + ql n) _ (fun _ _ h => h) (fun k _ _ _ => by omega) ?_ ?_ (ql n) (n * 6) _ rfl (Nat.le_refl _)
  · intro m a _
    simp (disch := first | omega | assumption) only [li_0, li_1, li_2, li_3, li_4, li_6, li_7, li_8, li_9, li_10, li_12, li_21, li_24, li_31, li_60, li_63, li_127, li_128, li_256, li_312, li_384, nI_add, nu_mul, nu_sub, nu_div, nu_and, nu_or, nu_shr, nu_bit, nu_diff, bi_2, nI_leI, nI_ltI, nI_eq, vp_in_nI, nI_clamp, ar_na, ar_ba, bo_0, bo_1, bo_it, bo_if, bo_w, bo_w0, bo_w1, bo_nar, bo_n1, bo_nn0, st_bu, st_bu1, st_bu0, st_nu, forall_eq, true_implies, false_implies, forall_const, not_true_eq_false, not_false_eq_true, and_true, true_and, implies_true, and_self, Bool.false_eq_true, Bool.true_eq_false, reduceCtorEq, ite_true, ite_false, if_true, if_false, eq_self, Nat.zero_add, Nat.add_zero, Nat.le_refl, Nat.lt_irrefl, Nat.reduceEqDiff, Nat.reduceLeDiff, Nat.reduceLT, Nat.reduceAdd, Nat.reduceMul, Nat.reduceSub, wY_ownVote_17, cm_6]
  · intro m k a hk hk'
    have g := rc_b hb (q4 (k - n * 6) (by omega)).1
    rw [show n * 6 + (k - n * 6) = k by omega] at g
    obtain ⟨g1, g2, g3, g4⟩ := g
    by_cases z : qj k = i
    · simp (disch := first | omega | assumption) only [li_0, li_1, li_2, li_3, li_4, li_6, li_7, li_8, li_9, li_10, li_12, li_21, li_24, li_31, li_60, li_63, li_127, li_128, li_256, li_312, li_384, nI_add, nu_mul, nu_sub, nu_div, nu_and, nu_or, nu_shr, nu_bit, nu_diff, bi_2, nI_leI, nI_ltI, nI_eq, vp_in_nI, nI_clamp, ar_na, ar_ba, bo_0, bo_1, bo_it, bo_if, bo_w, bo_w0, bo_w1, bo_nar, bo_n1, bo_nn0, st_bu, st_bu1, st_bu0, st_nu, forall_eq, true_implies, false_implies, forall_const, not_true_eq_false, not_false_eq_true, and_true, true_and, implies_true, and_self, Bool.false_eq_true, Bool.true_eq_false, reduceCtorEq, ite_true, ite_false, if_true, if_false, eq_self, Nat.zero_add, Nat.add_zero, Nat.le_refl, Nat.lt_irrefl, Nat.reduceEqDiff, Nat.reduceLeDiff, Nat.reduceLT, Nat.reduceAdd, Nat.reduceMul, Nat.reduceSub, wY_ownVote_17, cm_6, Nat.not_le.mpr hk, z]
    · simp (disch := first | omega | assumption) only [li_0, li_1, li_2, li_3, li_4, li_6, li_7, li_8, li_9, li_10, li_12, li_21, li_24, li_31, li_60, li_63, li_127, li_128, li_256, li_312, li_384, nI_add, nu_mul, nu_sub, nu_div, nu_and, nu_or, nu_shr, nu_bit, nu_diff, bi_2, nI_leI, nI_ltI, nI_eq, vp_in_nI, nI_clamp, ar_na, ar_ba, bo_0, bo_1, bo_it, bo_if, bo_w, bo_w0, bo_w1, bo_nar, bo_n1, bo_nn0, st_bu, st_bu1, st_bu0, st_nu, forall_eq, true_implies, false_implies, forall_const, not_true_eq_false, not_false_eq_true, and_true, true_and, implies_true, and_self, Bool.false_eq_true, Bool.true_eq_false, reduceCtorEq, ite_true, ite_false, if_true, if_false, eq_self, Nat.zero_add, Nat.add_zero, Nat.le_refl, Nat.lt_irrefl, Nat.reduceEqDiff, Nat.reduceLeDiff, Nat.reduceLT, Nat.reduceAdd, Nat.reduceMul, Nat.reduceSub, wY_ownVote_17, cm_6, Nat.not_le.mpr hk, z]
theorem xc_canWrite (hn : n < 7) (hq : ql n ≤ 6) : wpX_canWrite post (nI bg, ar_b df, ar_b iq, ar_b tb, ar_b up, ar_n op, ar_n ov, ar_n sp, ar_n sv, ar_n qb, ar_n qi, ar_n qv, ar_n ql, ar_n so, ar_b fa, ar_n ba, ar_n an, ar_b co, pc_x pk, ar_b fr, ar_n kv, ar_n vo, ar_n kn) (nI n) ↔ post (bo_i (up n && decide (ql n < 6))) := by
  cases z : up n
  · simp (disch := first | omega | assumption) only [li_0, li_1, li_2, li_3, li_4, li_6, li_7, li_8, li_9, li_10, li_12, li_21, li_24, li_31, li_60, li_63, li_127, li_128, li_256, li_312, li_384, nI_add, nu_mul, nu_sub, nu_div, nu_and, nu_or, nu_shr, nu_bit, nu_diff, bi_2, nI_leI, nI_ltI, nI_eq, vp_in_nI, nI_clamp, ar_na, ar_ba, bo_0, bo_1, bo_it, bo_if, bo_w, bo_w0, bo_w1, bo_nar, bo_n1, bo_nn0, st_bu, st_bu1, st_bu0, st_nu, forall_eq, true_implies, false_implies, forall_const, not_true_eq_false, not_false_eq_true, and_true, true_and, implies_true, and_self, Bool.false_eq_true, Bool.true_eq_false, reduceCtorEq, ite_true, ite_false, if_true, if_false, eq_self, Nat.zero_add, Nat.add_zero, Nat.le_refl, Nat.lt_irrefl, Nat.reduceEqDiff, Nat.reduceLeDiff, Nat.reduceLT, Nat.reduceAdd, Nat.reduceMul, Nat.reduceSub, wpX_canWrite, z, Bool.false_and]
  · by_cases w : ql n < 6
    · simp (disch := first | omega | assumption) only [li_0, li_1, li_2, li_3, li_4, li_6, li_7, li_8, li_9, li_10, li_12, li_21, li_24, li_31, li_60, li_63, li_127, li_128, li_256, li_312, li_384, nI_add, nu_mul, nu_sub, nu_div, nu_and, nu_or, nu_shr, nu_bit, nu_diff, bi_2, nI_leI, nI_ltI, nI_eq, vp_in_nI, nI_clamp, ar_na, ar_ba, bo_0, bo_1, bo_it, bo_if, bo_w, bo_w0, bo_w1, bo_nar, bo_n1, bo_nn0, st_bu, st_bu1, st_bu0, st_nu, forall_eq, true_implies, false_implies, forall_const, not_true_eq_false, not_false_eq_true, and_true, true_and, implies_true, and_self, Bool.false_eq_true, Bool.true_eq_false, reduceCtorEq, ite_true, ite_false, if_true, if_false, eq_self, Nat.zero_add, Nat.add_zero, Nat.le_refl, Nat.lt_irrefl, Nat.reduceEqDiff, Nat.reduceLeDiff, Nat.reduceLT, Nat.reduceAdd, Nat.reduceMul, Nat.reduceSub, wpX_canWrite, z, w, Nat.not_le.mpr w, Bool.true_and, decide_true]
    · simp (disch := first | omega | assumption) only [li_0, li_1, li_2, li_3, li_4, li_6, li_7, li_8, li_9, li_10, li_12, li_21, li_24, li_31, li_60, li_63, li_127, li_128, li_256, li_312, li_384, nI_add, nu_mul, nu_sub, nu_div, nu_and, nu_or, nu_shr, nu_bit, nu_diff, bi_2, nI_leI, nI_ltI, nI_eq, vp_in_nI, nI_clamp, ar_na, ar_ba, bo_0, bo_1, bo_it, bo_if, bo_w, bo_w0, bo_w1, bo_nar, bo_n1, bo_nn0, st_bu, st_bu1, st_bu0, st_nu, forall_eq, true_implies, false_implies, forall_const, not_true_eq_false, not_false_eq_true, and_true, true_and, implies_true, and_self, Bool.false_eq_true, Bool.true_eq_false, reduceCtorEq, ite_true, ite_false, if_true, if_false, eq_self, Nat.zero_add, Nat.add_zero, Nat.le_refl, Nat.lt_irrefl, Nat.reduceEqDiff, Nat.reduceLeDiff, Nat.reduceLT, Nat.reduceAdd, Nat.reduceMul, Nat.reduceSub, wpX_canWrite, z, w, Nat.le_of_not_lt w, Bool.true_and, decide_false]
theorem xc_wouldAnswer (H : in_all bg df iq up fr dn op ov sp sv qb qi qj qv ql so ba an pk kv vo kn srt num) (hn : n < 7) (hb : b ≤ 12) : wpX_wouldAnswer post (nI bg, ar_b df, ar_b iq, ar_b tb, ar_b up, ar_n op, ar_n ov, ar_n sp, ar_n sv, ar_n qb, ar_n qi, ar_n qv, ar_n ql, ar_n so, ar_b fa, ar_n ba, ar_n an, ar_b co, pc_x pk, ar_b fr, ar_n kv, ar_n vo, ar_n kn) (nI b) (nI n) ↔ post (bo_i (up n && decide (ql n < 6) && decide (op n < b))) := by
  have hop := op_le H hn
  obtain ⟨hb', hs, hbb, hp, hv, hc, hq, ho, ha, hd⟩ := H
  have hq6 := (hq n hn).1
  cases z : up n && decide (ql n < 6)
  · simp (disch := first | omega | assumption) only [li_0, li_1, li_2, li_3, li_4, li_6, li_7, li_8, li_9, li_10, li_12, li_21, li_24, li_31, li_60, li_63, li_127, li_128, li_256, li_312, li_384, nI_add, nu_mul, nu_sub, nu_div, nu_and, nu_or, nu_shr, nu_bit, nu_diff, bi_2, nI_leI, nI_ltI, nI_eq, vp_in_nI, nI_clamp, ar_na, ar_ba, bo_0, bo_1, bo_it, bo_if, bo_w, bo_w0, bo_w1, bo_nar, bo_n1, bo_nn0, st_bu, st_bu1, st_bu0, st_nu, forall_eq, true_implies, false_implies, forall_const, not_true_eq_false, not_false_eq_true, and_true, true_and, implies_true, and_self, Bool.false_eq_true, Bool.true_eq_false, reduceCtorEq, ite_true, ite_false, if_true, if_false, eq_self, Nat.zero_add, Nat.add_zero, Nat.le_refl, Nat.lt_irrefl, Nat.reduceEqDiff, Nat.reduceLeDiff, Nat.reduceLT, Nat.reduceAdd, Nat.reduceMul, Nat.reduceSub, wpX_wouldAnswer, xc_canWrite, z, Bool.false_and]
  · by_cases w : op n < b
    · simp (disch := first | omega | assumption) only [li_0, li_1, li_2, li_3, li_4, li_6, li_7, li_8, li_9, li_10, li_12, li_21, li_24, li_31, li_60, li_63, li_127, li_128, li_256, li_312, li_384, nI_add, nu_mul, nu_sub, nu_div, nu_and, nu_or, nu_shr, nu_bit, nu_diff, bi_2, nI_leI, nI_ltI, nI_eq, vp_in_nI, nI_clamp, ar_na, ar_ba, bo_0, bo_1, bo_it, bo_if, bo_w, bo_w0, bo_w1, bo_nar, bo_n1, bo_nn0, st_bu, st_bu1, st_bu0, st_nu, forall_eq, true_implies, false_implies, forall_const, not_true_eq_false, not_false_eq_true, and_true, true_and, implies_true, and_self, Bool.false_eq_true, Bool.true_eq_false, reduceCtorEq, ite_true, ite_false, if_true, if_false, eq_self, Nat.zero_add, Nat.add_zero, Nat.le_refl, Nat.lt_irrefl, Nat.reduceEqDiff, Nat.reduceLeDiff, Nat.reduceLT, Nat.reduceAdd, Nat.reduceMul, Nat.reduceSub, wpX_wouldAnswer, xc_canWrite, z, w, Nat.not_le.mpr w, Bool.true_and, decide_true]
    · simp (disch := first | omega | assumption) only [li_0, li_1, li_2, li_3, li_4, li_6, li_7, li_8, li_9, li_10, li_12, li_21, li_24, li_31, li_60, li_63, li_127, li_128, li_256, li_312, li_384, nI_add, nu_mul, nu_sub, nu_div, nu_and, nu_or, nu_shr, nu_bit, nu_diff, bi_2, nI_leI, nI_ltI, nI_eq, vp_in_nI, nI_clamp, ar_na, ar_ba, bo_0, bo_1, bo_it, bo_if, bo_w, bo_w0, bo_w1, bo_nar, bo_n1, bo_nn0, st_bu, st_bu1, st_bu0, st_nu, forall_eq, true_implies, false_implies, forall_const, not_true_eq_false, not_false_eq_true, and_true, true_and, implies_true, and_self, Bool.false_eq_true, Bool.true_eq_false, reduceCtorEq, ite_true, ite_false, if_true, if_false, eq_self, Nat.zero_add, Nat.add_zero, Nat.le_refl, Nat.lt_irrefl, Nat.reduceEqDiff, Nat.reduceLeDiff, Nat.reduceLT, Nat.reduceAdd, Nat.reduceMul, Nat.reduceSub, wpX_wouldAnswer, xc_canWrite, z, w, Nat.le_of_not_lt w, Bool.true_and, decide_false]
def wo_ (up : Nat → Bool) (op ov ql pk : Nat → Nat) (b i n : Nat) : Bool := up n && decide (ql n < 6) && decide (pk (b * 3 + i) ≠ 0 ∧ op n ≤ b ∧ ov (n * 3 + i) / 8 < b)
theorem xc_wouldVote (H : in_all bg df iq up fr dn op ov sp sv qb qi qj qv ql so ba an pk kv vo kn srt num) (hn : n < 7) (hi : i < 3) (hb : b ≤ 12) : wpX_wouldVote post (nI bg, ar_b df, ar_b iq, ar_b tb, ar_b up, ar_n op, ar_n ov, ar_n sp, ar_n sv, ar_n qb, ar_n qi, ar_n qv, ar_n ql, ar_n so, ar_b fa, ar_n ba, ar_n an, ar_b co, pc_x pk, ar_b fr, ar_n kv, ar_n vo, ar_n kn) (nI b) (nI i) (nI n) ↔ post (bo_i (wo_ up op ov ql pk b i n)) := by
  have hop := op_le H hn
  have hov := ov_lt H hn hi
  obtain ⟨hb', hs, hbb, hp, hv, hc, hq, ho, ha, hd⟩ := H
  have hq6 := (hq n hn).1
  unfold wo_
  cases z : up n && decide (ql n < 6)
  · simp (disch := first | omega | assumption) only [li_0, li_1, li_2, li_3, li_4, li_6, li_7, li_8, li_9, li_10, li_12, li_21, li_24, li_31, li_60, li_63, li_127, li_128, li_256, li_312, li_384, nI_add, nu_mul, nu_sub, nu_div, nu_and, nu_or, nu_shr, nu_bit, nu_diff, bi_2, nI_leI, nI_ltI, nI_eq, vp_in_nI, nI_clamp, ar_na, ar_ba, bo_0, bo_1, bo_it, bo_if, bo_w, bo_w0, bo_w1, bo_nar, bo_n1, bo_nn0, st_bu, st_bu1, st_bu0, st_nu, forall_eq, true_implies, false_implies, forall_const, not_true_eq_false, not_false_eq_true, and_true, true_and, implies_true, and_self, Bool.false_eq_true, Bool.true_eq_false, reduceCtorEq, ite_true, ite_false, if_true, if_false, eq_self, Nat.zero_add, Nat.add_zero, Nat.le_refl, Nat.lt_irrefl, Nat.reduceEqDiff, Nat.reduceLeDiff, Nat.reduceLT, Nat.reduceAdd, Nat.reduceMul, Nat.reduceSub, wpX_wouldVote, xc_canWrite, z, Bool.false_and]
  · cases w : decide (pk (b * 3 + i) ≠ 0 ∧ op n ≤ b ∧ ov (n * 3 + i) / 8 < b)
    · simp (disch := first | omega | assumption) only [li_0, li_1, li_2, li_3, li_4, li_6, li_7, li_8, li_9, li_10, li_12, li_21, li_24, li_31, li_60, li_63, li_127, li_128, li_256, li_312, li_384, nI_add, nu_mul, nu_sub, nu_div, nu_and, nu_or, nu_shr, nu_bit, nu_diff, bi_2, nI_leI, nI_ltI, nI_eq, vp_in_nI, nI_clamp, ar_na, ar_ba, bo_0, bo_1, bo_it, bo_if, bo_w, bo_w0, bo_w1, bo_nar, bo_n1, bo_nn0, st_bu, st_bu1, st_bu0, st_nu, forall_eq, true_implies, false_implies, forall_const, not_true_eq_false, not_false_eq_true, and_true, true_and, implies_true, and_self, Bool.false_eq_true, Bool.true_eq_false, reduceCtorEq, ite_true, ite_false, if_true, if_false, eq_self, Nat.zero_add, Nat.add_zero, Nat.le_refl, Nat.lt_irrefl, Nat.reduceEqDiff, Nat.reduceLeDiff, Nat.reduceLT, Nat.reduceAdd, Nat.reduceMul, Nat.reduceSub, wpX_wouldVote, xc_canWrite, z, xc_canVote hp, w, Bool.and_false]
    · simp (disch := first | omega | assumption) only [li_0, li_1, li_2, li_3, li_4, li_6, li_7, li_8, li_9, li_10, li_12, li_21, li_24, li_31, li_60, li_63, li_127, li_128, li_256, li_312, li_384, nI_add, nu_mul, nu_sub, nu_div, nu_and, nu_or, nu_shr, nu_bit, nu_diff, bi_2, nI_leI, nI_ltI, nI_eq, vp_in_nI, nI_clamp, ar_na, ar_ba, bo_0, bo_1, bo_it, bo_if, bo_w, bo_w0, bo_w1, bo_nar, bo_n1, bo_nn0, st_bu, st_bu1, st_bu0, st_nu, forall_eq, true_implies, false_implies, forall_const, not_true_eq_false, not_false_eq_true, and_true, true_and, implies_true, and_self, Bool.false_eq_true, Bool.true_eq_false, reduceCtorEq, ite_true, ite_false, if_true, if_false, eq_self, Nat.zero_add, Nat.add_zero, Nat.le_refl, Nat.lt_irrefl, Nat.reduceEqDiff, Nat.reduceLeDiff, Nat.reduceLT, Nat.reduceAdd, Nat.reduceMul, Nat.reduceSub, wpX_wouldVote, xc_canWrite, z, xc_canVote hp, w, Bool.and_self]
end
section
variable {bg : Nat} {df iq tb up fa co fr dn : Nat → Bool} {op ov sp sv qb qi qj qv ql so ba an pk kv vo kn : Nat → Nat} {srt num : Nat → Int32}
variable {s k t m n i j a b v f l : Nat}
theorem xc_writeRecord {post : SX → Prop} (hn : n < 7) (hq : ql n < 6) : wpX_writeRecord post (nI bg, ar_b df, ar_b iq, ar_b tb, ar_b up, ar_n op, ar_n ov, ar_n sp, ar_n sv, ar_n qb, ar_n qi, ar_n qv, ar_n ql, ar_n so, ar_b fa, ar_n ba, ar_n an, ar_b co, pc_x pk, ar_b fr, ar_n kv, ar_n vo, ar_n kn) (nI n) (nI b) (nI i) (nI v) ↔ post (nI bg, ar_b df, ar_b iq, ar_b tb, ar_b up, ar_n op, ar_n ov, ar_n sp, ar_n sv, ar_n (st_n qb (n * 6 + ql n) b), ar_n (st_n qi (n * 6 + ql n) i), ar_n (st_n qv (n * 6 + ql n) v), ar_n (st_n ql n (ql n + 1)), ar_n so, ar_b fa, ar_n ba, ar_n an, ar_b co, pc_x pk, ar_b fr, ar_n kv, ar_n vo, ar_n kn) := by
  simp (disch := first | omega | assumption) only [li_0, li_1, li_2, li_3, li_4, li_6, li_7, li_8, li_9, li_10, li_12, li_21, li_24, li_31, li_60, li_63, li_127, li_128, li_256, li_312, li_384, nI_add, nu_mul, nu_sub, nu_div, nu_and, nu_or, nu_shr, nu_bit, nu_diff, bi_2, nI_leI, nI_ltI, nI_eq, vp_in_nI, nI_clamp, ar_na, ar_ba, bo_0, bo_1, bo_it, bo_if, bo_w, bo_w0, bo_w1, bo_nar, bo_n1, bo_nn0, st_bu, st_bu1, st_bu0, st_nu, forall_eq, true_implies, false_implies, forall_const, not_true_eq_false, not_false_eq_true, and_true, true_and, implies_true, and_self, Bool.false_eq_true, Bool.true_eq_false, reduceCtorEq, ite_true, ite_false, if_true, if_false, eq_self, Nat.zero_add, Nat.add_zero, Nat.le_refl, Nat.lt_irrefl, Nat.reduceEqDiff, Nat.reduceLeDiff, Nat.reduceLT, Nat.reduceAdd, Nat.reduceMul, Nat.reduceSub, wpX_writeRecord]
theorem xc_writeAnswer {post : SX → Prop} (hn : n < 7) (hq : ql n < 6) : wpX_writeAnswer post (nI bg, ar_b df, ar_b iq, ar_b tb, ar_b up, ar_n op, ar_n ov, ar_n sp, ar_n sv, ar_n qb, ar_n qi, ar_n qv, ar_n ql, ar_n so, ar_b fa, ar_n ba, ar_n an, ar_b co, pc_x pk, ar_b fr, ar_n kv, ar_n vo, ar_n kn) (nI b) (nI n) ↔ post (nI bg, ar_b df, ar_b iq, ar_b tb, ar_b up, ar_n (st_n op n b), ar_n ov, ar_n sp, ar_n sv, ar_n (st_n qb (n * 6 + ql n) b), ar_n (st_n qi (n * 6 + ql n) 0), ar_n (st_n qv (n * 6 + ql n) 0), ar_n (st_n ql n (ql n + 1)), ar_n so, ar_b fa, ar_n ba, ar_n an, ar_b co, pc_x pk, ar_b fr, ar_n kv, ar_n vo, ar_n kn) := by
  simp (disch := first | omega | assumption) only [li_0, li_1, li_2, li_3, li_4, li_6, li_7, li_8, li_9, li_10, li_12, li_21, li_24, li_31, li_60, li_63, li_127, li_128, li_256, li_312, li_384, nI_add, nu_mul, nu_sub, nu_div, nu_and, nu_or, nu_shr, nu_bit, nu_diff, bi_2, nI_leI, nI_ltI, nI_eq, vp_in_nI, nI_clamp, ar_na, ar_ba, bo_0, bo_1, bo_it, bo_if, bo_w, bo_w0, bo_w1, bo_nar, bo_n1, bo_nn0, st_bu, st_bu1, st_bu0, st_nu, forall_eq, true_implies, false_implies, forall_const, not_true_eq_false, not_false_eq_true, and_true, true_and, implies_true, and_self, Bool.false_eq_true, Bool.true_eq_false, reduceCtorEq, ite_true, ite_false, if_true, if_false, eq_self, Nat.zero_add, Nat.add_zero, Nat.le_refl, Nat.lt_irrefl, Nat.reduceEqDiff, Nat.reduceLeDiff, Nat.reduceLT, Nat.reduceAdd, Nat.reduceMul, Nat.reduceSub, wpX_writeAnswer, xc_writeRecord]
theorem xc_writeVote {post : SX → Prop} (hn : n < 7) (hi : i < 3) (hq : ql n < 6) : wpX_writeVote post (nI bg, ar_b df, ar_b iq, ar_b tb, ar_b up, ar_n op, ar_n ov, ar_n sp, ar_n sv, ar_n qb, ar_n qi, ar_n qv, ar_n ql, ar_n so, ar_b fa, ar_n ba, ar_n an, ar_b co, pc_x pk, ar_b fr, ar_n kv, ar_n vo, ar_n kn) (nI b) (nI i) (nI n) (nI v) ↔ post (nI bg, ar_b df, ar_b iq, ar_b tb, ar_b up, ar_n (st_n op n b), ar_n (st_n ov (n * 3 + i) (b * 8 + v)), ar_n sp, ar_n sv, ar_n (st_n qb (n * 6 + ql n) b), ar_n (st_n qi (n * 6 + ql n) i), ar_n (st_n qv (n * 6 + ql n) v), ar_n (st_n ql n (ql n + 1)), ar_n so, ar_b fa, ar_n ba, ar_n an, ar_b co, pc_x pk, ar_b fr, ar_n kv, ar_n vo, ar_n kn) := by
  simp (disch := first | omega | assumption) only [li_0, li_1, li_2, li_3, li_4, li_6, li_7, li_8, li_9, li_10, li_12, li_21, li_24, li_31, li_60, li_63, li_127, li_128, li_256, li_312, li_384, nI_add, nu_mul, nu_sub, nu_div, nu_and, nu_or, nu_shr, nu_bit, nu_diff, bi_2, nI_leI, nI_ltI, nI_eq, vp_in_nI, nI_clamp, ar_na, ar_ba, bo_0, bo_1, bo_it, bo_if, bo_w, bo_w0, bo_w1, bo_nar, bo_n1, bo_nn0, st_bu, st_bu1, st_bu0, st_nu, forall_eq, true_implies, false_implies, forall_const, not_true_eq_false, not_false_eq_true, and_true, true_and, implies_true, and_self, Bool.false_eq_true, Bool.true_eq_false, reduceCtorEq, ite_true, ite_false, if_true, if_false, eq_self, Nat.zero_add, Nat.add_zero, Nat.le_refl, Nat.lt_irrefl, Nat.reduceEqDiff, Nat.reduceLeDiff, Nat.reduceLT, Nat.reduceAdd, Nat.reduceMul, Nat.reduceSub, wpX_writeVote, xc_writeRecord]
theorem yc_write {post : Int32 → SY → Prop} (hn : n < 7) (hq : ql n ≤ 6) : wpY_write post (nI bg, srt, num, ar_n so, ar_n ba, ar_n an, pc_y pk, ar_n kv, ar_b fa, ar_b co, ar_b fr, ar_b dn, ar_n sp, ar_n sv, ar_n ql, ar_n qb, ar_n qj, ar_n qv, ar_n vo, ar_n kn) (nI n) (nI b) (nI i) (nI v) ↔ ((ql n = 6 → post (nI 0) (nI bg, srt, num, ar_n so, ar_n ba, ar_n an, pc_y pk, ar_n kv, ar_b fa, ar_b co, ar_b fr, ar_b dn, ar_n sp, ar_n sv, ar_n ql, ar_n qb, ar_n qj, ar_n qv, ar_n vo, ar_n kn)) ∧ (¬ ql n = 6 → post (nI 1) (nI bg, srt, num, ar_n so, ar_n ba, ar_n an, pc_y pk, ar_n kv, ar_b fa, ar_b co, ar_b fr, ar_b dn, ar_n sp, ar_n sv, ar_n (st_n ql n (ql n + 1)), ar_n (st_n qb (n * 6 + ql n) b), ar_n (st_n qj (n * 6 + ql n) i), ar_n (st_n qv (n * 6 + ql n) v), ar_n vo, ar_n kn))) := by
  by_cases z : ql n = 6
  · simp (disch := first | omega | assumption) only [li_0, li_1, li_2, li_3, li_4, li_6, li_7, li_8, li_9, li_10, li_12, li_21, li_24, li_31, li_60, li_63, li_127, li_128, li_256, li_312, li_384, nI_add, nu_mul, nu_sub, nu_div, nu_and, nu_or, nu_shr, nu_bit, nu_diff, bi_2, nI_leI, nI_ltI, nI_eq, vp_in_nI, nI_clamp, ar_na, ar_ba, bo_0, bo_1, bo_it, bo_if, bo_w, bo_w0, bo_w1, bo_nar, bo_n1, bo_nn0, st_bu, st_bu1, st_bu0, st_nu, forall_eq, true_implies, false_implies, forall_const, not_true_eq_false, not_false_eq_true, and_true, true_and, implies_true, and_self, Bool.false_eq_true, Bool.true_eq_false, reduceCtorEq, ite_true, ite_false, if_true, if_false, eq_self, Nat.zero_add, Nat.add_zero, Nat.le_refl, Nat.lt_irrefl, Nat.reduceEqDiff, Nat.reduceLeDiff, Nat.reduceLT, Nat.reduceAdd, Nat.reduceMul, Nat.reduceSub, wpY_write, z]
  · simp (disch := first | omega | assumption) only [li_0, li_1, li_2, li_3, li_4, li_6, li_7, li_8, li_9, li_10, li_12, li_21, li_24, li_31, li_60, li_63, li_127, li_128, li_256, li_312, li_384, nI_add, nu_mul, nu_sub, nu_div, nu_and, nu_or, nu_shr, nu_bit, nu_diff, bi_2, nI_leI, nI_ltI, nI_eq, vp_in_nI, nI_clamp, ar_na, ar_ba, bo_0, bo_1, bo_it, bo_if, bo_w, bo_w0, bo_w1, bo_nar, bo_n1, bo_nn0, st_bu, st_bu1, st_bu0, st_nu, forall_eq, true_implies, false_implies, forall_const, not_true_eq_false, not_false_eq_true, and_true, true_and, implies_true, and_self, Bool.false_eq_true, Bool.true_eq_false, reduceCtorEq, ite_true, ite_false, if_true, if_false, eq_self, Nat.zero_add, Nat.add_zero, Nat.le_refl, Nat.lt_irrefl, Nat.reduceEqDiff, Nat.reduceLeDiff, Nat.reduceLT, Nat.reduceAdd, Nat.reduceMul, Nat.reduceSub, wpY_write, z, cm_6]
/-- a record is written -/
theorem in_write (H : in_all bg df iq up fr dn op ov sp sv qb qi qj qv ql so ba an pk kv vo kn srt num) {ov' : Nat → Nat} (hn : n < 7) (hup : up n = true) (hq6 : ql n < 6) (hop : op n ≤ b) (hr : rc_ bg pk b i j v) (hov : ∀ m i', m < 7 → i' < 3 → ov' (m * 3 + i') = if m = n ∧ j = i' then 8 * b + v else ov (m * 3 + i')) : in_all bg df iq up fr dn (st_n op n b) ov' sp sv (st_n qb (n * 6 + ql n) b) (st_n qi (n * 6 + ql n) i) (st_n qj (n * 6 + ql n) j) (st_n qv (n * 6 + ql n) v) (st_n ql n (ql n + 1)) so ba an pk kv vo kn srt num := by
  obtain ⟨hb, hs, hbb, hp, hv, hc, hq, ho, ha, hd⟩ := H
  refine ⟨hb, hs, hbb, hp, hv, hc, ?_, ?_, ha, hd⟩
  · intro m hm
    obtain ⟨q1, q2, q3, q4⟩ := hq m hm
    by_cases e : m = n
    · subst e
      have o1 := (ho m hm).1
      rw [st_eq]
      refine ⟨by omega, q2, fun z => absurd (hup.symm.trans z) (by decide), fun p hp' => ?_⟩
      have hspb : sp m ≤ b := by
        by_cases z : ql m = 0
        · rw [if_pos z] at o1; omega
        · rw [if_neg z] at o1
          have := (q4 (ql m - 1) (by omega)).2.1
          rw [show m * 6 + (ql m - 1) = m * 6 + ql m - 1 by omega] at this
          omega
      by_cases e : p = ql m
      · subst e
        rw [st_eq, st_eq, st_eq, st_eq]
        exact ⟨hr, hspb, fun z => absurd z (by omega)⟩
      · obtain ⟨g1, g2, g3⟩ := q4 p (by omega)
        rw [st_ne (by omega), st_ne (by omega), st_ne (by omega), st_ne (by omega)]
        refine ⟨g1, g2, fun z => ?_⟩
        by_cases e2 : p + 1 = ql m
        · rw [show m * 6 + p + 1 = m * 6 + ql m by omega, st_eq]
          rw [if_neg (by omega), show m * 6 + ql m - 1 = m * 6 + p by omega] at o1
          omega
        · rw [st_ne (by omega)]
          exact g3 (by omega)
    · rw [st_ne e]
      refine ⟨q1, q2, q3, fun p hp' => ?_⟩
      obtain ⟨g1, g2, g3⟩ := q4 p hp'
      rw [st_ne (by omega), st_ne (by omega), st_ne (by omega), st_ne (by omega)]
      refine ⟨g1, g2, fun z => ?_⟩
      rw [st_ne (by omega)]
      exact g3 z
  · intro m hm
    obtain ⟨q1, q2, q3, q4⟩ := hq m hm
    obtain ⟨o1, o2⟩ := ho m hm
    by_cases e : m = n
    · subst e
      rw [st_eq, st_eq]
      refine ⟨?_, fun i' hi' => ?_⟩
      · rw [if_neg (by omega), show m * 6 + (ql m + 1) - 1 = m * 6 + ql m by omega, st_eq]
      · rw [hov m i' hm hi']
        unfold wv_
        rw [lo_fs, st_eq, st_eq, st_eq]
        have e2 : lo_f (fun k v_1 => if st_n qj (m * 6 + ql m) j k = i' then 8 * st_n qb (m * 6 + ql m) b k + st_n qv (m * 6 + ql m) v k else v_1) (ql m) (m * 6) (sv (m * 3 + i')) = ov (m * 3 + i') := by
          rw [o2 i' hi']
          refine lo_fc _ _ _ fun k a h1 h2 => ?_
          rw [st_ne (by omega), st_ne (by omega), st_ne (by omega)]
        rw [e2]
        by_cases z : j = i'
        · rw [if_pos ⟨rfl, z⟩, if_pos z]
        · rw [if_neg (fun q => z q.2), if_neg z]
    · rw [st_ne e, st_ne e]
      refine ⟨?_, fun i' hi' => ?_⟩
      · rw [o1]
        by_cases z : ql m = 0
        · rw [if_pos z, if_pos z]
        · rw [if_neg z, if_neg z, st_ne (by omega)]
      · rw [hov m i' hm hi', if_neg (fun q => e q.1), o2 i' hi']
        refine lo_fc _ _ _ fun k a h1 h2 => ?_
        rw [st_ne (by omega), st_ne (by omega), st_ne (by omega)]
theorem in_ans (H : in_all bg df iq up fr dn op ov sp sv qb qi qj qv ql so ba an pk kv vo kn srt num) (hn : n < 7) (hup : up n = true) (hq6 : ql n < 6) (hop : op n < b) (hb1 : 1 ≤ b) (hb2 : b ≤ bg) : in_all bg df iq up fr dn (st_n op n b) ov sp sv (st_n qb (n * 6 + ql n) b) (st_n qi (n * 6 + ql n) 0) (st_n qj (n * 6 + ql n) 3) (st_n qv (n * 6 + ql n) 0) (st_n ql n (ql n + 1)) so ba an pk kv vo kn srt num :=
  in_write H hn hup hq6 (by omega) ⟨hb1, hb2, Or.inl ⟨rfl, rfl⟩⟩ (fun m i' hm hi' => (if_neg (by omega)).symm)
theorem in_vote (H : in_all bg df iq up fr dn op ov sp sv qb qi qj qv ql so ba an pk kv vo kn srt num) (hn : n < 7) (hi : i < 3) (hup : up n = true) (hq6 : ql n < 6) (hop : op n ≤ b) (hb1 : 1 ≤ b) (hb2 : b ≤ bg) (hv1 : 1 ≤ v) (hv7 : v ≤ 7) (hpk : pk (b * 3 + i) ≠ 0) : in_all bg df iq up fr dn (st_n op n b) (st_n ov (n * 3 + i) (b * 8 + v)) sp sv (st_n qb (n * 6 + ql n) b) (st_n qi (n * 6 + ql n) i) (st_n qj (n * 6 + ql n) i) (st_n qv (n * 6 + ql n) v) (st_n ql n (ql n + 1)) so ba an pk kv vo kn srt num := by
  refine in_write H hn hup hq6 hop ⟨hb1, hb2, Or.inr ⟨hv1, hv7, rfl, hi, hpk⟩⟩ (fun m i' hm hi' => ?_)
  by_cases z : m = n ∧ i = i'
  · rw [if_pos z, z.1, ← z.2, st_eq]; omega
  · rw [if_neg z, st_ne (by omega)]
theorem yc_cast {post : Int32 → SY → Prop} (H : in_all bg df iq up fr dn op ov sp sv qb qi qj qv ql so ba an pk kv vo kn srt num) (hn : n < 7) (hi : i < 3) (hb : b ≤ 12) (hpk : pk (b * 3 + i) ≠ 0) : wpY_cast post (nI bg, srt, num, ar_n so, ar_n ba, ar_n an, pc_y pk, ar_n kv, ar_b fa, ar_b co, ar_b fr, ar_b dn, ar_n sp, ar_n sv, ar_n ql, ar_n qb, ar_n qj, ar_n qv, ar_n vo, ar_n kn) (nI b) (nI i) (nI n) (nI v) ↔ ((wo_ up op ov ql pk b i n = false → post (nI 0) (nI bg, srt, num, ar_n so, ar_n ba, ar_n an, pc_y pk, ar_n kv, ar_b fa, ar_b co, ar_b fr, ar_b dn, ar_n sp, ar_n sv, ar_n ql, ar_n qb, ar_n qj, ar_n qv, ar_n vo, ar_n kn)) ∧ (wo_ up op ov ql pk b i n = true → post (nI 1) (nI bg, srt, num, ar_n so, ar_n ba, ar_n an, pc_y pk, ar_n kv, ar_b fa, ar_b co, ar_b fr, ar_b dn, ar_n sp, ar_n sv, ar_n (st_n ql n (ql n + 1)), ar_n (st_n qb (n * 6 + ql n) b), ar_n (st_n qj (n * 6 + ql n) i), ar_n (st_n qv (n * 6 + ql n) v), ar_n vo, ar_n kn))) := by
  have hop := op_le H hn
  have hov := ov_lt H hn hi
  have hdn := H.2.2.2.2.2.2.2.2.2 n hn
  have hq6 := (H.2.2.2.2.2.2.1 n hn).1
  have hb' := H.1
  unfold wo_
  cases z : up n
  · rw [z] at hdn
    simp (disch := first | omega | assumption) only [li_0, li_1, li_2, li_3, li_4, li_6, li_7, li_8, li_9, li_10, li_12, li_21, li_24, li_31, li_60, li_63, li_127, li_128, li_256, li_312, li_384, nI_add, nu_mul, nu_sub, nu_div, nu_and, nu_or, nu_shr, nu_bit, nu_diff, bi_2, nI_leI, nI_ltI, nI_eq, vp_in_nI, nI_clamp, ar_na, ar_ba, bo_0, bo_1, bo_it, bo_if, bo_w, bo_w0, bo_w1, bo_nar, bo_n1, bo_nn0, st_bu, st_bu1, st_bu0, st_nu, forall_eq, true_implies, false_implies, forall_const, not_true_eq_false, not_false_eq_true, and_true, true_and, implies_true, and_self, Bool.false_eq_true, Bool.true_eq_false, reduceCtorEq, ite_true, ite_false, if_true, if_false, eq_self, Nat.zero_add, Nat.add_zero, Nat.le_refl, Nat.lt_irrefl, Nat.reduceEqDiff, Nat.reduceLeDiff, Nat.reduceLT, Nat.reduceAdd, Nat.reduceMul, Nat.reduceSub, wpY_cast, hdn, Bool.not_false, Bool.false_and]
  · rw [z] at hdn
    by_cases w1 : op n ≤ b
    · by_cases w2 : ov (n * 3 + i) / 8 < b
      · by_cases w3 : ql n = 6
        · simp (disch := first | omega | assumption) only [li_0, li_1, li_2, li_3, li_4, li_6, li_7, li_8, li_9, li_10, li_12, li_21, li_24, li_31, li_60, li_63, li_127, li_128, li_256, li_312, li_384, nI_add, nu_mul, nu_sub, nu_div, nu_and, nu_or, nu_shr, nu_bit, nu_diff, bi_2, nI_leI, nI_ltI, nI_eq, vp_in_nI, nI_clamp, ar_na, ar_ba, bo_0, bo_1, bo_it, bo_if, bo_w, bo_w0, bo_w1, bo_nar, bo_n1, bo_nn0, st_bu, st_bu1, st_bu0, st_nu, forall_eq, true_implies, false_implies, forall_const, not_true_eq_false, not_false_eq_true, and_true, true_and, implies_true, and_self, Bool.false_eq_true, Bool.true_eq_false, reduceCtorEq, ite_true, ite_false, if_true, if_false, eq_self, Nat.zero_add, Nat.add_zero, Nat.le_refl, Nat.lt_irrefl, Nat.reduceEqDiff, Nat.reduceLeDiff, Nat.reduceLT, Nat.reduceAdd, Nat.reduceMul, Nat.reduceSub, wpY_cast, hdn, Bool.not_true, yc_ownPromise H, Nat.not_lt.mpr w1, yc_ownVote H, w2, yc_write, w3, decide_false, Bool.true_and, Bool.false_and]
        · simp (disch := first | omega | assumption) only [li_0, li_1, li_2, li_3, li_4, li_6, li_7, li_8, li_9, li_10, li_12, li_21, li_24, li_31, li_60, li_63, li_127, li_128, li_256, li_312, li_384, nI_add, nu_mul, nu_sub, nu_div, nu_and, nu_or, nu_shr, nu_bit, nu_diff, bi_2, nI_leI, nI_ltI, nI_eq, vp_in_nI, nI_clamp, ar_na, ar_ba, bo_0, bo_1, bo_it, bo_if, bo_w, bo_w0, bo_w1, bo_nar, bo_n1, bo_nn0, st_bu, st_bu1, st_bu0, st_nu, forall_eq, true_implies, false_implies, forall_const, not_true_eq_false, not_false_eq_true, and_true, true_and, implies_true, and_self, Bool.false_eq_true, Bool.true_eq_false, reduceCtorEq, ite_true, ite_false, if_true, if_false, eq_self, Nat.zero_add, Nat.add_zero, Nat.le_refl, Nat.lt_irrefl, Nat.reduceEqDiff, Nat.reduceLeDiff, Nat.reduceLT, Nat.reduceAdd, Nat.reduceMul, Nat.reduceSub, wpY_cast, hdn, Bool.not_true, yc_ownPromise H, Nat.not_lt.mpr w1, yc_ownVote H, w1, w2, yc_write, w3, hpk, ne_eq, show ql n < 6 by omega, decide_true, Bool.and_self]
      · simp (disch := first | omega | assumption) only [li_0, li_1, li_2, li_3, li_4, li_6, li_7, li_8, li_9, li_10, li_12, li_21, li_24, li_31, li_60, li_63, li_127, li_128, li_256, li_312, li_384, nI_add, nu_mul, nu_sub, nu_div, nu_and, nu_or, nu_shr, nu_bit, nu_diff, bi_2, nI_leI, nI_ltI, nI_eq, vp_in_nI, nI_clamp, ar_na, ar_ba, bo_0, bo_1, bo_it, bo_if, bo_w, bo_w0, bo_w1, bo_nar, bo_n1, bo_nn0, st_bu, st_bu1, st_bu0, st_nu, forall_eq, true_implies, false_implies, forall_const, not_true_eq_false, not_false_eq_true, and_true, true_and, implies_true, and_self, Bool.false_eq_true, Bool.true_eq_false, reduceCtorEq, ite_true, ite_false, if_true, if_false, eq_self, Nat.zero_add, Nat.add_zero, Nat.le_refl, Nat.lt_irrefl, Nat.reduceEqDiff, Nat.reduceLeDiff, Nat.reduceLT, Nat.reduceAdd, Nat.reduceMul, Nat.reduceSub, wpY_cast, hdn, Bool.not_true, yc_ownPromise H, Nat.not_lt.mpr w1, yc_ownVote H, w2, and_false, decide_false, Bool.and_false]
    · simp (disch := first | omega | assumption) only [li_0, li_1, li_2, li_3, li_4, li_6, li_7, li_8, li_9, li_10, li_12, li_21, li_24, li_31, li_60, li_63, li_127, li_128, li_256, li_312, li_384, nI_add, nu_mul, nu_sub, nu_div, nu_and, nu_or, nu_shr, nu_bit, nu_diff, bi_2, nI_leI, nI_ltI, nI_eq, vp_in_nI, nI_clamp, ar_na, ar_ba, bo_0, bo_1, bo_it, bo_if, bo_w, bo_w0, bo_w1, bo_nar, bo_n1, bo_nn0, st_bu, st_bu1, st_bu0, st_nu, forall_eq, true_implies, false_implies, forall_const, not_true_eq_false, not_false_eq_true, and_true, true_and, implies_true, and_self, Bool.false_eq_true, Bool.true_eq_false, reduceCtorEq, ite_true, ite_false, if_true, if_false, eq_self, Nat.zero_add, Nat.add_zero, Nat.le_refl, Nat.lt_irrefl, Nat.reduceEqDiff, Nat.reduceLeDiff, Nat.reduceLT, Nat.reduceAdd, Nat.reduceMul, Nat.reduceSub, wpY_cast, hdn, Bool.not_true, yc_ownPromise H, Nat.lt_of_not_le w1, w1, false_and, and_false, decide_false, Bool.and_false]
end
