/-! define -/
theorem li_W : (9999999 : Int32) = nI 9999999 := rfl
theorem li_L : (268435455 : Int32) = nI 268435455 := rfl
def ir_ (so a b c d : Int32) : Bool :=
  if so = nI 0 then iz 1 127 a && iz 1 7 b && iz 1 7 c && iz 0 7 d
  else if so = nI 1 then iz 1 7 a && iz 1 7 b && !decide (nI 7 < a * b)
  else if so = nI 2 then iz 0 9999999 a && iz 1 63 b && iz 1 63 c && iz 0 63 d
  else if so = nI 3 then iz 0 268435455 a && iz 0 268435455 b && iz 0 268435455 c
  else false
theorem iz_no {a b : Nat} {x : Int32} (h : iz a b x = false) {j : Nat} (h1 : a ≤ j) (h2 : j ≤ b) (h3 : b < 2 ^ 31) : ¬ x = nI j := by
  rintro rfl
  rw [iz_n (by omega), decide_eq_false_iff_not] at h
  exact h ⟨h1, h2⟩
theorem ir_rg {so a b c d : Int32} (h : ir_ so a b c d = true) : rg_ so a b c d := by
  unfold ir_ at h
  by_cases e0 : so = nI 0
  · rw [if_pos e0] at h
    simp only [Bool.and_eq_true] at h
    obtain ⟨⟨⟨ha, hb⟩, hc⟩, hd⟩ := h
    rcases iz_c 1 127 a with z | ⟨a', a1, a2, a3, rfl, _⟩
    · rw [z] at ha; exact nomatch ha
    rcases iz_c 1 7 b with z | ⟨b', b1, b2, b3, rfl, _⟩
    · rw [z] at hb; exact nomatch hb
    rcases iz_c 1 7 c with z | ⟨c', c1, c2, c3, rfl, _⟩
    · rw [z] at hc; exact nomatch hc
    rcases iz_c 0 7 d with z | ⟨d', d1, d2, d3, rfl, _⟩
    · rw [z] at hd; exact nomatch hd
    exact Or.inl ⟨e0, a', b', c', d', rfl, rfl, rfl, rfl, a1, a2, b1, b2, c1, c2, d2⟩
  rw [if_neg e0] at h
  by_cases e1 : so = nI 1
  · rw [if_pos e1] at h
    simp only [Bool.and_eq_true] at h
    obtain ⟨⟨ha, hb⟩, hc⟩ := h
    rcases iz_c 1 7 a with z | ⟨a', a1, a2, a3, rfl, _⟩
    · rw [z] at ha; exact nomatch ha
    rcases iz_c 1 7 b with z | ⟨b', b1, b2, b3, rfl, _⟩
    · rw [z] at hb; exact nomatch hb
    have hm : a' * b' ≤ 7 * 7 := Nat.mul_le_mul a2 b2
    refine Or.inr (Or.inl ⟨e1, a', b', rfl, rfl, a1, a2, b1, b2, ?_⟩)
    simp only [nu_mul, nI_ltI (show 7 < 2 ^ 31 by decide) (show a' * b' < 2 ^ 31 by omega)] at hc
    simpa using hc
  rw [if_neg e1] at h
  by_cases e2 : so = nI 2
  · rw [if_pos e2] at h
    simp only [Bool.and_eq_true] at h
    obtain ⟨⟨⟨ha, hb⟩, hc⟩, hd⟩ := h
    rcases iz_c 0 9999999 a with z | ⟨a', a1, a2, a3, rfl, _⟩
    · rw [z] at ha; exact nomatch ha
    rcases iz_c 1 63 b with z | ⟨b', b1, b2, b3, rfl, _⟩
    · rw [z] at hb; exact nomatch hb
    rcases iz_c 1 63 c with z | ⟨c', c1, c2, c3, rfl, _⟩
    · rw [z] at hc; exact nomatch hc
    rcases iz_c 0 63 d with z | ⟨d', d1, d2, d3, rfl, _⟩
    · rw [z] at hd; exact nomatch hd
    exact Or.inr (Or.inr (Or.inl ⟨e2, a', b', c', d', rfl, rfl, rfl, rfl, a2, b1, b2, c1, c2, d2⟩))
  rw [if_neg e2] at h
  by_cases e3 : so = nI 3
  · rw [if_pos e3] at h
    simp only [Bool.and_eq_true] at h
    obtain ⟨⟨ha, hb⟩, hc⟩ := h
    rcases iz_c 0 268435455 a with z | ⟨a', a1, a2, a3, rfl, _⟩
    · rw [z] at ha; exact nomatch ha
    rcases iz_c 0 268435455 b with z | ⟨b', b1, b2, b3, rfl, _⟩
    · rw [z] at hb; exact nomatch hb
    rcases iz_c 0 268435455 c with z | ⟨c', c1, c2, c3, rfl, _⟩
    · rw [z] at hc; exact nomatch hc
    exact Or.inr (Or.inr (Or.inr ⟨e3, a', b', c', rfl, rfl, rfl, a2, b2, c2⟩))
  · rw [if_neg e3] at h; exact nomatch h
theorem xc_inRange {post : Int32 → Prop} {so a b c d : Int32} : wpX_inRange post so a b c d ↔ post (bo_i (ir_ so a b c d)) := by
  simp only [wpX_inRange]
  refine (iz_C (b := 3) (by decide)).trans ?_
  unfold ir_
  rcases iz_c 0 3 so with h | ⟨j, h1, h2, h3, rfl, h⟩
  · have n0 := iz_no h (j := 0) (by decide) (by decide) (by decide)
    have n1 := iz_no h (j := 1) (by decide) (by decide) (by decide)
    have n2 := iz_no h (j := 2) (by decide) (by decide) (by decide)
    have n3 := iz_no h (j := 3) (by decide) (by decide) (by decide)
    simp only [h, n0, n1, n2, n3, if_false, Bool.false_eq_true, false_implies, and_true, true_implies, bo_if, li_0]
  · rcases (by omega : j = 0 ∨ j = 1 ∨ j = 2 ∨ j = 3) with rfl | rfl | rfl | rfl
    · simp (disch := first | omega | assumption) only [li_0, li_1, li_2, li_3, li_4, li_6, li_7, li_8, li_9, li_10, li_12, li_21, li_24, li_31, li_60, li_63, li_127, li_128, li_256, li_312, li_384, nI_add, nu_mul, nu_sub, nu_div, nu_and, nu_or, nu_shr, nu_bit, nu_diff, bi_2, nI_leI, nI_ltI, nI_eq, vp_in_nI, nI_clamp, ar_na, ar_ba, bo_0, bo_1, bo_it, bo_if, bo_w, bo_w0, bo_w1, bo_nar, bo_n1, bo_nn0, st_bu, st_bu1, st_bu0, st_nu, forall_eq, true_implies, false_implies, forall_const, not_true_eq_false, not_false_eq_true, and_true, true_and, implies_true, and_self, Bool.false_eq_true, Bool.true_eq_false, reduceCtorEq, ite_true, ite_false, if_true, if_false, eq_self, Nat.zero_add, Nat.add_zero, Nat.le_refl, Nat.lt_irrefl, Nat.reduceEqDiff, Nat.reduceLeDiff, Nat.reduceLT, Nat.reduceAdd, Nat.reduceMul, Nat.reduceSub, h, xc_within]
      cases iz 1 127 a <;> cases iz 1 7 b <;> cases iz 1 7 c <;> cases iz 0 7 d <;> simp (disch := first | omega | assumption) only [li_0, li_1, li_2, li_3, li_4, li_6, li_7, li_8, li_9, li_10, li_12, li_21, li_24, li_31, li_60, li_63, li_127, li_128, li_256, li_312, li_384, nI_add, nu_mul, nu_sub, nu_div, nu_and, nu_or, nu_shr, nu_bit, nu_diff, bi_2, nI_leI, nI_ltI, nI_eq, vp_in_nI, nI_clamp, ar_na, ar_ba, bo_0, bo_1, bo_it, bo_if, bo_w, bo_w0, bo_w1, bo_nar, bo_n1, bo_nn0, st_bu, st_bu1, st_bu0, st_nu, forall_eq, true_implies, false_implies, forall_const, not_true_eq_false, not_false_eq_true, and_true, true_and, implies_true, and_self, Bool.false_eq_true, Bool.true_eq_false, reduceCtorEq, ite_true, ite_false, if_true, if_false, eq_self, Nat.zero_add, Nat.add_zero, Nat.le_refl, Nat.lt_irrefl, Nat.reduceEqDiff, Nat.reduceLeDiff, Nat.reduceLT, Nat.reduceAdd, Nat.reduceMul, Nat.reduceSub, Bool.and_self, Bool.and_false, Bool.false_and]
    · simp (disch := first | omega | assumption) only [li_0, li_1, li_2, li_3, li_4, li_6, li_7, li_8, li_9, li_10, li_12, li_21, li_24, li_31, li_60, li_63, li_127, li_128, li_256, li_312, li_384, nI_add, nu_mul, nu_sub, nu_div, nu_and, nu_or, nu_shr, nu_bit, nu_diff, bi_2, nI_leI, nI_ltI, nI_eq, vp_in_nI, nI_clamp, ar_na, ar_ba, bo_0, bo_1, bo_it, bo_if, bo_w, bo_w0, bo_w1, bo_nar, bo_n1, bo_nn0, st_bu, st_bu1, st_bu0, st_nu, forall_eq, true_implies, false_implies, forall_const, not_true_eq_false, not_false_eq_true, and_true, true_and, implies_true, and_self, Bool.false_eq_true, Bool.true_eq_false, reduceCtorEq, ite_true, ite_false, if_true, if_false, eq_self, Nat.zero_add, Nat.add_zero, Nat.le_refl, Nat.lt_irrefl, Nat.reduceEqDiff, Nat.reduceLeDiff, Nat.reduceLT, Nat.reduceAdd, Nat.reduceMul, Nat.reduceSub, h, xc_within]
      by_cases z : nI 7 < a * b
      · cases iz 1 7 a <;> cases iz 1 7 b <;> simp (disch := first | omega | assumption) only [li_0, li_1, li_2, li_3, li_4, li_6, li_7, li_8, li_9, li_10, li_12, li_21, li_24, li_31, li_60, li_63, li_127, li_128, li_256, li_312, li_384, nI_add, nu_mul, nu_sub, nu_div, nu_and, nu_or, nu_shr, nu_bit, nu_diff, bi_2, nI_leI, nI_ltI, nI_eq, vp_in_nI, nI_clamp, ar_na, ar_ba, bo_0, bo_1, bo_it, bo_if, bo_w, bo_w0, bo_w1, bo_nar, bo_n1, bo_nn0, st_bu, st_bu1, st_bu0, st_nu, forall_eq, true_implies, false_implies, forall_const, not_true_eq_false, not_false_eq_true, and_true, true_and, implies_true, and_self, Bool.false_eq_true, Bool.true_eq_false, reduceCtorEq, ite_true, ite_false, if_true, if_false, eq_self, Nat.zero_add, Nat.add_zero, Nat.le_refl, Nat.lt_irrefl, Nat.reduceEqDiff, Nat.reduceLeDiff, Nat.reduceLT, Nat.reduceAdd, Nat.reduceMul, Nat.reduceSub, z, Bool.and_self, Bool.and_false, Bool.false_and, decide_true, Bool.not_true]
      · cases iz 1 7 a <;> cases iz 1 7 b <;> simp (disch := first | omega | assumption) only [li_0, li_1, li_2, li_3, li_4, li_6, li_7, li_8, li_9, li_10, li_12, li_21, li_24, li_31, li_60, li_63, li_127, li_128, li_256, li_312, li_384, nI_add, nu_mul, nu_sub, nu_div, nu_and, nu_or, nu_shr, nu_bit, nu_diff, bi_2, nI_leI, nI_ltI, nI_eq, vp_in_nI, nI_clamp, ar_na, ar_ba, bo_0, bo_1, bo_it, bo_if, bo_w, bo_w0, bo_w1, bo_nar, bo_n1, bo_nn0, st_bu, st_bu1, st_bu0, st_nu, forall_eq, true_implies, false_implies, forall_const, not_true_eq_false, not_false_eq_true, and_true, true_and, implies_true, and_self, Bool.false_eq_true, Bool.true_eq_false, reduceCtorEq, ite_true, ite_false, if_true, if_false, eq_self, Nat.zero_add, Nat.add_zero, Nat.le_refl, Nat.lt_irrefl, Nat.reduceEqDiff, Nat.reduceLeDiff, Nat.reduceLT, Nat.reduceAdd, Nat.reduceMul, Nat.reduceSub, z, Bool.and_self, Bool.and_false, Bool.false_and, decide_false, Bool.not_false]
    · simp (disch := first | omega | assumption) only [li_0, li_1, li_2, li_3, li_4, li_6, li_7, li_8, li_9, li_10, li_12, li_21, li_24, li_31, li_60, li_63, li_127, li_128, li_256, li_312, li_384, nI_add, nu_mul, nu_sub, nu_div, nu_and, nu_or, nu_shr, nu_bit, nu_diff, bi_2, nI_leI, nI_ltI, nI_eq, vp_in_nI, nI_clamp, ar_na, ar_ba, bo_0, bo_1, bo_it, bo_if, bo_w, bo_w0, bo_w1, bo_nar, bo_n1, bo_nn0, st_bu, st_bu1, st_bu0, st_nu, forall_eq, true_implies, false_implies, forall_const, not_true_eq_false, not_false_eq_true, and_true, true_and, implies_true, and_self, Bool.false_eq_true, Bool.true_eq_false, reduceCtorEq, ite_true, ite_false, if_true, if_false, eq_self, Nat.zero_add, Nat.add_zero, Nat.le_refl, Nat.lt_irrefl, Nat.reduceEqDiff, Nat.reduceLeDiff, Nat.reduceLT, Nat.reduceAdd, Nat.reduceMul, Nat.reduceSub, h, xc_within, li_W]
      cases iz 0 9999999 a <;> cases iz 1 63 b <;> cases iz 1 63 c <;> cases iz 0 63 d <;> simp (disch := first | omega | assumption) only [li_0, li_1, li_2, li_3, li_4, li_6, li_7, li_8, li_9, li_10, li_12, li_21, li_24, li_31, li_60, li_63, li_127, li_128, li_256, li_312, li_384, nI_add, nu_mul, nu_sub, nu_div, nu_and, nu_or, nu_shr, nu_bit, nu_diff, bi_2, nI_leI, nI_ltI, nI_eq, vp_in_nI, nI_clamp, ar_na, ar_ba, bo_0, bo_1, bo_it, bo_if, bo_w, bo_w0, bo_w1, bo_nar, bo_n1, bo_nn0, st_bu, st_bu1, st_bu0, st_nu, forall_eq, true_implies, false_implies, forall_const, not_true_eq_false, not_false_eq_true, and_true, true_and, implies_true, and_self, Bool.false_eq_true, Bool.true_eq_false, reduceCtorEq, ite_true, ite_false, if_true, if_false, eq_self, Nat.zero_add, Nat.add_zero, Nat.le_refl, Nat.lt_irrefl, Nat.reduceEqDiff, Nat.reduceLeDiff, Nat.reduceLT, Nat.reduceAdd, Nat.reduceMul, Nat.reduceSub, Bool.and_self, Bool.and_false, Bool.false_and]
    · simp (disch := first | omega | assumption) only [li_0, li_1, li_2, li_3, li_4, li_6, li_7, li_8, li_9, li_10, li_12, li_21, li_24, li_31, li_60, li_63, li_127, li_128, li_256, li_312, li_384, nI_add, nu_mul, nu_sub, nu_div, nu_and, nu_or, nu_shr, nu_bit, nu_diff, bi_2, nI_leI, nI_ltI, nI_eq, vp_in_nI, nI_clamp, ar_na, ar_ba, bo_0, bo_1, bo_it, bo_if, bo_w, bo_w0, bo_w1, bo_nar, bo_n1, bo_nn0, st_bu, st_bu1, st_bu0, st_nu, forall_eq, true_implies, false_implies, forall_const, not_true_eq_false, not_false_eq_true, and_true, true_and, implies_true, and_self, Bool.false_eq_true, Bool.true_eq_false, reduceCtorEq, ite_true, ite_false, if_true, if_false, eq_self, Nat.zero_add, Nat.add_zero, Nat.le_refl, Nat.lt_irrefl, Nat.reduceEqDiff, Nat.reduceLeDiff, Nat.reduceLT, Nat.reduceAdd, Nat.reduceMul, Nat.reduceSub, h, xc_within, li_L]
      cases iz 0 268435455 a <;> cases iz 0 268435455 b <;> cases iz 0 268435455 c <;> simp (disch := first | omega | assumption) only [li_0, li_1, li_2, li_3, li_4, li_6, li_7, li_8, li_9, li_10, li_12, li_21, li_24, li_31, li_60, li_63, li_127, li_128, li_256, li_312, li_384, nI_add, nu_mul, nu_sub, nu_div, nu_and, nu_or, nu_shr, nu_bit, nu_diff, bi_2, nI_leI, nI_ltI, nI_eq, vp_in_nI, nI_clamp, ar_na, ar_ba, bo_0, bo_1, bo_it, bo_if, bo_w, bo_w0, bo_w1, bo_nar, bo_n1, bo_nn0, st_bu, st_bu1, st_bu0, st_nu, forall_eq, true_implies, false_implies, forall_const, not_true_eq_false, not_false_eq_true, and_true, true_and, implies_true, and_self, Bool.false_eq_true, Bool.true_eq_false, reduceCtorEq, ite_true, ite_false, if_true, if_false, eq_self, Nat.zero_add, Nat.add_zero, Nat.le_refl, Nat.lt_irrefl, Nat.reduceEqDiff, Nat.reduceLeDiff, Nat.reduceLT, Nat.reduceAdd, Nat.reduceMul, Nat.reduceSub, Bool.and_self, Bool.and_false, Bool.false_and]
theorem yc_inRange {post : Int32 → Prop} {so a b c d : Int32} : wpY_inRange post so a b c d ↔ post (bo_i (ir_ so a b c d)) := by
  exact xc_inRange
section
variable {bg : Nat} {df iq tb up fa co fr dn : Nat → Bool} {op ov sp sv qb qi qj qv ql so ba an pk kv vo kn : Nat → Nat} {srt num : Nat → Int32}
variable {x : Int32} {s k t m n i a q : Nat}
def hb_ (bg : Nat) (so : Nat → Nat) (s : Nat) : Bool := lo_a (fun b => decide (so b ≠ s)) bg 1
theorem bo_ps {b : Bool} {P : Int32 → Prop} : ((b = true → P (nI 0)) ∧ (b = false → P (nI 1))) ↔ P (bo_i (!b)) := by
  cases b <;> simp <;> exact Iff.rfl
theorem xc_hasBallot {post : Int32 → Prop} (hb : bg ≤ 12) (hbb : in_b bg df so ba) (hs : s < 4) : wpX_hasBallot post (nI bg, ar_b df, ar_b iq, ar_b tb, ar_b up, ar_n op, ar_n ov, ar_n sp, ar_n sv, ar_n qb, ar_n qi, ar_n qv, ar_n ql, ar_n so, ar_b fa, ar_n ba, ar_n an, ar_b co, pc_x pk, ar_b fr, ar_n kv, ar_n vo, ar_n kn) (nI s) ↔ post (bo_i (!hb_ bg so s)) := by
  simp only [wpX_hasBallot]
  refine (lo_allL (W := fun n i => wX_hasBallot_2 post (nI s) (nI bg) (ar_b df) (ar_b iq) (ar_b tb) (ar_b up) (ar_n op) (ar_n ov) (ar_n sp) (ar_n sv) (ar_n qb) (ar_n qi) (ar_n qv) (ar_n ql) (ar_n so) (ar_b fa) (ar_n ba) (ar_n an) (ar_b co) (pc_x pk) (ar_b fr) (ar_n kv) (ar_n vo) (ar_n kn) n (nI i)) (A := post (nI 1)) (B := post (nI 0)) (e := bg + 1) (lo := 1) (fun b => decide (so b ≠ s)) (fun _ h => h) ?_ ?_ ?_ bg 1 (Nat.le_refl _) (by omega)).trans bo_ps
  · intro n
    simp (disch := first | omega | assumption) only [li_0, li_1, li_2, li_3, li_4, li_6, li_7, li_8, li_9, li_10, li_12, li_21, li_24, li_31, li_60, li_63, li_127, li_128, li_256, li_312, li_384, nI_add, nu_mul, nu_sub, nu_div, nu_and, nu_or, nu_shr, nu_bit, nu_diff, bi_2, nI_leI, nI_ltI, nI_eq, vp_in_nI, nI_clamp, ar_na, ar_ba, bo_0, bo_1, bo_it, bo_if, bo_w, bo_w0, bo_w1, bo_nar, bo_n1, bo_nn0, st_bu, st_bu1, st_bu0, st_nu, forall_eq, true_implies, false_implies, forall_const, not_true_eq_false, not_false_eq_true, and_true, true_and, implies_true, and_self, Bool.false_eq_true, Bool.true_eq_false, reduceCtorEq, ite_true, ite_false, if_true, if_false, eq_self, Nat.zero_add, Nat.add_zero, Nat.le_refl, Nat.lt_irrefl, Nat.reduceEqDiff, Nat.reduceLeDiff, Nat.reduceLT, Nat.reduceAdd, Nat.reduceMul, Nat.reduceSub, wX_hasBallot_2, show bg < bg + 1 by omega]
  · intro n i hl hi h
    simp at h
    have := (hbb i (by omega) (by omega)).1
    simp (disch := first | omega | assumption) only [li_0, li_1, li_2, li_3, li_4, li_6, li_7, li_8, li_9, li_10, li_12, li_21, li_24, li_31, li_60, li_63, li_127, li_128, li_256, li_312, li_384, nI_add, nu_mul, nu_sub, nu_div, nu_and, nu_or, nu_shr, nu_bit, nu_diff, bi_2, nI_leI, nI_ltI, nI_eq, vp_in_nI, nI_clamp, ar_na, ar_ba, bo_0, bo_1, bo_it, bo_if, bo_w, bo_w0, bo_w1, bo_nar, bo_n1, bo_nn0, st_bu, st_bu1, st_bu0, st_nu, forall_eq, true_implies, false_implies, forall_const, not_true_eq_false, not_false_eq_true, and_true, true_and, implies_true, and_self, Bool.false_eq_true, Bool.true_eq_false, reduceCtorEq, ite_true, ite_false, if_true, if_false, eq_self, Nat.zero_add, Nat.add_zero, Nat.le_refl, Nat.lt_irrefl, Nat.reduceEqDiff, Nat.reduceLeDiff, Nat.reduceLT, Nat.reduceAdd, Nat.reduceMul, Nat.reduceSub, wX_hasBallot_2, show ¬ bg < i by omega, h]
  · intro n i hl hi h
    simp at h
    have := (hbb i (by omega) (by omega)).1
    simp (disch := first | omega | assumption) only [li_0, li_1, li_2, li_3, li_4, li_6, li_7, li_8, li_9, li_10, li_12, li_21, li_24, li_31, li_60, li_63, li_127, li_128, li_256, li_312, li_384, nI_add, nu_mul, nu_sub, nu_div, nu_and, nu_or, nu_shr, nu_bit, nu_diff, bi_2, nI_leI, nI_ltI, nI_eq, vp_in_nI, nI_clamp, ar_na, ar_ba, bo_0, bo_1, bo_it, bo_if, bo_w, bo_w0, bo_w1, bo_nar, bo_n1, bo_nn0, st_bu, st_bu1, st_bu0, st_nu, forall_eq, true_implies, false_implies, forall_const, not_true_eq_false, not_false_eq_true, and_true, true_and, implies_true, and_self, Bool.false_eq_true, Bool.true_eq_false, reduceCtorEq, ite_true, ite_false, if_true, if_false, eq_self, Nat.zero_add, Nat.add_zero, Nat.le_refl, Nat.lt_irrefl, Nat.reduceEqDiff, Nat.reduceLeDiff, Nat.reduceLT, Nat.reduceAdd, Nat.reduceMul, Nat.reduceSub, wX_hasBallot_2, show ¬ bg < i by omega, h]
theorem yc_define28 {post : Int32 → SY → Prop} {x2 x3 x4 x5 x6 : Int32} (hb : bg ≤ 12) (hbb : in_b bg df so ba) (hs : s < 4) : (∃ n, wY_define_28 post (nI s) x2 x3 x4 x5 x6 (nI bg) srt num (ar_n so) (ar_n ba) (ar_n an) (pc_y pk) (ar_n kv) (ar_b fa) (ar_b co) (ar_b fr) (ar_b dn) (ar_n sp) (ar_n sv) (ar_n ql) (ar_n qb) (ar_n qj) (ar_n qv) (ar_n vo) (ar_n kn) n (nI 1)) ↔ ((hb_ bg so s = true → wpY_set (fun v => wpY_isSound (fun r => (r = 0 → wpY_set (fun v => post 0 v) v (nI s) (srt s) (num (4 * s)) (num (4 * s + 1)) (num (4 * s + 2)) (num (4 * s + 3))) ∧ (¬ r = 0 → post 1 v)) v (nI s)) (nI bg, srt, num, ar_n so, ar_n ba, ar_n an, pc_y pk, ar_n kv, ar_b fa, ar_b co, ar_b fr, ar_b dn, ar_n sp, ar_n sv, ar_n ql, ar_n qb, ar_n qj, ar_n qv, ar_n vo, ar_n kn) (nI s) x2 x3 x4 x5 x6) ∧ (hb_ bg so s = false → post (nI 0) (nI bg, srt, num, ar_n so, ar_n ba, ar_n an, pc_y pk, ar_n kv, ar_b fa, ar_b co, ar_b fr, ar_b dn, ar_n sp, ar_n sv, ar_n ql, ar_n qb, ar_n qj, ar_n qv, ar_n vo, ar_n kn))) := by
  refine lo_allL (W := fun n i => wY_define_28 post (nI s) x2 x3 x4 x5 x6 (nI bg) srt num (ar_n so) (ar_n ba) (ar_n an) (pc_y pk) (ar_n kv) (ar_b fa) (ar_b co) (ar_b fr) (ar_b dn) (ar_n sp) (ar_n sv) (ar_n ql) (ar_n qb) (ar_n qj) (ar_n qv) (ar_n vo) (ar_n kn) n (nI i)) (A := post (nI 0) (nI bg, srt, num, ar_n so, ar_n ba, ar_n an, pc_y pk, ar_n kv, ar_b fa, ar_b co, ar_b fr, ar_b dn, ar_n sp, ar_n sv, ar_n ql, ar_n qb, ar_n qj, ar_n qv, ar_n vo, ar_n kn)) (e := bg + 1) (lo := 1) (fun b => decide (so b ≠ s)) (fun _ h => h) ?_ ?_ ?_ bg 1 (Nat.le_refl _) (by omega)
  · intro n
    simp (disch := first | omega | assumption) only [li_0, li_1, li_2, li_3, li_4, li_6, li_7, li_8, li_9, li_10, li_12, li_21, li_24, li_31, li_60, li_63, li_127, li_128, li_256, li_312, li_384, nI_add, nu_mul, nu_sub, nu_div, nu_and, nu_or, nu_shr, nu_bit, nu_diff, bi_2, nI_leI, nI_ltI, nI_eq, vp_in_nI, nI_clamp, ar_na, ar_ba, bo_0, bo_1, bo_it, bo_if, bo_w, bo_w0, bo_w1, bo_nar, bo_n1, bo_nn0, st_bu, st_bu1, st_bu0, st_nu, forall_eq, true_implies, false_implies, forall_const, not_true_eq_false, not_false_eq_true, and_true, true_and, implies_true, and_self, Bool.false_eq_true, Bool.true_eq_false, reduceCtorEq, ite_true, ite_false, if_true, if_false, eq_self, Nat.zero_add, Nat.add_zero, Nat.le_refl, Nat.lt_irrefl, Nat.reduceEqDiff, Nat.reduceLeDiff, Nat.reduceLT, Nat.reduceAdd, Nat.reduceMul, Nat.reduceSub, wY_define_28, show bg < bg + 1 by omega]
  · intro n i hl hi h
    simp at h
    have := (hbb i (by omega) (by omega)).1
    simp (disch := first | omega | assumption) only [li_0, li_1, li_2, li_3, li_4, li_6, li_7, li_8, li_9, li_10, li_12, li_21, li_24, li_31, li_60, li_63, li_127, li_128, li_256, li_312, li_384, nI_add, nu_mul, nu_sub, nu_div, nu_and, nu_or, nu_shr, nu_bit, nu_diff, bi_2, nI_leI, nI_ltI, nI_eq, vp_in_nI, nI_clamp, ar_na, ar_ba, bo_0, bo_1, bo_it, bo_if, bo_w, bo_w0, bo_w1, bo_nar, bo_n1, bo_nn0, st_bu, st_bu1, st_bu0, st_nu, forall_eq, true_implies, false_implies, forall_const, not_true_eq_false, not_false_eq_true, and_true, true_and, implies_true, and_self, Bool.false_eq_true, Bool.true_eq_false, reduceCtorEq, ite_true, ite_false, if_true, if_false, eq_self, Nat.zero_add, Nat.add_zero, Nat.le_refl, Nat.lt_irrefl, Nat.reduceEqDiff, Nat.reduceLeDiff, Nat.reduceLT, Nat.reduceAdd, Nat.reduceMul, Nat.reduceSub, wY_define_28, show ¬ bg < i by omega, h]
  · intro n i hl hi h
    simp at h
    have := (hbb i (by omega) (by omega)).1
    simp (disch := first | omega | assumption) only [li_0, li_1, li_2, li_3, li_4, li_6, li_7, li_8, li_9, li_10, li_12, li_21, li_24, li_31, li_60, li_63, li_127, li_128, li_256, li_312, li_384, nI_add, nu_mul, nu_sub, nu_div, nu_and, nu_or, nu_shr, nu_bit, nu_diff, bi_2, nI_leI, nI_ltI, nI_eq, vp_in_nI, nI_clamp, ar_na, ar_ba, bo_0, bo_1, bo_it, bo_if, bo_w, bo_w0, bo_w1, bo_nar, bo_n1, bo_nn0, st_bu, st_bu1, st_bu0, st_nu, forall_eq, true_implies, false_implies, forall_const, not_true_eq_false, not_false_eq_true, and_true, true_and, implies_true, and_self, Bool.false_eq_true, Bool.true_eq_false, reduceCtorEq, ite_true, ite_false, if_true, if_false, eq_self, Nat.zero_add, Nat.add_zero, Nat.le_refl, Nat.lt_irrefl, Nat.reduceEqDiff, Nat.reduceLeDiff, Nat.reduceLT, Nat.reduceAdd, Nat.reduceMul, Nat.reduceSub, wY_define_28, show ¬ bg < i by omega, h]
def sr_ (Q : Nat → Nat → Bool) (r : Nat) : Bool := lo_a (fun f => !(Q 2 f && Q 2 (127 &&& ((r &&& f) ^^^ 127)))) 128 0
def sn_ (Q : Nat → Nat → Bool) : Bool := Q 0 127 && (Q 1 127 && lo_a (fun r => !Q 0 r || (!Q 1 (127 &&& (r ^^^ 127)) && sr_ Q r)) 128 0)
theorem xc_trialRead {post : Int32 → Prop} {Q : Nat → Nat → Bool} (hQ : ∀ k t, k < 3 → t < 128 → tb (k * 128 + t) = Q k t) (ht : t < 128) : wpX_trialReadIsSound post (nI bg, ar_b df, ar_b iq, ar_b tb, ar_b up, ar_n op, ar_n ov, ar_n sp, ar_n sv, ar_n qb, ar_n qi, ar_n qv, ar_n ql, ar_n so, ar_b fa, ar_n ba, ar_n an, ar_b co, pc_x pk, ar_b fr, ar_n kv, ar_n vo, ar_n kn) (nI t) ↔ post (bo_i (!Q 1 (127 &&& (t ^^^ 127)) && sr_ Q t)) := by
  have hc : 127 &&& (t ^^^ 127) < 128 := nu_and7 (by decide)
  have h1 : tb (128 + (127 &&& (t ^^^ 127))) = Q 1 (127 &&& (t ^^^ 127)) := by
    have := hQ 1 _ (by decide) hc
    rwa [Nat.one_mul] at this
  cases h : Q 1 (127 &&& (t ^^^ 127))
  · rw [h] at h1
    simp (disch := first | omega | assumption) only [li_0, li_1, li_2, li_3, li_4, li_6, li_7, li_8, li_9, li_10, li_12, li_21, li_24, li_31, li_60, li_63, li_127, li_128, li_256, li_312, li_384, nI_add, nu_mul, nu_sub, nu_div, nu_and, nu_or, nu_shr, nu_bit, nu_diff, bi_2, nI_leI, nI_ltI, nI_eq, vp_in_nI, nI_clamp, ar_na, ar_ba, bo_0, bo_1, bo_it, bo_if, bo_w, bo_w0, bo_w1, bo_nar, bo_n1, bo_nn0, st_bu, st_bu1, st_bu0, st_nu, forall_eq, true_implies, false_implies, forall_const, not_true_eq_false, not_false_eq_true, and_true, true_and, implies_true, and_self, Bool.false_eq_true, Bool.true_eq_false, reduceCtorEq, ite_true, ite_false, if_true, if_false, eq_self, Nat.zero_add, Nat.add_zero, Nat.le_refl, Nat.lt_irrefl, Nat.reduceEqDiff, Nat.reduceLeDiff, Nat.reduceLT, Nat.reduceAdd, Nat.reduceMul, Nat.reduceSub, wpX_trialReadIsSound, h1, Bool.not_false, Bool.true_and]
    refine (lo_all (W := fun n i => wX_trialReadIsSound_22 post (nI t) (nI bg) (ar_b df) (ar_b iq) (ar_b tb) (ar_b up) (ar_n op) (ar_n ov) (ar_n sp) (ar_n sv) (ar_n qb) (ar_n qi) (ar_n qv) (ar_n ql) (ar_n so) (ar_b fa) (ar_n ba) (ar_n an) (ar_b co) (pc_x pk) (ar_b fr) (ar_n kv) (ar_n vo) (ar_n kn) n (nI i)) (A := post (nI 0)) (B := post (nI 1)) (e := 128) _ (fun _ h => h) ?_ ?_ ?_ 128 0 rfl).trans bo_pr
    · intro n
      simp (disch := first | omega | assumption) only [li_0, li_1, li_2, li_3, li_4, li_6, li_7, li_8, li_9, li_10, li_12, li_21, li_24, li_31, li_60, li_63, li_127, li_128, li_256, li_312, li_384, nI_add, nu_mul, nu_sub, nu_div, nu_and, nu_or, nu_shr, nu_bit, nu_diff, bi_2, nI_leI, nI_ltI, nI_eq, vp_in_nI, nI_clamp, ar_na, ar_ba, bo_0, bo_1, bo_it, bo_if, bo_w, bo_w0, bo_w1, bo_nar, bo_n1, bo_nn0, st_bu, st_bu1, st_bu0, st_nu, forall_eq, true_implies, false_implies, forall_const, not_true_eq_false, not_false_eq_true, and_true, true_and, implies_true, and_self, Bool.false_eq_true, Bool.true_eq_false, reduceCtorEq, ite_true, ite_false, if_true, if_false, eq_self, Nat.zero_add, Nat.add_zero, Nat.le_refl, Nat.lt_irrefl, Nat.reduceEqDiff, Nat.reduceLeDiff, Nat.reduceLT, Nat.reduceAdd, Nat.reduceMul, Nat.reduceSub, wX_trialReadIsSound_22]
    · intro n i hi h
      have hd : 127 &&& ((t &&& i) ^^^ 127) < 128 := nu_and7 (by decide)
      have h2 := hQ 2 i (by decide) hi
      have h3 := hQ 2 _ (by decide) hd
      simp at h
      rw [h.1] at h2
      rw [h.2] at h3
      simp (disch := first | omega | assumption) only [li_0, li_1, li_2, li_3, li_4, li_6, li_7, li_8, li_9, li_10, li_12, li_21, li_24, li_31, li_60, li_63, li_127, li_128, li_256, li_312, li_384, nI_add, nu_mul, nu_sub, nu_div, nu_and, nu_or, nu_shr, nu_bit, nu_diff, bi_2, nI_leI, nI_ltI, nI_eq, vp_in_nI, nI_clamp, ar_na, ar_ba, bo_0, bo_1, bo_it, bo_if, bo_w, bo_w0, bo_w1, bo_nar, bo_n1, bo_nn0, st_bu, st_bu1, st_bu0, st_nu, forall_eq, true_implies, false_implies, forall_const, not_true_eq_false, not_false_eq_true, and_true, true_and, implies_true, and_self, Bool.false_eq_true, Bool.true_eq_false, reduceCtorEq, ite_true, ite_false, if_true, if_false, eq_self, Nat.zero_add, Nat.add_zero, Nat.le_refl, Nat.lt_irrefl, Nat.reduceEqDiff, Nat.reduceLeDiff, Nat.reduceLT, Nat.reduceAdd, Nat.reduceMul, Nat.reduceSub, wX_trialReadIsSound_22, Nat.not_le.mpr hi, h2, h3]
    · intro n i hi h
      have hd : 127 &&& ((t &&& i) ^^^ 127) < 128 := nu_and7 (by decide)
      have h2 := hQ 2 i (by decide) hi
      have h3 := hQ 2 _ (by decide) hd
      simp at h
      cases z : Q 2 i
      · rw [z] at h2
        simp (disch := first | omega | assumption) only [li_0, li_1, li_2, li_3, li_4, li_6, li_7, li_8, li_9, li_10, li_12, li_21, li_24, li_31, li_60, li_63, li_127, li_128, li_256, li_312, li_384, nI_add, nu_mul, nu_sub, nu_div, nu_and, nu_or, nu_shr, nu_bit, nu_diff, bi_2, nI_leI, nI_ltI, nI_eq, vp_in_nI, nI_clamp, ar_na, ar_ba, bo_0, bo_1, bo_it, bo_if, bo_w, bo_w0, bo_w1, bo_nar, bo_n1, bo_nn0, st_bu, st_bu1, st_bu0, st_nu, forall_eq, true_implies, false_implies, forall_const, not_true_eq_false, not_false_eq_true, and_true, true_and, implies_true, and_self, Bool.false_eq_true, Bool.true_eq_false, reduceCtorEq, ite_true, ite_false, if_true, if_false, eq_self, Nat.zero_add, Nat.add_zero, Nat.le_refl, Nat.lt_irrefl, Nat.reduceEqDiff, Nat.reduceLeDiff, Nat.reduceLT, Nat.reduceAdd, Nat.reduceMul, Nat.reduceSub, wX_trialReadIsSound_22, Nat.not_le.mpr hi, h2]
      · rw [z] at h2
        have h' : Q 2 (127 &&& ((t &&& i) ^^^ 127)) = false := by
          rcases h with h | h
          · rw [z] at h; exact nomatch h
          · exact h
        rw [h'] at h3
        simp (disch := first | omega | assumption) only [li_0, li_1, li_2, li_3, li_4, li_6, li_7, li_8, li_9, li_10, li_12, li_21, li_24, li_31, li_60, li_63, li_127, li_128, li_256, li_312, li_384, nI_add, nu_mul, nu_sub, nu_div, nu_and, nu_or, nu_shr, nu_bit, nu_diff, bi_2, nI_leI, nI_ltI, nI_eq, vp_in_nI, nI_clamp, ar_na, ar_ba, bo_0, bo_1, bo_it, bo_if, bo_w, bo_w0, bo_w1, bo_nar, bo_n1, bo_nn0, st_bu, st_bu1, st_bu0, st_nu, forall_eq, true_implies, false_implies, forall_const, not_true_eq_false, not_false_eq_true, and_true, true_and, implies_true, and_self, Bool.false_eq_true, Bool.true_eq_false, reduceCtorEq, ite_true, ite_false, if_true, if_false, eq_self, Nat.zero_add, Nat.add_zero, Nat.le_refl, Nat.lt_irrefl, Nat.reduceEqDiff, Nat.reduceLeDiff, Nat.reduceLT, Nat.reduceAdd, Nat.reduceMul, Nat.reduceSub, wX_trialReadIsSound_22, Nat.not_le.mpr hi, h2, h3]
  · rw [h] at h1
    simp (disch := first | omega | assumption) only [li_0, li_1, li_2, li_3, li_4, li_6, li_7, li_8, li_9, li_10, li_12, li_21, li_24, li_31, li_60, li_63, li_127, li_128, li_256, li_312, li_384, nI_add, nu_mul, nu_sub, nu_div, nu_and, nu_or, nu_shr, nu_bit, nu_diff, bi_2, nI_leI, nI_ltI, nI_eq, vp_in_nI, nI_clamp, ar_na, ar_ba, bo_0, bo_1, bo_it, bo_if, bo_w, bo_w0, bo_w1, bo_nar, bo_n1, bo_nn0, st_bu, st_bu1, st_bu0, st_nu, forall_eq, true_implies, false_implies, forall_const, not_true_eq_false, not_false_eq_true, and_true, true_and, implies_true, and_self, Bool.false_eq_true, Bool.true_eq_false, reduceCtorEq, ite_true, ite_false, if_true, if_false, eq_self, Nat.zero_add, Nat.add_zero, Nat.le_refl, Nat.lt_irrefl, Nat.reduceEqDiff, Nat.reduceLeDiff, Nat.reduceLT, Nat.reduceAdd, Nat.reduceMul, Nat.reduceSub, wpX_trialReadIsSound, h1, Bool.not_true, Bool.false_and]
theorem xc_sound {post : Int32 → Prop} {Q : Nat → Nat → Bool} (hQ : ∀ k t, k < 3 → t < 128 → tb (k * 128 + t) = Q k t) : wpX_trialIsSound post (nI bg, ar_b df, ar_b iq, ar_b tb, ar_b up, ar_n op, ar_n ov, ar_n sp, ar_n sv, ar_n qb, ar_n qi, ar_n qv, ar_n ql, ar_n so, ar_b fa, ar_n ba, ar_n an, ar_b co, pc_x pk, ar_b fr, ar_n kv, ar_n vo, ar_n kn) ↔ post (bo_i (sn_ Q)) := by
  have h0 : tb 127 = Q 0 127 := hQ 0 127 (by decide) (by decide)
  have h1 : tb 255 = Q 1 127 := hQ 1 127 (by decide) (by decide)
  unfold sn_
  cases e0 : Q 0 127
  · rw [e0] at h0
    simp (disch := first | omega | assumption) only [li_0, li_1, li_2, li_3, li_4, li_6, li_7, li_8, li_9, li_10, li_12, li_21, li_24, li_31, li_60, li_63, li_127, li_128, li_256, li_312, li_384, nI_add, nu_mul, nu_sub, nu_div, nu_and, nu_or, nu_shr, nu_bit, nu_diff, bi_2, nI_leI, nI_ltI, nI_eq, vp_in_nI, nI_clamp, ar_na, ar_ba, bo_0, bo_1, bo_it, bo_if, bo_w, bo_w0, bo_w1, bo_nar, bo_n1, bo_nn0, st_bu, st_bu1, st_bu0, st_nu, forall_eq, true_implies, false_implies, forall_const, not_true_eq_false, not_false_eq_true, and_true, true_and, implies_true, and_self, Bool.false_eq_true, Bool.true_eq_false, reduceCtorEq, ite_true, ite_false, if_true, if_false, eq_self, Nat.zero_add, Nat.add_zero, Nat.le_refl, Nat.lt_irrefl, Nat.reduceEqDiff, Nat.reduceLeDiff, Nat.reduceLT, Nat.reduceAdd, Nat.reduceMul, Nat.reduceSub, wpX_trialIsSound, h0, Bool.false_and]
  · rw [e0] at h0
    cases e1 : Q 1 127
    · rw [e1] at h1
      simp (disch := first | omega | assumption) only [li_0, li_1, li_2, li_3, li_4, li_6, li_7, li_8, li_9, li_10, li_12, li_21, li_24, li_31, li_60, li_63, li_127, li_128, li_256, li_312, li_384, nI_add, nu_mul, nu_sub, nu_div, nu_and, nu_or, nu_shr, nu_bit, nu_diff, bi_2, nI_leI, nI_ltI, nI_eq, vp_in_nI, nI_clamp, ar_na, ar_ba, bo_0, bo_1, bo_it, bo_if, bo_w, bo_w0, bo_w1, bo_nar, bo_n1, bo_nn0, st_bu, st_bu1, st_bu0, st_nu, forall_eq, true_implies, false_implies, forall_const, not_true_eq_false, not_false_eq_true, and_true, true_and, implies_true, and_self, Bool.false_eq_true, Bool.true_eq_false, reduceCtorEq, ite_true, ite_false, if_true, if_false, eq_self, Nat.zero_add, Nat.add_zero, Nat.le_refl, Nat.lt_irrefl, Nat.reduceEqDiff, Nat.reduceLeDiff, Nat.reduceLT, Nat.reduceAdd, Nat.reduceMul, Nat.reduceSub, wpX_trialIsSound, h0, h1, Bool.false_and, Bool.and_false]
    · rw [e1] at h1
      simp (disch := first | omega | assumption) only [li_0, li_1, li_2, li_3, li_4, li_6, li_7, li_8, li_9, li_10, li_12, li_21, li_24, li_31, li_60, li_63, li_127, li_128, li_256, li_312, li_384, nI_add, nu_mul, nu_sub, nu_div, nu_and, nu_or, nu_shr, nu_bit, nu_diff, bi_2, nI_leI, nI_ltI, nI_eq, vp_in_nI, nI_clamp, ar_na, ar_ba, bo_0, bo_1, bo_it, bo_if, bo_w, bo_w0, bo_w1, bo_nar, bo_n1, bo_nn0, st_bu, st_bu1, st_bu0, st_nu, forall_eq, true_implies, false_implies, forall_const, not_true_eq_false, not_false_eq_true, and_true, true_and, implies_true, and_self, Bool.false_eq_true, Bool.true_eq_false, reduceCtorEq, ite_true, ite_false, if_true, if_false, eq_self, Nat.zero_add, Nat.add_zero, Nat.le_refl, Nat.lt_irrefl, Nat.reduceEqDiff, Nat.reduceLeDiff, Nat.reduceLT, Nat.reduceAdd, Nat.reduceMul, Nat.reduceSub, wpX_trialIsSound, h0, h1, Bool.true_and]
      refine (lo_all (W := fun n i => wX_trialIsSound_25 post (nI bg) (ar_b df) (ar_b iq) (ar_b tb) (ar_b up) (ar_n op) (ar_n ov) (ar_n sp) (ar_n sv) (ar_n qb) (ar_n qi) (ar_n qv) (ar_n ql) (ar_n so) (ar_b fa) (ar_n ba) (ar_n an) (ar_b co) (pc_x pk) (ar_b fr) (ar_n kv) (ar_n vo) (ar_n kn) n (nI i)) (A := post (nI 0)) (B := post (nI 1)) (e := 128) _ (fun _ h => h) ?_ ?_ ?_ 128 0 rfl).trans bo_pr
      · intro n
        simp (disch := first | omega | assumption) only [li_0, li_1, li_2, li_3, li_4, li_6, li_7, li_8, li_9, li_10, li_12, li_21, li_24, li_31, li_60, li_63, li_127, li_128, li_256, li_312, li_384, nI_add, nu_mul, nu_sub, nu_div, nu_and, nu_or, nu_shr, nu_bit, nu_diff, bi_2, nI_leI, nI_ltI, nI_eq, vp_in_nI, nI_clamp, ar_na, ar_ba, bo_0, bo_1, bo_it, bo_if, bo_w, bo_w0, bo_w1, bo_nar, bo_n1, bo_nn0, st_bu, st_bu1, st_bu0, st_nu, forall_eq, true_implies, false_implies, forall_const, not_true_eq_false, not_false_eq_true, and_true, true_and, implies_true, and_self, Bool.false_eq_true, Bool.true_eq_false, reduceCtorEq, ite_true, ite_false, if_true, if_false, eq_self, Nat.zero_add, Nat.add_zero, Nat.le_refl, Nat.lt_irrefl, Nat.reduceEqDiff, Nat.reduceLeDiff, Nat.reduceLT, Nat.reduceAdd, Nat.reduceMul, Nat.reduceSub, wX_trialIsSound_25]
      · intro n i hi h
        have h2 := hQ 0 i (by decide) hi
        rw [Nat.zero_mul, Nat.zero_add] at h2
        rw [Bool.or_eq_false_iff, Bool.not_eq_false'] at h
        rw [h.1] at h2
        simp (disch := first | omega | assumption) only [li_0, li_1, li_2, li_3, li_4, li_6, li_7, li_8, li_9, li_10, li_12, li_21, li_24, li_31, li_60, li_63, li_127, li_128, li_256, li_312, li_384, nI_add, nu_mul, nu_sub, nu_div, nu_and, nu_or, nu_shr, nu_bit, nu_diff, bi_2, nI_leI, nI_ltI, nI_eq, vp_in_nI, nI_clamp, ar_na, ar_ba, bo_0, bo_1, bo_it, bo_if, bo_w, bo_w0, bo_w1, bo_nar, bo_n1, bo_nn0, st_bu, st_bu1, st_bu0, st_nu, forall_eq, true_implies, false_implies, forall_const, not_true_eq_false, not_false_eq_true, and_true, true_and, implies_true, and_self, Bool.false_eq_true, Bool.true_eq_false, reduceCtorEq, ite_true, ite_false, if_true, if_false, eq_self, Nat.zero_add, Nat.add_zero, Nat.le_refl, Nat.lt_irrefl, Nat.reduceEqDiff, Nat.reduceLeDiff, Nat.reduceLT, Nat.reduceAdd, Nat.reduceMul, Nat.reduceSub, wX_trialIsSound_25, Nat.not_le.mpr hi, h2, xc_trialRead hQ, h.2]
      · intro n i hi h
        have h2 := hQ 0 i (by decide) hi
        rw [Nat.zero_mul, Nat.zero_add] at h2
        rw [Bool.or_eq_true, Bool.not_eq_true'] at h
        cases z : Q 0 i
        · rw [z] at h2
          simp (disch := first | omega | assumption) only [li_0, li_1, li_2, li_3, li_4, li_6, li_7, li_8, li_9, li_10, li_12, li_21, li_24, li_31, li_60, li_63, li_127, li_128, li_256, li_312, li_384, nI_add, nu_mul, nu_sub, nu_div, nu_and, nu_or, nu_shr, nu_bit, nu_diff, bi_2, nI_leI, nI_ltI, nI_eq, vp_in_nI, nI_clamp, ar_na, ar_ba, bo_0, bo_1, bo_it, bo_if, bo_w, bo_w0, bo_w1, bo_nar, bo_n1, bo_nn0, st_bu, st_bu1, st_bu0, st_nu, forall_eq, true_implies, false_implies, forall_const, not_true_eq_false, not_false_eq_true, and_true, true_and, implies_true, and_self, Bool.false_eq_true, Bool.true_eq_false, reduceCtorEq, ite_true, ite_false, if_true, if_false, eq_self, Nat.zero_add, Nat.add_zero, Nat.le_refl, Nat.lt_irrefl, Nat.reduceEqDiff, Nat.reduceLeDiff, Nat.reduceLT, Nat.reduceAdd, Nat.reduceMul, Nat.reduceSub, wX_trialIsSound_25, Nat.not_le.mpr hi, h2]
        · rw [z] at h2 h
          have h' := h.resolve_left (by decide)
          simp (disch := first | omega | assumption) only [li_0, li_1, li_2, li_3, li_4, li_6, li_7, li_8, li_9, li_10, li_12, li_21, li_24, li_31, li_60, li_63, li_127, li_128, li_256, li_312, li_384, nI_add, nu_mul, nu_sub, nu_div, nu_and, nu_or, nu_shr, nu_bit, nu_diff, bi_2, nI_leI, nI_ltI, nI_eq, vp_in_nI, nI_clamp, ar_na, ar_ba, bo_0, bo_1, bo_it, bo_if, bo_w, bo_w0, bo_w1, bo_nar, bo_n1, bo_nn0, st_bu, st_bu1, st_bu0, st_nu, forall_eq, true_implies, false_implies, forall_const, not_true_eq_false, not_false_eq_true, and_true, true_and, implies_true, and_self, Bool.false_eq_true, Bool.true_eq_false, reduceCtorEq, ite_true, ite_false, if_true, if_false, eq_self, Nat.zero_add, Nat.add_zero, Nat.le_refl, Nat.lt_irrefl, Nat.reduceEqDiff, Nat.reduceLeDiff, Nat.reduceLT, Nat.reduceAdd, Nat.reduceMul, Nat.reduceSub, wX_trialIsSound_25, Nat.not_le.mpr hi, h2, xc_trialRead hQ, h']
theorem yc_sound {post : Int32 → Prop} (hs : s < 4) (hr : rg_ (srt s) (num (4 * s)) (num (4 * s + 1)) (num (4 * s + 2)) (num (4 * s + 3))) : wpY_isSound post (nI bg, srt, num, ar_n so, ar_n ba, ar_n an, pc_y pk, ar_n kv, ar_b fa, ar_b co, ar_b fr, ar_b dn, ar_n sp, ar_n sv, ar_n ql, ar_n qb, ar_n qj, ar_n qv, ar_n vo, ar_n kn) (nI s) ↔ post (bo_i (sn_ (qf_ (srt s) (num (4 * s)) (num (4 * s + 1)) (num (4 * s + 2)) (num (4 * s + 3))))) := by
  have yq : ∀ {post : Int32 → Prop} {k t : Nat}, k < 3 → t < 128 → (wpY_isQuorum post (nI bg, srt, num, ar_n so, ar_n ba, ar_n an, pc_y pk, ar_n kv, ar_b fa, ar_b co, ar_b fr, ar_b dn, ar_n sp, ar_n sv, ar_n ql, ar_n qb, ar_n qj, ar_n qv, ar_n vo, ar_n kn) (nI s) (nI k) (nI t) ↔ post (bo_i (qf_ (srt s) (num (4 * s)) (num (4 * s + 1)) (num (4 * s + 2)) (num (4 * s + 3)) k t))) := fun a b => yc_isQuorum hs a b hr
  generalize qf_ (srt s) (num (4 * s)) (num (4 * s + 1)) (num (4 * s + 2)) (num (4 * s + 3)) = Q at *
  unfold sn_
  cases e0 : Q 0 127
  · simp (disch := first | omega | assumption) only [li_0, li_1, li_2, li_3, li_4, li_6, li_7, li_8, li_9, li_10, li_12, li_21, li_24, li_31, li_60, li_63, li_127, li_128, li_256, li_312, li_384, nI_add, nu_mul, nu_sub, nu_div, nu_and, nu_or, nu_shr, nu_bit, nu_diff, bi_2, nI_leI, nI_ltI, nI_eq, vp_in_nI, nI_clamp, ar_na, ar_ba, bo_0, bo_1, bo_it, bo_if, bo_w, bo_w0, bo_w1, bo_nar, bo_n1, bo_nn0, st_bu, st_bu1, st_bu0, st_nu, forall_eq, true_implies, false_implies, forall_const, not_true_eq_false, not_false_eq_true, and_true, true_and, implies_true, and_self, Bool.false_eq_true, Bool.true_eq_false, reduceCtorEq, ite_true, ite_false, if_true, if_false, eq_self, Nat.zero_add, Nat.add_zero, Nat.le_refl, Nat.lt_irrefl, Nat.reduceEqDiff, Nat.reduceLeDiff, Nat.reduceLT, Nat.reduceAdd, Nat.reduceMul, Nat.reduceSub, wpY_isSound, yq, e0, Bool.false_and]
  · cases e1 : Q 1 127
    · simp (disch := first | omega | assumption) only [li_0, li_1, li_2, li_3, li_4, li_6, li_7, li_8, li_9, li_10, li_12, li_21, li_24, li_31, li_60, li_63, li_127, li_128, li_256, li_312, li_384, nI_add, nu_mul, nu_sub, nu_div, nu_and, nu_or, nu_shr, nu_bit, nu_diff, bi_2, nI_leI, nI_ltI, nI_eq, vp_in_nI, nI_clamp, ar_na, ar_ba, bo_0, bo_1, bo_it, bo_if, bo_w, bo_w0, bo_w1, bo_nar, bo_n1, bo_nn0, st_bu, st_bu1, st_bu0, st_nu, forall_eq, true_implies, false_implies, forall_const, not_true_eq_false, not_false_eq_true, and_true, true_and, implies_true, and_self, Bool.false_eq_true, Bool.true_eq_false, reduceCtorEq, ite_true, ite_false, if_true, if_false, eq_self, Nat.zero_add, Nat.add_zero, Nat.le_refl, Nat.lt_irrefl, Nat.reduceEqDiff, Nat.reduceLeDiff, Nat.reduceLT, Nat.reduceAdd, Nat.reduceMul, Nat.reduceSub, wpY_isSound, yq, e0, e1, Bool.false_and, Bool.and_false]
    · simp (disch := first | omega | assumption) only [li_0, li_1, li_2, li_3, li_4, li_6, li_7, li_8, li_9, li_10, li_12, li_21, li_24, li_31, li_60, li_63, li_127, li_128, li_256, li_312, li_384, nI_add, nu_mul, nu_sub, nu_div, nu_and, nu_or, nu_shr, nu_bit, nu_diff, bi_2, nI_leI, nI_ltI, nI_eq, vp_in_nI, nI_clamp, ar_na, ar_ba, bo_0, bo_1, bo_it, bo_if, bo_w, bo_w0, bo_w1, bo_nar, bo_n1, bo_nn0, st_bu, st_bu1, st_bu0, st_nu, forall_eq, true_implies, false_implies, forall_const, not_true_eq_false, not_false_eq_true, and_true, true_and, implies_true, and_self, Bool.false_eq_true, Bool.true_eq_false, reduceCtorEq, ite_true, ite_false, if_true, if_false, eq_self, Nat.zero_add, Nat.add_zero, Nat.le_refl, Nat.lt_irrefl, Nat.reduceEqDiff, Nat.reduceLeDiff, Nat.reduceLT, Nat.reduceAdd, Nat.reduceMul, Nat.reduceSub, wpY_isSound, yq, e0, e1, Bool.true_and]
      refine (lo_all (W := fun n i => wY_isSound_26 post (nI s) (nI bg) srt num (ar_n so) (ar_n ba) (ar_n an) (pc_y pk) (ar_n kv) (ar_b fa) (ar_b co) (ar_b fr) (ar_b dn) (ar_n sp) (ar_n sv) (ar_n ql) (ar_n qb) (ar_n qj) (ar_n qv) (ar_n vo) (ar_n kn) n (nI i)) (A := post (nI 0)) (B := post (nI 1)) (e := 128) _ (fun _ h => h) ?_ ?_ ?_ 128 0 rfl).trans bo_pr
      · intro n
        simp (disch := first | omega | assumption) only [li_0, li_1, li_2, li_3, li_4, li_6, li_7, li_8, li_9, li_10, li_12, li_21, li_24, li_31, li_60, li_63, li_127, li_128, li_256, li_312, li_384, nI_add, nu_mul, nu_sub, nu_div, nu_and, nu_or, nu_shr, nu_bit, nu_diff, bi_2, nI_leI, nI_ltI, nI_eq, vp_in_nI, nI_clamp, ar_na, ar_ba, bo_0, bo_1, bo_it, bo_if, bo_w, bo_w0, bo_w1, bo_nar, bo_n1, bo_nn0, st_bu, st_bu1, st_bu0, st_nu, forall_eq, true_implies, false_implies, forall_const, not_true_eq_false, not_false_eq_true, and_true, true_and, implies_true, and_self, Bool.false_eq_true, Bool.true_eq_false, reduceCtorEq, ite_true, ite_false, if_true, if_false, eq_self, Nat.zero_add, Nat.add_zero, Nat.le_refl, Nat.lt_irrefl, Nat.reduceEqDiff, Nat.reduceLeDiff, Nat.reduceLT, Nat.reduceAdd, Nat.reduceMul, Nat.reduceSub, wY_isSound_26]
      all_goals
        intro n i hi h
        have hi' : ¬ 127 < i := by omega
        have hc : 127 &&& (i ^^^ 127) < 128 := nu_and7 (by decide)
        have inner : (∃ m, wY_isSound_64 post (wY_isSound_26 post (nI s) (nI bg) srt num (ar_n so) (ar_n ba) (ar_n an) (pc_y pk) (ar_n kv) (ar_b fa) (ar_b co) (ar_b fr) (ar_b dn) (ar_n sp) (ar_n sv) (ar_n ql) (ar_n qb) (ar_n qj) (ar_n qv) (ar_n vo) (ar_n kn) n) (nI s) (nI i) (nI bg) srt num (ar_n so) (ar_n ba) (ar_n an) (pc_y pk) (ar_n kv) (ar_b fa) (ar_b co) (ar_b fr) (ar_b dn) (ar_n sp) (ar_n sv) (ar_n ql) (ar_n qb) (ar_n qj) (ar_n qv) (ar_n vo) (ar_n kn) m (nI 0)) ↔ ((sr_ Q i = true → wY_isSound_26 post (nI s) (nI bg) srt num (ar_n so) (ar_n ba) (ar_n an) (pc_y pk) (ar_n kv) (ar_b fa) (ar_b co) (ar_b fr) (ar_b dn) (ar_n sp) (ar_n sv) (ar_n ql) (ar_n qb) (ar_n qj) (ar_n qv) (ar_n vo) (ar_n kn) n (nI (i + 1))) ∧ (sr_ Q i = false → post (nI 0))) := by
          refine lo_all (W := fun m j => wY_isSound_64 post (wY_isSound_26 post (nI s) (nI bg) srt num (ar_n so) (ar_n ba) (ar_n an) (pc_y pk) (ar_n kv) (ar_b fa) (ar_b co) (ar_b fr) (ar_b dn) (ar_n sp) (ar_n sv) (ar_n ql) (ar_n qb) (ar_n qj) (ar_n qv) (ar_n vo) (ar_n kn) n) (nI s) (nI i) (nI bg) srt num (ar_n so) (ar_n ba) (ar_n an) (pc_y pk) (ar_n kv) (ar_b fa) (ar_b co) (ar_b fr) (ar_b dn) (ar_n sp) (ar_n sv) (ar_n ql) (ar_n qb) (ar_n qj) (ar_n qv) (ar_n vo) (ar_n kn) m (nI j)) (e := 128) _ (fun _ h => h) ?_ ?_ ?_ 128 0 rfl
          · intro m
            simp (disch := first | omega | assumption) only [li_0, li_1, li_2, li_3, li_4, li_6, li_7, li_8, li_9, li_10, li_12, li_21, li_24, li_31, li_60, li_63, li_127, li_128, li_256, li_312, li_384, nI_add, nu_mul, nu_sub, nu_div, nu_and, nu_or, nu_shr, nu_bit, nu_diff, bi_2, nI_leI, nI_ltI, nI_eq, vp_in_nI, nI_clamp, ar_na, ar_ba, bo_0, bo_1, bo_it, bo_if, bo_w, bo_w0, bo_w1, bo_nar, bo_n1, bo_nn0, st_bu, st_bu1, st_bu0, st_nu, forall_eq, true_implies, false_implies, forall_const, not_true_eq_false, not_false_eq_true, and_true, true_and, implies_true, and_self, Bool.false_eq_true, Bool.true_eq_false, reduceCtorEq, ite_true, ite_false, if_true, if_false, eq_self, Nat.zero_add, Nat.add_zero, Nat.le_refl, Nat.lt_irrefl, Nat.reduceEqDiff, Nat.reduceLeDiff, Nat.reduceLT, Nat.reduceAdd, Nat.reduceMul, Nat.reduceSub, wY_isSound_64]
          · intro m j hj h
            have hd : 127 &&& ((i &&& j) ^^^ 127) < 128 := nu_and7 (by decide)
            have hj' : ¬ 127 < j := by omega
            simp at h
            simp (disch := first | omega | assumption) only [li_0, li_1, li_2, li_3, li_4, li_6, li_7, li_8, li_9, li_10, li_12, li_21, li_24, li_31, li_60, li_63, li_127, li_128, li_256, li_312, li_384, nI_add, nu_mul, nu_sub, nu_div, nu_and, nu_or, nu_shr, nu_bit, nu_diff, bi_2, nI_leI, nI_ltI, nI_eq, vp_in_nI, nI_clamp, ar_na, ar_ba, bo_0, bo_1, bo_it, bo_if, bo_w, bo_w0, bo_w1, bo_nar, bo_n1, bo_nn0, st_bu, st_bu1, st_bu0, st_nu, forall_eq, true_implies, false_implies, forall_const, not_true_eq_false, not_false_eq_true, and_true, true_and, implies_true, and_self, Bool.false_eq_true, Bool.true_eq_false, reduceCtorEq, ite_true, ite_false, if_true, if_false, eq_self, Nat.zero_add, Nat.add_zero, Nat.le_refl, Nat.lt_irrefl, Nat.reduceEqDiff, Nat.reduceLeDiff, Nat.reduceLT, Nat.reduceAdd, Nat.reduceMul, Nat.reduceSub, wY_isSound_64, hj', yq, h.1, h.2]
          · intro m j hj h
            have hd : 127 &&& ((i &&& j) ^^^ 127) < 128 := nu_and7 (by decide)
            have hj' : ¬ 127 < j := by omega
            simp at h
            cases z : Q 2 j
            · simp (disch := first | omega | assumption) only [li_0, li_1, li_2, li_3, li_4, li_6, li_7, li_8, li_9, li_10, li_12, li_21, li_24, li_31, li_60, li_63, li_127, li_128, li_256, li_312, li_384, nI_add, nu_mul, nu_sub, nu_div, nu_and, nu_or, nu_shr, nu_bit, nu_diff, bi_2, nI_leI, nI_ltI, nI_eq, vp_in_nI, nI_clamp, ar_na, ar_ba, bo_0, bo_1, bo_it, bo_if, bo_w, bo_w0, bo_w1, bo_nar, bo_n1, bo_nn0, st_bu, st_bu1, st_bu0, st_nu, forall_eq, true_implies, false_implies, forall_const, not_true_eq_false, not_false_eq_true, and_true, true_and, implies_true, and_self, Bool.false_eq_true, Bool.true_eq_false, reduceCtorEq, ite_true, ite_false, if_true, if_false, eq_self, Nat.zero_add, Nat.add_zero, Nat.le_refl, Nat.lt_irrefl, Nat.reduceEqDiff, Nat.reduceLeDiff, Nat.reduceLT, Nat.reduceAdd, Nat.reduceMul, Nat.reduceSub, wY_isSound_64, hj', yq, z]
            · have h' : Q 2 (127 &&& ((i &&& j) ^^^ 127)) = false := by
                rcases h with h | h
                · rw [z] at h; exact nomatch h
                · exact h
              simp (disch := first | omega | assumption) only [li_0, li_1, li_2, li_3, li_4, li_6, li_7, li_8, li_9, li_10, li_12, li_21, li_24, li_31, li_60, li_63, li_127, li_128, li_256, li_312, li_384, nI_add, nu_mul, nu_sub, nu_div, nu_and, nu_or, nu_shr, nu_bit, nu_diff, bi_2, nI_leI, nI_ltI, nI_eq, vp_in_nI, nI_clamp, ar_na, ar_ba, bo_0, bo_1, bo_it, bo_if, bo_w, bo_w0, bo_w1, bo_nar, bo_n1, bo_nn0, st_bu, st_bu1, st_bu0, st_nu, forall_eq, true_implies, false_implies, forall_const, not_true_eq_false, not_false_eq_true, and_true, true_and, implies_true, and_self, Bool.false_eq_true, Bool.true_eq_false, reduceCtorEq, ite_true, ite_false, if_true, if_false, eq_self, Nat.zero_add, Nat.add_zero, Nat.le_refl, Nat.lt_irrefl, Nat.reduceEqDiff, Nat.reduceLeDiff, Nat.reduceLT, Nat.reduceAdd, Nat.reduceMul, Nat.reduceSub, wY_isSound_64, hj', yq, z, h']
        cases z0 : Q 0 i
        · rw [z0] at h
          first
            | (simp at h; done)
            | simp (disch := first | omega | assumption) only [li_0, li_1, li_2, li_3, li_4, li_6, li_7, li_8, li_9, li_10, li_12, li_21, li_24, li_31, li_60, li_63, li_127, li_128, li_256, li_312, li_384, nI_add, nu_mul, nu_sub, nu_div, nu_and, nu_or, nu_shr, nu_bit, nu_diff, bi_2, nI_leI, nI_ltI, nI_eq, vp_in_nI, nI_clamp, ar_na, ar_ba, bo_0, bo_1, bo_it, bo_if, bo_w, bo_w0, bo_w1, bo_nar, bo_n1, bo_nn0, st_bu, st_bu1, st_bu0, st_nu, forall_eq, true_implies, false_implies, forall_const, not_true_eq_false, not_false_eq_true, and_true, true_and, implies_true, and_self, Bool.false_eq_true, Bool.true_eq_false, reduceCtorEq, ite_true, ite_false, if_true, if_false, eq_self, Nat.zero_add, Nat.add_zero, Nat.le_refl, Nat.lt_irrefl, Nat.reduceEqDiff, Nat.reduceLeDiff, Nat.reduceLT, Nat.reduceAdd, Nat.reduceMul, Nat.reduceSub, wY_isSound_26, hi', yq, z0]
        · rw [z0, Bool.not_true, Bool.false_or] at h
          cases z1 : Q 1 (127 &&& (i ^^^ 127))
          · rw [z1, Bool.not_false, Bool.true_and] at h
            simp (disch := first | omega | assumption) only [li_0, li_1, li_2, li_3, li_4, li_6, li_7, li_8, li_9, li_10, li_12, li_21, li_24, li_31, li_60, li_63, li_127, li_128, li_256, li_312, li_384, nI_add, nu_mul, nu_sub, nu_div, nu_and, nu_or, nu_shr, nu_bit, nu_diff, bi_2, nI_leI, nI_ltI, nI_eq, vp_in_nI, nI_clamp, ar_na, ar_ba, bo_0, bo_1, bo_it, bo_if, bo_w, bo_w0, bo_w1, bo_nar, bo_n1, bo_nn0, st_bu, st_bu1, st_bu0, st_nu, forall_eq, true_implies, false_implies, forall_const, not_true_eq_false, not_false_eq_true, and_true, true_and, implies_true, and_self, Bool.false_eq_true, Bool.true_eq_false, reduceCtorEq, ite_true, ite_false, if_true, if_false, eq_self, Nat.zero_add, Nat.add_zero, Nat.le_refl, Nat.lt_irrefl, Nat.reduceEqDiff, Nat.reduceLeDiff, Nat.reduceLT, Nat.reduceAdd, Nat.reduceMul, Nat.reduceSub, wY_isSound_26, hi', yq, z0, z1]
            rw [inner, h]
            simp
          · rw [z1] at h
            first
              | (simp at h; done)
              | simp (disch := first | omega | assumption) only [li_0, li_1, li_2, li_3, li_4, li_6, li_7, li_8, li_9, li_10, li_12, li_21, li_24, li_31, li_60, li_63, li_127, li_128, li_256, li_312, li_384, nI_add, nu_mul, nu_sub, nu_div, nu_and, nu_or, nu_shr, nu_bit, nu_diff, bi_2, nI_leI, nI_ltI, nI_eq, vp_in_nI, nI_clamp, ar_na, ar_ba, bo_0, bo_1, bo_it, bo_if, bo_w, bo_w0, bo_w1, bo_nar, bo_n1, bo_nn0, st_bu, st_bu1, st_bu0, st_nu, forall_eq, true_implies, false_implies, forall_const, not_true_eq_false, not_false_eq_true, and_true, true_and, implies_true, and_self, Bool.false_eq_true, Bool.true_eq_false, reduceCtorEq, ite_true, ite_false, if_true, if_false, eq_self, Nat.zero_add, Nat.add_zero, Nat.le_refl, Nat.lt_irrefl, Nat.reduceEqDiff, Nat.reduceLeDiff, Nat.reduceLT, Nat.reduceAdd, Nat.reduceMul, Nat.reduceSub, wY_isSound_26, hi', yq, z0, z1]
theorem xc_layOut {sx a b c d : Int32} (hr : rg_ sx a b c d) : ∃ tb', (∀ k t, k < 3 → t < 128 → tb' (k * 128 + t) = qf_ sx a b c d k t) ∧ ∀ post, (wpX_layOut post (nI bg, ar_b df, ar_b iq, ar_b tb, ar_b up, ar_n op, ar_n ov, ar_n sp, ar_n sv, ar_n qb, ar_n qi, ar_n qv, ar_n ql, ar_n so, ar_b fa, ar_n ba, ar_n an, ar_b co, pc_x pk, ar_b fr, ar_n kv, ar_n vo, ar_n kn) sx a b c d ↔ post (nI bg, ar_b df, ar_b iq, ar_b tb', ar_b up, ar_n op, ar_n ov, ar_n sp, ar_n sv, ar_n qb, ar_n qi, ar_n qv, ar_n ql, ar_n so, ar_b fa, ar_n ba, ar_n an, ar_b co, pc_x pk, ar_b fr, ar_n kv, ar_n vo, ar_n kn)) := by
  rcases hr with ⟨rfl, a, b, c, d, rfl, rfl, rfl, rfl, h⟩ | ⟨rfl, a, b, rfl, rfl, h⟩ | ⟨rfl, a, b, c, d, rfl, rfl, rfl, rfl, h⟩ | ⟨rfl, a, b, c, rfl, rfl, rfl, h⟩
  · obtain ⟨h1, h2, h3, h4, h5, h6, h7⟩ := h
    refine ⟨tz_ 2 (fun t => decide (0 < d) && decide (d ≤ sz_ (t &&& a))) (tz_ 1 (fun t => decide (0 < c) && decide (c ≤ sz_ (t &&& a))) (tz_ 0 (fun t => decide (0 < b) && decide (b ≤ sz_ (t &&& a))) tb)), ?_, ?_⟩
    · intro k t hk ht
      rw [tz_3 hk ht, qf_0 (by omega) (by omega) (by omega) (by omega) (by omega) (by omega) hk]
      rcases (by omega : k = 0 ∨ k = 1 ∨ k = 2) with rfl | rfl | rfl <;> rfl
    · intro post
      simp (disch := first | omega | assumption) only [li_0, li_1, li_2, li_3, li_4, li_6, li_7, li_8, li_9, li_10, li_12, li_21, li_24, li_31, li_60, li_63, li_127, li_128, li_256, li_312, li_384, nI_add, nu_mul, nu_sub, nu_div, nu_and, nu_or, nu_shr, nu_bit, nu_diff, bi_2, nI_leI, nI_ltI, nI_eq, vp_in_nI, nI_clamp, ar_na, ar_ba, bo_0, bo_1, bo_it, bo_if, bo_w, bo_w0, bo_w1, bo_nar, bo_n1, bo_nn0, st_bu, st_bu1, st_bu0, st_nu, forall_eq, true_implies, false_implies, forall_const, not_true_eq_false, not_false_eq_true, and_true, true_and, implies_true, and_self, Bool.false_eq_true, Bool.true_eq_false, reduceCtorEq, ite_true, ite_false, if_true, if_false, eq_self, Nat.zero_add, Nat.add_zero, Nat.le_refl, Nat.lt_irrefl, Nat.reduceEqDiff, Nat.reduceLeDiff, Nat.reduceLT, Nat.reduceAdd, Nat.reduceMul, Nat.reduceSub, wpX_layOut, xc_layOutCount]
  · obtain ⟨h1, h2, h3, h4, h5⟩ := h
    by_cases z : d = nI 0
    · refine ⟨tz_ 2 (fun t => (fun _ => false) (gr_col a b t)) (tz_ 1 (fun t => decide (1 ≤ gr_col a b t)) (tz_ 0 (gr_row a b) tb)), ?_, ?_⟩
      · intro k t hk ht
        obtain ⟨g1, g2, -, -⟩ := gr_all h1 h3 h5 ht
        rw [tz_3 hk ht, qf_1 (by omega) (by omega), g1, g2]
        rcases (by omega : k = 0 ∨ k = 1 ∨ k = 2) with rfl | rfl | rfl
        · simp
        · simp
        · simp [z]
      · intro post
        simp (disch := first | omega | assumption) only [li_0, li_1, li_2, li_3, li_4, li_6, li_7, li_8, li_9, li_10, li_12, li_21, li_24, li_31, li_60, li_63, li_127, li_128, li_256, li_312, li_384, nI_add, nu_mul, nu_sub, nu_div, nu_and, nu_or, nu_shr, nu_bit, nu_diff, bi_2, nI_leI, nI_ltI, nI_eq, vp_in_nI, nI_clamp, ar_na, ar_ba, bo_0, bo_1, bo_it, bo_if, bo_w, bo_w0, bo_w1, bo_nar, bo_n1, bo_nn0, st_bu, st_bu1, st_bu0, st_nu, forall_eq, true_implies, false_implies, forall_const, not_true_eq_false, not_false_eq_true, and_true, true_and, implies_true, and_self, Bool.false_eq_true, Bool.true_eq_false, reduceCtorEq, ite_true, ite_false, if_true, if_false, eq_self, Nat.zero_add, Nat.add_zero, Nat.le_refl, Nat.lt_irrefl, Nat.reduceEqDiff, Nat.reduceLeDiff, Nat.reduceLT, Nat.reduceAdd, Nat.reduceMul, Nat.reduceSub, wpX_layOut, wX_layOut_85, z, xc_layOutRows, xc_layOutColumns (L := nI 1) (lb := fun x => decide (1 ≤ x)) (Or.inr ⟨1, by decide, rfl, fun _ => rfl⟩), xc_layOutColumns (L := -nI 3) (lb := fun _ => false) (Or.inl ⟨rfl, fun _ => rfl⟩)]
    · refine ⟨tz_ 2 (fun t => decide (b - 1 ≤ gr_col a b t)) (tz_ 1 (fun t => decide (1 ≤ gr_col a b t)) (tz_ 0 (gr_row a b) tb)), ?_, ?_⟩
      · intro k t hk ht
        obtain ⟨g1, g2, -, -⟩ := gr_all h1 h3 h5 ht
        rw [tz_3 hk ht, qf_1 (by omega) (by omega), g1, g2]
        rcases (by omega : k = 0 ∨ k = 1 ∨ k = 2) with rfl | rfl | rfl
        · simp
        · simp
        · simp [z]
      · intro post
        simp (disch := first | omega | assumption) only [li_0, li_1, li_2, li_3, li_4, li_6, li_7, li_8, li_9, li_10, li_12, li_21, li_24, li_31, li_60, li_63, li_127, li_128, li_256, li_312, li_384, nI_add, nu_mul, nu_sub, nu_div, nu_and, nu_or, nu_shr, nu_bit, nu_diff, bi_2, nI_leI, nI_ltI, nI_eq, vp_in_nI, nI_clamp, ar_na, ar_ba, bo_0, bo_1, bo_it, bo_if, bo_w, bo_w0, bo_w1, bo_nar, bo_n1, bo_nn0, st_bu, st_bu1, st_bu0, st_nu, forall_eq, true_implies, false_implies, forall_const, not_true_eq_false, not_false_eq_true, and_true, true_and, implies_true, and_self, Bool.false_eq_true, Bool.true_eq_false, reduceCtorEq, ite_true, ite_false, if_true, if_false, eq_self, Nat.zero_add, Nat.add_zero, Nat.le_refl, Nat.lt_irrefl, Nat.reduceEqDiff, Nat.reduceLeDiff, Nat.reduceLT, Nat.reduceAdd, Nat.reduceMul, Nat.reduceSub, wpX_layOut, wX_layOut_85, z, xc_layOutRows, xc_layOutColumns (L := nI 1) (lb := fun x => decide (1 ≤ x)) (Or.inr ⟨1, by decide, rfl, fun _ => rfl⟩), xc_layOutColumns (L := nI (b - 1)) (lb := fun x => decide (b - 1 ≤ x)) (Or.inr ⟨b - 1, by omega, rfl, fun _ => rfl⟩)]
  · obtain ⟨h1, h2, h3, h4, h5, h6⟩ := h
    refine ⟨tz_ 2 (fun t => decide (0 < d) && decide (d ≤ wt_ a t)) (tz_ 1 (fun t => decide (0 < c) && decide (c ≤ wt_ a t)) (tz_ 0 (fun t => decide (0 < b) && decide (b ≤ wt_ a t)) tb)), ?_, ?_⟩
    · intro k t hk ht
      rw [tz_3 hk ht, qf_2 (by omega) (by omega) (by omega) (by omega) (by omega) (by omega) hk]
      rcases (by omega : k = 0 ∨ k = 1 ∨ k = 2) with rfl | rfl | rfl <;> rfl
    · intro post
      simp (disch := first | omega | assumption) only [li_0, li_1, li_2, li_3, li_4, li_6, li_7, li_8, li_9, li_10, li_12, li_21, li_24, li_31, li_60, li_63, li_127, li_128, li_256, li_312, li_384, nI_add, nu_mul, nu_sub, nu_div, nu_and, nu_or, nu_shr, nu_bit, nu_diff, bi_2, nI_leI, nI_ltI, nI_eq, vp_in_nI, nI_clamp, ar_na, ar_ba, bo_0, bo_1, bo_it, bo_if, bo_w, bo_w0, bo_w1, bo_nar, bo_n1, bo_nn0, st_bu, st_bu1, st_bu0, st_nu, forall_eq, true_implies, false_implies, forall_const, not_true_eq_false, not_false_eq_true, and_true, true_and, implies_true, and_self, Bool.false_eq_true, Bool.true_eq_false, reduceCtorEq, ite_true, ite_false, if_true, if_false, eq_self, Nat.zero_add, Nat.add_zero, Nat.le_refl, Nat.lt_irrefl, Nat.reduceEqDiff, Nat.reduceLeDiff, Nat.reduceLT, Nat.reduceAdd, Nat.reduceMul, Nat.reduceSub, wpX_layOut, xc_layOutWeights]
  · obtain ⟨h1, h2, h3⟩ := h
    refine ⟨tz_ 2 (li_ c) (tz_ 1 (li_ b) (tz_ 0 (li_ a) tb)), ?_, ?_⟩
    · intro k t hk ht
      rw [tz_3 hk ht, qf_3 (by omega) (by omega) (by omega)]
      rcases (by omega : k = 0 ∨ k = 1 ∨ k = 2) with rfl | rfl | rfl <;> rfl
    · intro post
      simp (disch := first | omega | assumption) only [li_0, li_1, li_2, li_3, li_4, li_6, li_7, li_8, li_9, li_10, li_12, li_21, li_24, li_31, li_60, li_63, li_127, li_128, li_256, li_312, li_384, nI_add, nu_mul, nu_sub, nu_div, nu_and, nu_or, nu_shr, nu_bit, nu_diff, bi_2, nI_leI, nI_ltI, nI_eq, vp_in_nI, nI_clamp, ar_na, ar_ba, bo_0, bo_1, bo_it, bo_if, bo_w, bo_w0, bo_w1, bo_nar, bo_n1, bo_nn0, st_bu, st_bu1, st_bu0, st_nu, forall_eq, true_implies, false_implies, forall_const, not_true_eq_false, not_false_eq_true, and_true, true_and, implies_true, and_self, Bool.false_eq_true, Bool.true_eq_false, reduceCtorEq, ite_true, ite_false, if_true, if_false, eq_self, Nat.zero_add, Nat.add_zero, Nat.le_refl, Nat.lt_irrefl, Nat.reduceEqDiff, Nat.reduceLeDiff, Nat.reduceLT, Nat.reduceAdd, Nat.reduceMul, Nat.reduceSub, wpX_layOut, xc_layOutList]
theorem xc_define57 {post : Int32 → SX → Prop} (hs : s < 4) : (∃ n, wX_define_57 post (nI s) (nI bg) n (nI 0) (ar_b df) (ar_b iq) (ar_b tb) (ar_b up) (ar_n op) (ar_n ov) (ar_n sp) (ar_n sv) (ar_n qb) (ar_n qi) (ar_n qv) (ar_n ql) (ar_n so) (ar_b fa) (ar_n ba) (ar_n an) (ar_b co) (pc_x pk) (ar_b fr) (ar_n kv) (ar_n vo) (ar_n kn)) ↔ post (nI 1) (nI bg, ar_b (st_b df s true), ar_b (lo_f (fun t iq => st_b iq (s * 384 + t) (tb t)) 384 0 iq), ar_b tb, ar_b up, ar_n op, ar_n ov, ar_n sp, ar_n sv, ar_n qb, ar_n qi, ar_n qv, ar_n ql, ar_n so, ar_b fa, ar_n ba, ar_n an, ar_b co, pc_x pk, ar_b fr, ar_n kv, ar_n vo, ar_n kn) := by
  refine lo_fold (W := fun n i iq => wX_define_57 post (nI s) (nI bg) n (nI i) (ar_b df) (ar_b iq) (ar_b tb) (ar_b up) (ar_n op) (ar_n ov) (ar_n sp) (ar_n sv) (ar_n qb) (ar_n qi) (ar_n qv) (ar_n ql) (ar_n so) (ar_b fa) (ar_n ba) (ar_n an) (ar_b co) (pc_x pk) (ar_b fr) (ar_n kv) (ar_n vo) (ar_n kn)) (fin := fun iq => post (nI 1) (nI bg, ar_b (st_b df s true), ar_b iq, ar_b tb, ar_b up, ar_n op, ar_n ov, ar_n sp, ar_n sv, ar_n qb, ar_n qi, ar_n qv, ar_n ql, ar_n so, ar_b fa, ar_n ba, ar_n an, ar_b co, pc_x pk, ar_b fr, ar_n kv, ar_n vo, ar_n kn)) (I := fun _ _ => True) (e := 384) (fun t iq => st_b iq (s * 384 + t) (tb t)) (fun _ _ h => h) (fun _ _ _ _ => trivial) ?_ ?_ 384 0 iq rfl trivial
  · intro n iq _
    simp (disch := first | omega | assumption) only [li_0, li_1, li_2, li_3, li_4, li_6, li_7, li_8, li_9, li_10, li_12, li_21, li_24, li_31, li_60, li_63, li_127, li_128, li_256, li_312, li_384, nI_add, nu_mul, nu_sub, nu_div, nu_and, nu_or, nu_shr, nu_bit, nu_diff, bi_2, nI_leI, nI_ltI, nI_eq, vp_in_nI, nI_clamp, ar_na, ar_ba, bo_0, bo_1, bo_it, bo_if, bo_w, bo_w0, bo_w1, bo_nar, bo_n1, bo_nn0, st_bu, st_bu1, st_bu0, st_nu, forall_eq, true_implies, false_implies, forall_const, not_true_eq_false, not_false_eq_true, and_true, true_and, implies_true, and_self, Bool.false_eq_true, Bool.true_eq_false, reduceCtorEq, ite_true, ite_false, if_true, if_false, eq_self, Nat.zero_add, Nat.add_zero, Nat.le_refl, Nat.lt_irrefl, Nat.reduceEqDiff, Nat.reduceLeDiff, Nat.reduceLT, Nat.reduceAdd, Nat.reduceMul, Nat.reduceSub, wX_define_57]
  · intro n i iq hi _
    simp (disch := first | omega | assumption) only [li_0, li_1, li_2, li_3, li_4, li_6, li_7, li_8, li_9, li_10, li_12, li_21, li_24, li_31, li_60, li_63, li_127, li_128, li_256, li_312, li_384, nI_add, nu_mul, nu_sub, nu_div, nu_and, nu_or, nu_shr, nu_bit, nu_diff, bi_2, nI_leI, nI_ltI, nI_eq, vp_in_nI, nI_clamp, ar_na, ar_ba, bo_0, bo_1, bo_it, bo_if, bo_w, bo_w0, bo_w1, bo_nar, bo_n1, bo_nn0, st_bu, st_bu1, st_bu0, st_nu, forall_eq, true_implies, false_implies, forall_const, not_true_eq_false, not_false_eq_true, and_true, true_and, implies_true, and_self, Bool.false_eq_true, Bool.true_eq_false, reduceCtorEq, ite_true, ite_false, if_true, if_false, eq_self, Nat.zero_add, Nat.add_zero, Nat.le_refl, Nat.lt_irrefl, Nat.reduceEqDiff, Nat.reduceLeDiff, Nat.reduceLT, Nat.reduceAdd, Nat.reduceMul, Nat.reduceSub, wX_define_57, Nat.not_le.mpr hi]
theorem yc_set {post : SY → Prop} {x2 x3 x4 x5 x6 : Int32} (hs : s < 4) : wpY_set post (nI bg, srt, num, ar_n so, ar_n ba, ar_n an, pc_y pk, ar_n kv, ar_b fa, ar_b co, ar_b fr, ar_b dn, ar_n sp, ar_n sv, ar_n ql, ar_n qb, ar_n qj, ar_n qv, ar_n vo, ar_n kn) (nI s) x2 x3 x4 x5 x6 ↔ post (nI bg, upd srt s x2, upd (upd (upd (upd num (4 * s) x3) (4 * s + 1) x4) (4 * s + 2) x5) (4 * s + 3) x6, ar_n so, ar_n ba, ar_n an, pc_y pk, ar_n kv, ar_b fa, ar_b co, ar_b fr, ar_b dn, ar_n sp, ar_n sv, ar_n ql, ar_n qb, ar_n qj, ar_n qv, ar_n vo, ar_n kn) := by
  simp (disch := first | omega | assumption) only [li_0, li_1, li_2, li_3, li_4, li_6, li_7, li_8, li_9, li_10, li_12, li_21, li_24, li_31, li_60, li_63, li_127, li_128, li_256, li_312, li_384, nI_add, nu_mul, nu_sub, nu_div, nu_and, nu_or, nu_shr, nu_bit, nu_diff, bi_2, nI_leI, nI_ltI, nI_eq, vp_in_nI, nI_clamp, ar_na, ar_ba, bo_0, bo_1, bo_it, bo_if, bo_w, bo_w0, bo_w1, bo_nar, bo_n1, bo_nn0, st_bu, st_bu1, st_bu0, st_nu, forall_eq, true_implies, false_implies, forall_const, not_true_eq_false, not_false_eq_true, and_true, true_and, implies_true, and_self, Bool.false_eq_true, Bool.true_eq_false, reduceCtorEq, ite_true, ite_false, if_true, if_false, eq_self, Nat.zero_add, Nat.add_zero, Nat.le_refl, Nat.lt_irrefl, Nat.reduceEqDiff, Nat.reduceLeDiff, Nat.reduceLT, Nat.reduceAdd, Nat.reduceMul, Nat.reduceSub, wpY_set]
theorem nu_4 {f : Nat → Int32} {s : Nat} {a b c d : Int32} : upd (upd (upd (upd (upd (upd (upd (upd f (4 * s) a) (4 * s + 1) b) (4 * s + 2) c) (4 * s + 3) d) (4 * s) (f (4 * s))) (4 * s + 1) (f (4 * s + 1))) (4 * s + 2) (f (4 * s + 2))) (4 * s + 3) (f (4 * s + 3)) = f := by
  funext j
  rcases (by omega : j = 4 * s ∨ j = 4 * s + 1 ∨ j = 4 * s + 2 ∨ j = 4 * s + 3 ∨ (j ≠ 4 * s ∧ j ≠ 4 * s + 1 ∧ j ≠ 4 * s + 2 ∧ j ≠ 4 * s + 3)) with rfl | rfl | rfl | rfl | ⟨h1, h2, h3, h4⟩ <;> simp (disch := omega) only [up_eq, up_ne]
def dc_ (bg : Nat) (so : Nat → Nat) (x v2 v3 v4 v5 v6 : Int32) : Bool := iz 0 3 x && (hb_ bg so (cl_ x) && (ir_ v2 v3 v4 v5 v6 && sn_ (qf_ v2 v3 v4 v5 v6)))
theorem yc_define {post : Int32 → SY → Prop} {v2 v3 v4 v5 v6 : Int32} (hb : bg ≤ 12) (hbb : in_b bg df so ba) : wpY_define post (nI bg, srt, num, ar_n so, ar_n ba, ar_n an, pc_y pk, ar_n kv, ar_b fa, ar_b co, ar_b fr, ar_b dn, ar_n sp, ar_n sv, ar_n ql, ar_n qb, ar_n qj, ar_n qv, ar_n vo, ar_n kn) x v2 v3 v4 v5 v6 ↔ ((dc_ bg so x v2 v3 v4 v5 v6 = false → post (nI 0) (nI bg, srt, num, ar_n so, ar_n ba, ar_n an, pc_y pk, ar_n kv, ar_b fa, ar_b co, ar_b fr, ar_b dn, ar_n sp, ar_n sv, ar_n ql, ar_n qb, ar_n qj, ar_n qv, ar_n vo, ar_n kn)) ∧ (dc_ bg so x v2 v3 v4 v5 v6 = true → post (nI 1) (nI bg, upd srt (cl_ x) v2, upd (upd (upd (upd num (4 * cl_ x) v3) (4 * cl_ x + 1) v4) (4 * cl_ x + 2) v5) (4 * cl_ x + 3) v6, ar_n so, ar_n ba, ar_n an, pc_y pk, ar_n kv, ar_b fa, ar_b co, ar_b fr, ar_b dn, ar_n sp, ar_n sv, ar_n ql, ar_n qb, ar_n qj, ar_n qv, ar_n vo, ar_n kn))) := by
  unfold dc_
  rcases iz_c 0 3 x with h | ⟨s, h1, h2, h3, rfl, h⟩
  · simp (disch := first | omega | assumption) only [li_0, li_1, li_2, li_3, li_4, li_6, li_7, li_8, li_9, li_10, li_12, li_21, li_24, li_31, li_60, li_63, li_127, li_128, li_256, li_312, li_384, nI_add, nu_mul, nu_sub, nu_div, nu_and, nu_or, nu_shr, nu_bit, nu_diff, bi_2, nI_leI, nI_ltI, nI_eq, vp_in_nI, nI_clamp, ar_na, ar_ba, bo_0, bo_1, bo_it, bo_if, bo_w, bo_w0, bo_w1, bo_nar, bo_n1, bo_nn0, st_bu, st_bu1, st_bu0, st_nu, forall_eq, true_implies, false_implies, forall_const, not_true_eq_false, not_false_eq_true, and_true, true_and, implies_true, and_self, Bool.false_eq_true, Bool.true_eq_false, reduceCtorEq, ite_true, ite_false, if_true, if_false, eq_self, Nat.zero_add, Nat.add_zero, Nat.le_refl, Nat.lt_irrefl, Nat.reduceEqDiff, Nat.reduceLeDiff, Nat.reduceLT, Nat.reduceAdd, Nat.reduceMul, Nat.reduceSub, wpY_define, yc_in, h, Bool.false_and]
  · rw [cl_n h3]
    cases e2 : ir_ v2 v3 v4 v5 v6
    · simp (disch := first | omega | assumption) only [li_0, li_1, li_2, li_3, li_4, li_6, li_7, li_8, li_9, li_10, li_12, li_21, li_24, li_31, li_60, li_63, li_127, li_128, li_256, li_312, li_384, nI_add, nu_mul, nu_sub, nu_div, nu_and, nu_or, nu_shr, nu_bit, nu_diff, bi_2, nI_leI, nI_ltI, nI_eq, vp_in_nI, nI_clamp, ar_na, ar_ba, bo_0, bo_1, bo_it, bo_if, bo_w, bo_w0, bo_w1, bo_nar, bo_n1, bo_nn0, st_bu, st_bu1, st_bu0, st_nu, forall_eq, true_implies, false_implies, forall_const, not_true_eq_false, not_false_eq_true, and_true, true_and, implies_true, and_self, Bool.false_eq_true, Bool.true_eq_false, reduceCtorEq, ite_true, ite_false, if_true, if_false, eq_self, Nat.zero_add, Nat.add_zero, Nat.le_refl, Nat.lt_irrefl, Nat.reduceEqDiff, Nat.reduceLeDiff, Nat.reduceLT, Nat.reduceAdd, Nat.reduceMul, Nat.reduceSub, wpY_define, yc_in, h, yc_inRange, e2, Bool.false_and, Bool.and_false]
    · simp (disch := first | omega | assumption) only [li_0, li_1, li_2, li_3, li_4, li_6, li_7, li_8, li_9, li_10, li_12, li_21, li_24, li_31, li_60, li_63, li_127, li_128, li_256, li_312, li_384, nI_add, nu_mul, nu_sub, nu_div, nu_and, nu_or, nu_shr, nu_bit, nu_diff, bi_2, nI_leI, nI_ltI, nI_eq, vp_in_nI, nI_clamp, ar_na, ar_ba, bo_0, bo_1, bo_it, bo_if, bo_w, bo_w0, bo_w1, bo_nar, bo_n1, bo_nn0, st_bu, st_bu1, st_bu0, st_nu, forall_eq, true_implies, false_implies, forall_const, not_true_eq_false, not_false_eq_true, and_true, true_and, implies_true, and_self, Bool.false_eq_true, Bool.true_eq_false, reduceCtorEq, ite_true, ite_false, if_true, if_false, eq_self, Nat.zero_add, Nat.add_zero, Nat.le_refl, Nat.lt_irrefl, Nat.reduceEqDiff, Nat.reduceLeDiff, Nat.reduceLT, Nat.reduceAdd, Nat.reduceMul, Nat.reduceSub, wpY_define, yc_in, h, yc_inRange, e2, Bool.true_and]
      rw [yc_define28 hb hbb (by omega)]
      cases e1 : hb_ bg so s
      · simp only [Bool.false_eq_true, false_implies, true_and, true_implies, Bool.false_and, and_true]
      · have hr := ir_rg e2
        have n0 : upd (upd (upd (upd num (4 * s) v3) (4 * s + 1) v4) (4 * s + 2) v5) (4 * s + 3) v6 (4 * s) = v3 := by simp (disch := omega) only [up_eq, up_ne]
        have n1 : upd (upd (upd (upd num (4 * s) v3) (4 * s + 1) v4) (4 * s + 2) v5) (4 * s + 3) v6 (4 * s + 1) = v4 := by simp (disch := omega) only [up_eq, up_ne]
        have n2 : upd (upd (upd (upd num (4 * s) v3) (4 * s + 1) v4) (4 * s + 2) v5) (4 * s + 3) v6 (4 * s + 2) = v5 := by simp (disch := omega) only [up_eq, up_ne]
        have n3 : upd (upd (upd (upd num (4 * s) v3) (4 * s + 1) v4) (4 * s + 2) v5) (4 * s + 3) v6 (4 * s + 3) = v6 := by simp (disch := omega) only [up_eq, up_ne]
        have n4 : upd srt s v2 s = v2 := up_eq
        rw [yc_set (by omega), yc_sound (by omega) (by rw [n0, n1, n2, n3, n4]; exact hr), n0, n1, n2, n3, n4]
        cases e3 : sn_ (qf_ v2 v3 v4 v5 v6)
        · simp (disch := first | omega | assumption) only [li_0, li_1, li_2, li_3, li_4, li_6, li_7, li_8, li_9, li_10, li_12, li_21, li_24, li_31, li_60, li_63, li_127, li_128, li_256, li_312, li_384, nI_add, nu_mul, nu_sub, nu_div, nu_and, nu_or, nu_shr, nu_bit, nu_diff, bi_2, nI_leI, nI_ltI, nI_eq, vp_in_nI, nI_clamp, ar_na, ar_ba, bo_0, bo_1, bo_it, bo_if, bo_w, bo_w0, bo_w1, bo_nar, bo_n1, bo_nn0, st_bu, st_bu1, st_bu0, st_nu, forall_eq, true_implies, false_implies, forall_const, not_true_eq_false, not_false_eq_true, and_true, true_and, implies_true, and_self, Bool.false_eq_true, Bool.true_eq_false, reduceCtorEq, ite_true, ite_false, if_true, if_false, eq_self, Nat.zero_add, Nat.add_zero, Nat.le_refl, Nat.lt_irrefl, Nat.reduceEqDiff, Nat.reduceLeDiff, Nat.reduceLT, Nat.reduceAdd, Nat.reduceMul, Nat.reduceSub, yc_set, nu_4, up_up, up_self (f := srt) (k := s) rfl, Bool.true_and]
        · simp (disch := first | omega | assumption) only [li_0, li_1, li_2, li_3, li_4, li_6, li_7, li_8, li_9, li_10, li_12, li_21, li_24, li_31, li_60, li_63, li_127, li_128, li_256, li_312, li_384, nI_add, nu_mul, nu_sub, nu_div, nu_and, nu_or, nu_shr, nu_bit, nu_diff, bi_2, nI_leI, nI_ltI, nI_eq, vp_in_nI, nI_clamp, ar_na, ar_ba, bo_0, bo_1, bo_it, bo_if, bo_w, bo_w0, bo_w1, bo_nar, bo_n1, bo_nn0, st_bu, st_bu1, st_bu0, st_nu, forall_eq, true_implies, false_implies, forall_const, not_true_eq_false, not_false_eq_true, and_true, true_and, implies_true, and_self, Bool.false_eq_true, Bool.true_eq_false, reduceCtorEq, ite_true, ite_false, if_true, if_false, eq_self, Nat.zero_add, Nat.add_zero, Nat.le_refl, Nat.lt_irrefl, Nat.reduceEqDiff, Nat.reduceLeDiff, Nat.reduceLT, Nat.reduceAdd, Nat.reduceMul, Nat.reduceSub, Bool.and_self]
theorem xc_define {v2 v3 v4 v5 v6 : Int32} (hb : bg ≤ 12) (hbb : in_b bg df so ba) : ∃ tb', (dc_ bg so x v2 v3 v4 v5 v6 = true → ∀ k t, k < 3 → t < 128 → tb' (k * 128 + t) = qf_ v2 v3 v4 v5 v6 k t) ∧ ∀ post, (wpX_define post (nI bg, ar_b df, ar_b iq, ar_b tb, ar_b up, ar_n op, ar_n ov, ar_n sp, ar_n sv, ar_n qb, ar_n qi, ar_n qv, ar_n ql, ar_n so, ar_b fa, ar_n ba, ar_n an, ar_b co, pc_x pk, ar_b fr, ar_n kv, ar_n vo, ar_n kn) x v2 v3 v4 v5 v6 ↔ ((dc_ bg so x v2 v3 v4 v5 v6 = false → post (nI 0) (nI bg, ar_b df, ar_b iq, ar_b tb', ar_b up, ar_n op, ar_n ov, ar_n sp, ar_n sv, ar_n qb, ar_n qi, ar_n qv, ar_n ql, ar_n so, ar_b fa, ar_n ba, ar_n an, ar_b co, pc_x pk, ar_b fr, ar_n kv, ar_n vo, ar_n kn)) ∧ (dc_ bg so x v2 v3 v4 v5 v6 = true → post (nI 1) (nI bg, ar_b (st_b df (cl_ x) true), ar_b (lo_f (fun t iq => st_b iq (cl_ x * 384 + t) (tb' t)) 384 0 iq), ar_b tb', ar_b up, ar_n op, ar_n ov, ar_n sp, ar_n sv, ar_n qb, ar_n qi, ar_n qv, ar_n ql, ar_n so, ar_b fa, ar_n ba, ar_n an, ar_b co, pc_x pk, ar_b fr, ar_n kv, ar_n vo, ar_n kn)))) := by
  unfold dc_
  rcases iz_c 0 3 x with h | ⟨s, h1, h2, h3, rfl, h⟩
  · refine ⟨tb, (by rw [h, Bool.false_and]; exact fun z => nomatch z), fun post => ?_⟩
    simp only [wpX_define]
    refine (iz_A (b := 3) (by decide)).trans ?_
    simp (disch := first | omega | assumption) only [li_0, li_1, li_2, li_3, li_4, li_6, li_7, li_8, li_9, li_10, li_12, li_21, li_24, li_31, li_60, li_63, li_127, li_128, li_256, li_312, li_384, nI_add, nu_mul, nu_sub, nu_div, nu_and, nu_or, nu_shr, nu_bit, nu_diff, bi_2, nI_leI, nI_ltI, nI_eq, vp_in_nI, nI_clamp, ar_na, ar_ba, bo_0, bo_1, bo_it, bo_if, bo_w, bo_w0, bo_w1, bo_nar, bo_n1, bo_nn0, st_bu, st_bu1, st_bu0, st_nu, forall_eq, true_implies, false_implies, forall_const, not_true_eq_false, not_false_eq_true, and_true, true_and, implies_true, and_self, Bool.false_eq_true, Bool.true_eq_false, reduceCtorEq, ite_true, ite_false, if_true, if_false, eq_self, Nat.zero_add, Nat.add_zero, Nat.le_refl, Nat.lt_irrefl, Nat.reduceEqDiff, Nat.reduceLeDiff, Nat.reduceLT, Nat.reduceAdd, Nat.reduceMul, Nat.reduceSub, h, Bool.false_and]
  · rw [cl_n h3]
    cases e1 : hb_ bg so s
    · refine ⟨tb, (by rw [Bool.false_and, Bool.and_false]; exact fun z => nomatch z), fun post => ?_⟩
      simp only [wpX_define]
      refine (iz_A (b := 3) (by decide)).trans ?_
      simp (disch := first | omega | assumption) only [li_0, li_1, li_2, li_3, li_4, li_6, li_7, li_8, li_9, li_10, li_12, li_21, li_24, li_31, li_60, li_63, li_127, li_128, li_256, li_312, li_384, nI_add, nu_mul, nu_sub, nu_div, nu_and, nu_or, nu_shr, nu_bit, nu_diff, bi_2, nI_leI, nI_ltI, nI_eq, vp_in_nI, nI_clamp, ar_na, ar_ba, bo_0, bo_1, bo_it, bo_if, bo_w, bo_w0, bo_w1, bo_nar, bo_n1, bo_nn0, st_bu, st_bu1, st_bu0, st_nu, forall_eq, true_implies, false_implies, forall_const, not_true_eq_false, not_false_eq_true, and_true, true_and, implies_true, and_self, Bool.false_eq_true, Bool.true_eq_false, reduceCtorEq, ite_true, ite_false, if_true, if_false, eq_self, Nat.zero_add, Nat.add_zero, Nat.le_refl, Nat.lt_irrefl, Nat.reduceEqDiff, Nat.reduceLeDiff, Nat.reduceLT, Nat.reduceAdd, Nat.reduceMul, Nat.reduceSub, h, xc_hasBallot hb hbb, e1, Bool.false_and, Bool.and_false, Bool.not_false]
    · cases e2 : ir_ v2 v3 v4 v5 v6
      · refine ⟨tb, (by rw [Bool.false_and, Bool.and_false, Bool.and_false]; exact fun z => nomatch z), fun post => ?_⟩
        simp only [wpX_define]
        refine (iz_A (b := 3) (by decide)).trans ?_
        simp (disch := first | omega | assumption) only [li_0, li_1, li_2, li_3, li_4, li_6, li_7, li_8, li_9, li_10, li_12, li_21, li_24, li_31, li_60, li_63, li_127, li_128, li_256, li_312, li_384, nI_add, nu_mul, nu_sub, nu_div, nu_and, nu_or, nu_shr, nu_bit, nu_diff, bi_2, nI_leI, nI_ltI, nI_eq, vp_in_nI, nI_clamp, ar_na, ar_ba, bo_0, bo_1, bo_it, bo_if, bo_w, bo_w0, bo_w1, bo_nar, bo_n1, bo_nn0, st_bu, st_bu1, st_bu0, st_nu, forall_eq, true_implies, false_implies, forall_const, not_true_eq_false, not_false_eq_true, and_true, true_and, implies_true, and_self, Bool.false_eq_true, Bool.true_eq_false, reduceCtorEq, ite_true, ite_false, if_true, if_false, eq_self, Nat.zero_add, Nat.add_zero, Nat.le_refl, Nat.lt_irrefl, Nat.reduceEqDiff, Nat.reduceLeDiff, Nat.reduceLT, Nat.reduceAdd, Nat.reduceMul, Nat.reduceSub, h, xc_hasBallot hb hbb, xc_inRange, e1, e2, Bool.false_and, Bool.and_false, Bool.not_true]
      · obtain ⟨tb', ht, hw⟩ := xc_layOut (bg := bg) (df := df) (iq := iq) (tb := tb) (up := up) (fa := fa) (co := co) (fr := fr) (op := op) (ov := ov) (sp := sp) (sv := sv) (qb := qb) (qi := qi) (qv := qv) (ql := ql) (so := so) (ba := ba) (an := an) (pk := pk) (kv := kv) (vo := vo) (kn := kn) (ir_rg e2)
        refine ⟨tb', fun _ => ht, fun post => ?_⟩
        simp only [wpX_define]
        refine (iz_A (b := 3) (by decide)).trans ?_
        cases e3 : sn_ (qf_ v2 v3 v4 v5 v6)
        · simp (disch := first | omega | assumption) only [li_0, li_1, li_2, li_3, li_4, li_6, li_7, li_8, li_9, li_10, li_12, li_21, li_24, li_31, li_60, li_63, li_127, li_128, li_256, li_312, li_384, nI_add, nu_mul, nu_sub, nu_div, nu_and, nu_or, nu_shr, nu_bit, nu_diff, bi_2, nI_leI, nI_ltI, nI_eq, vp_in_nI, nI_clamp, ar_na, ar_ba, bo_0, bo_1, bo_it, bo_if, bo_w, bo_w0, bo_w1, bo_nar, bo_n1, bo_nn0, st_bu, st_bu1, st_bu0, st_nu, forall_eq, true_implies, false_implies, forall_const, not_true_eq_false, not_false_eq_true, and_true, true_and, implies_true, and_self, Bool.false_eq_true, Bool.true_eq_false, reduceCtorEq, ite_true, ite_false, if_true, if_false, eq_self, Nat.zero_add, Nat.add_zero, Nat.le_refl, Nat.lt_irrefl, Nat.reduceEqDiff, Nat.reduceLeDiff, Nat.reduceLT, Nat.reduceAdd, Nat.reduceMul, Nat.reduceSub, h, xc_hasBallot hb hbb, xc_inRange, e1, e2, hw, xc_sound ht, e3, Bool.and_false, Bool.not_true]
        · simp (disch := first | omega | assumption) only [li_0, li_1, li_2, li_3, li_4, li_6, li_7, li_8, li_9, li_10, li_12, li_21, li_24, li_31, li_60, li_63, li_127, li_128, li_256, li_312, li_384, nI_add, nu_mul, nu_sub, nu_div, nu_and, nu_or, nu_shr, nu_bit, nu_diff, bi_2, nI_leI, nI_ltI, nI_eq, vp_in_nI, nI_clamp, ar_na, ar_ba, bo_0, bo_1, bo_it, bo_if, bo_w, bo_w0, bo_w1, bo_nar, bo_n1, bo_nn0, st_bu, st_bu1, st_bu0, st_nu, forall_eq, true_implies, false_implies, forall_const, not_true_eq_false, not_false_eq_true, and_true, true_and, implies_true, and_self, Bool.false_eq_true, Bool.true_eq_false, reduceCtorEq, ite_true, ite_false, if_true, if_false, eq_self, Nat.zero_add, Nat.add_zero, Nat.le_refl, Nat.lt_irrefl, Nat.reduceEqDiff, Nat.reduceLeDiff, Nat.reduceLT, Nat.reduceAdd, Nat.reduceMul, Nat.reduceSub, h, xc_hasBallot hb hbb, xc_inRange, e1, e2, hw, xc_sound ht, e3, Bool.and_self, Bool.not_true]
          exact xc_define57 (by omega)
end
theorem i_vc_define {k : Nat} {u : SX} {v : SY} (I : i_Rel k u v) (hk : k + 7 ≤ 3584) (v1 : Int32) (v2 : Int32) (v3 : Int32) (v4 : Int32) (v5 : Int32) (v6 : Int32) : wpX_define (fun r u' => wpY_define (fun r' v' => r' = r ∧ i_Rel (k + 7) u' v') v v1 v2 v3 v4 v5 v6) u v1 v2 v3 v4 v5 v6 := by
  obtain ⟨bg, df, iq, tb, up, fa, co, fr, dn, op, ov, sp, sv, qb, qi, qj, qv, ql, so, ba, an, pk, kv, vo, kn, srt, num, rfl, rfl, H⟩ := I
  obtain ⟨hb, hs, hbb, hp, hv, hc, hq, ho, ha, hd⟩ := H
  obtain ⟨tb', ht, hw⟩ := xc_define (x := v1) (v2 := v2) (v3 := v3) (v4 := v4) (v5 := v5) (v6 := v6) (bg := bg) (df := df) (iq := iq) (tb := tb) (up := up) (fa := fa) (co := co) (fr := fr) (op := op) (ov := ov) (sp := sp) (sv := sv) (qb := qb) (qi := qi) (qv := qv) (ql := ql) (so := so) (ba := ba) (an := an) (pk := pk) (kv := kv) (vo := vo) (kn := kn) hb hbb
  refine (hw _).mpr ⟨fun z => (yc_define hb hbb).mpr ⟨fun _ => ⟨rfl, ?_⟩, fun z' => absurd (z.symm.trans z') (by decide)⟩, fun z => (yc_define hb hbb).mpr ⟨fun z' => absurd (z.symm.trans z') (by decide), fun _ => ⟨rfl, ?_⟩⟩⟩
  · exact ⟨_, _, _, _, _, _, _, _, _, _, _, _, _, _, _, _, _, _, _, _, _, _, _, _, _, _, _, rfl, rfl, hb, hs, hbb, hp, hv, hc, hq, ho, ha, hd⟩
  · refine ⟨_, _, _, _, _, _, _, _, _, _, _, _, _, _, _, _, _, _, _, _, _, _, _, _, _, _, _, rfl, rfl, hb, ?_, ?_, hp, hv, hc, hq, ho, ha, hd⟩
    · have htz := ht z
      unfold dc_ at z
      simp only [Bool.and_eq_true] at z
      obtain ⟨z1, z2, z3, z4⟩ := z
      have hr := ir_rg z3
      rcases iz_c 0 3 v1 with h | ⟨s, h1, h2, h3, rfl, h⟩
      · rw [h] at z1; exact nomatch z1
      rw [cl_n h3]
      intro s' hs'
      by_cases e : s' = s
      · subst e
        right
        have n0 : upd (upd (upd (upd num (4 * s') v3) (4 * s' + 1) v4) (4 * s' + 2) v5) (4 * s' + 3) v6 (4 * s') = v3 := by simp (disch := omega) only [up_eq, up_ne]
        have n1 : upd (upd (upd (upd num (4 * s') v3) (4 * s' + 1) v4) (4 * s' + 2) v5) (4 * s' + 3) v6 (4 * s' + 1) = v4 := by simp (disch := omega) only [up_eq, up_ne]
        have n2 : upd (upd (upd (upd num (4 * s') v3) (4 * s' + 1) v4) (4 * s' + 2) v5) (4 * s' + 3) v6 (4 * s' + 2) = v5 := by simp (disch := omega) only [up_eq, up_ne]
        have n3 : upd (upd (upd (upd num (4 * s') v3) (4 * s' + 1) v4) (4 * s' + 2) v5) (4 * s' + 3) v6 (4 * s' + 3) = v6 := by simp (disch := omega) only [up_eq, up_ne]
        have n4 : upd srt s' v2 s' = v2 := up_eq
        rw [n0, n1, n2, n3, n4]
        refine ⟨st_beq, hr, fun k t hk ht' => ?_⟩
        rw [lo_st, if_pos (by omega), ← htz k t hk ht']
        exact congrArg tb' (by omega)
      · have m0 : upd (upd (upd (upd num (4 * s) v3) (4 * s + 1) v4) (4 * s + 2) v5) (4 * s + 3) v6 (4 * s') = num (4 * s') := by simp (disch := omega) only [up_ne]
        have m1 : upd (upd (upd (upd num (4 * s) v3) (4 * s + 1) v4) (4 * s + 2) v5) (4 * s + 3) v6 (4 * s' + 1) = num (4 * s' + 1) := by simp (disch := omega) only [up_ne]
        have m2 : upd (upd (upd (upd num (4 * s) v3) (4 * s + 1) v4) (4 * s + 2) v5) (4 * s + 3) v6 (4 * s' + 2) = num (4 * s' + 2) := by simp (disch := omega) only [up_ne]
        have m3 : upd (upd (upd (upd num (4 * s) v3) (4 * s + 1) v4) (4 * s + 2) v5) (4 * s + 3) v6 (4 * s' + 3) = num (4 * s' + 3) := by simp (disch := omega) only [up_ne]
        have m4 : upd srt s v2 s' = srt s' := up_ne e
        rw [m0, m1, m2, m3, m4, st_bne e]
        rcases hs s' hs' with g | ⟨g1, g2, g3⟩
        · exact Or.inl g
        · refine Or.inr ⟨g1, g2, fun k t hk ht' => ?_⟩
          rw [lo_st, if_neg (by omega)]
          exact g3 k t hk ht'
    · intro b hb1 hb2
      obtain ⟨g1, g2, g3⟩ := hbb b hb1 hb2
      refine ⟨g1, ?_, g3⟩
      by_cases e : so b = cl_ v1
      · rw [e]; exact st_beq
      · rw [st_bne e]; exact g2
