/-! what the reference reckons of a system, and what the component lays out -/
def cl_ (x : Int32) : Nat := x.toNatClampNeg
theorem cl_n {n : Nat} (h : n < 2 ^ 31) : cl_ (nI n) = n := nI_clamp h
def qf_ (so a b c d : Int32) (k t : Nat) : Bool :=
  if so = nI 3 then li_ (cl_ (if k = 0 then a else if k = 1 then b else c)) t
  else if k = 2 ∧ d = nI 0 then false
  else if so = nI 1 then (if k = 0 then decide (0 < gr_ln (cl_ a) (cl_ b) true t) else decide ((if k = 1 then 1 else cl_ b - 1) ≤ gr_ln (cl_ a) (cl_ b) false t))
  else decide (cl_ (if k = 0 then b else if k = 1 then c else d) ≤ (if so = nI 0 then sz_ (t &&& cl_ a) else wt_ (cl_ a) t))
def rg_ (so a b c d : Int32) : Prop :=
  (so = nI 0 ∧ ∃ a' b' c' d', a = nI a' ∧ b = nI b' ∧ c = nI c' ∧ d = nI d' ∧ 1 ≤ a' ∧ a' ≤ 127 ∧ 1 ≤ b' ∧ b' ≤ 7 ∧ 1 ≤ c' ∧ c' ≤ 7 ∧ d' ≤ 7) ∨
  (so = nI 1 ∧ ∃ a' b', a = nI a' ∧ b = nI b' ∧ 1 ≤ a' ∧ a' ≤ 7 ∧ 1 ≤ b' ∧ b' ≤ 7 ∧ a' * b' ≤ 7) ∨
  (so = nI 2 ∧ ∃ a' b' c' d', a = nI a' ∧ b = nI b' ∧ c = nI c' ∧ d = nI d' ∧ a' ≤ 9999999 ∧ 1 ≤ b' ∧ b' ≤ 63 ∧ 1 ≤ c' ∧ c' ≤ 63 ∧ d' ≤ 63) ∨
  (so = nI 3 ∧ ∃ a' b' c', a = nI a' ∧ b = nI b' ∧ c = nI c' ∧ a' ≤ 268435455 ∧ b' ≤ 268435455 ∧ c' ≤ 268435455)
theorem nn_eq {a b : Nat} (ha : a < 2 ^ 31) (hb : b < 2 ^ 31) (h : a ≠ b) : ¬ nI a = nI b := by rw [nI_eq ha hb]; exact h
theorem qf_3 {a b c : Nat} {d : Int32} {k t : Nat} (ha : a ≤ 268435455) (hb : b ≤ 268435455) (hc : c ≤ 268435455) : qf_ (nI 3) (nI a) (nI b) (nI c) d k t = li_ (if k = 0 then a else if k = 1 then b else c) t := by
  unfold qf_
  rw [if_pos rfl]
  by_cases h0 : k = 0
  · simp only [h0, if_true]; rw [cl_n (by omega)]
  · by_cases h1 : k = 1
    · simp only [h1, if_true, if_false, Nat.one_ne_zero]; rw [cl_n (by omega)]
    · simp only [h0, h1, if_false]; rw [cl_n (by omega)]
theorem qf_1 {a b : Nat} {c d : Int32} {k t : Nat} (ha : a ≤ 7) (hb : b ≤ 7) : qf_ (nI 1) (nI a) (nI b) c d k t = if k = 2 ∧ d = nI 0 then false else if k = 0 then decide (0 < gr_ln a b true t) else decide ((if k = 1 then 1 else b - 1) ≤ gr_ln a b false t) := by
  unfold qf_
  rw [if_neg (nn_eq (by decide) (by decide) (by decide)), if_pos rfl, cl_n (by omega), cl_n (by omega)]
theorem qf_0 {a b c d : Nat} {k t : Nat} (ha : a ≤ 127) (hb : b ≤ 7) (hc : c ≤ 7) (hd : d ≤ 7) (hb1 : 1 ≤ b) (hc1 : 1 ≤ c) (hk : k < 3) : qf_ (nI 0) (nI a) (nI b) (nI c) (nI d) k t = (decide (0 < if k = 0 then b else if k = 1 then c else d) && decide ((if k = 0 then b else if k = 1 then c else d) ≤ sz_ (t &&& a))) := by
  unfold qf_
  rw [if_neg (nn_eq (by decide) (by decide) (by decide)), if_neg (nn_eq (by decide) (by decide) (by decide)), if_pos rfl, cl_n (show a < 2 ^ 31 by omega)]
  have hdz : nI d = nI 0 ↔ d = 0 := nI_eq (by omega) (by decide)
  rcases (by omega : k = 0 ∨ k = 1 ∨ k = 2) with rfl | rfl | rfl
  · simp [cl_n (show b < 2 ^ 31 by omega), hb1]; intro _; omega
  · simp [cl_n (show c < 2 ^ 31 by omega), hc1]; intro _; omega
  · by_cases h : d = 0
    · simp [h]
    · simp [hdz, h, cl_n (show d < 2 ^ 31 by omega), Nat.pos_of_ne_zero h]
theorem qf_2 {a b c d : Nat} {k t : Nat} (ha : a ≤ 9999999) (hb : b ≤ 63) (hc : c ≤ 63) (hd : d ≤ 63) (hb1 : 1 ≤ b) (hc1 : 1 ≤ c) (hk : k < 3) : qf_ (nI 2) (nI a) (nI b) (nI c) (nI d) k t = (decide (0 < if k = 0 then b else if k = 1 then c else d) && decide ((if k = 0 then b else if k = 1 then c else d) ≤ wt_ a t)) := by
  unfold qf_
  rw [if_neg (nn_eq (by decide) (by decide) (by decide)), if_neg (nn_eq (by decide) (by decide) (by decide)), if_neg (nn_eq (by decide) (by decide) (by decide)), cl_n (show a < 2 ^ 31 by omega)]
  have hdz : nI d = nI 0 ↔ d = 0 := nI_eq (by omega) (by decide)
  rcases (by omega : k = 0 ∨ k = 1 ∨ k = 2) with rfl | rfl | rfl
  · simp [cl_n (show b < 2 ^ 31 by omega), hb1]; intro _; omega
  · simp [cl_n (show c < 2 ^ 31 by omega), hc1]; intro _; omega
  · by_cases h : d = 0
    · simp [h]
    · simp [hdz, h, cl_n (show d < 2 ^ 31 by omega), Nat.pos_of_ne_zero h]
/-- if any set is a quorum, all nodes are -/
theorem qf_top {so a b c d : Int32} {k t : Nat} (h : rg_ so a b c d) (hk : k < 3) (ht : t < 128) (hq : qf_ so a b c d k t = true) : qf_ so a b c d k 127 = true := by
  rcases h with ⟨rfl, a', b', c', d', rfl, rfl, rfl, rfl, h⟩ | ⟨rfl, a', b', rfl, rfl, h⟩ | ⟨rfl, a', b', c', d', rfl, rfl, rfl, rfl, h⟩ | ⟨rfl, a', b', c', rfl, rfl, rfl, h⟩
  · rw [qf_0 (by omega) (by omega) (by omega) (by omega) (by omega) (by omega) hk, Bool.and_eq_true, decide_eq_true_eq, decide_eq_true_eq] at hq ⊢
    refine ⟨hq.1, Nat.le_trans hq.2 (sz_mono fun i hi => ?_)⟩
    rw [Nat.testBit_and, Bool.and_eq_true] at hi ⊢
    refine ⟨?_, hi.2⟩
    rw [nu_t127, decide_eq_true_eq]
    rcases Nat.lt_or_ge i 7 with z | z
    · exact z
    · rw [nu_tb ht z] at hi; exact nomatch hi.1
  · rw [qf_1 (by omega) (by omega)] at hq ⊢
    have g := gr_all (s := t) h.1 h.2.2.1 h.2.2.2.2 ht
    by_cases h2 : k = 2 ∧ d = nI 0
    · rw [if_pos h2] at hq; exact nomatch hq
    · rw [if_neg h2] at hq ⊢
      by_cases h0 : k = 0
      · rw [if_pos h0, decide_eq_true_eq] at hq ⊢
        omega
      · rw [if_neg h0, decide_eq_true_eq] at hq ⊢
        omega
  · rw [qf_2 (by omega) (by omega) (by omega) (by omega) (by omega) (by omega) hk, Bool.and_eq_true, decide_eq_true_eq, decide_eq_true_eq] at hq ⊢
    exact ⟨hq.1, Nat.le_trans hq.2 (wt_mono _ _)⟩
  · rw [qf_3 (by omega) (by omega) (by omega)] at hq ⊢
    exact li_mono hq
section
variable {bg : Nat} {df iq tb up fa co fr dn : Nat → Bool} {op ov sp sv qb qi qj qv ql so ba an pk kv vo kn : Nat → Nat} {srt num : Nat → Int32}
variable {post : Int32 → Prop} {x : Int32} {s k t l : Nat}
theorem yc_contains (hl : l < 268435456) (ht : t < 128) : wpY_contains post (nI l) (nI t) ↔ post (bo_i (li_ l t)) := by
  simp only [wpY_contains]
  refine lo_fold (W := fun n i a => wY_contains_4 post (nI l) (nI t) n (bo_i a) (nI i)) (fin := fun a => post (bo_i a)) (I := fun _ _ => True) (e := 4) (fun p a => a || (l / 2 ^ (7 * p) &&& 127) != 0 && (t &&& (l / 2 ^ (7 * p) &&& 127)) == (l / 2 ^ (7 * p) &&& 127)) (fun _ _ h => h) (fun _ _ _ _ => trivial) ?_ ?_ 4 0 false rfl trivial
  · intro n a _
    simp (disch := first | omega | assumption) only [li_0, li_1, li_2, li_3, li_4, li_6, li_7, li_8, li_9, li_10, li_12, li_21, li_24, li_31, li_60, li_63, li_127, li_128, li_256, li_312, li_384, nI_add, nu_mul, nu_sub, nu_div, nu_and, nu_or, nu_shr, nu_bit, nu_diff, bi_2, nI_leI, nI_ltI, nI_eq, vp_in_nI, nI_clamp, ar_na, ar_ba, bo_0, bo_1, bo_it, bo_if, bo_w, bo_w0, bo_w1, bo_nar, bo_n1, bo_nn0, st_bu, st_bu1, st_bu0, st_nu, forall_eq, true_implies, false_implies, forall_const, not_true_eq_false, not_false_eq_true, and_true, true_and, implies_true, and_self, Bool.false_eq_true, Bool.true_eq_false, reduceCtorEq, ite_true, ite_false, if_true, if_false, eq_self, Nat.zero_add, Nat.add_zero, Nat.le_refl, Nat.lt_irrefl, Nat.reduceEqDiff, Nat.reduceLeDiff, Nat.reduceLT, Nat.reduceAdd, Nat.reduceMul, Nat.reduceSub, wY_contains_4]
  · intro n i a hi _
    have hm : l / 2 ^ (7 * i) &&& 127 < 128 := nu_and7r (by decide)
    have hd : (l / 2 ^ (7 * i) &&& 127) &&& (t ^^^ 127) < 128 := nu_and7 hm
    have hs := nu_sub0 (b := t) hm
    cases a with
    | true =>
      rw [Bool.true_or]
      simp (disch := first | omega | assumption) only [li_0, li_1, li_2, li_3, li_4, li_6, li_7, li_8, li_9, li_10, li_12, li_21, li_24, li_31, li_60, li_63, li_127, li_128, li_256, li_312, li_384, nI_add, nu_mul, nu_sub, nu_div, nu_and, nu_or, nu_shr, nu_bit, nu_diff, bi_2, nI_leI, nI_ltI, nI_eq, vp_in_nI, nI_clamp, ar_na, ar_ba, bo_0, bo_1, bo_it, bo_if, bo_w, bo_w0, bo_w1, bo_nar, bo_n1, bo_nn0, st_bu, st_bu1, st_bu0, st_nu, forall_eq, true_implies, false_implies, forall_const, not_true_eq_false, not_false_eq_true, and_true, true_and, implies_true, and_self, Bool.false_eq_true, Bool.true_eq_false, reduceCtorEq, ite_true, ite_false, if_true, if_false, eq_self, Nat.zero_add, Nat.add_zero, Nat.le_refl, Nat.lt_irrefl, Nat.reduceEqDiff, Nat.reduceLeDiff, Nat.reduceLT, Nat.reduceAdd, Nat.reduceMul, Nat.reduceSub, wY_contains_4, Nat.not_le.mpr hi]
    | false =>
      rw [Bool.false_or]
      by_cases h1 : l / 2 ^ (7 * i) &&& 127 = 0
      · simp (disch := first | omega | assumption) only [li_0, li_1, li_2, li_3, li_4, li_6, li_7, li_8, li_9, li_10, li_12, li_21, li_24, li_31, li_60, li_63, li_127, li_128, li_256, li_312, li_384, nI_add, nu_mul, nu_sub, nu_div, nu_and, nu_or, nu_shr, nu_bit, nu_diff, bi_2, nI_leI, nI_ltI, nI_eq, vp_in_nI, nI_clamp, ar_na, ar_ba, bo_0, bo_1, bo_it, bo_if, bo_w, bo_w0, bo_w1, bo_nar, bo_n1, bo_nn0, st_bu, st_bu1, st_bu0, st_nu, forall_eq, true_implies, false_implies, forall_const, not_true_eq_false, not_false_eq_true, and_true, true_and, implies_true, and_self, Bool.false_eq_true, Bool.true_eq_false, reduceCtorEq, ite_true, ite_false, if_true, if_false, eq_self, Nat.zero_add, Nat.add_zero, Nat.le_refl, Nat.lt_irrefl, Nat.reduceEqDiff, Nat.reduceLeDiff, Nat.reduceLT, Nat.reduceAdd, Nat.reduceMul, Nat.reduceSub, wY_contains_4, Nat.not_le.mpr hi, h1, bne_self_eq_false, Bool.false_and]
      · by_cases h2 : t &&& (l / 2 ^ (7 * i) &&& 127) = l / 2 ^ (7 * i) &&& 127
        · have h3 := hs.mpr h2
          simp (disch := first | omega | assumption) only [li_0, li_1, li_2, li_3, li_4, li_6, li_7, li_8, li_9, li_10, li_12, li_21, li_24, li_31, li_60, li_63, li_127, li_128, li_256, li_312, li_384, nI_add, nu_mul, nu_sub, nu_div, nu_and, nu_or, nu_shr, nu_bit, nu_diff, bi_2, nI_leI, nI_ltI, nI_eq, vp_in_nI, nI_clamp, ar_na, ar_ba, bo_0, bo_1, bo_it, bo_if, bo_w, bo_w0, bo_w1, bo_nar, bo_n1, bo_nn0, st_bu, st_bu1, st_bu0, st_nu, forall_eq, true_implies, false_implies, forall_const, not_true_eq_false, not_false_eq_true, and_true, true_and, implies_true, and_self, Bool.false_eq_true, Bool.true_eq_false, reduceCtorEq, ite_true, ite_false, if_true, if_false, eq_self, Nat.zero_add, Nat.add_zero, Nat.le_refl, Nat.lt_irrefl, Nat.reduceEqDiff, Nat.reduceLeDiff, Nat.reduceLT, Nat.reduceAdd, Nat.reduceMul, Nat.reduceSub, wY_contains_4, Nat.not_le.mpr hi, h1, h2, h3, beq_self_eq_true, Bool.and_true, (bne_iff_ne (a := l / 2 ^ (7 * i) &&& 127) (b := 0)).mpr h1]
        · have h3 : ¬ (l / 2 ^ (7 * i) &&& 127) &&& (t ^^^ 127) = 0 := fun z => h2 (hs.mp z)
          simp (disch := first | omega | assumption) only [li_0, li_1, li_2, li_3, li_4, li_6, li_7, li_8, li_9, li_10, li_12, li_21, li_24, li_31, li_60, li_63, li_127, li_128, li_256, li_312, li_384, nI_add, nu_mul, nu_sub, nu_div, nu_and, nu_or, nu_shr, nu_bit, nu_diff, bi_2, nI_leI, nI_ltI, nI_eq, vp_in_nI, nI_clamp, ar_na, ar_ba, bo_0, bo_1, bo_it, bo_if, bo_w, bo_w0, bo_w1, bo_nar, bo_n1, bo_nn0, st_bu, st_bu1, st_bu0, st_nu, forall_eq, true_implies, false_implies, forall_const, not_true_eq_false, not_false_eq_true, and_true, true_and, implies_true, and_self, Bool.false_eq_true, Bool.true_eq_false, reduceCtorEq, ite_true, ite_false, if_true, if_false, eq_self, Nat.zero_add, Nat.add_zero, Nat.le_refl, Nat.lt_irrefl, Nat.reduceEqDiff, Nat.reduceLeDiff, Nat.reduceLT, Nat.reduceAdd, Nat.reduceMul, Nat.reduceSub, wY_contains_4, Nat.not_le.mpr hi, h1, h2, h3, (beq_eq_false_iff_ne (a := t &&& (l / 2 ^ (7 * i) &&& 127)) (b := l / 2 ^ (7 * i) &&& 127)).mpr h2, Bool.and_false]
theorem nu_md (a d : Nat) : a - a / d * d = a % d := by
  have h := Nat.div_add_mod' a d
  have h2 := Nat.div_mul_le_self a d
  omega
theorem yc_weight {w : Nat} (hw : w ≤ 9999999) (ht : t < 128) : wpY_weight post (nI w) (nI t) ↔ post (nI (wt_ w t)) := by
  simp only [wpY_weight]
  refine lo_fold (W := fun n i (p : Nat × Nat) => wY_weight_7 post (nI t) n (nI p.2) (nI p.1) (nI i)) (fin := fun p => post (nI p.2)) (I := fun i p => p.1 ≤ 9999999 ∧ p.2 ≤ 9 * i) (e := 7) (fun n p => (p.1 / 10, p.2 + t / 2 ^ n % 2 * (p.1 % 10))) (fun _ _ h => h) ?_ ?_ ?_ 7 0 (w, 0) rfl ⟨hw, Nat.le_refl _⟩
  · intro i p _ h
    have : t / 2 ^ i % 2 * (p.1 % 10) ≤ 1 * 9 := Nat.mul_le_mul (by omega) (by omega)
    exact ⟨by show p.1 / 10 ≤ _; omega, by show p.2 + _ ≤ _; omega⟩
  · intro n p h
    obtain ⟨h1, h2⟩ := h
    simp (disch := first | omega | assumption) only [li_0, li_1, li_2, li_3, li_4, li_6, li_7, li_8, li_9, li_10, li_12, li_21, li_24, li_31, li_60, li_63, li_127, li_128, li_256, li_312, li_384, nI_add, nu_mul, nu_sub, nu_div, nu_and, nu_or, nu_shr, nu_bit, nu_diff, bi_2, nI_leI, nI_ltI, nI_eq, vp_in_nI, nI_clamp, ar_na, ar_ba, bo_0, bo_1, bo_it, bo_if, bo_w, bo_w0, bo_w1, bo_nar, bo_n1, bo_nn0, st_bu, st_bu1, st_bu0, st_nu, forall_eq, true_implies, false_implies, forall_const, not_true_eq_false, not_false_eq_true, and_true, true_and, implies_true, and_self, Bool.false_eq_true, Bool.true_eq_false, reduceCtorEq, ite_true, ite_false, if_true, if_false, eq_self, Nat.zero_add, Nat.add_zero, Nat.le_refl, Nat.lt_irrefl, Nat.reduceEqDiff, Nat.reduceLeDiff, Nat.reduceLT, Nat.reduceAdd, Nat.reduceMul, Nat.reduceSub, wY_weight_7]
  · intro n i p hi h
    obtain ⟨h1, h2⟩ := h
    obtain ⟨c, d⟩ := p
    dsimp only at h1 h2 ⊢
    rcases (by omega : t / 2 ^ i % 2 = 0 ∨ t / 2 ^ i % 2 = 1) with z | z
    · simp (disch := first | omega | assumption) only [li_0, li_1, li_2, li_3, li_4, li_6, li_7, li_8, li_9, li_10, li_12, li_21, li_24, li_31, li_60, li_63, li_127, li_128, li_256, li_312, li_384, nI_add, nu_mul, nu_sub, nu_div, nu_and, nu_or, nu_shr, nu_bit, nu_diff, bi_2, nI_leI, nI_ltI, nI_eq, vp_in_nI, nI_clamp, ar_na, ar_ba, bo_0, bo_1, bo_it, bo_if, bo_w, bo_w0, bo_w1, bo_nar, bo_n1, bo_nn0, st_bu, st_bu1, st_bu0, st_nu, forall_eq, true_implies, false_implies, forall_const, not_true_eq_false, not_false_eq_true, and_true, true_and, implies_true, and_self, Bool.false_eq_true, Bool.true_eq_false, reduceCtorEq, ite_true, ite_false, if_true, if_false, eq_self, Nat.zero_add, Nat.add_zero, Nat.le_refl, Nat.lt_irrefl, Nat.reduceEqDiff, Nat.reduceLeDiff, Nat.reduceLT, Nat.reduceAdd, Nat.reduceMul, Nat.reduceSub, wY_weight_7, Nat.not_le.mpr hi, z, Nat.zero_mul, nu_md]
    · simp (disch := first | omega | assumption) only [li_0, li_1, li_2, li_3, li_4, li_6, li_7, li_8, li_9, li_10, li_12, li_21, li_24, li_31, li_60, li_63, li_127, li_128, li_256, li_312, li_384, nI_add, nu_mul, nu_sub, nu_div, nu_and, nu_or, nu_shr, nu_bit, nu_diff, bi_2, nI_leI, nI_ltI, nI_eq, vp_in_nI, nI_clamp, ar_na, ar_ba, bo_0, bo_1, bo_it, bo_if, bo_w, bo_w0, bo_w1, bo_nar, bo_n1, bo_nn0, st_bu, st_bu1, st_bu0, st_nu, forall_eq, true_implies, false_implies, forall_const, not_true_eq_false, not_false_eq_true, and_true, true_and, implies_true, and_self, Bool.false_eq_true, Bool.true_eq_false, reduceCtorEq, ite_true, ite_false, if_true, if_false, eq_self, Nat.zero_add, Nat.add_zero, Nat.le_refl, Nat.lt_irrefl, Nat.reduceEqDiff, Nat.reduceLeDiff, Nat.reduceLT, Nat.reduceAdd, Nat.reduceMul, Nat.reduceSub, wY_weight_7, Nat.not_le.mpr hi, z, Nat.one_mul, nu_md]
theorem yc_lines1 {r c m line : Nat} {o : Bool} {J : Int32 → Int32 → Prop} (hc : 1 ≤ c) (hrc : r * c ≤ 7) (hm : m ≤ 7) (hl : line ≤ 7) (ht : t < 128) : (∃ n, wY_lines_26 post J (nI r) (nI c) (bo_i o) (nI t) (nI m) (nI line) n (nI 1) (nI 0)) ↔ J (nI (if gr_one r c o t line = true then m + 1 else m)) (nI (line + 1)) := by
  refine lo_fold (W := fun n i a => wY_lines_26 post J (nI r) (nI c) (bo_i o) (nI t) (nI m) (nI line) n (bo_i a) (nI i)) (fin := fun a => J (nI (if a = true then m + 1 else m)) (nI (line + 1))) (I := fun _ _ => True) (e := r * c) (fun k w => if (if o = true then k / c else k % c) = line ∧ t / 2 ^ k % 2 = 0 then false else w) (fun _ _ h => h) (fun _ _ _ _ => trivial) ?_ ?_ (r * c) 0 true (Nat.zero_add _) trivial
  · intro n a _
    cases a
    · simp (disch := first | omega | assumption) only [li_0, li_1, li_2, li_3, li_4, li_6, li_7, li_8, li_9, li_10, li_12, li_21, li_24, li_31, li_60, li_63, li_127, li_128, li_256, li_312, li_384, nI_add, nu_mul, nu_sub, nu_div, nu_and, nu_or, nu_shr, nu_bit, nu_diff, bi_2, nI_leI, nI_ltI, nI_eq, vp_in_nI, nI_clamp, ar_na, ar_ba, bo_0, bo_1, bo_it, bo_if, bo_w, bo_w0, bo_w1, bo_nar, bo_n1, bo_nn0, st_bu, st_bu1, st_bu0, st_nu, forall_eq, true_implies, false_implies, forall_const, not_true_eq_false, not_false_eq_true, and_true, true_and, implies_true, and_self, Bool.false_eq_true, Bool.true_eq_false, reduceCtorEq, ite_true, ite_false, if_true, if_false, eq_self, Nat.zero_add, Nat.add_zero, Nat.le_refl, Nat.lt_irrefl, Nat.reduceEqDiff, Nat.reduceLeDiff, Nat.reduceLT, Nat.reduceAdd, Nat.reduceMul, Nat.reduceSub, wY_lines_26]
    · simp (disch := first | omega | assumption) only [li_0, li_1, li_2, li_3, li_4, li_6, li_7, li_8, li_9, li_10, li_12, li_21, li_24, li_31, li_60, li_63, li_127, li_128, li_256, li_312, li_384, nI_add, nu_mul, nu_sub, nu_div, nu_and, nu_or, nu_shr, nu_bit, nu_diff, bi_2, nI_leI, nI_ltI, nI_eq, vp_in_nI, nI_clamp, ar_na, ar_ba, bo_0, bo_1, bo_it, bo_if, bo_w, bo_w0, bo_w1, bo_nar, bo_n1, bo_nn0, st_bu, st_bu1, st_bu0, st_nu, forall_eq, true_implies, false_implies, forall_const, not_true_eq_false, not_false_eq_true, and_true, true_and, implies_true, and_self, Bool.false_eq_true, Bool.true_eq_false, reduceCtorEq, ite_true, ite_false, if_true, if_false, eq_self, Nat.zero_add, Nat.add_zero, Nat.le_refl, Nat.lt_irrefl, Nat.reduceEqDiff, Nat.reduceLeDiff, Nat.reduceLT, Nat.reduceAdd, Nat.reduceMul, Nat.reduceSub, wY_lines_26]
  · intro n i a hi _
    have h1 := Nat.div_mul_le_self i c
    have h2 : i / c ≤ i := Nat.div_le_self _ _
    have h3 : i % c ≤ i := Nat.mod_le _ _
    have hc7 : c ≤ 2 ^ 30 := by
      have : c * 1 ≤ 2 ^ 30 ∨ r = 0 := by
        rcases Nat.eq_zero_or_pos r with z | z
        · exact Or.inr z
        · left
          have := Nat.le_mul_of_pos_left c z
          omega
      rcases this with z | z
      · omega
      · subst z; omega
    have hb : t / 2 ^ i % 2 < 2 := Nat.mod_lt _ (by decide)
    cases o
    · by_cases e1 : i % c = line
      · by_cases e2 : t / 2 ^ i % 2 = 0
        · simp (disch := first | omega | assumption) only [li_0, li_1, li_2, li_3, li_4, li_6, li_7, li_8, li_9, li_10, li_12, li_21, li_24, li_31, li_60, li_63, li_127, li_128, li_256, li_312, li_384, nI_add, nu_mul, nu_sub, nu_div, nu_and, nu_or, nu_shr, nu_bit, nu_diff, bi_2, nI_leI, nI_ltI, nI_eq, vp_in_nI, nI_clamp, ar_na, ar_ba, bo_0, bo_1, bo_it, bo_if, bo_w, bo_w0, bo_w1, bo_nar, bo_n1, bo_nn0, st_bu, st_bu1, st_bu0, st_nu, forall_eq, true_implies, false_implies, forall_const, not_true_eq_false, not_false_eq_true, and_true, true_and, implies_true, and_self, Bool.false_eq_true, Bool.true_eq_false, reduceCtorEq, ite_true, ite_false, if_true, if_false, eq_self, Nat.zero_add, Nat.add_zero, Nat.le_refl, Nat.lt_irrefl, Nat.reduceEqDiff, Nat.reduceLeDiff, Nat.reduceLT, Nat.reduceAdd, Nat.reduceMul, Nat.reduceSub, wY_lines_26, wY_lines_49, Nat.not_le.mpr hi, nu_md, e1, e2, Nat.ne_of_gt hc]
        · simp (disch := first | omega | assumption) only [li_0, li_1, li_2, li_3, li_4, li_6, li_7, li_8, li_9, li_10, li_12, li_21, li_24, li_31, li_60, li_63, li_127, li_128, li_256, li_312, li_384, nI_add, nu_mul, nu_sub, nu_div, nu_and, nu_or, nu_shr, nu_bit, nu_diff, bi_2, nI_leI, nI_ltI, nI_eq, vp_in_nI, nI_clamp, ar_na, ar_ba, bo_0, bo_1, bo_it, bo_if, bo_w, bo_w0, bo_w1, bo_nar, bo_n1, bo_nn0, st_bu, st_bu1, st_bu0, st_nu, forall_eq, true_implies, false_implies, forall_const, not_true_eq_false, not_false_eq_true, and_true, true_and, implies_true, and_self, Bool.false_eq_true, Bool.true_eq_false, reduceCtorEq, ite_true, ite_false, if_true, if_false, eq_self, Nat.zero_add, Nat.add_zero, Nat.le_refl, Nat.lt_irrefl, Nat.reduceEqDiff, Nat.reduceLeDiff, Nat.reduceLT, Nat.reduceAdd, Nat.reduceMul, Nat.reduceSub, wY_lines_26, wY_lines_49, Nat.not_le.mpr hi, nu_md, e1, e2, and_false, Nat.ne_of_gt hc]
      · simp (disch := first | omega | assumption) only [li_0, li_1, li_2, li_3, li_4, li_6, li_7, li_8, li_9, li_10, li_12, li_21, li_24, li_31, li_60, li_63, li_127, li_128, li_256, li_312, li_384, nI_add, nu_mul, nu_sub, nu_div, nu_and, nu_or, nu_shr, nu_bit, nu_diff, bi_2, nI_leI, nI_ltI, nI_eq, vp_in_nI, nI_clamp, ar_na, ar_ba, bo_0, bo_1, bo_it, bo_if, bo_w, bo_w0, bo_w1, bo_nar, bo_n1, bo_nn0, st_bu, st_bu1, st_bu0, st_nu, forall_eq, true_implies, false_implies, forall_const, not_true_eq_false, not_false_eq_true, and_true, true_and, implies_true, and_self, Bool.false_eq_true, Bool.true_eq_false, reduceCtorEq, ite_true, ite_false, if_true, if_false, eq_self, Nat.zero_add, Nat.add_zero, Nat.le_refl, Nat.lt_irrefl, Nat.reduceEqDiff, Nat.reduceLeDiff, Nat.reduceLT, Nat.reduceAdd, Nat.reduceMul, Nat.reduceSub, wY_lines_26, wY_lines_49, Nat.not_le.mpr hi, nu_md, e1, false_and, Nat.ne_of_gt hc]
    · by_cases e1 : i / c = line
      · by_cases e2 : t / 2 ^ i % 2 = 0
        · simp (disch := first | omega | assumption) only [li_0, li_1, li_2, li_3, li_4, li_6, li_7, li_8, li_9, li_10, li_12, li_21, li_24, li_31, li_60, li_63, li_127, li_128, li_256, li_312, li_384, nI_add, nu_mul, nu_sub, nu_div, nu_and, nu_or, nu_shr, nu_bit, nu_diff, bi_2, nI_leI, nI_ltI, nI_eq, vp_in_nI, nI_clamp, ar_na, ar_ba, bo_0, bo_1, bo_it, bo_if, bo_w, bo_w0, bo_w1, bo_nar, bo_n1, bo_nn0, st_bu, st_bu1, st_bu0, st_nu, forall_eq, true_implies, false_implies, forall_const, not_true_eq_false, not_false_eq_true, and_true, true_and, implies_true, and_self, Bool.false_eq_true, Bool.true_eq_false, reduceCtorEq, ite_true, ite_false, if_true, if_false, eq_self, Nat.zero_add, Nat.add_zero, Nat.le_refl, Nat.lt_irrefl, Nat.reduceEqDiff, Nat.reduceLeDiff, Nat.reduceLT, Nat.reduceAdd, Nat.reduceMul, Nat.reduceSub, wY_lines_26, wY_lines_49, Nat.not_le.mpr hi, nu_md, e1, e2, Nat.ne_of_gt hc]
        · simp (disch := first | omega | assumption) only [li_0, li_1, li_2, li_3, li_4, li_6, li_7, li_8, li_9, li_10, li_12, li_21, li_24, li_31, li_60, li_63, li_127, li_128, li_256, li_312, li_384, nI_add, nu_mul, nu_sub, nu_div, nu_and, nu_or, nu_shr, nu_bit, nu_diff, bi_2, nI_leI, nI_ltI, nI_eq, vp_in_nI, nI_clamp, ar_na, ar_ba, bo_0, bo_1, bo_it, bo_if, bo_w, bo_w0, bo_w1, bo_nar, bo_n1, bo_nn0, st_bu, st_bu1, st_bu0, st_nu, forall_eq, true_implies, false_implies, forall_const, not_true_eq_false, not_false_eq_true, and_true, true_and, implies_true, and_self, Bool.false_eq_true, Bool.true_eq_false, reduceCtorEq, ite_true, ite_false, if_true, if_false, eq_self, Nat.zero_add, Nat.add_zero, Nat.le_refl, Nat.lt_irrefl, Nat.reduceEqDiff, Nat.reduceLeDiff, Nat.reduceLT, Nat.reduceAdd, Nat.reduceMul, Nat.reduceSub, wY_lines_26, wY_lines_49, Nat.not_le.mpr hi, nu_md, e1, e2, and_false, Nat.ne_of_gt hc]
      · simp (disch := first | omega | assumption) only [li_0, li_1, li_2, li_3, li_4, li_6, li_7, li_8, li_9, li_10, li_12, li_21, li_24, li_31, li_60, li_63, li_127, li_128, li_256, li_312, li_384, nI_add, nu_mul, nu_sub, nu_div, nu_and, nu_or, nu_shr, nu_bit, nu_diff, bi_2, nI_leI, nI_ltI, nI_eq, vp_in_nI, nI_clamp, ar_na, ar_ba, bo_0, bo_1, bo_it, bo_if, bo_w, bo_w0, bo_w1, bo_nar, bo_n1, bo_nn0, st_bu, st_bu1, st_bu0, st_nu, forall_eq, true_implies, false_implies, forall_const, not_true_eq_false, not_false_eq_true, and_true, true_and, implies_true, and_self, Bool.false_eq_true, Bool.true_eq_false, reduceCtorEq, ite_true, ite_false, if_true, if_false, eq_self, Nat.zero_add, Nat.add_zero, Nat.le_refl, Nat.lt_irrefl, Nat.reduceEqDiff, Nat.reduceLeDiff, Nat.reduceLT, Nat.reduceAdd, Nat.reduceMul, Nat.reduceSub, wY_lines_26, wY_lines_49, Nat.not_le.mpr hi, nu_md, e1, false_and, Nat.ne_of_gt hc]
theorem yc_lines {r c : Nat} {o : Bool} (hr : r ≤ 7) (hc : 1 ≤ c) (hc7 : c ≤ 7) (hrc : r * c ≤ 7) (ht : t < 128) : wpY_lines post (nI r) (nI c) (bo_i o) (nI t) ↔ post (nI (gr_ln r c o t)) := by
  simp only [wpY_lines]
  refine lo_fold (W := fun n i a => wY_lines_6 post (nI r) (nI c) (bo_i o) (nI t) n (nI a) (nI i)) (fin := fun a => post (nI a)) (I := fun i a => a ≤ i) (e := if o = true then r else c) (fun line n => if gr_one r c o t line = true then n + 1 else n) (fun _ _ h => h) ?_ ?_ ?_ _ 0 0 (Nat.zero_add _) (Nat.le_refl _)
  · intro i a _ h
    split <;> omega
  · intro n a h
    cases o
    · simp (disch := first | omega | assumption) only [li_0, li_1, li_2, li_3, li_4, li_6, li_7, li_8, li_9, li_10, li_12, li_21, li_24, li_31, li_60, li_63, li_127, li_128, li_256, li_312, li_384, nI_add, nu_mul, nu_sub, nu_div, nu_and, nu_or, nu_shr, nu_bit, nu_diff, bi_2, nI_leI, nI_ltI, nI_eq, vp_in_nI, nI_clamp, ar_na, ar_ba, bo_0, bo_1, bo_it, bo_if, bo_w, bo_w0, bo_w1, bo_nar, bo_n1, bo_nn0, st_bu, st_bu1, st_bu0, st_nu, forall_eq, true_implies, false_implies, forall_const, not_true_eq_false, not_false_eq_true, and_true, true_and, implies_true, and_self, Bool.false_eq_true, Bool.true_eq_false, reduceCtorEq, ite_true, ite_false, if_true, if_false, eq_self, Nat.zero_add, Nat.add_zero, Nat.le_refl, Nat.lt_irrefl, Nat.reduceEqDiff, Nat.reduceLeDiff, Nat.reduceLT, Nat.reduceAdd, Nat.reduceMul, Nat.reduceSub, wY_lines_6, wY_lines_17]
    · simp (disch := first | omega | assumption) only [li_0, li_1, li_2, li_3, li_4, li_6, li_7, li_8, li_9, li_10, li_12, li_21, li_24, li_31, li_60, li_63, li_127, li_128, li_256, li_312, li_384, nI_add, nu_mul, nu_sub, nu_div, nu_and, nu_or, nu_shr, nu_bit, nu_diff, bi_2, nI_leI, nI_ltI, nI_eq, vp_in_nI, nI_clamp, ar_na, ar_ba, bo_0, bo_1, bo_it, bo_if, bo_w, bo_w0, bo_w1, bo_nar, bo_n1, bo_nn0, st_bu, st_bu1, st_bu0, st_nu, forall_eq, true_implies, false_implies, forall_const, not_true_eq_false, not_false_eq_true, and_true, true_and, implies_true, and_self, Bool.false_eq_true, Bool.true_eq_false, reduceCtorEq, ite_true, ite_false, if_true, if_false, eq_self, Nat.zero_add, Nat.add_zero, Nat.le_refl, Nat.lt_irrefl, Nat.reduceEqDiff, Nat.reduceLeDiff, Nat.reduceLT, Nat.reduceAdd, Nat.reduceMul, Nat.reduceSub, wY_lines_6, wY_lines_17]
  · intro n i a hi h
    have hi7 : i < 7 := by cases o <;> simp at hi <;> omega
    have g := yc_lines1 (post := post) (r := r) (c := c) (m := a) (line := i) (o := o) (J := wY_lines_6 post (nI r) (nI c) (bo_i o) (nI t) n) hc hrc (by omega) (by omega) ht
    cases o
    · have hi : i < c := by simpa using hi
      simp (disch := omega) only [wY_lines_6, wY_lines_17, li_0, li_1, bo_0, nI_leI, Nat.not_le.mpr hi, not_true_eq_false, not_false_eq_true, true_implies, false_implies, and_true, true_and]
      exact g
    · have hi : i < r := by simpa using hi
      simp (disch := omega) only [wY_lines_6, wY_lines_17, li_0, li_1, bo_0, nI_leI, Nat.not_le.mpr hi, not_true_eq_false, not_false_eq_true, true_implies, false_implies, and_true, true_and, Bool.true_eq_false]
      exact g
theorem yc_linesR {r c : Nat} (hr : r ≤ 7) (hc : 1 ≤ c) (hc7 : c ≤ 7) (hrc : r * c ≤ 7) (ht : t < 128) : wpY_lines post (nI r) (nI c) (nI 1) (nI t) ↔ post (nI (gr_ln r c true t)) := yc_lines (o := true) hr hc hc7 hrc ht
theorem yc_linesC {r c : Nat} (hr : r ≤ 7) (hc : 1 ≤ c) (hc7 : c ≤ 7) (hrc : r * c ≤ 7) (ht : t < 128) : wpY_lines post (nI r) (nI c) (nI 0) (nI t) ↔ post (nI (gr_ln r c false t)) := yc_lines (o := false) hr hc hc7 hrc ht
end
