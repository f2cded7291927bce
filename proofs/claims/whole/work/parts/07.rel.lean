/-! the relation -/
def in_s (df iq : Nat → Bool) (srt num : Nat → Int32) : Prop := ∀ s, s < 4 → (df s = false ∧ srt s = -nI 1) ∨ (df s = true ∧ rg_ (srt s) (num (4 * s)) (num (4 * s + 1)) (num (4 * s + 2)) (num (4 * s + 3)) ∧ ∀ k t, k < 3 → t < 128 → iq (s * 384 + k * 128 + t) = qf_ (srt s) (num (4 * s)) (num (4 * s + 1)) (num (4 * s + 2)) (num (4 * s + 3)) k t)
def in_b (bg : Nat) (df : Nat → Bool) (so ba : Nat → Nat) : Prop := ∀ b, 1 ≤ b → b ≤ bg → so b < 4 ∧ df (so b) = true ∧ ba b < b
def in_p (pk : Nat → Nat) (fr : Nat → Bool) : Prop := ∀ j, pk j ≤ 8 ∧ (fr j = true → pk j ≠ 0) ∧ (j < 39 → pk j = 1 → fr j = true)
def vo_ (bg : Nat) (pk : Nat → Nat) (i x : Nat) : Prop := x = 0 ∨ (1 ≤ x / 8 ∧ x / 8 ≤ bg ∧ 1 ≤ x % 8 ∧ pk (x / 8 * 3 + i) ≠ 0)
def in_v (bg : Nat) (pk sv kv : Nat → Nat) : Prop := (∀ n i, n < 7 → i < 3 → vo_ bg pk i (sv (n * 3 + i))) ∧ (∀ b n i, b ≤ 12 → n < 7 → i < 3 → vo_ bg pk i (kv (b * 21 + n * 3 + i)))
def in_c (vo kn an : Nat → Nat) : Prop := ∀ j, vo j < 128 ∧ kn j < 128 ∧ an j < 128
def rc_ (bg : Nat) (pk : Nat → Nat) (b i j v : Nat) : Prop := 1 ≤ b ∧ b ≤ bg ∧ ((v = 0 ∧ j = 3) ∨ (1 ≤ v ∧ v ≤ 7 ∧ j = i ∧ i < 3 ∧ pk (b * 3 + i) ≠ 0))
def in_q (bg : Nat) (up : Nat → Bool) (pk sp qb qi qj qv ql : Nat → Nat) : Prop := ∀ n, n < 7 → ql n ≤ 6 ∧ sp n ≤ bg ∧ (up n = false → ql n = 0) ∧ ∀ p, p < ql n → rc_ bg pk (qb (n * 6 + p)) (qi (n * 6 + p)) (qj (n * 6 + p)) (qv (n * 6 + p)) ∧ sp n ≤ qb (n * 6 + p) ∧ (p + 1 < ql n → qb (n * 6 + p) ≤ qb (n * 6 + p + 1))
def wv_ (qb qj qv : Nat → Nat) (i : Nat) : Nat → Nat → Nat → Nat := lo_f (fun k v => if qj k = i then 8 * qb k + qv k else v)
def in_o (op ov sp sv qb qj qv ql : Nat → Nat) : Prop := ∀ n, n < 7 → op n = (if ql n = 0 then sp n else qb (n * 6 + ql n - 1)) ∧ ∀ i, i < 3 → ov (n * 3 + i) = wv_ qb qj qv i (ql n) (n * 6) (sv (n * 3 + i))
def in_a (an sp : Nat → Nat) : Prop := ∀ b n, n < 7 → an b / 2 ^ n % 2 = 1 → b ≤ sp n
def in_d (dn up : Nat → Bool) : Prop := ∀ j, j < 7 → dn j = !up j
def in_all (bg : Nat) (df iq up fr dn : Nat → Bool) (op ov sp sv qb qi qj qv ql so ba an pk kv vo kn : Nat → Nat) (srt num : Nat → Int32) : Prop :=
  bg ≤ 12 ∧ in_s df iq srt num ∧ in_b bg df so ba ∧ in_p pk fr ∧ in_v bg pk sv kv ∧ in_c vo kn an ∧ in_q bg up pk sp qb qi qj qv ql ∧ in_o op ov sp sv qb qj qv ql ∧ in_a an sp ∧ in_d dn up
def i_Rel (k : Nat) (u : SX) (v : SY) : Prop := ∃ (bg : Nat) (df iq tb up fa co fr dn : Nat → Bool) (op ov sp sv qb qi qj qv ql so ba an pk kv vo kn : Nat → Nat) (srt num : Nat → Int32), u = (nI bg, ar_b df, ar_b iq, ar_b tb, ar_b up, ar_n op, ar_n ov, ar_n sp, ar_n sv, ar_n qb, ar_n qi, ar_n qv, ar_n ql, ar_n so, ar_b fa, ar_n ba, ar_n an, ar_b co, pc_x pk, ar_b fr, ar_n kv, ar_n vo, ar_n kn) ∧ v = (nI bg, srt, num, ar_n so, ar_n ba, ar_n an, pc_y pk, ar_n kv, ar_b fa, ar_b co, ar_b fr, ar_b dn, ar_n sp, ar_n sv, ar_n ql, ar_n qb, ar_n qj, ar_n qv, ar_n vo, ar_n kn) ∧ in_all bg df iq up fr dn op ov sp sv qb qi qj qv ql so ba an pk kv vo kn srt num
theorem i_up {k : Nat} {u : SX} {v : SY} (h : i_Rel k u v) : i_Rel (k + 7) u v := h
theorem iz_A {b : Nat} {x : Int32} (hb : b + 1 < 2 ^ 31) {A B : Prop} : ((x < nI 0 → A) ∧ (¬ x < nI 0 → ((nI (b + 1) ≤ x → A) ∧ (¬ nI (b + 1) ≤ x → B)))) ↔ ((iz 0 b x = false → A) ∧ (iz 0 b x = true → B)) := by
  unfold iz
  simp only [Int32.lt_iff_toInt_lt, Int32.le_iff_toInt_le, nI_toInt hb, nI_toInt (show 0 < 2 ^ 31 by decide), decide_eq_true_eq, decide_eq_false_iff_not]
  constructor
  · rintro ⟨h1, h2⟩
    refine ⟨fun h => ?_, fun h => ?_⟩
    · by_cases z : x.toInt < ((0 : Nat) : Int)
      · exact h1 z
      · exact (h2 z).1 (by omega)
    · exact (h2 (by omega)).2 (by omega)
  · rintro ⟨h1, h2⟩
    exact ⟨fun h => h1 (by omega), fun h => ⟨fun h' => h1 (by omega), fun h' => h2 (by omega)⟩⟩
theorem iz_B {b : Nat} {x : Int32} (hb : b + 1 < 2 ^ 31) {A B : Prop} : ((x < nI 0 → A) ∧ (¬ x < nI 0 → ((x < nI (b + 1) → B) ∧ (¬ x < nI (b + 1) → A)))) ↔ ((iz 0 b x = false → A) ∧ (iz 0 b x = true → B)) := by
  unfold iz
  simp only [Int32.lt_iff_toInt_lt, nI_toInt hb, nI_toInt (show 0 < 2 ^ 31 by decide), decide_eq_true_eq, decide_eq_false_iff_not]
  constructor
  · rintro ⟨h1, h2⟩
    refine ⟨fun h => ?_, fun h => ?_⟩
    · by_cases z : x.toInt < ((0 : Nat) : Int)
      · exact h1 z
      · exact (h2 z).2 (by omega)
    · exact (h2 (by omega)).1 (by omega)
  · rintro ⟨h1, h2⟩
    exact ⟨fun h => h1 (by omega), fun h => ⟨fun h' => h2 (by omega), fun h' => h1 (by omega)⟩⟩
theorem iz_C {b : Nat} {x : Int32} (hb : b < 2 ^ 31) {A B : Prop} : ((x < nI 0 → A) ∧ (¬ x < nI 0 → ((nI b < x → A) ∧ (¬ nI b < x → B)))) ↔ ((iz 0 b x = false → A) ∧ (iz 0 b x = true → B)) := by
  unfold iz
  simp only [Int32.lt_iff_toInt_lt, nI_toInt hb, nI_toInt (show 0 < 2 ^ 31 by decide), decide_eq_true_eq, decide_eq_false_iff_not]
  constructor
  · rintro ⟨h1, h2⟩
    refine ⟨fun h => ?_, fun h => ?_⟩
    · by_cases z : x.toInt < ((0 : Nat) : Int)
      · exact h1 z
      · exact (h2 z).1 (by omega)
    · exact (h2 (by omega)).2 (by omega)
  · rintro ⟨h1, h2⟩
    exact ⟨fun h => h1 (by omega), fun h => ⟨fun h' => h1 (by omega), fun h' => h2 (by omega)⟩⟩
theorem rg_pos {so a b c d : Int32} (h : rg_ so a b c d) : ¬ so < nI 0 := by
  rcases h with ⟨rfl, _⟩ | ⟨rfl, _⟩ | ⟨rfl, _⟩ | ⟨rfl, _⟩ <;> decide
section
variable {bg : Nat} {df iq tb up fa co fr dn : Nat → Bool} {op ov sp sv qb qi qj qv ql so ba an pk kv vo kn : Nat → Nat} {srt num : Nat → Int32}
variable {post : Int32 → Prop} {x : Int32} {s k t m n i : Nat}
theorem yc_q (H : in_s df iq srt num) (hs : s < 4) (hd : df s = true) (hk : k < 3) (ht : t < 128) : wpY_isQuorum post (nI bg, srt, num, ar_n so, ar_n ba, ar_n an, pc_y pk, ar_n kv, ar_b fa, ar_b co, ar_b fr, ar_b dn, ar_n sp, ar_n sv, ar_n ql, ar_n qb, ar_n qj, ar_n qv, ar_n vo, ar_n kn) (nI s) (nI k) (nI t) ↔ post (bo_i (iq (s * 384 + k * 128 + t))) := by
  rcases H s hs with ⟨h, _⟩ | ⟨_, hr, hq⟩
  · rw [hd] at h; exact nomatch h
  · rw [hq k t hk ht]
    exact yc_isQuorum hs hk ht hr
theorem xc_isSystem : wpX_isSystem post (nI bg, ar_b df, ar_b iq, ar_b tb, ar_b up, ar_n op, ar_n ov, ar_n sp, ar_n sv, ar_n qb, ar_n qi, ar_n qv, ar_n ql, ar_n so, ar_b fa, ar_n ba, ar_n an, ar_b co, pc_x pk, ar_b fr, ar_n kv, ar_n vo, ar_n kn) x ↔ post (bo_i (iz 0 3 x && df (cl_ x))) := by
  simp only [wpX_isSystem]
  refine (iz_A (b := 3) (by decide)).trans ?_
  rcases iz_c 0 3 x with h | ⟨j, h1, h2, h3, rfl, h⟩
  · simp only [h, Bool.false_and]
    simp (disch := first | omega | assumption) only [li_0, li_1, li_2, li_3, li_4, li_6, li_7, li_8, li_9, li_10, li_12, li_21, li_24, li_31, li_60, li_63, li_127, li_128, li_256, li_312, li_384, nI_add, nu_mul, nu_sub, nu_div, nu_and, nu_or, nu_shr, nu_bit, nu_diff, bi_2, nI_leI, nI_ltI, nI_eq, vp_in_nI, nI_clamp, ar_na, ar_ba, bo_0, bo_1, bo_it, bo_if, bo_w, bo_w0, bo_w1, bo_nar, bo_n1, bo_nn0, st_bu, st_bu1, st_bu0, st_nu, forall_eq, true_implies, false_implies, forall_const, not_true_eq_false, not_false_eq_true, and_true, true_and, implies_true, and_self, Bool.false_eq_true, Bool.true_eq_false, reduceCtorEq, ite_true, ite_false, if_true, if_false, eq_self, Nat.zero_add, Nat.add_zero, Nat.le_refl, Nat.lt_irrefl, Nat.reduceEqDiff, Nat.reduceLeDiff, Nat.reduceLT, Nat.reduceAdd, Nat.reduceMul, Nat.reduceSub]
  · simp only [h, Bool.true_and, cl_n h3]
    cases z : df j
    · simp (disch := first | omega | assumption) only [li_0, li_1, li_2, li_3, li_4, li_6, li_7, li_8, li_9, li_10, li_12, li_21, li_24, li_31, li_60, li_63, li_127, li_128, li_256, li_312, li_384, nI_add, nu_mul, nu_sub, nu_div, nu_and, nu_or, nu_shr, nu_bit, nu_diff, bi_2, nI_leI, nI_ltI, nI_eq, vp_in_nI, nI_clamp, ar_na, ar_ba, bo_0, bo_1, bo_it, bo_if, bo_w, bo_w0, bo_w1, bo_nar, bo_n1, bo_nn0, st_bu, st_bu1, st_bu0, st_nu, forall_eq, true_implies, false_implies, forall_const, not_true_eq_false, not_false_eq_true, and_true, true_and, implies_true, and_self, Bool.false_eq_true, Bool.true_eq_false, reduceCtorEq, ite_true, ite_false, if_true, if_false, eq_self, Nat.zero_add, Nat.add_zero, Nat.le_refl, Nat.lt_irrefl, Nat.reduceEqDiff, Nat.reduceLeDiff, Nat.reduceLT, Nat.reduceAdd, Nat.reduceMul, Nat.reduceSub, z]
    · simp (disch := first | omega | assumption) only [li_0, li_1, li_2, li_3, li_4, li_6, li_7, li_8, li_9, li_10, li_12, li_21, li_24, li_31, li_60, li_63, li_127, li_128, li_256, li_312, li_384, nI_add, nu_mul, nu_sub, nu_div, nu_and, nu_or, nu_shr, nu_bit, nu_diff, bi_2, nI_leI, nI_ltI, nI_eq, vp_in_nI, nI_clamp, ar_na, ar_ba, bo_0, bo_1, bo_it, bo_if, bo_w, bo_w0, bo_w1, bo_nar, bo_n1, bo_nn0, st_bu, st_bu1, st_bu0, st_nu, forall_eq, true_implies, false_implies, forall_const, not_true_eq_false, not_false_eq_true, and_true, true_and, implies_true, and_self, Bool.false_eq_true, Bool.true_eq_false, reduceCtorEq, ite_true, ite_false, if_true, if_false, eq_self, Nat.zero_add, Nat.add_zero, Nat.le_refl, Nat.lt_irrefl, Nat.reduceEqDiff, Nat.reduceLeDiff, Nat.reduceLT, Nat.reduceAdd, Nat.reduceMul, Nat.reduceSub, z]
theorem yc_isSystem (H : in_s df iq srt num) : wpY_isSystem post (nI bg, srt, num, ar_n so, ar_n ba, ar_n an, pc_y pk, ar_n kv, ar_b fa, ar_b co, ar_b fr, ar_b dn, ar_n sp, ar_n sv, ar_n ql, ar_n qb, ar_n qj, ar_n qv, ar_n vo, ar_n kn) x ↔ post (bo_i (iz 0 3 x && df (cl_ x))) := by
  rcases iz_c 0 3 x with h | ⟨j, h1, h2, h3, rfl, h⟩
  · simp (disch := first | omega | assumption) only [li_0, li_1, li_2, li_3, li_4, li_6, li_7, li_8, li_9, li_10, li_12, li_21, li_24, li_31, li_60, li_63, li_127, li_128, li_256, li_312, li_384, nI_add, nu_mul, nu_sub, nu_div, nu_and, nu_or, nu_shr, nu_bit, nu_diff, bi_2, nI_leI, nI_ltI, nI_eq, vp_in_nI, nI_clamp, ar_na, ar_ba, bo_0, bo_1, bo_it, bo_if, bo_w, bo_w0, bo_w1, bo_nar, bo_n1, bo_nn0, st_bu, st_bu1, st_bu0, st_nu, forall_eq, true_implies, false_implies, forall_const, not_true_eq_false, not_false_eq_true, and_true, true_and, implies_true, and_self, Bool.false_eq_true, Bool.true_eq_false, reduceCtorEq, ite_true, ite_false, if_true, if_false, eq_self, Nat.zero_add, Nat.add_zero, Nat.le_refl, Nat.lt_irrefl, Nat.reduceEqDiff, Nat.reduceLeDiff, Nat.reduceLT, Nat.reduceAdd, Nat.reduceMul, Nat.reduceSub, wpY_isSystem, yc_in, h, Bool.false_and]
  · simp only [cl_n h3]
    rcases H j (by omega) with ⟨hd, hq⟩ | ⟨hd, hr, hq⟩
    · simp (disch := first | omega | assumption) only [li_0, li_1, li_2, li_3, li_4, li_6, li_7, li_8, li_9, li_10, li_12, li_21, li_24, li_31, li_60, li_63, li_127, li_128, li_256, li_312, li_384, nI_add, nu_mul, nu_sub, nu_div, nu_and, nu_or, nu_shr, nu_bit, nu_diff, bi_2, nI_leI, nI_ltI, nI_eq, vp_in_nI, nI_clamp, ar_na, ar_ba, bo_0, bo_1, bo_it, bo_if, bo_w, bo_w0, bo_w1, bo_nar, bo_n1, bo_nn0, st_bu, st_bu1, st_bu0, st_nu, forall_eq, true_implies, false_implies, forall_const, not_true_eq_false, not_false_eq_true, and_true, true_and, implies_true, and_self, Bool.false_eq_true, Bool.true_eq_false, reduceCtorEq, ite_true, ite_false, if_true, if_false, eq_self, Nat.zero_add, Nat.add_zero, Nat.le_refl, Nat.lt_irrefl, Nat.reduceEqDiff, Nat.reduceLeDiff, Nat.reduceLT, Nat.reduceAdd, Nat.reduceMul, Nat.reduceSub, wpY_isSystem, yc_in, h, hd, hq, Bool.and_false, show -nI 1 < nI 0 from by decide]
    · simp (disch := first | omega | assumption) only [li_0, li_1, li_2, li_3, li_4, li_6, li_7, li_8, li_9, li_10, li_12, li_21, li_24, li_31, li_60, li_63, li_127, li_128, li_256, li_312, li_384, nI_add, nu_mul, nu_sub, nu_div, nu_and, nu_or, nu_shr, nu_bit, nu_diff, bi_2, nI_leI, nI_ltI, nI_eq, vp_in_nI, nI_clamp, ar_na, ar_ba, bo_0, bo_1, bo_it, bo_if, bo_w, bo_w0, bo_w1, bo_nar, bo_n1, bo_nn0, st_bu, st_bu1, st_bu0, st_nu, forall_eq, true_implies, false_implies, forall_const, not_true_eq_false, not_false_eq_true, and_true, true_and, implies_true, and_self, Bool.false_eq_true, Bool.true_eq_false, reduceCtorEq, ite_true, ite_false, if_true, if_false, eq_self, Nat.zero_add, Nat.add_zero, Nat.le_refl, Nat.lt_irrefl, Nat.reduceEqDiff, Nat.reduceLeDiff, Nat.reduceLT, Nat.reduceAdd, Nat.reduceMul, Nat.reduceSub, wpY_isSystem, yc_in, h, hd, rg_pos hr, Bool.and_self]
/-- how both answer quorum -/
def va_quorum (df iq : Nat → Bool) (x y z : Int32) : Int32 := if (iz 0 3 x && df (cl_ x) && iz 0 2 y && iz 0 127 z) = true then bo_i (iq (cl_ x * 384 + cl_ y * 128 + cl_ z)) else -nI 1
theorem bo_pq {b : Bool} {P : Int32 → Prop} : ((b = false → P (nI 0)) ∧ (¬ b = false → P (nI 1))) ↔ P (bo_i b) := by
  cases b <;> simp <;> exact Iff.rfl
theorem xc_quorum {y z : Int32} : wpX_quorum post (nI bg, ar_b df, ar_b iq, ar_b tb, ar_b up, ar_n op, ar_n ov, ar_n sp, ar_n sv, ar_n qb, ar_n qi, ar_n qv, ar_n ql, ar_n so, ar_b fa, ar_n ba, ar_n an, ar_b co, pc_x pk, ar_b fr, ar_n kv, ar_n vo, ar_n kn) x y z ↔ post (va_quorum df iq x y z) := by
  unfold va_quorum
  simp (disch := first | omega | assumption) only [li_0, li_1, li_2, li_3, li_4, li_6, li_7, li_8, li_9, li_10, li_12, li_21, li_24, li_31, li_60, li_63, li_127, li_128, li_256, li_312, li_384, nI_add, nu_mul, nu_sub, nu_div, nu_and, nu_or, nu_shr, nu_bit, nu_diff, bi_2, nI_leI, nI_ltI, nI_eq, vp_in_nI, nI_clamp, ar_na, ar_ba, bo_0, bo_1, bo_it, bo_if, bo_w, bo_w0, bo_w1, bo_nar, bo_n1, bo_nn0, st_bu, st_bu1, st_bu0, st_nu, forall_eq, true_implies, false_implies, forall_const, not_true_eq_false, not_false_eq_true, and_true, true_and, implies_true, and_self, Bool.false_eq_true, Bool.true_eq_false, reduceCtorEq, ite_true, ite_false, if_true, if_false, eq_self, Nat.zero_add, Nat.add_zero, Nat.le_refl, Nat.lt_irrefl, Nat.reduceEqDiff, Nat.reduceLeDiff, Nat.reduceLT, Nat.reduceAdd, Nat.reduceMul, Nat.reduceSub, wpX_quorum, xc_isSystem, xc_isKind]
  rcases iz_c 0 3 x with h | ⟨j, h1, h2, h3, rfl, h⟩
  · simp [h]
  · cases hd : df (cl_ (nI j))
    · simp [h]
    · rcases iz_c 0 2 y with g | ⟨k, g1, g2, g3, rfl, g⟩
      · simp [h, g]
      · simp only [h, g, Bool.and_self, Bool.true_and, Bool.true_eq_false, not_false_eq_true, false_implies, true_implies, true_and]
        refine (iz_B (b := 127) (by decide)).trans ?_
        rcases iz_c 0 127 z with e | ⟨t, e1, e2, e3, rfl, e⟩
        · simp [e]
        · simp (disch := first | omega | assumption) only [li_0, li_1, li_2, li_3, li_4, li_6, li_7, li_8, li_9, li_10, li_12, li_21, li_24, li_31, li_60, li_63, li_127, li_128, li_256, li_312, li_384, nI_add, nu_mul, nu_sub, nu_div, nu_and, nu_or, nu_shr, nu_bit, nu_diff, bi_2, nI_leI, nI_ltI, nI_eq, vp_in_nI, nI_clamp, ar_na, ar_ba, bo_0, bo_1, bo_it, bo_if, bo_w, bo_w0, bo_w1, bo_nar, bo_n1, bo_nn0, st_bu, st_bu1, st_bu0, st_nu, forall_eq, true_implies, false_implies, forall_const, not_true_eq_false, not_false_eq_true, and_true, true_and, implies_true, and_self, Bool.false_eq_true, Bool.true_eq_false, reduceCtorEq, ite_true, ite_false, if_true, if_false, eq_self, Nat.zero_add, Nat.add_zero, Nat.le_refl, Nat.lt_irrefl, Nat.reduceEqDiff, Nat.reduceLeDiff, Nat.reduceLT, Nat.reduceAdd, Nat.reduceMul, Nat.reduceSub, e, xc_holds, cl_n, bo_pq]
theorem yc_quorum {y z : Int32} (H : in_s df iq srt num) : wpY_quorum post (nI bg, srt, num, ar_n so, ar_n ba, ar_n an, pc_y pk, ar_n kv, ar_b fa, ar_b co, ar_b fr, ar_b dn, ar_n sp, ar_n sv, ar_n ql, ar_n qb, ar_n qj, ar_n qv, ar_n vo, ar_n kn) x y z ↔ post (va_quorum df iq x y z) := by
  unfold va_quorum
  rcases iz_c 0 3 x with h | ⟨j, h1, h2, h3, rfl, h⟩
  · simp (disch := first | omega | assumption) only [li_0, li_1, li_2, li_3, li_4, li_6, li_7, li_8, li_9, li_10, li_12, li_21, li_24, li_31, li_60, li_63, li_127, li_128, li_256, li_312, li_384, nI_add, nu_mul, nu_sub, nu_div, nu_and, nu_or, nu_shr, nu_bit, nu_diff, bi_2, nI_leI, nI_ltI, nI_eq, vp_in_nI, nI_clamp, ar_na, ar_ba, bo_0, bo_1, bo_it, bo_if, bo_w, bo_w0, bo_w1, bo_nar, bo_n1, bo_nn0, st_bu, st_bu1, st_bu0, st_nu, forall_eq, true_implies, false_implies, forall_const, not_true_eq_false, not_false_eq_true, and_true, true_and, implies_true, and_self, Bool.false_eq_true, Bool.true_eq_false, reduceCtorEq, ite_true, ite_false, if_true, if_false, eq_self, Nat.zero_add, Nat.add_zero, Nat.le_refl, Nat.lt_irrefl, Nat.reduceEqDiff, Nat.reduceLeDiff, Nat.reduceLT, Nat.reduceAdd, Nat.reduceMul, Nat.reduceSub, wpY_quorum, yc_isSystem H, yc_in, h, Bool.false_and]
  · cases hd : df (cl_ (nI j))
    · simp (disch := first | omega | assumption) only [li_0, li_1, li_2, li_3, li_4, li_6, li_7, li_8, li_9, li_10, li_12, li_21, li_24, li_31, li_60, li_63, li_127, li_128, li_256, li_312, li_384, nI_add, nu_mul, nu_sub, nu_div, nu_and, nu_or, nu_shr, nu_bit, nu_diff, bi_2, nI_leI, nI_ltI, nI_eq, vp_in_nI, nI_clamp, ar_na, ar_ba, bo_0, bo_1, bo_it, bo_if, bo_w, bo_w0, bo_w1, bo_nar, bo_n1, bo_nn0, st_bu, st_bu1, st_bu0, st_nu, forall_eq, true_implies, false_implies, forall_const, not_true_eq_false, not_false_eq_true, and_true, true_and, implies_true, and_self, Bool.false_eq_true, Bool.true_eq_false, reduceCtorEq, ite_true, ite_false, if_true, if_false, eq_self, Nat.zero_add, Nat.add_zero, Nat.le_refl, Nat.lt_irrefl, Nat.reduceEqDiff, Nat.reduceLeDiff, Nat.reduceLT, Nat.reduceAdd, Nat.reduceMul, Nat.reduceSub, wpY_quorum, yc_isSystem H, yc_in, h, hd, Bool.and_false, Bool.false_and]
    · have hd' : df j = true := by rw [cl_n h3] at hd; exact hd
      rcases iz_c 0 2 y with g | ⟨k, g1, g2, g3, rfl, g⟩
      · simp (disch := first | omega | assumption) only [li_0, li_1, li_2, li_3, li_4, li_6, li_7, li_8, li_9, li_10, li_12, li_21, li_24, li_31, li_60, li_63, li_127, li_128, li_256, li_312, li_384, nI_add, nu_mul, nu_sub, nu_div, nu_and, nu_or, nu_shr, nu_bit, nu_diff, bi_2, nI_leI, nI_ltI, nI_eq, vp_in_nI, nI_clamp, ar_na, ar_ba, bo_0, bo_1, bo_it, bo_if, bo_w, bo_w0, bo_w1, bo_nar, bo_n1, bo_nn0, st_bu, st_bu1, st_bu0, st_nu, forall_eq, true_implies, false_implies, forall_const, not_true_eq_false, not_false_eq_true, and_true, true_and, implies_true, and_self, Bool.false_eq_true, Bool.true_eq_false, reduceCtorEq, ite_true, ite_false, if_true, if_false, eq_self, Nat.zero_add, Nat.add_zero, Nat.le_refl, Nat.lt_irrefl, Nat.reduceEqDiff, Nat.reduceLeDiff, Nat.reduceLT, Nat.reduceAdd, Nat.reduceMul, Nat.reduceSub, wpY_quorum, yc_isSystem H, yc_in, h, hd, g, Bool.and_false, Bool.false_and, Bool.and_self]
      · rcases iz_c 0 127 z with e | ⟨t, e1, e2, e3, rfl, e⟩
        · simp (disch := first | omega | assumption) only [li_0, li_1, li_2, li_3, li_4, li_6, li_7, li_8, li_9, li_10, li_12, li_21, li_24, li_31, li_60, li_63, li_127, li_128, li_256, li_312, li_384, nI_add, nu_mul, nu_sub, nu_div, nu_and, nu_or, nu_shr, nu_bit, nu_diff, bi_2, nI_leI, nI_ltI, nI_eq, vp_in_nI, nI_clamp, ar_na, ar_ba, bo_0, bo_1, bo_it, bo_if, bo_w, bo_w0, bo_w1, bo_nar, bo_n1, bo_nn0, st_bu, st_bu1, st_bu0, st_nu, forall_eq, true_implies, false_implies, forall_const, not_true_eq_false, not_false_eq_true, and_true, true_and, implies_true, and_self, Bool.false_eq_true, Bool.true_eq_false, reduceCtorEq, ite_true, ite_false, if_true, if_false, eq_self, Nat.zero_add, Nat.add_zero, Nat.le_refl, Nat.lt_irrefl, Nat.reduceEqDiff, Nat.reduceLeDiff, Nat.reduceLT, Nat.reduceAdd, Nat.reduceMul, Nat.reduceSub, wpY_quorum, yc_isSystem H, yc_in, h, hd, g, e, Bool.and_false, Bool.false_and, Bool.and_self]
        · simp (disch := first | omega | assumption) only [li_0, li_1, li_2, li_3, li_4, li_6, li_7, li_8, li_9, li_10, li_12, li_21, li_24, li_31, li_60, li_63, li_127, li_128, li_256, li_312, li_384, nI_add, nu_mul, nu_sub, nu_div, nu_and, nu_or, nu_shr, nu_bit, nu_diff, bi_2, nI_leI, nI_ltI, nI_eq, vp_in_nI, nI_clamp, ar_na, ar_ba, bo_0, bo_1, bo_it, bo_if, bo_w, bo_w0, bo_w1, bo_nar, bo_n1, bo_nn0, st_bu, st_bu1, st_bu0, st_nu, forall_eq, true_implies, false_implies, forall_const, not_true_eq_false, not_false_eq_true, and_true, true_and, implies_true, and_self, Bool.false_eq_true, Bool.true_eq_false, reduceCtorEq, ite_true, ite_false, if_true, if_false, eq_self, Nat.zero_add, Nat.add_zero, Nat.le_refl, Nat.lt_irrefl, Nat.reduceEqDiff, Nat.reduceLeDiff, Nat.reduceLT, Nat.reduceAdd, Nat.reduceMul, Nat.reduceSub, wpY_quorum, yc_isSystem H, yc_in, h, hd, hd', g, e, Bool.and_self, yc_q H, cl_n, bo_pq]
end
theorem i_vc_quorum {k : Nat} {u : SX} {v : SY} (I : i_Rel k u v) (hk : k + 7 ≤ 3584) (v1 : Int32) (v2 : Int32) (v3 : Int32) : wpX_quorum (fun r => wpY_quorum (fun r' => r' = r ∧ i_Rel (k + 7) u v) v v1 v2 v3) u v1 v2 v3 := by
  have I' : i_Rel (k + 7) u v := I
  obtain ⟨bg, df, iq, tb, up, fa, co, fr, dn, op, ov, sp, sv, qb, qi, qj, qv, ql, so, ba, an, pk, kv, vo, kn, srt, num, rfl, rfl, H⟩ := I
  exact xc_quorum.mpr ((yc_quorum H.2.1).mpr ⟨rfl, I'⟩)
