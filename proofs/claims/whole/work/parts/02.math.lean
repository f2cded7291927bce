/-! sizes, least ones, the four sorts of systems: pure -/
def sz_ (s : Nat) : Nat := lo_f (fun n a => a + s / 2 ^ n % 2) 7 0 0
theorem sz_e (s : Nat) : sz_ s = 0 + s / 2 ^ 0 % 2 + s / 2 ^ 1 % 2 + s / 2 ^ 2 % 2 + s / 2 ^ 3 % 2 + s / 2 ^ 4 % 2 + s / 2 ^ 5 % 2 + s / 2 ^ 6 % 2 := rfl
theorem sz_7 (s : Nat) : sz_ s ≤ 7 := by rw [sz_e]; omega
theorem sz_b {a b i : Nat} (h : a.testBit i = true → b.testBit i = true) : a / 2 ^ i % 2 ≤ b / 2 ^ i % 2 := by
  rw [← Nat.toNat_testBit, ← Nat.toNat_testBit]
  revert h
  cases a.testBit i <;> cases b.testBit i <;> decide
theorem sz_mono {a b : Nat} (h : ∀ i, a.testBit i = true → b.testBit i = true) : sz_ a ≤ sz_ b := by
  rw [sz_e, sz_e]
  have h0 := sz_b (h 0)
  have h1 := sz_b (h 1)
  have h2 := sz_b (h 2)
  have h3 := sz_b (h 3)
  have h4 := sz_b (h 4)
  have h5 := sz_b (h 5)
  have h6 := sz_b (h 6)
  generalize a / 2 ^ 0 % 2 = a0 at *
  generalize a / 2 ^ 1 % 2 = a1 at *
  generalize a / 2 ^ 2 % 2 = a2 at *
  generalize a / 2 ^ 3 % 2 = a3 at *
  generalize a / 2 ^ 4 % 2 = a4 at *
  generalize a / 2 ^ 5 % 2 = a5 at *
  generalize a / 2 ^ 6 % 2 = a6 at *
  generalize b / 2 ^ 0 % 2 = b0 at *
  generalize b / 2 ^ 1 % 2 = b1 at *
  generalize b / 2 ^ 2 % 2 = b2 at *
  generalize b / 2 ^ 3 % 2 = b3 at *
  generalize b / 2 ^ 4 % 2 = b4 at *
  generalize b / 2 ^ 5 % 2 = b5 at *
  generalize b / 2 ^ 6 % 2 = b6 at *
  omega
/-- one bit less -/
theorem sz_drop {s k : Nat} (hs : s < 128) (h : s.testBit k = true) : s &&& (2 ^ k ^^^ 127) < s := by
  have hle : s &&& (2 ^ k ^^^ 127) ≤ s := Nat.and_le_left
  rcases Nat.lt_or_ge (s &&& (2 ^ k ^^^ 127)) s with z | z
  · exact z
  · have e : s &&& (2 ^ k ^^^ 127) = s := by omega
    have hk : k < 7 := by
      rcases Nat.lt_or_ge k 7 with z | z
      · exact z
      · rw [nu_tb hs z] at h; exact nomatch h
    have e2 := congrArg (fun z => Nat.testBit z k) e
    simp only [Nat.testBit_and, Nat.testBit_xor, nu_t127, h, Nat.testBit_two_pow_self, hk, decide_true] at e2
    exact nomatch e2
/-- the least sets of a family -/
def ls_ (Q : Nat → Bool) (s : Nat) : Bool := Q s && lo_a (fun k => !(s / 2 ^ k % 2 == 1 && Q (s &&& (2 ^ k ^^^ 127)))) 7 0
theorem ls_ex {Q : Nat → Bool} : ∀ s, s < 128 → Q s = true → ∃ t, t < 128 ∧ ls_ Q t = true ∧ ∀ i, t.testBit i = true → s.testBit i = true := by
  intro s
  induction s using Nat.strongRecOn with
  | _ s ih =>
    intro hs hq
    cases hl : ls_ Q s with
    | true => exact ⟨s, hs, hl, fun _ h => h⟩
    | false =>
      unfold ls_ at hl
      rw [hq, Bool.true_and] at hl
      have : ¬ ∀ k, 0 ≤ k → k < 0 + 7 → (!(s / 2 ^ k % 2 == 1 && Q (s &&& (2 ^ k ^^^ 127)))) = true := by
        rw [← lo_ai, hl]; decide
      have ⟨k, hk⟩ := Classical.not_forall.mp this
      have ⟨hk0, hk1⟩ := Classical.not_imp.mp hk
      have ⟨hk2, hk3⟩ := Classical.not_imp.mp hk1
      rw [Bool.not_eq_true', Bool.not_eq_false, Bool.and_eq_true, beq_iff_eq] at hk3
      obtain ⟨hb, hQ⟩ := hk3
      have ht : s.testBit k = true := by rw [Nat.testBit_eq_decide_div_mod_eq, decide_eq_true hb]
      obtain ⟨t, h1, h2, h3⟩ := ih _ (sz_drop hs ht) (nu_and7 hs) hQ
      refine ⟨t, h1, h2, fun i hi => ?_⟩
      have := h3 i hi
      rw [Nat.testBit_and, Bool.and_eq_true] at this
      exact this.1
theorem mi_ {Q : Nat → Bool} {g : Nat → Nat} : ∀ d i a y, y ≤ lo_f (fun r a => if Q r = true then min a (g r) else a) d i a ↔ y ≤ a ∧ ∀ r, i ≤ r → r < i + d → Q r = true → y ≤ g r
  | 0, i, a, y => ⟨fun h => ⟨h, fun r h1 h2 => absurd h2 (by omega)⟩, fun h => h.1⟩
  | d + 1, i, a, y => by
    unfold lo_f
    rw [mi_ d (i + 1)]
    constructor
    · rintro ⟨h1, h2⟩
      cases hq : Q i with
      | true =>
        rw [if_pos hq, Nat.le_min] at h1
        refine ⟨h1.1, fun r a b c => ?_⟩
        rcases Nat.lt_or_ge i r with z | z
        · exact h2 r z (by omega) c
        · obtain rfl : r = i := by omega
          exact h1.2
      | false =>
        rw [if_neg (by rw [hq]; decide)] at h1
        refine ⟨h1, fun r a b c => ?_⟩
        rcases Nat.lt_or_ge i r with z | z
        · exact h2 r z (by omega) c
        · obtain rfl : r = i := by omega
          rw [hq] at c; exact nomatch c
    · rintro ⟨h1, h2⟩
      refine ⟨?_, fun r a b c => h2 r (by omega) (by omega) c⟩
      cases hq : Q i with
      | true => rw [if_pos rfl, Nat.le_min]; exact ⟨h1, h2 i (Nat.le_refl _) (by omega) hq⟩
      | false => rw [if_neg (by decide)]; exact h1
theorem mi_eq {x y : Nat} (h : ∀ z, z ≤ x ↔ z ≤ y) : x = y := Nat.le_antisymm ((h x).mp (Nat.le_refl _)) ((h y).mpr (Nat.le_refl _))
/-- the least size among all sets of a family, and among its least sets -/
theorem mi_ls {Q : Nat → Bool} (a : Nat) : lo_f (fun r a => if Q r = true then min a (sz_ r) else a) 128 0 a = lo_f (fun r a => if ls_ Q r = true then min a (sz_ r) else a) 128 0 a := by
  apply mi_eq
  intro z
  rw [mi_, mi_]
  constructor
  · rintro ⟨h1, h2⟩
    refine ⟨h1, fun r a b c => h2 r a b ?_⟩
    unfold ls_ at c
    exact (Bool.and_eq_true _ _ ▸ c).1
  · rintro ⟨h1, h2⟩
    refine ⟨h1, fun r a b c => ?_⟩
    obtain ⟨t, ht, hl, hsub⟩ := ls_ex r (by omega) c
    exact Nat.le_trans (h2 t (Nat.zero_le _) (by omega) hl) (sz_mono hsub)
/-- nested: the least common size -/
def mc_ (P Q : Nat → Bool) (a : Nat) : Nat := lo_f (fun q a => if P q = true then lo_f (fun r a => if Q r = true then min a (sz_ (q &&& r)) else a) 128 0 a else a) 128 0 a
theorem mc_i {P Q : Nat → Bool} : ∀ d i a y, y ≤ lo_f (fun q a => if P q = true then lo_f (fun r a => if Q r = true then min a (sz_ (q &&& r)) else a) 128 0 a else a) d i a ↔ y ≤ a ∧ ∀ q, i ≤ q → q < i + d → P q = true → ∀ r, r < 128 → Q r = true → y ≤ sz_ (q &&& r)
  | 0, i, a, y => ⟨fun h => ⟨h, fun r h1 h2 => absurd h2 (by omega)⟩, fun h => h.1⟩
  | d + 1, i, a, y => by
    unfold lo_f
    rw [mc_i d (i + 1)]
    constructor
    · rintro ⟨h1, h2⟩
      cases hq : P i with
      | true =>
        rw [if_pos hq, mi_] at h1
        refine ⟨h1.1, fun r a b c => ?_⟩
        rcases Nat.lt_or_ge i r with z | z
        · exact h2 r z (by omega) c
        · obtain rfl : r = i := by omega
          exact fun x hx hQ => h1.2 x (Nat.zero_le _) (by omega) hQ
      | false =>
        rw [if_neg (by rw [hq]; decide)] at h1
        refine ⟨h1, fun r a b c => ?_⟩
        rcases Nat.lt_or_ge i r with z | z
        · exact h2 r z (by omega) c
        · obtain rfl : r = i := by omega
          rw [hq] at c; exact nomatch c
    · rintro ⟨h1, h2⟩
      refine ⟨?_, fun r a b c => h2 r (by omega) (by omega) c⟩
      cases hq : P i with
      | true => rw [if_pos rfl, mi_]; exact ⟨h1, fun r _ hr hQ => h2 i (Nat.le_refl _) (by omega) hq r (by omega) hQ⟩
      | false => rw [if_neg (by decide)]; exact h1
theorem mc_ls {P Q : Nat → Bool} (a : Nat) : mc_ P Q a = mc_ (ls_ P) Q a := by
  apply mi_eq
  intro z
  unfold mc_
  rw [mc_i, mc_i]
  constructor
  · rintro ⟨h1, h2⟩
    refine ⟨h1, fun r a b c => h2 r a b ?_⟩
    unfold ls_ at c
    exact (Bool.and_eq_true _ _ ▸ c).1
  · rintro ⟨h1, h2⟩
    refine ⟨h1, fun q a b c r hr hQ => ?_⟩
    obtain ⟨t, ht, hl, hsub⟩ := ls_ex q (by omega) c
    refine Nat.le_trans (h2 t (Nat.zero_le _) (by omega) hl r hr hQ) (sz_mono fun i hi => ?_)
    rw [Nat.testBit_and, Bool.and_eq_true] at hi ⊢
    exact ⟨hsub i hi.1, hi.2⟩
/-! the sorts -/
def gr_row (r c s : Nat) : Bool := lo_f (fun i a => a || (s &&& ((2 ^ c - 1) * 2 ^ (c * i)) == (2 ^ c - 1) * 2 ^ (c * i))) r 0 false
def gr_cm (r c j : Nat) : Nat := lo_f (fun i a => a ||| 2 ^ (c * i + j)) r 0 0
def gr_col (r c s : Nat) : Nat := lo_f (fun j a => a + if s &&& gr_cm r c j = gr_cm r c j then 1 else 0) c 0 0
def gr_one (r c : Nat) (o : Bool) (s line : Nat) : Bool := lo_f (fun k w => if (if o = true then k / c else k % c) = line ∧ s / 2 ^ k % 2 = 0 then false else w) (r * c) 0 true
def gr_ln (r c : Nat) (o : Bool) (s : Nat) : Nat := lo_f (fun line n => if gr_one r c o s line = true then n + 1 else n) (if o = true then r else c) 0 0
def gr_chk : Bool := (List.range 8).all fun r => (List.range 8).all fun c => !(decide (1 ≤ r) && decide (1 ≤ c) && decide (r * c ≤ 7)) || (List.range 128).all fun s => (gr_row r c s == decide (0 < gr_ln r c true s)) && (gr_col r c s == gr_ln r c false s) && decide (gr_ln r c true s ≤ gr_ln r c true 127) && decide (gr_ln r c false s ≤ gr_ln r c false 127)
theorem gr_ok : gr_chk = true := by decide +kernel
theorem gr_all {r c s : Nat} (h1 : 1 ≤ r) (h2 : 1 ≤ c) (h : r * c ≤ 7) (hs : s < 128) : gr_row r c s = decide (0 < gr_ln r c true s) ∧ gr_col r c s = gr_ln r c false s ∧ gr_ln r c true s ≤ gr_ln r c true 127 ∧ gr_ln r c false s ≤ gr_ln r c false 127 := by
  have hr : r ≤ 7 := Nat.le_trans (Nat.le_mul_of_pos_right r h2) h
  have hc : c ≤ 7 := Nat.le_trans (Nat.le_mul_of_pos_left c h1) h
  have g := gr_ok
  unfold gr_chk at g
  rw [List.all_eq_true] at g
  have g := g r (List.mem_range.mpr (by omega))
  rw [List.all_eq_true] at g
  have g := g c (List.mem_range.mpr (by omega))
  rw [decide_eq_true h1, decide_eq_true h2, decide_eq_true h] at g
  have g : ((List.range 128).all fun s => (gr_row r c s == decide (0 < gr_ln r c true s)) && (gr_col r c s == gr_ln r c false s) && decide (gr_ln r c true s ≤ gr_ln r c true 127) && decide (gr_ln r c false s ≤ gr_ln r c false 127)) = true := g
  rw [List.all_eq_true] at g
  have g := g s (List.mem_range.mpr hs)
  rw [Bool.and_eq_true, Bool.and_eq_true, Bool.and_eq_true, beq_iff_eq, beq_iff_eq, decide_eq_true_eq, decide_eq_true_eq] at g
  exact ⟨g.1.1.1, g.1.1.2, g.1.2, g.2⟩
def wt_ (w s : Nat) : Nat := (lo_f (fun n (p : Nat × Nat) => (p.1 / 10, p.2 + s / 2 ^ n % 2 * (p.1 % 10))) 7 0 (w, 0)).2
theorem wt_m {s n : Nat} (x : Nat) : s / 2 ^ n % 2 * x ≤ 1 * x := Nat.mul_le_mul_right x (by omega)
theorem wt_e (w s : Nat) : wt_ w s = 0 + s / 2 ^ 0 % 2 * (w % 10) + s / 2 ^ 1 % 2 * (w / 10 % 10) + s / 2 ^ 2 % 2 * (w / 10 / 10 % 10) + s / 2 ^ 3 % 2 * (w / 10 / 10 / 10 % 10) + s / 2 ^ 4 % 2 * (w / 10 / 10 / 10 / 10 % 10) + s / 2 ^ 5 % 2 * (w / 10 / 10 / 10 / 10 / 10 % 10) + s / 2 ^ 6 % 2 * (w / 10 / 10 / 10 / 10 / 10 / 10 % 10) := rfl
theorem wt_mono (w s : Nat) : wt_ w s ≤ wt_ w 127 := by
  rw [wt_e, wt_e]
  exact Nat.add_le_add (Nat.add_le_add (Nat.add_le_add (Nat.add_le_add (Nat.add_le_add (Nat.add_le_add (Nat.add_le_add (Nat.le_refl _) (wt_m _)) (wt_m _)) (wt_m _)) (wt_m _)) (wt_m _)) (wt_m _)) (wt_m _)
def li_ (l s : Nat) : Bool := lo_f (fun p a => a || (l / 2 ^ (7 * p) &&& 127) != 0 && (s &&& (l / 2 ^ (7 * p) &&& 127)) == (l / 2 ^ (7 * p) &&& 127)) 4 0 false
theorem li_mono {l s : Nat} (h : li_ l s = true) : li_ l 127 = true := by
  have e : ∀ x, (x &&& 127) != 0 && (127 &&& (x &&& 127)) == (x &&& 127) ↔ (x &&& 127) ≠ 0 := by
    intro x
    have : 127 &&& (x &&& 127) = x &&& 127 := by
      apply Nat.eq_of_testBit_eq
      intro i
      simp only [Nat.testBit_and, nu_t127]
      cases x.testBit i <;> by_cases h : i < 7 <;> simp [h]
    rw [this]; simp
  have k : li_ l s = true → ∃ p, p < 4 ∧ (l / 2 ^ (7 * p) &&& 127) ≠ 0 := by
    intro h
    unfold li_ at h
    simp only [lo_f, Bool.or_eq_true, Bool.and_eq_true, bne_iff_ne] at h
    rcases h with (((h | h) | h) | h) | h
    · exact nomatch h
    · exact ⟨_, by decide, h.1⟩
    · exact ⟨_, by decide, h.1⟩
    · exact ⟨_, by decide, h.1⟩
    · exact ⟨_, by decide, h.1⟩
  obtain ⟨p, hp, hz⟩ := k h
  have hz := (e _).mpr hz
  unfold li_
  simp only [lo_f, Bool.or_eq_true]
  rcases (by omega : p = 0 ∨ p = 1 ∨ p = 2 ∨ p = 3) with rfl | rfl | rfl | rfl
  · exact Or.inl (Or.inl (Or.inl (Or.inr hz)))
  · exact Or.inl (Or.inl (Or.inr hz))
  · exact Or.inl (Or.inr hz)
  · exact Or.inr hz
