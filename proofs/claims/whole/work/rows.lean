section
/-! numbers, bits, stores, loops: nothing of the class here -/
def bo_i (b : Bool) : Int32 := if b = true then 1 else 0
def ar_n (f : Nat → Nat) : Nat → Int32 := fun j => nI (f j)
def ar_b (f : Nat → Bool) : Nat → Int32 := fun j => bo_i (f j)
def st_n (f : Nat → Nat) (k x : Nat) : Nat → Nat := fun j => if j = k then x else f j
def st_b (f : Nat → Bool) (k : Nat) (x : Bool) : Nat → Bool := fun j => if j = k then x else f j
theorem ar_na (f : Nat → Nat) (j : Nat) : ar_n f j = nI (f j) := rfl
theorem ar_ba (f : Nat → Bool) (j : Nat) : ar_b f j = bo_i (f j) := rfl
theorem bo_it : bo_i true = nI 1 := rfl
theorem bo_if : bo_i false = nI 0 := rfl
theorem bo_0 (b : Bool) : bo_i b = nI 0 ↔ b = false := by cases b <;> decide
theorem bo_1 (b : Bool) : bo_i b = nI 1 ↔ b = true := by cases b <;> decide
theorem bo_n0 (b : Bool) : (¬ bo_i b = nI 0) ↔ b = true := by cases b <;> decide
theorem bo_nar (b : Bool) : vp_nar .boolean (bo_i b) = bo_i b := by
  cases b <;> (show (_ &&& (1 : Int32)) = _) <;> decide
theorem bo_n1 : vp_nar .boolean (nI 1) = nI 1 := by show (_ &&& (1 : Int32)) = _; decide
theorem bo_nn0 : vp_nar .boolean (nI 0) = nI 0 := by show (_ &&& (1 : Int32)) = _; decide
theorem bo_w (b : Bool) : narrow .boolean (.int (bo_i b)) = .int (bo_i b) := congrArg Value.int (by cases b <;> decide)
theorem bo_w1 : narrow .boolean (.int (nI 1)) = .int (nI 1) := congrArg Value.int (by decide)
theorem bo_w0 : narrow .boolean (.int (nI 0)) = .int (nI 0) := congrArg Value.int (by decide)
theorem st_nu (f : Nat → Nat) (k x : Nat) : upd (ar_n f) k (nI x) = ar_n (st_n f k x) := by
  funext j; show (if j = k then nI x else nI (f j)) = nI (if j = k then x else f j); split <;> rfl
theorem st_bu (f : Nat → Bool) (k : Nat) (x : Bool) : upd (ar_b f) k (bo_i x) = ar_b (st_b f k x) := by
  funext j; show (if j = k then bo_i x else bo_i (f j)) = bo_i (if j = k then x else f j); split <;> rfl
theorem st_bu1 (f : Nat → Bool) (k : Nat) : upd (ar_b f) k (nI 1) = ar_b (st_b f k true) := st_bu f k true
theorem st_bu0 (f : Nat → Bool) (k : Nat) : upd (ar_b f) k (nI 0) = ar_b (st_b f k false) := st_bu f k false
theorem st_ne {f : Nat → Nat} {k j x : Nat} (h : j ≠ k) : st_n f k x j = f j := if_neg h
theorem st_eq {f : Nat → Nat} {k x : Nat} : st_n f k x k = x := if_pos rfl
theorem st_bne {f : Nat → Bool} {k j : Nat} {x : Bool} (h : j ≠ k) : st_b f k x j = f j := if_neg h
theorem st_beq {f : Nat → Bool} {k : Nat} {x : Bool} : st_b f k x k = x := if_pos rfl
theorem st_self {f : Nat → Nat} {k : Nat} : st_n f k (f k) = f := by
  funext j; show (if j = k then f k else f j) = f j; split
  · rename_i h; rw [h]
  · rfl
theorem st_bself {f : Nat → Bool} {k : Nat} {x : Bool} (h : f k = x) : st_b f k x = f := by
  funext j; show (if j = k then x else f j) = f j; split
  · rename_i e; rw [e, h]
  · rfl
theorem up_self {f : Nat → Int32} {k : Nat} {x : Int32} (h : f k = x) : upd f k x = f := by
  funext j; show (if j = k then x else f j) = f j; split
  · rename_i e; rw [e, h]
  · rfl
theorem up_up {f : Nat → Int32} {k : Nat} {x y : Int32} : upd (upd f k x) k y = upd f k y := by
  funext j; show (if j = k then y else if j = k then x else f j) = if j = k then y else f j; split <;> rfl
theorem up_eq {f : Nat → Int32} {k : Nat} {x : Int32} : upd f k x k = x := if_pos rfl
theorem up_ne {f : Nat → Int32} {k j : Nat} {x : Int32} (h : j ≠ k) : upd f k x j = f j := if_neg h
/-! numbers -/
theorem nu_mul (a b : Nat) : nI a * nI b = nI (a * b) := (Int32.ofNat_mul a b).symm
theorem nu_sub {a b : Nat} (h : b ≤ a) : nI a - nI b = nI (a - b) := by
  obtain ⟨c, rfl⟩ : ∃ c, a = c + b := ⟨a - b, by omega⟩
  rw [← nI_add, Int32.add_sub_cancel, Nat.add_sub_cancel]
theorem nu_m1 {n : Nat} (h : 0 < n) : nI n + (-nI 1) = nI (n - 1) := by
  obtain ⟨c, rfl⟩ : ∃ c, n = c + 1 := ⟨n - 1, by omega⟩
  rw [Nat.add_sub_cancel, ← nI_1, Int32.add_assoc, show (1 : Int32) + (-nI 1) = 0 from rfl, Int32.add_zero]
theorem nu_div {a d : Nat} (ha : a < 2 ^ 31) (h0 : 0 < d) (hd : d < 2 ^ 31) : nI a / nI d = nI (a / d) := by
  apply Int32.toInt_inj.mp
  rw [lg_idiv_nonneg (by rw [nI_toInt ha]; omega) (by rw [nI_toInt hd]; omega), nI_toInt ha, nI_toInt hd, nI_toInt (Nat.lt_of_le_of_lt (Nat.div_le_self a d) ha)]
  first | rfl | exact (Int.natCast_ediv _ _).symm
theorem nu_rem {a d : Nat} (ha : a < 2 ^ 31) (h0 : 0 < d) (hd : d < 2 ^ 31) : nI a - nI a / nI d * nI d = nI (a % d) := by
  rw [nu_div ha h0 hd, nu_mul, nu_sub (Nat.div_mul_le_self a d)]
  exact congrArg nI (by have := Nat.div_add_mod' a d; omega)
theorem nu_and (a b : Nat) : nI a &&& nI b = nI (a &&& b) := by
  apply Int32.toBitVec_inj.1
  show BitVec.ofNat 32 a &&& BitVec.ofNat 32 b = BitVec.ofNat 32 (a &&& b)
  apply BitVec.eq_of_getLsbD_eq
  intro i hi
  simp [hi]
theorem nu_or (a b : Nat) : nI a ||| nI b = nI (a ||| b) := by
  apply Int32.toBitVec_inj.1
  show BitVec.ofNat 32 a ||| BitVec.ofNat 32 b = BitVec.ofNat 32 (a ||| b)
  apply BitVec.eq_of_getLsbD_eq
  intro i hi
  simp [hi]
theorem nu_xor (a b : Nat) : nI a ^^^ nI b = nI (a ^^^ b) := by
  apply Int32.toBitVec_inj.1
  show BitVec.ofNat 32 a ^^^ BitVec.ofNat 32 b = BitVec.ofNat 32 (a ^^^ b)
  apply BitVec.eq_of_getLsbD_eq
  intro i hi
  simp [hi]
theorem nu_shc : ∀ n, n < 32 → ((nI (n &&& 31)).toBitVec.smod 32).toNat = n := by decide +kernel
theorem nu_tn {n : Nat} (h : n < 2 ^ 32) : (nI n).toBitVec.toNat = n := Nat.mod_eq_of_lt h
theorem nu_shr {a n : Nat} (ha : a < 2 ^ 31) (hn : n < 32) : nI a >>> nI (n &&& 31) = nI (a / 2 ^ n) := by
  apply Int32.toInt_inj.mp
  have h2 : a / 2 ^ n ≤ a := Nat.div_le_self _ _
  have e : (nI a >>> nI (n &&& 31)).toInt = (nI a).toInt >>> n := by
    show ((nI a).toBitVec.sshiftRight ((nI (n &&& 31)).toBitVec.smod 32).toNat).toInt = _
    rw [nu_shc n hn, BitVec.toInt_sshiftRight]
    rfl
  rw [e, nI_toInt ha, nI_toInt (by omega), Int.shiftRight_eq_div_pow]
  rfl
theorem nu_shl {a n : Nat} (hn : n < 32) (h : a * 2 ^ n < 2 ^ 32) : nI a <<< nI (n &&& 31) = nI (a * 2 ^ n) := by
  apply Int32.toBitVec_inj.mp
  apply BitVec.eq_of_toNat_eq
  have ha : a < 2 ^ 32 := Nat.lt_of_le_of_lt (Nat.le_mul_of_pos_right a (Nat.two_pow_pos n)) h
  have e : (nI a <<< nI (n &&& 31)).toBitVec.toNat = (nI a).toBitVec.toNat * 2 ^ n % 2 ^ 32 := by
    show ((nI a).toBitVec <<< ((nI (n &&& 31)).toBitVec.smod 32).toNat).toNat = _
    rw [nu_shc n hn, BitVec.toNat_shiftLeft, Nat.shiftLeft_eq]
  rw [e, nu_tn ha, nu_tn h, Nat.mod_eq_of_lt h]
theorem nu_bit {n : Nat} (hn : n < 31) : nI 1 <<< nI (n &&& 31) = nI (2 ^ n) := by
  have h : 2 ^ n < 2 ^ 31 := Nat.pow_lt_pow_right (by decide) hn
  rw [nu_shl (by omega) (by omega), Nat.one_mul]
theorem bi_2 (x n : Nat) : x / 2 ^ n &&& 1 = x / 2 ^ n % 2 := Nat.and_one_is_mod _
theorem nu_m1x : (-nI 1 : Int32) = nI 4294967295 := by decide
theorem nu_lt7 : ∀ n, n < 7 → 2 ^ n < 128 := by decide
theorem nu_lt8 : ∀ n, n < 8 → 2 ^ n < 256 := by decide
theorem nu_and7 {a b : Nat} (h : a < 128) : a &&& b < 128 := Nat.lt_of_le_of_lt Nat.and_le_left h
theorem nu_and7r {a b : Nat} (h : b < 128) : a &&& b < 128 := Nat.lt_of_le_of_lt Nat.and_le_right h
theorem nu_or7 {a b : Nat} (h : a < 128) (h' : b < 128) : a ||| b < 128 := Nat.or_lt_two_pow (n := 7) h h'
theorem nu_xor7 {a b : Nat} (h : a < 128) (h' : b < 128) : a ^^^ b < 128 := Nat.xor_lt_two_pow (n := 7) h h'
theorem nu_tb {a : Nat} (h : a < 128) {i : Nat} (hi : 7 ≤ i) : a.testBit i = false :=
  Nat.testBit_lt_two_pow (Nat.lt_of_lt_of_le h (show 2 ^ 7 ≤ 2 ^ i from Nat.pow_le_pow_right (by decide) hi))
theorem nu_t127 (i : Nat) : (127 : Nat).testBit i = decide (i < 7) := by
  rw [show (127 : Nat) = 2 ^ 7 - 1 from rfl, Nat.testBit_two_pow_sub_one]
theorem nu_t32 (i : Nat) : (4294967295 : Nat).testBit i = decide (i < 32) := by
  rw [show (4294967295 : Nat) = 2 ^ 32 - 1 from rfl, Nat.testBit_two_pow_sub_one]
/-- the set without .. -/
theorem nu_diff {a m : Nat} (h : a < 128) : nI a &&& (nI m ^^^ (-nI 1)) = nI (a &&& (m ^^^ 127)) := by
  rw [nu_m1x, nu_xor, nu_and]
  apply congrArg nI
  apply Nat.eq_of_testBit_eq
  intro i
  rw [Nat.testBit_and, Nat.testBit_and, Nat.testBit_xor, Nat.testBit_xor, nu_t127, nu_t32]
  by_cases hi : i < 7
  · rw [decide_eq_true hi, decide_eq_true (show i < 32 by omega)]
  · rw [nu_tb h (by omega), Bool.false_and, Bool.false_and]
/-- what is in both, and nothing missing -/
theorem nu_sub0 {a b : Nat} (ha : a < 128) : a &&& (b ^^^ 127) = 0 ↔ b &&& a = a := by
  constructor
  · intro h
    apply Nat.eq_of_testBit_eq
    intro i
    have e := congrArg (fun z => Nat.testBit z i) h
    simp only [Nat.testBit_and, Nat.testBit_xor, nu_t127, Nat.zero_testBit] at e
    rw [Nat.testBit_and]
    by_cases hi : i < 7
    · rw [decide_eq_true hi] at e
      revert e; cases a.testBit i <;> cases b.testBit i <;> decide
    · rw [nu_tb ha (by omega), Bool.and_false]
  · intro h
    apply Nat.eq_of_testBit_eq
    intro i
    have e := congrArg (fun z => Nat.testBit z i) h
    simp only [Nat.testBit_and] at e
    rw [Nat.testBit_and, Nat.testBit_xor, nu_t127, Nat.zero_testBit]
    by_cases hi : i < 7
    · rw [decide_eq_true hi]
      revert e; cases a.testBit i <;> cases b.testBit i <;> decide
    · rw [nu_tb ha (by omega), Bool.false_and]
/-! loops -/
def lo_f {α : Type} (f : Nat → α → α) : Nat → Nat → α → α
  | 0, _, a => a
  | d + 1, i, a => lo_f f d (i + 1) (f i a)
def lo_a (P : Nat → Bool) : Nat → Nat → Bool
  | 0, _ => true
  | d + 1, i => P i && lo_a P d (i + 1)
def lo_s (P : Nat → Bool) : Nat → Nat → Nat
  | 0, i => i
  | d + 1, i => if P i = true then i else lo_s P d (i + 1)
theorem lo_fold {α : Type} {W : Nat → Nat → α → Prop} {fin : α → Prop} {I : Nat → α → Prop} {e : Nat} (f : Nat → α → α)
    (h0 : ∀ i a, ¬ W 0 i a) (hI : ∀ i a, i < e → I i a → I (i + 1) (f i a))
    (hx : ∀ n a, I e a → (W (n + 1) e a ↔ fin a))
    (hs : ∀ n i a, i < e → I i a → (W (n + 1) i a ↔ W n (i + 1) (f i a))) :
    ∀ d i a, i + d = e → I i a → ((∃ n, W n i a) ↔ fin (lo_f f d i a)) := by
  intro d
  induction d with
  | zero =>
    intro i a hi ha
    obtain rfl : i = e := by omega
    constructor
    · rintro ⟨n, h⟩
      cases n with
      | zero => exact absurd h (h0 _ _)
      | succ n => exact (hx n a ha).mp h
    · exact fun h => ⟨1, (hx 0 a ha).mpr h⟩
  | succ d ih =>
    intro i a hi ha
    have g := ih (i + 1) (f i a) (by omega) (hI i a (by omega) ha)
    constructor
    · rintro ⟨n, h⟩
      cases n with
      | zero => exact absurd h (h0 _ _)
      | succ n => exact g.mp ⟨n, (hs n i a (by omega) ha).mp h⟩
    · intro h
      obtain ⟨n, h⟩ := g.mpr h
      exact ⟨n + 1, (hs n i a (by omega) ha).mpr h⟩
/-- a search: A is asked where P holds first, B at the end -/
theorem lo_find {W : Nat → Nat → Prop} {A : Nat → Prop} {B : Prop} {e : Nat} (P : Nat → Bool)
    (h0 : ∀ i, ¬ W 0 i) (hx : ∀ n, W (n + 1) e ↔ B)
    (ht : ∀ n i, i < e → P i = true → (W (n + 1) i ↔ A i))
    (hf : ∀ n i, i < e → P i = false → (W (n + 1) i ↔ W n (i + 1))) :
    ∀ d i, i + d = e → ((∃ n, W n i) ↔ (lo_s P d i < e → A (lo_s P d i)) ∧ (¬ lo_s P d i < e → B)) := by
  intro d
  induction d with
  | zero =>
    intro i hi
    obtain rfl : i = e := by omega
    constructor
    · rintro ⟨n, h⟩
      cases n with
      | zero => exact absurd h (h0 _)
      | succ n => exact ⟨fun z => absurd z (Nat.lt_irrefl _), fun _ => (hx n).mp h⟩
    · exact fun h => ⟨1, (hx 0).mpr (h.2 (Nat.lt_irrefl _))⟩
  | succ d ih =>
    intro i hi
    have g := ih (i + 1) (by omega)
    cases hp : P i with
    | true =>
      have es : lo_s P (d + 1) i = i := if_pos hp
      rw [es]
      constructor
      · rintro ⟨n, h⟩
        cases n with
        | zero => exact absurd h (h0 _)
        | succ n => exact ⟨fun _ => (ht n i (by omega) hp).mp h, fun z => absurd (show i < e by omega) z⟩
      · exact fun h => ⟨1, (ht 0 i (by omega) hp).mpr (h.1 (by omega))⟩
    | false =>
      have es : lo_s P (d + 1) i = lo_s P d (i + 1) := if_neg (by rw [hp]; decide)
      rw [es]
      constructor
      · rintro ⟨n, h⟩
        cases n with
        | zero => exact absurd h (h0 _)
        | succ n => exact g.mp ⟨n, (hf n i (by omega) hp).mp h⟩
      · intro h
        obtain ⟨n, h⟩ := g.mpr h
        exact ⟨n + 1, (hf n i (by omega) hp).mpr h⟩
/-- all of them, or the first that fails -/
theorem lo_all {W : Nat → Nat → Prop} {A B : Prop} {e : Nat} (P : Nat → Bool)
    (h0 : ∀ i, ¬ W 0 i) (hx : ∀ n, W (n + 1) e ↔ B)
    (hf : ∀ n i, i < e → P i = false → (W (n + 1) i ↔ A))
    (ht : ∀ n i, i < e → P i = true → (W (n + 1) i ↔ W n (i + 1))) :
    ∀ d i, i + d = e → ((∃ n, W n i) ↔ (lo_a P d i = true → B) ∧ (lo_a P d i = false → A)) := by
  intro d
  induction d with
  | zero =>
    intro i hi
    obtain rfl : i = e := by omega
    constructor
    · rintro ⟨n, h⟩
      cases n with
      | zero => exact absurd h (h0 _)
      | succ n => exact ⟨fun _ => (hx n).mp h, fun z => nomatch z⟩
    · exact fun h => ⟨1, (hx 0).mpr (h.1 rfl)⟩
  | succ d ih =>
    intro i hi
    have g := ih (i + 1) (by omega)
    cases hp : P i with
    | false =>
      have es : lo_a P (d + 1) i = false := by show (P i && _) = false; rw [hp]; rfl
      rw [es]
      constructor
      · rintro ⟨n, h⟩
        cases n with
        | zero => exact absurd h (h0 _)
        | succ n => exact ⟨(fun z => nomatch z), fun _ => (hf n i (by omega) hp).mp h⟩
      · exact fun h => ⟨1, (hf 0 i (by omega) hp).mpr (h.2 rfl)⟩
    | true =>
      have es : lo_a P (d + 1) i = lo_a P d (i + 1) := by show (P i && _) = _; rw [hp]; rfl
      rw [es]
      constructor
      · rintro ⟨n, h⟩
        cases n with
        | zero => exact absurd h (h0 _)
        | succ n => exact g.mp ⟨n, (ht n i (by omega) hp).mp h⟩
      · intro h
        obtain ⟨n, h⟩ := g.mpr h
        exact ⟨n + 1, (ht n i (by omega) hp).mpr h⟩
theorem lo_s1 (P : Nat → Bool) : ∀ d i, i ≤ lo_s P d i ∧ lo_s P d i ≤ i + d
  | 0, i => ⟨Nat.le_refl _, Nat.le_refl _⟩
  | d + 1, i => by
    have := lo_s1 P d (i + 1)
    unfold lo_s
    split <;> omega
theorem lo_s2 (P : Nat → Bool) : ∀ d i, lo_s P d i < i + d → P (lo_s P d i) = true
  | 0, i => fun h => absurd h (Nat.lt_irrefl _)
  | d + 1, i => by
    have := lo_s2 P d (i + 1)
    unfold lo_s
    split
    · intro _; assumption
    · intro h; exact this (by omega)
theorem lo_sc {P Q : Nat → Bool} : ∀ d i, (∀ j, i ≤ j → j < i + d → P j = Q j) → lo_s P d i = lo_s Q d i
  | 0, _, _ => rfl
  | d + 1, i, h => by
    unfold lo_s
    rw [h i (by omega) (by omega), lo_sc d (i + 1) (fun j a b => h j (by omega) (by omega))]
theorem lo_ac {P Q : Nat → Bool} : ∀ d i, (∀ j, i ≤ j → j < i + d → P j = Q j) → lo_a P d i = lo_a Q d i
  | 0, _, _ => rfl
  | d + 1, i, h => by
    unfold lo_a
    rw [h i (by omega) (by omega), lo_ac d (i + 1) (fun j a b => h j (by omega) (by omega))]
theorem lo_ai {P : Nat → Bool} : ∀ d i, lo_a P d i = true ↔ ∀ j, i ≤ j → j < i + d → P j = true
  | 0, i => ⟨fun _ j a b => absurd b (by omega), fun _ => rfl⟩
  | d + 1, i => by
    unfold lo_a
    rw [Bool.and_eq_true, lo_ai d (i + 1)]
    constructor
    · rintro ⟨a, b⟩ j h1 h2
      rcases Nat.lt_or_ge i j with h | h
      · exact b j h (by omega)
      · obtain rfl : j = i := by omega
        exact a
    · exact fun h => ⟨h i (Nat.le_refl _) (by omega), fun j a b => h j (by omega) (by omega)⟩
theorem lo_fc {α : Type} {f g : Nat → α → α} : ∀ d i a, (∀ j a, i ≤ j → j < i + d → f j a = g j a) → lo_f f d i a = lo_f g d i a
  | 0, _, _, _ => rfl
  | d + 1, i, a, h => by
    unfold lo_f
    rw [h i a (by omega) (by omega), lo_fc d (i + 1) _ (fun j a x y => h j a (by omega) (by omega))]
theorem lo_fI {α : Type} {f : Nat → α → α} {I : Nat → α → Prop} : ∀ d i a, (∀ j a, i ≤ j → j < i + d → I j a → I (j + 1) (f j a)) → I i a → I (i + d) (lo_f f d i a)
  | 0, _, _, _, h => h
  | d + 1, i, a, h, ha => by
    have := lo_fI (f := f) (I := I) d (i + 1) (f i a) (fun j a x y => h j a (by omega) (by omega)) (h i a (Nat.le_refl _) (by omega) ha)
    rw [show i + (d + 1) = i + 1 + d by omega]
    exact this
end
section
/-! sizes, least ones, the four sorts of systems: pure -/
def sz_ (s : Nat) : Nat := lo_f (fun n a => a + s / 2 ^ n % 2) 7 0 0
theorem sz_e (s : Nat) : sz_ s = 0 + s / 2 ^ 0 % 2 + s / 2 ^ 1 % 2 + s / 2 ^ 2 % 2 + s / 2 ^ 3 % 2 + s / 2 ^ 4 % 2 + s / 2 ^ 5 % 2 + s / 2 ^ 6 % 2 := rfl
theorem sz_7 (s : Nat) : sz_ s ≤ 7 := by rw [sz_e]; omega
theorem sz_b {a b i : Nat} (h : a.testBit i = true → b.testBit i = true) : a / 2 ^ i % 2 ≤ b / 2 ^ i % 2 := by
  rw [← Nat.toNat_testBit, ← Nat.toNat_testBit]
  revert h
  cases a.testBit i <;> cases b.testBit i <;> decide
theorem sz_mono {a b : Nat} (h : ∀ i, a.testBit i = true → b.testBit i = true) : sz_ a ≤ sz_ b := by
  rw [sz_e, sz_e]
  have h0 := sz_b (h 0)
  have h1 := sz_b (h 1)
  have h2 := sz_b (h 2)
  have h3 := sz_b (h 3)
  have h4 := sz_b (h 4)
  have h5 := sz_b (h 5)
  have h6 := sz_b (h 6)
  generalize a / 2 ^ 0 % 2 = a0 at *
  generalize a / 2 ^ 1 % 2 = a1 at *
  generalize a / 2 ^ 2 % 2 = a2 at *
  generalize a / 2 ^ 3 % 2 = a3 at *
  generalize a / 2 ^ 4 % 2 = a4 at *
  generalize a / 2 ^ 5 % 2 = a5 at *
  generalize a / 2 ^ 6 % 2 = a6 at *
  generalize b / 2 ^ 0 % 2 = b0 at *
  generalize b / 2 ^ 1 % 2 = b1 at *
  generalize b / 2 ^ 2 % 2 = b2 at *
  generalize b / 2 ^ 3 % 2 = b3 at *
  generalize b / 2 ^ 4 % 2 = b4 at *
  generalize b / 2 ^ 5 % 2 = b5 at *
  generalize b / 2 ^ 6 % 2 = b6 at *
  omega
/-- one bit less -/
theorem sz_drop {s k : Nat} (hs : s < 128) (h : s.testBit k = true) : s &&& (2 ^ k ^^^ 127) < s := by
  have hle : s &&& (2 ^ k ^^^ 127) ≤ s := Nat.and_le_left
  rcases Nat.lt_or_ge (s &&& (2 ^ k ^^^ 127)) s with z | z
  · exact z
  · have e : s &&& (2 ^ k ^^^ 127) = s := by omega
    have hk : k < 7 := by
      rcases Nat.lt_or_ge k 7 with z | z
      · exact z
      · rw [nu_tb hs z] at h; exact nomatch h
    have e2 := congrArg (fun z => Nat.testBit z k) e
    simp only [Nat.testBit_and, Nat.testBit_xor, nu_t127, h, Nat.testBit_two_pow_self, hk, decide_true] at e2
    exact nomatch e2
/-- the least sets of a family -/
def ls_ (Q : Nat → Bool) (s : Nat) : Bool := Q s && lo_a (fun k => !(s / 2 ^ k % 2 == 1 && Q (s &&& (2 ^ k ^^^ 127)))) 7 0
theorem ls_ex {Q : Nat → Bool} : ∀ s, s < 128 → Q s = true → ∃ t, t < 128 ∧ ls_ Q t = true ∧ ∀ i, t.testBit i = true → s.testBit i = true := by
  intro s
  induction s using Nat.strongRecOn with
  | _ s ih =>
    intro hs hq
    cases hl : ls_ Q s with
    | true => exact ⟨s, hs, hl, fun _ h => h⟩
    | false =>
      unfold ls_ at hl
      rw [hq, Bool.true_and] at hl
      have : ¬ ∀ k, 0 ≤ k → k < 0 + 7 → (!(s / 2 ^ k % 2 == 1 && Q (s &&& (2 ^ k ^^^ 127)))) = true := by
        rw [← lo_ai, hl]; decide
      have ⟨k, hk⟩ := Classical.not_forall.mp this
      have ⟨hk0, hk1⟩ := Classical.not_imp.mp hk
      have ⟨hk2, hk3⟩ := Classical.not_imp.mp hk1
      rw [Bool.not_eq_true', Bool.not_eq_false, Bool.and_eq_true, beq_iff_eq] at hk3
      obtain ⟨hb, hQ⟩ := hk3
      have ht : s.testBit k = true := by rw [Nat.testBit_eq_decide_div_mod_eq, decide_eq_true hb]
      obtain ⟨t, h1, h2, h3⟩ := ih _ (sz_drop hs ht) (nu_and7 hs) hQ
      refine ⟨t, h1, h2, fun i hi => ?_⟩
      have := h3 i hi
      rw [Nat.testBit_and, Bool.and_eq_true] at this
      exact this.1
theorem mi_ {Q : Nat → Bool} {g : Nat → Nat} : ∀ d i a y, y ≤ lo_f (fun r a => if Q r = true then min a (g r) else a) d i a ↔ y ≤ a ∧ ∀ r, i ≤ r → r < i + d → Q r = true → y ≤ g r
  | 0, i, a, y => ⟨fun h => ⟨h, fun r h1 h2 => absurd h2 (by omega)⟩, fun h => h.1⟩
  | d + 1, i, a, y => by
    unfold lo_f
    rw [mi_ d (i + 1)]
    constructor
    · rintro ⟨h1, h2⟩
      cases hq : Q i with
      | true =>
        rw [if_pos hq, Nat.le_min] at h1
        refine ⟨h1.1, fun r a b c => ?_⟩
        rcases Nat.lt_or_ge i r with z | z
        · exact h2 r z (by omega) c
        · obtain rfl : r = i := by omega
          exact h1.2
      | false =>
        rw [if_neg (by rw [hq]; decide)] at h1
        refine ⟨h1, fun r a b c => ?_⟩
        rcases Nat.lt_or_ge i r with z | z
        · exact h2 r z (by omega) c
        · obtain rfl : r = i := by omega
          rw [hq] at c; exact nomatch c
    · rintro ⟨h1, h2⟩
      refine ⟨?_, fun r a b c => h2 r (by omega) (by omega) c⟩
      cases hq : Q i with
      | true => rw [if_pos rfl, Nat.le_min]; exact ⟨h1, h2 i (Nat.le_refl _) (by omega) hq⟩
      | false => rw [if_neg (by decide)]; exact h1
theorem mi_eq {x y : Nat} (h : ∀ z, z ≤ x ↔ z ≤ y) : x = y := Nat.le_antisymm ((h x).mp (Nat.le_refl _)) ((h y).mpr (Nat.le_refl _))
/-- the least size among all sets of a family, and among its least sets -/
theorem mi_ls {Q : Nat → Bool} (a : Nat) : lo_f (fun r a => if Q r = true then min a (sz_ r) else a) 128 0 a = lo_f (fun r a => if ls_ Q r = true then min a (sz_ r) else a) 128 0 a := by
  apply mi_eq
  intro z
  rw [mi_, mi_]
  constructor
  · rintro ⟨h1, h2⟩
    refine ⟨h1, fun r a b c => h2 r a b ?_⟩
    unfold ls_ at c
    exact (Bool.and_eq_true _ _ ▸ c).1
  · rintro ⟨h1, h2⟩
    refine ⟨h1, fun r a b c => ?_⟩
    obtain ⟨t, ht, hl, hsub⟩ := ls_ex r (by omega) c
    exact Nat.le_trans (h2 t (Nat.zero_le _) (by omega) hl) (sz_mono hsub)
/-- nested: the least common size -/
def mc_ (P Q : Nat → Bool) (a : Nat) : Nat := lo_f (fun q a => if P q = true then lo_f (fun r a => if Q r = true then min a (sz_ (q &&& r)) else a) 128 0 a else a) 128 0 a
theorem mc_i {P Q : Nat → Bool} : ∀ d i a y, y ≤ lo_f (fun q a => if P q = true then lo_f (fun r a => if Q r = true then min a (sz_ (q &&& r)) else a) 128 0 a else a) d i a ↔ y ≤ a ∧ ∀ q, i ≤ q → q < i + d → P q = true → ∀ r, r < 128 → Q r = true → y ≤ sz_ (q &&& r)
  | 0, i, a, y => ⟨fun h => ⟨h, fun r h1 h2 => absurd h2 (by omega)⟩, fun h => h.1⟩
  | d + 1, i, a, y => by
    unfold lo_f
    rw [mc_i d (i + 1)]
    constructor
    · rintro ⟨h1, h2⟩
      cases hq : P i with
      | true =>
        rw [if_pos hq, mi_] at h1
        refine ⟨h1.1, fun r a b c => ?_⟩
        rcases Nat.lt_or_ge i r with z | z
        · exact h2 r z (by omega) c
        · obtain rfl : r = i := by omega
          exact fun x hx hQ => h1.2 x (Nat.zero_le _) (by omega) hQ
      | false =>
        rw [if_neg (by rw [hq]; decide)] at h1
        refine ⟨h1, fun r a b c => ?_⟩
        rcases Nat.lt_or_ge i r with z | z
        · exact h2 r z (by omega) c
        · obtain rfl : r = i := by omega
          rw [hq] at c; exact nomatch c
    · rintro ⟨h1, h2⟩
      refine ⟨?_, fun r a b c => h2 r (by omega) (by omega) c⟩
      cases hq : P i with
      | true => rw [if_pos rfl, mi_]; exact ⟨h1, fun r _ hr hQ => h2 i (Nat.le_refl _) (by omega) hq r (by omega) hQ⟩
      | false => rw [if_neg (by decide)]; exact h1
theorem mc_ls {P Q : Nat → Bool} (a : Nat) : mc_ P Q a = mc_ (ls_ P) Q a := by
  apply mi_eq
  intro z
  unfold mc_
  rw [mc_i, mc_i]
  constructor
  · rintro ⟨h1, h2⟩
    refine ⟨h1, fun r a b c => h2 r a b ?_⟩
    unfold ls_ at c
    exact (Bool.and_eq_true _ _ ▸ c).1
  · rintro ⟨h1, h2⟩
    refine ⟨h1, fun q a b c r hr hQ => ?_⟩
    obtain ⟨t, ht, hl, hsub⟩ := ls_ex q (by omega) c
    refine Nat.le_trans (h2 t (Nat.zero_le _) (by omega) hl r hr hQ) (sz_mono fun i hi => ?_)
    rw [Nat.testBit_and, Bool.and_eq_true] at hi ⊢
    exact ⟨hsub i hi.1, hi.2⟩
/-! the sorts -/
def gr_row (r c s : Nat) : Bool := lo_f (fun i a => a || (s &&& ((2 ^ c - 1) * 2 ^ (c * i)) == (2 ^ c - 1) * 2 ^ (c * i))) r 0 false
def gr_cm (r c j : Nat) : Nat := lo_f (fun i a => a ||| 2 ^ (c * i + j)) r 0 0
def gr_col (r c s : Nat) : Nat := lo_f (fun j a => a + if s &&& gr_cm r c j = gr_cm r c j then 1 else 0) c 0 0
def gr_one (r c : Nat) (o : Bool) (s line : Nat) : Bool := lo_f (fun k w => if (if o = true then k / c else k % c) = line ∧ s / 2 ^ k % 2 = 0 then false else w) (r * c) 0 true
def gr_ln (r c : Nat) (o : Bool) (s : Nat) : Nat := lo_f (fun line n => if gr_one r c o s line = true then n + 1 else n) (if o = true then r else c) 0 0
def gr_chk : Bool := (List.range 8).all fun r => (List.range 8).all fun c => !(decide (1 ≤ r) && decide (1 ≤ c) && decide (r * c ≤ 7)) || (List.range 128).all fun s => (gr_row r c s == decide (0 < gr_ln r c true s)) && (gr_col r c s == gr_ln r c false s) && decide (gr_ln r c true s ≤ gr_ln r c true 127) && decide (gr_ln r c false s ≤ gr_ln r c false 127)
theorem gr_ok : gr_chk = true := by decide +kernel
theorem gr_all {r c s : Nat} (h1 : 1 ≤ r) (h2 : 1 ≤ c) (h : r * c ≤ 7) (hs : s < 128) : gr_row r c s = decide (0 < gr_ln r c true s) ∧ gr_col r c s = gr_ln r c false s ∧ gr_ln r c true s ≤ gr_ln r c true 127 ∧ gr_ln r c false s ≤ gr_ln r c false 127 := by
  have hr : r ≤ 7 := Nat.le_trans (Nat.le_mul_of_pos_right r h2) h
  have hc : c ≤ 7 := Nat.le_trans (Nat.le_mul_of_pos_left c h1) h
  have g := gr_ok
  unfold gr_chk at g
  rw [List.all_eq_true] at g
  have g := g r (List.mem_range.mpr (by omega))
  rw [List.all_eq_true] at g
  have g := g c (List.mem_range.mpr (by omega))
  rw [decide_eq_true h1, decide_eq_true h2, decide_eq_true h] at g
  have g : ((List.range 128).all fun s => (gr_row r c s == decide (0 < gr_ln r c true s)) && (gr_col r c s == gr_ln r c false s) && decide (gr_ln r c true s ≤ gr_ln r c true 127) && decide (gr_ln r c false s ≤ gr_ln r c false 127)) = true := g
  rw [List.all_eq_true] at g
  have g := g s (List.mem_range.mpr hs)
  rw [Bool.and_eq_true, Bool.and_eq_true, Bool.and_eq_true, beq_iff_eq, beq_iff_eq, decide_eq_true_eq, decide_eq_true_eq] at g
  exact ⟨g.1.1.1, g.1.1.2, g.1.2, g.2⟩
def wt_ (w s : Nat) : Nat := (lo_f (fun n (p : Nat × Nat) => (p.1 / 10, p.2 + s / 2 ^ n % 2 * (p.1 % 10))) 7 0 (w, 0)).2
theorem wt_m {s n : Nat} (x : Nat) : s / 2 ^ n % 2 * x ≤ 1 * x := Nat.mul_le_mul_right x (by omega)
theorem wt_e (w s : Nat) : wt_ w s = 0 + s / 2 ^ 0 % 2 * (w % 10) + s / 2 ^ 1 % 2 * (w / 10 % 10) + s / 2 ^ 2 % 2 * (w / 10 / 10 % 10) + s / 2 ^ 3 % 2 * (w / 10 / 10 / 10 % 10) + s / 2 ^ 4 % 2 * (w / 10 / 10 / 10 / 10 % 10) + s / 2 ^ 5 % 2 * (w / 10 / 10 / 10 / 10 / 10 % 10) + s / 2 ^ 6 % 2 * (w / 10 / 10 / 10 / 10 / 10 / 10 % 10) := rfl
theorem wt_mono (w s : Nat) : wt_ w s ≤ wt_ w 127 := by
  rw [wt_e, wt_e]
  exact Nat.add_le_add (Nat.add_le_add (Nat.add_le_add (Nat.add_le_add (Nat.add_le_add (Nat.add_le_add (Nat.add_le_add (Nat.le_refl _) (wt_m _)) (wt_m _)) (wt_m _)) (wt_m _)) (wt_m _)) (wt_m _)) (wt_m _)
def li_ (l s : Nat) : Bool := lo_f (fun p a => a || (l / 2 ^ (7 * p) &&& 127) != 0 && (s &&& (l / 2 ^ (7 * p) &&& 127)) == (l / 2 ^ (7 * p) &&& 127)) 4 0 false
theorem li_mono {l s : Nat} (h : li_ l s = true) : li_ l 127 = true := by
  have e : ∀ x, (x &&& 127) != 0 && (127 &&& (x &&& 127)) == (x &&& 127) ↔ (x &&& 127) ≠ 0 := by
    intro x
    have : 127 &&& (x &&& 127) = x &&& 127 := by
      apply Nat.eq_of_testBit_eq
      intro i
      simp only [Nat.testBit_and, nu_t127]
      cases x.testBit i <;> by_cases h : i < 7 <;> simp [h]
    rw [this]; simp
  have k : li_ l s = true → ∃ p, p < 4 ∧ (l / 2 ^ (7 * p) &&& 127) ≠ 0 := by
    intro h
    unfold li_ at h
    simp only [lo_f, Bool.or_eq_true, Bool.and_eq_true, bne_iff_ne] at h
    rcases h with (((h | h) | h) | h) | h
    · exact nomatch h
    · exact ⟨_, by decide, h.1⟩
    · exact ⟨_, by decide, h.1⟩
    · exact ⟨_, by decide, h.1⟩
    · exact ⟨_, by decide, h.1⟩
  obtain ⟨p, hp, hz⟩ := k h
  have hz := (e _).mpr hz
  unfold li_
  simp only [lo_f, Bool.or_eq_true]
  rcases (by omega : p = 0 ∨ p = 1 ∨ p = 2 ∨ p = 3) with rfl | rfl | rfl | rfl
  · exact Or.inl (Or.inl (Or.inl (Or.inr hz)))
  · exact Or.inl (Or.inl (Or.inr hz))
  · exact Or.inl (Or.inr hz)
  · exact Or.inr hz
end
section
/-! the two states as images of one; the small methods -/
theorem li_0 : (0 : Int32) = nI 0 := rfl
theorem li_1 : (1 : Int32) = nI 1 := rfl
theorem li_2 : (2 : Int32) = nI 2 := rfl
theorem li_3 : (3 : Int32) = nI 3 := rfl
theorem li_4 : (4 : Int32) = nI 4 := rfl
theorem li_6 : (6 : Int32) = nI 6 := rfl
theorem li_7 : (7 : Int32) = nI 7 := rfl
theorem li_8 : (8 : Int32) = nI 8 := rfl
theorem li_9 : (9 : Int32) = nI 9 := rfl
theorem li_10 : (10 : Int32) = nI 10 := rfl
theorem li_12 : (12 : Int32) = nI 12 := rfl
theorem li_21 : (21 : Int32) = nI 21 := rfl
theorem li_24 : (24 : Int32) = nI 24 := rfl
theorem li_31 : (31 : Int32) = nI 31 := rfl
theorem li_60 : (60 : Int32) = nI 60 := rfl
theorem li_63 : (63 : Int32) = nI 63 := rfl
theorem li_127 : (127 : Int32) = nI 127 := rfl
theorem li_128 : (128 : Int32) = nI 128 := rfl
theorem li_256 : (256 : Int32) = nI 256 := rfl
theorem li_312 : (312 : Int32) = nI 312 := rfl
theorem li_384 : (384 : Int32) = nI 384 := rfl
def pc_x (p : Nat → Nat) : Nat → Int32 := fun j => if p j = 0 then -nI 3 else nI (p j - 1)
def pc_y (p : Nat → Nat) : Nat → Int32 := fun j => if p j = 0 then -nI 1 else nI (p j - 1)
def mn_ (a : Nat) : Int32 := if a = 8 then -nI 3 else nI a
theorem pc_x0 {p : Nat → Nat} {j : Nat} (h : p j = 0) : pc_x p j = -nI 3 := if_pos h
theorem pc_xs {p : Nat → Nat} {j : Nat} (h : 0 < p j) : pc_x p j = nI (p j - 1) := if_neg (by omega)
theorem pc_y0 {p : Nat → Nat} {j : Nat} (h : p j = 0) : pc_y p j = -nI 1 := if_pos h
theorem pc_ys {p : Nat → Nat} {j : Nat} (h : 0 < p j) : pc_y p j = nI (p j - 1) := if_neg (by omega)
theorem pc_xu (p : Nat → Nat) (k x : Nat) : upd (pc_x p) k (nI x) = pc_x (st_n p k (x + 1)) := by
  funext j
  show (if j = k then nI x else if p j = 0 then -nI 3 else nI (p j - 1)) = if (if j = k then x + 1 else p j) = 0 then -nI 3 else nI ((if j = k then x + 1 else p j) - 1)
  by_cases h : j = k
  · rw [if_pos h, if_pos h, if_neg (by omega)]; rfl
  · rw [if_neg h, if_neg h]
theorem pc_yu (p : Nat → Nat) (k x : Nat) : upd (pc_y p) k (nI x) = pc_y (st_n p k (x + 1)) := by
  funext j
  show (if j = k then nI x else if p j = 0 then -nI 1 else nI (p j - 1)) = if (if j = k then x + 1 else p j) = 0 then -nI 1 else nI ((if j = k then x + 1 else p j) - 1)
  by_cases h : j = k
  · rw [if_pos h, if_pos h, if_neg (by omega)]; rfl
  · rw [if_neg h, if_neg h]
theorem ng_3 {a : Nat} (h : a < 2 ^ 31) : ¬ nI a = -nI 3 := by
  intro z
  have := congrArg Int32.toInt z
  rw [nI_toInt h, show (-nI 3 : Int32).toInt = -3 from by decide] at this
  omega
theorem ng_3' {a : Nat} (h : a < 2 ^ 31) : ¬ -nI 3 = nI a := fun z => ng_3 h z.symm
theorem ng_1 {a : Nat} (h : a < 2 ^ 31) : ¬ nI a = -nI 1 := by
  intro z
  have := congrArg Int32.toInt z
  rw [nI_toInt h, show (-nI 1 : Int32).toInt = -1 from by decide] at this
  omega
theorem ng_1' {a : Nat} (h : a < 2 ^ 31) : ¬ -nI 1 = nI a := fun z => ng_1 h z.symm
theorem ng_1le {a : Nat} (h : a < 2 ^ 31) : -nI 1 ≤ nI a := by
  rw [Int32.le_iff_toInt_le, nI_toInt h, show (-nI 1 : Int32).toInt = -1 from by decide]; omega
theorem ng_1lt {a : Nat} (h : a < 2 ^ 31) : -nI 1 < nI a := by
  rw [Int32.lt_iff_toInt_lt, nI_toInt h, show (-nI 1 : Int32).toInt = -1 from by decide]; omega
/-- is a number within a range -/
def iz (a b : Nat) (x : Int32) : Bool := decide ((a : Int) ≤ x.toInt ∧ x.toInt ≤ (b : Int))
theorem iz_n {a b j : Nat} (h : j < 2 ^ 31) : iz a b (nI j) = decide (a ≤ j ∧ j ≤ b) := by
  unfold iz
  rw [nI_toInt h]
  exact decide_eq_decide.mpr (by omega)
theorem iz_c (a b : Nat) (x : Int32) : iz a b x = false ∨ ∃ j, a ≤ j ∧ j ≤ b ∧ j < 2 ^ 31 ∧ x = nI j ∧ iz a b (nI j) = true := by
  cases h : iz a b x with
  | false => exact Or.inl rfl
  | true =>
    right
    have h' := h
    unfold iz at h'
    rw [decide_eq_true_eq] at h'
    have hx : ¬ x < 0 := by
      rw [Int32.lt_iff_toInt_lt, show (0 : Int32).toInt = 0 from by decide]; omega
    obtain ⟨j, hj, rfl⟩ := nI_of hx
    rw [nI_toInt hj] at h'
    exact ⟨j, by omega, by omega, hj, rfl, h⟩
theorem iz_lt {a b : Nat} {x : Int32} (ha : a < 2 ^ 31) (hb : b < 2 ^ 31) {P : Int32 → Prop} : ((x < nI a → P (nI 0)) ∧ (¬ x < nI a → ((nI b < x → P (nI 0)) ∧ (¬ nI b < x → P (nI 1))))) ↔ P (bo_i (iz a b x)) := by
  unfold iz
  simp only [Int32.lt_iff_toInt_lt, nI_toInt ha, nI_toInt hb]
  by_cases h1 : x.toInt < a
  · rw [decide_eq_false (by omega)]; simp [h1]; exact Iff.rfl
  · by_cases h2 : (b : Int) < x.toInt
    · rw [decide_eq_false (by omega)]; simp [h1, h2]; exact Iff.rfl
    · rw [decide_eq_true (by omega)]; simp [h1, h2]; exact Iff.rfl
theorem iz_le {b : Nat} {x : Int32} (hb : b + 1 < 2 ^ 31) {P : Int32 → Prop} : ((x < nI 0 → P (nI 0)) ∧ (¬ x < nI 0 → ((nI (b + 1) ≤ x → P (nI 0)) ∧ (¬ nI (b + 1) ≤ x → P (nI 1))))) ↔ P (bo_i (iz 0 b x)) := by
  unfold iz
  simp only [Int32.lt_iff_toInt_lt, Int32.le_iff_toInt_le, nI_toInt hb, nI_toInt (show 0 < 2 ^ 31 by decide)]
  by_cases h1 : x.toInt < 0
  · rw [decide_eq_false (by omega)]; simp [h1]; exact Iff.rfl
  · by_cases h2 : ((b + 1 : Nat) : Int) ≤ x.toInt
    · rw [decide_eq_false (by omega)]; simp only [h2]; simp [h1]; exact Iff.rfl
    · rw [decide_eq_true (by omega)]; simp only [h2]; simp [h1]; exact Iff.rfl
section
variable {bg : Nat} {df iq tb up fa co fr dn : Nat → Bool} {op ov sp sv qb qi qj qv ql so ba an pk kv vo kn : Nat → Nat} {srt num : Nat → Int32}
variable {post : Int32 → Prop} {x : Int32} {a b s k t n : Nat}
theorem xc_within (ha : a < 2 ^ 31) (hb : b < 2 ^ 31) : wpX_within post x (nI a) (nI b) ↔ post (bo_i (iz a b x)) := iz_lt ha hb
theorem yc_in (ha : a < 2 ^ 31) (hb : b < 2 ^ 31) : wpY_in post x (nI a) (nI b) ↔ post (bo_i (iz a b x)) := iz_lt ha hb
theorem xc_isNode : wpX_isNode post x ↔ post (bo_i (iz 0 6 x)) := iz_le (b := 6) (by decide)
theorem xc_isKind : wpX_isKind post x ↔ post (bo_i (iz 0 2 x)) := iz_le (b := 2) (by decide)
theorem xc_isInstance : wpX_isInstance post x ↔ post (bo_i (iz 0 2 x)) := iz_le (b := 2) (by decide)
theorem xc_isLearner : wpX_isLearner post x ↔ post (bo_i (iz 0 1 x)) := iz_le (b := 1) (by decide)
theorem xc_isValue : wpX_isValue post x ↔ post (bo_i (iz 1 7 x)) := iz_lt (by decide) (by decide)
theorem xc_isBallot (hb : bg ≤ 12) : wpX_isBallot post (nI bg, ar_b df, ar_b iq, ar_b tb, ar_b up, ar_n op, ar_n ov, ar_n sp, ar_n sv, ar_n qb, ar_n qi, ar_n qv, ar_n ql, ar_n so, ar_b fa, ar_n ba, ar_n an, ar_b co, pc_x pk, ar_b fr, ar_n kv, ar_n vo, ar_n kn) x ↔ post (bo_i (iz 1 bg x)) := iz_lt (by decide) (by omega)
theorem yc_isBallot (hb : bg ≤ 12) : wpY_isBallot post (nI bg, srt, num, ar_n so, ar_n ba, ar_n an, pc_y pk, ar_n kv, ar_b fa, ar_b co, ar_b fr, ar_b dn, ar_n sp, ar_n sv, ar_n ql, ar_n qb, ar_n qj, ar_n qv, ar_n vo, ar_n kn) x ↔ post (bo_i (iz 1 bg x)) := by
  simp only [wpY_isBallot]
  refine (iz_lt (a := 1) (b := bg) (by decide) (by omega) (P := fun r => narrow .boolean (.int r) = .int r ∧ post r)).trans ?_
  simp only [bo_w, true_and]
theorem xc_tallyCell : wpX_tallyCell post (nI a) (nI b) (nI k) ↔ post (nI ((a * 3 + b) * 8 + k)) := by
  simp (disch := omega) only [li_0, li_1, li_2, li_3, li_4, li_6, li_7, li_8, li_9, li_10, li_12, li_21, li_24, li_31, li_60, li_63, li_127, li_128, li_256, li_312, li_384, nI_add, nu_mul, nu_sub, nu_div, nu_and, nu_or, nu_shr, nu_bit, nu_diff, bi_2, nI_leI, nI_ltI, nI_eq, vp_in_nI, nI_clamp, ar_na, ar_ba, bo_0, bo_1, bo_it, bo_if, bo_w, bo_w0, bo_w1, bo_nar, bo_n1, bo_nn0, st_bu, st_bu1, st_bu0, st_nu, forall_eq, true_implies, false_implies, forall_const, not_true_eq_false, not_false_eq_true, and_true, true_and, implies_true, and_self, Bool.false_eq_true, Bool.true_eq_false, reduceCtorEq, ite_true, ite_false, if_true, if_false, eq_self, Nat.zero_add, Nat.add_zero, Nat.le_refl, Nat.lt_irrefl, Nat.reduceEqDiff, Nat.reduceLeDiff, Nat.reduceLT, Nat.reduceAdd, Nat.reduceMul, Nat.reduceSub, wpX_tallyCell]
theorem xc_holds (hs : s < 4) (hk : k < 3) (ht : t < 128) : wpX_holds post (nI bg, ar_b df, ar_b iq, ar_b tb, ar_b up, ar_n op, ar_n ov, ar_n sp, ar_n sv, ar_n qb, ar_n qi, ar_n qv, ar_n ql, ar_n so, ar_b fa, ar_n ba, ar_n an, ar_b co, pc_x pk, ar_b fr, ar_n kv, ar_n vo, ar_n kn) (nI s) (nI k) (nI t) ↔ post (bo_i (iq (s * 384 + k * 128 + t))) := by
  simp (disch := omega) only [li_0, li_1, li_2, li_3, li_4, li_6, li_7, li_8, li_9, li_10, li_12, li_21, li_24, li_31, li_60, li_63, li_127, li_128, li_256, li_312, li_384, nI_add, nu_mul, nu_sub, nu_div, nu_and, nu_or, nu_shr, nu_bit, nu_diff, bi_2, nI_leI, nI_ltI, nI_eq, vp_in_nI, nI_clamp, ar_na, ar_ba, bo_0, bo_1, bo_it, bo_if, bo_w, bo_w0, bo_w1, bo_nar, bo_n1, bo_nn0, st_bu, st_bu1, st_bu0, st_nu, forall_eq, true_implies, false_implies, forall_const, not_true_eq_false, not_false_eq_true, and_true, true_and, implies_true, and_self, Bool.false_eq_true, Bool.true_eq_false, reduceCtorEq, ite_true, ite_false, if_true, if_false, eq_self, Nat.zero_add, Nat.add_zero, Nat.le_refl, Nat.lt_irrefl, Nat.reduceEqDiff, Nat.reduceLeDiff, Nat.reduceLT, Nat.reduceAdd, Nat.reduceMul, Nat.reduceSub, wpX_holds]
theorem xc_sizeOf (hs : s < 128) : wpX_sizeOf post (nI s) ↔ post (nI (sz_ s)) := by
  simp only [wpX_sizeOf]
  refine lo_fold (W := fun n i a => wX_sizeOf_4 post (nI s) n (nI a) (nI i)) (fin := fun a => post (nI a)) (I := fun i a => a ≤ i) (e := 7) (fun n a => a + s / 2 ^ n % 2) (fun _ _ h => h) ?_ ?_ ?_ 7 0 0 rfl (Nat.le_refl _)
  · intro i a _ h
    have : s / 2 ^ i % 2 < 2 := Nat.mod_lt _ (by decide)
    omega
  · intro n a _
    simp (disch := omega) only [li_0, li_1, li_2, li_3, li_4, li_6, li_7, li_8, li_9, li_10, li_12, li_21, li_24, li_31, li_60, li_63, li_127, li_128, li_256, li_312, li_384, nI_add, nu_mul, nu_sub, nu_div, nu_and, nu_or, nu_shr, nu_bit, nu_diff, bi_2, nI_leI, nI_ltI, nI_eq, vp_in_nI, nI_clamp, ar_na, ar_ba, bo_0, bo_1, bo_it, bo_if, bo_w, bo_w0, bo_w1, bo_nar, bo_n1, bo_nn0, st_bu, st_bu1, st_bu0, st_nu, forall_eq, true_implies, false_implies, forall_const, not_true_eq_false, not_false_eq_true, and_true, true_and, implies_true, and_self, Bool.false_eq_true, Bool.true_eq_false, reduceCtorEq, ite_true, ite_false, if_true, if_false, eq_self, Nat.zero_add, Nat.add_zero, Nat.le_refl, Nat.lt_irrefl, Nat.reduceEqDiff, Nat.reduceLeDiff, Nat.reduceLT, Nat.reduceAdd, Nat.reduceMul, Nat.reduceSub, wX_sizeOf_4]
  · intro n i a hi ha
    simp (disch := omega) only [li_0, li_1, li_2, li_3, li_4, li_6, li_7, li_8, li_9, li_10, li_12, li_21, li_24, li_31, li_60, li_63, li_127, li_128, li_256, li_312, li_384, nI_add, nu_mul, nu_sub, nu_div, nu_and, nu_or, nu_shr, nu_bit, nu_diff, bi_2, nI_leI, nI_ltI, nI_eq, vp_in_nI, nI_clamp, ar_na, ar_ba, bo_0, bo_1, bo_it, bo_if, bo_w, bo_w0, bo_w1, bo_nar, bo_n1, bo_nn0, st_bu, st_bu1, st_bu0, st_nu, forall_eq, true_implies, false_implies, forall_const, not_true_eq_false, not_false_eq_true, and_true, true_and, implies_true, and_self, Bool.false_eq_true, Bool.true_eq_false, reduceCtorEq, ite_true, ite_false, if_true, if_false, eq_self, Nat.zero_add, Nat.add_zero, Nat.le_refl, Nat.lt_irrefl, Nat.reduceEqDiff, Nat.reduceLeDiff, Nat.reduceLT, Nat.reduceAdd, Nat.reduceMul, Nat.reduceSub, wX_sizeOf_4, Nat.not_le.mpr hi, nu_shr, nu_and, bi_2]
theorem yc_size (hs : s < 128) : wpY_size post (nI s) ↔ post (nI (sz_ s)) := by
  simp only [wpY_size]
  refine lo_fold (W := fun n i a => wY_size_4 post (nI s) n (nI a) (nI i)) (fin := fun a => post (nI a)) (I := fun i a => a ≤ i) (e := 7) (fun n a => a + s / 2 ^ n % 2) (fun _ _ h => h) ?_ ?_ ?_ 7 0 0 rfl (Nat.le_refl _)
  · intro i a _ h
    have : s / 2 ^ i % 2 < 2 := Nat.mod_lt _ (by decide)
    omega
  · intro n a _
    simp (disch := omega) only [li_0, li_1, li_2, li_3, li_4, li_6, li_7, li_8, li_9, li_10, li_12, li_21, li_24, li_31, li_60, li_63, li_127, li_128, li_256, li_312, li_384, nI_add, nu_mul, nu_sub, nu_div, nu_and, nu_or, nu_shr, nu_bit, nu_diff, bi_2, nI_leI, nI_ltI, nI_eq, vp_in_nI, nI_clamp, ar_na, ar_ba, bo_0, bo_1, bo_it, bo_if, bo_w, bo_w0, bo_w1, bo_nar, bo_n1, bo_nn0, st_bu, st_bu1, st_bu0, st_nu, forall_eq, true_implies, false_implies, forall_const, not_true_eq_false, not_false_eq_true, and_true, true_and, implies_true, and_self, Bool.false_eq_true, Bool.true_eq_false, reduceCtorEq, ite_true, ite_false, if_true, if_false, eq_self, Nat.zero_add, Nat.add_zero, Nat.le_refl, Nat.lt_irrefl, Nat.reduceEqDiff, Nat.reduceLeDiff, Nat.reduceLT, Nat.reduceAdd, Nat.reduceMul, Nat.reduceSub, wY_size_4]
  · intro n i a hi ha
    simp (disch := omega) only [li_0, li_1, li_2, li_3, li_4, li_6, li_7, li_8, li_9, li_10, li_12, li_21, li_24, li_31, li_60, li_63, li_127, li_128, li_256, li_312, li_384, nI_add, nu_mul, nu_sub, nu_div, nu_and, nu_or, nu_shr, nu_bit, nu_diff, bi_2, nI_leI, nI_ltI, nI_eq, vp_in_nI, nI_clamp, ar_na, ar_ba, bo_0, bo_1, bo_it, bo_if, bo_w, bo_w0, bo_w1, bo_nar, bo_n1, bo_nn0, st_bu, st_bu1, st_bu0, st_nu, forall_eq, true_implies, false_implies, forall_const, not_true_eq_false, not_false_eq_true, and_true, true_and, implies_true, and_self, Bool.false_eq_true, Bool.true_eq_false, reduceCtorEq, ite_true, ite_false, if_true, if_false, eq_self, Nat.zero_add, Nat.add_zero, Nat.le_refl, Nat.lt_irrefl, Nat.reduceEqDiff, Nat.reduceLeDiff, Nat.reduceLT, Nat.reduceAdd, Nat.reduceMul, Nat.reduceSub, wY_size_4, Nat.not_le.mpr hi, nu_shr, nu_and, bi_2]
theorem mn_8 : mn_ 8 = -nI 3 := rfl
theorem mn_lt (h : a < 8) : mn_ a = nI a := if_neg (by omega)
theorem xc_lesser (ha : a ≤ 8) (hb : b ≤ 7) : wpX_lesser post (mn_ a) (nI b) ↔ post (mn_ (min a b)) := by
  rcases Nat.lt_or_ge a 8 with h | h
  · rw [mn_lt h, mn_lt (show min a b < 8 by omega)]
    by_cases z : a ≤ b
    · simp (disch := omega) only [li_0, li_1, li_2, li_3, li_4, li_6, li_7, li_8, li_9, li_10, li_12, li_21, li_24, li_31, li_60, li_63, li_127, li_128, li_256, li_312, li_384, nI_add, nu_mul, nu_sub, nu_div, nu_and, nu_or, nu_shr, nu_bit, nu_diff, bi_2, nI_leI, nI_ltI, nI_eq, vp_in_nI, nI_clamp, ar_na, ar_ba, bo_0, bo_1, bo_it, bo_if, bo_w, bo_w0, bo_w1, bo_nar, bo_n1, bo_nn0, st_bu, st_bu1, st_bu0, st_nu, forall_eq, true_implies, false_implies, forall_const, not_true_eq_false, not_false_eq_true, and_true, true_and, implies_true, and_self, Bool.false_eq_true, Bool.true_eq_false, reduceCtorEq, ite_true, ite_false, if_true, if_false, eq_self, Nat.zero_add, Nat.add_zero, Nat.le_refl, Nat.lt_irrefl, Nat.reduceEqDiff, Nat.reduceLeDiff, Nat.reduceLT, Nat.reduceAdd, Nat.reduceMul, Nat.reduceSub, wpX_lesser, ng_3, z, Nat.min_eq_left z]
    · simp (disch := omega) only [li_0, li_1, li_2, li_3, li_4, li_6, li_7, li_8, li_9, li_10, li_12, li_21, li_24, li_31, li_60, li_63, li_127, li_128, li_256, li_312, li_384, nI_add, nu_mul, nu_sub, nu_div, nu_and, nu_or, nu_shr, nu_bit, nu_diff, bi_2, nI_leI, nI_ltI, nI_eq, vp_in_nI, nI_clamp, ar_na, ar_ba, bo_0, bo_1, bo_it, bo_if, bo_w, bo_w0, bo_w1, bo_nar, bo_n1, bo_nn0, st_bu, st_bu1, st_bu0, st_nu, forall_eq, true_implies, false_implies, forall_const, not_true_eq_false, not_false_eq_true, and_true, true_and, implies_true, and_self, Bool.false_eq_true, Bool.true_eq_false, reduceCtorEq, ite_true, ite_false, if_true, if_false, eq_self, Nat.zero_add, Nat.add_zero, Nat.le_refl, Nat.lt_irrefl, Nat.reduceEqDiff, Nat.reduceLeDiff, Nat.reduceLT, Nat.reduceAdd, Nat.reduceMul, Nat.reduceSub, wpX_lesser, ng_3, z, Nat.min_eq_right (show b ≤ a by omega)]
  · obtain rfl : a = 8 := by omega
    rw [mn_8, mn_lt (show min 8 b < 8 by omega), Nat.min_eq_right (by omega)]
    simp (disch := omega) only [li_0, li_1, li_2, li_3, li_4, li_6, li_7, li_8, li_9, li_10, li_12, li_21, li_24, li_31, li_60, li_63, li_127, li_128, li_256, li_312, li_384, nI_add, nu_mul, nu_sub, nu_div, nu_and, nu_or, nu_shr, nu_bit, nu_diff, bi_2, nI_leI, nI_ltI, nI_eq, vp_in_nI, nI_clamp, ar_na, ar_ba, bo_0, bo_1, bo_it, bo_if, bo_w, bo_w0, bo_w1, bo_nar, bo_n1, bo_nn0, st_bu, st_bu1, st_bu0, st_nu, forall_eq, true_implies, false_implies, forall_const, not_true_eq_false, not_false_eq_true, and_true, true_and, implies_true, and_self, Bool.false_eq_true, Bool.true_eq_false, reduceCtorEq, ite_true, ite_false, if_true, if_false, eq_self, Nat.zero_add, Nat.add_zero, Nat.le_refl, Nat.lt_irrefl, Nat.reduceEqDiff, Nat.reduceLeDiff, Nat.reduceLT, Nat.reduceAdd, Nat.reduceMul, Nat.reduceSub, wpX_lesser]
end
end
section
/-! what the reference reckons of a system, and what the component lays out -/
def cl_ (x : Int32) : Nat := x.toNatClampNeg
theorem cl_n {n : Nat} (h : n < 2 ^ 31) : cl_ (nI n) = n := nI_clamp h
def qf_ (so a b c d : Int32) (k t : Nat) : Bool :=
  if so = nI 3 then li_ (cl_ (if k = 0 then a else if k = 1 then b else c)) t
  else if k = 2 ∧ d = nI 0 then false
  else if so = nI 1 then (if k = 0 then decide (0 < gr_ln (cl_ a) (cl_ b) true t) else decide ((if k = 1 then 1 else cl_ b - 1) ≤ gr_ln (cl_ a) (cl_ b) false t))
  else decide (cl_ (if k = 0 then b else if k = 1 then c else d) ≤ (if so = nI 0 then sz_ (t &&& cl_ a) else wt_ (cl_ a) t))
def rg_ (so a b c d : Int32) : Prop :=
  (so = nI 0 ∧ ∃ a' b' c' d', a = nI a' ∧ b = nI b' ∧ c = nI c' ∧ d = nI d' ∧ 1 ≤ a' ∧ a' ≤ 127 ∧ 1 ≤ b' ∧ b' ≤ 7 ∧ 1 ≤ c' ∧ c' ≤ 7 ∧ d' ≤ 7) ∨
  (so = nI 1 ∧ ∃ a' b', a = nI a' ∧ b = nI b' ∧ 1 ≤ a' ∧ a' ≤ 7 ∧ 1 ≤ b' ∧ b' ≤ 7 ∧ a' * b' ≤ 7) ∨
  (so = nI 2 ∧ ∃ a' b' c' d', a = nI a' ∧ b = nI b' ∧ c = nI c' ∧ d = nI d' ∧ a' ≤ 9999999 ∧ 1 ≤ b' ∧ b' ≤ 63 ∧ 1 ≤ c' ∧ c' ≤ 63 ∧ d' ≤ 63) ∨
  (so = nI 3 ∧ ∃ a' b' c', a = nI a' ∧ b = nI b' ∧ c = nI c' ∧ a' ≤ 268435455 ∧ b' ≤ 268435455 ∧ c' ≤ 268435455)
theorem nn_eq {a b : Nat} (ha : a < 2 ^ 31) (hb : b < 2 ^ 31) (h : a ≠ b) : ¬ nI a = nI b := by rw [nI_eq ha hb]; exact h
theorem qf_3 {a b c : Nat} {d : Int32} {k t : Nat} (ha : a ≤ 268435455) (hb : b ≤ 268435455) (hc : c ≤ 268435455) : qf_ (nI 3) (nI a) (nI b) (nI c) d k t = li_ (if k = 0 then a else if k = 1 then b else c) t := by
  unfold qf_
  rw [if_pos rfl]
  by_cases h0 : k = 0
  · simp only [h0, if_true]; rw [cl_n (by omega)]
  · by_cases h1 : k = 1
    · simp only [h1, if_true, if_false, Nat.one_ne_zero]; rw [cl_n (by omega)]
    · simp only [h0, h1, if_false]; rw [cl_n (by omega)]
theorem qf_1 {a b : Nat} {c d : Int32} {k t : Nat} (ha : a ≤ 7) (hb : b ≤ 7) : qf_ (nI 1) (nI a) (nI b) c d k t = if k = 2 ∧ d = nI 0 then false else if k = 0 then decide (0 < gr_ln a b true t) else decide ((if k = 1 then 1 else b - 1) ≤ gr_ln a b false t) := by
  unfold qf_
  rw [if_neg (nn_eq (by decide) (by decide) (by decide)), if_pos rfl, cl_n (by omega), cl_n (by omega)]
theorem qf_0 {a b c d : Nat} {k t : Nat} (ha : a ≤ 127) (hb : b ≤ 7) (hc : c ≤ 7) (hd : d ≤ 7) (hb1 : 1 ≤ b) (hc1 : 1 ≤ c) (hk : k < 3) : qf_ (nI 0) (nI a) (nI b) (nI c) (nI d) k t = (decide (0 < if k = 0 then b else if k = 1 then c else d) && decide ((if k = 0 then b else if k = 1 then c else d) ≤ sz_ (t &&& a))) := by
  unfold qf_
  rw [if_neg (nn_eq (by decide) (by decide) (by decide)), if_neg (nn_eq (by decide) (by decide) (by decide)), if_pos rfl, cl_n (show a < 2 ^ 31 by omega)]
  have hdz : nI d = nI 0 ↔ d = 0 := nI_eq (by omega) (by decide)
  rcases (by omega : k = 0 ∨ k = 1 ∨ k = 2) with rfl | rfl | rfl
  · simp [cl_n (show b < 2 ^ 31 by omega), hb1]; intro _; omega
  · simp [cl_n (show c < 2 ^ 31 by omega), hc1]; intro _; omega
  · by_cases h : d = 0
    · simp [h]
    · simp [hdz, h, cl_n (show d < 2 ^ 31 by omega), Nat.pos_of_ne_zero h]
theorem qf_2 {a b c d : Nat} {k t : Nat} (ha : a ≤ 9999999) (hb : b ≤ 63) (hc : c ≤ 63) (hd : d ≤ 63) (hb1 : 1 ≤ b) (hc1 : 1 ≤ c) (hk : k < 3) : qf_ (nI 2) (nI a) (nI b) (nI c) (nI d) k t = (decide (0 < if k = 0 then b else if k = 1 then c else d) && decide ((if k = 0 then b else if k = 1 then c else d) ≤ wt_ a t)) := by
  unfold qf_
  rw [if_neg (nn_eq (by decide) (by decide) (by decide)), if_neg (nn_eq (by decide) (by decide) (by decide)), if_neg (nn_eq (by decide) (by decide) (by decide)), cl_n (show a < 2 ^ 31 by omega)]
  have hdz : nI d = nI 0 ↔ d = 0 := nI_eq (by omega) (by decide)
  rcases (by omega : k = 0 ∨ k = 1 ∨ k = 2) with rfl | rfl | rfl
  · simp [cl_n (show b < 2 ^ 31 by omega), hb1]; intro _; omega
  · simp [cl_n (show c < 2 ^ 31 by omega), hc1]; intro _; omega
  · by_cases h : d = 0
    · simp [h]
    · simp [hdz, h, cl_n (show d < 2 ^ 31 by omega), Nat.pos_of_ne_zero h]
/-- if any set is a quorum, all nodes are -/
theorem qf_top {so a b c d : Int32} {k t : Nat} (h : rg_ so a b c d) (hk : k < 3) (ht : t < 128) (hq : qf_ so a b c d k t = true) : qf_ so a b c d k 127 = true := by
  rcases h with ⟨rfl, a', b', c', d', rfl, rfl, rfl, rfl, h⟩ | ⟨rfl, a', b', rfl, rfl, h⟩ | ⟨rfl, a', b', c', d', rfl, rfl, rfl, rfl, h⟩ | ⟨rfl, a', b', c', rfl, rfl, rfl, h⟩
  · rw [qf_0 (by omega) (by omega) (by omega) (by omega) (by omega) (by omega) hk, Bool.and_eq_true, decide_eq_true_eq, decide_eq_true_eq] at hq ⊢
    refine ⟨hq.1, Nat.le_trans hq.2 (sz_mono fun i hi => ?_)⟩
    rw [Nat.testBit_and, Bool.and_eq_true] at hi ⊢
    refine ⟨?_, hi.2⟩
    rw [nu_t127, decide_eq_true_eq]
    rcases Nat.lt_or_ge i 7 with z | z
    · exact z
    · rw [nu_tb ht z] at hi; exact nomatch hi.1
  · rw [qf_1 (by omega) (by omega)] at hq ⊢
    have g := gr_all (s := t) h.1 h.2.2.1 h.2.2.2.2 ht
    by_cases h2 : k = 2 ∧ d = nI 0
    · rw [if_pos h2] at hq; exact nomatch hq
    · rw [if_neg h2] at hq ⊢
      by_cases h0 : k = 0
      · rw [if_pos h0, decide_eq_true_eq] at hq ⊢
        omega
      · rw [if_neg h0, decide_eq_true_eq] at hq ⊢
        omega
  · rw [qf_2 (by omega) (by omega) (by omega) (by omega) (by omega) (by omega) hk, Bool.and_eq_true, decide_eq_true_eq, decide_eq_true_eq] at hq ⊢
    exact ⟨hq.1, Nat.le_trans hq.2 (wt_mono _ _)⟩
  · rw [qf_3 (by omega) (by omega) (by omega)] at hq ⊢
    exact li_mono hq
section
variable {bg : Nat} {df iq tb up fa co fr dn : Nat → Bool} {op ov sp sv qb qi qj qv ql so ba an pk kv vo kn : Nat → Nat} {srt num : Nat → Int32}
variable {post : Int32 → Prop} {x : Int32} {s k t l : Nat}
theorem yc_contains (hl : l < 268435456) (ht : t < 128) : wpY_contains post (nI l) (nI t) ↔ post (bo_i (li_ l t)) := by
  simp only [wpY_contains]
  refine lo_fold (W := fun n i a => wY_contains_4 post (nI l) (nI t) n (bo_i a) (nI i)) (fin := fun a => post (bo_i a)) (I := fun _ _ => True) (e := 4) (fun p a => a || (l / 2 ^ (7 * p) &&& 127) != 0 && (t &&& (l / 2 ^ (7 * p) &&& 127)) == (l / 2 ^ (7 * p) &&& 127)) (fun _ _ h => h) (fun _ _ _ _ => trivial) ?_ ?_ 4 0 false rfl trivial
  · intro n a _
    simp (disch := omega) only [li_0, li_1, li_2, li_3, li_4, li_6, li_7, li_8, li_9, li_10, li_12, li_21, li_24, li_31, li_60, li_63, li_127, li_128, li_256, li_312, li_384, nI_add, nu_mul, nu_sub, nu_div, nu_and, nu_or, nu_shr, nu_bit, nu_diff, bi_2, nI_leI, nI_ltI, nI_eq, vp_in_nI, nI_clamp, ar_na, ar_ba, bo_0, bo_1, bo_it, bo_if, bo_w, bo_w0, bo_w1, bo_nar, bo_n1, bo_nn0, st_bu, st_bu1, st_bu0, st_nu, forall_eq, true_implies, false_implies, forall_const, not_true_eq_false, not_false_eq_true, and_true, true_and, implies_true, and_self, Bool.false_eq_true, Bool.true_eq_false, reduceCtorEq, ite_true, ite_false, if_true, if_false, eq_self, Nat.zero_add, Nat.add_zero, Nat.le_refl, Nat.lt_irrefl, Nat.reduceEqDiff, Nat.reduceLeDiff, Nat.reduceLT, Nat.reduceAdd, Nat.reduceMul, Nat.reduceSub, wY_contains_4]
  · intro n i a hi _
    have hm : l / 2 ^ (7 * i) &&& 127 < 128 := nu_and7r (by decide)
    have hd : (l / 2 ^ (7 * i) &&& 127) &&& (t ^^^ 127) < 128 := nu_and7 hm
    have hs := nu_sub0 (b := t) hm
    cases a with
    | true =>
      rw [Bool.true_or]
      simp (disch := omega) only [li_0, li_1, li_2, li_3, li_4, li_6, li_7, li_8, li_9, li_10, li_12, li_21, li_24, li_31, li_60, li_63, li_127, li_128, li_256, li_312, li_384, nI_add, nu_mul, nu_sub, nu_div, nu_and, nu_or, nu_shr, nu_bit, nu_diff, bi_2, nI_leI, nI_ltI, nI_eq, vp_in_nI, nI_clamp, ar_na, ar_ba, bo_0, bo_1, bo_it, bo_if, bo_w, bo_w0, bo_w1, bo_nar, bo_n1, bo_nn0, st_bu, st_bu1, st_bu0, st_nu, forall_eq, true_implies, false_implies, forall_const, not_true_eq_false, not_false_eq_true, and_true, true_and, implies_true, and_self, Bool.false_eq_true, Bool.true_eq_false, reduceCtorEq, ite_true, ite_false, if_true, if_false, eq_self, Nat.zero_add, Nat.add_zero, Nat.le_refl, Nat.lt_irrefl, Nat.reduceEqDiff, Nat.reduceLeDiff, Nat.reduceLT, Nat.reduceAdd, Nat.reduceMul, Nat.reduceSub, wY_contains_4, Nat.not_le.mpr hi]
    | false =>
      rw [Bool.false_or]
      by_cases h1 : l / 2 ^ (7 * i) &&& 127 = 0
      · simp (disch := omega) only [li_0, li_1, li_2, li_3, li_4, li_6, li_7, li_8, li_9, li_10, li_12, li_21, li_24, li_31, li_60, li_63, li_127, li_128, li_256, li_312, li_384, nI_add, nu_mul, nu_sub, nu_div, nu_and, nu_or, nu_shr, nu_bit, nu_diff, bi_2, nI_leI, nI_ltI, nI_eq, vp_in_nI, nI_clamp, ar_na, ar_ba, bo_0, bo_1, bo_it, bo_if, bo_w, bo_w0, bo_w1, bo_nar, bo_n1, bo_nn0, st_bu, st_bu1, st_bu0, st_nu, forall_eq, true_implies, false_implies, forall_const, not_true_eq_false, not_false_eq_true, and_true, true_and, implies_true, and_self, Bool.false_eq_true, Bool.true_eq_false, reduceCtorEq, ite_true, ite_false, if_true, if_false, eq_self, Nat.zero_add, Nat.add_zero, Nat.le_refl, Nat.lt_irrefl, Nat.reduceEqDiff, Nat.reduceLeDiff, Nat.reduceLT, Nat.reduceAdd, Nat.reduceMul, Nat.reduceSub, wY_contains_4, Nat.not_le.mpr hi, h1, bne_self_eq_false, Bool.false_and]
      · by_cases h2 : t &&& (l / 2 ^ (7 * i) &&& 127) = l / 2 ^ (7 * i) &&& 127
        · have h3 := hs.mpr h2
          simp (disch := omega) only [li_0, li_1, li_2, li_3, li_4, li_6, li_7, li_8, li_9, li_10, li_12, li_21, li_24, li_31, li_60, li_63, li_127, li_128, li_256, li_312, li_384, nI_add, nu_mul, nu_sub, nu_div, nu_and, nu_or, nu_shr, nu_bit, nu_diff, bi_2, nI_leI, nI_ltI, nI_eq, vp_in_nI, nI_clamp, ar_na, ar_ba, bo_0, bo_1, bo_it, bo_if, bo_w, bo_w0, bo_w1, bo_nar, bo_n1, bo_nn0, st_bu, st_bu1, st_bu0, st_nu, forall_eq, true_implies, false_implies, forall_const, not_true_eq_false, not_false_eq_true, and_true, true_and, implies_true, and_self, Bool.false_eq_true, Bool.true_eq_false, reduceCtorEq, ite_true, ite_false, if_true, if_false, eq_self, Nat.zero_add, Nat.add_zero, Nat.le_refl, Nat.lt_irrefl, Nat.reduceEqDiff, Nat.reduceLeDiff, Nat.reduceLT, Nat.reduceAdd, Nat.reduceMul, Nat.reduceSub, wY_contains_4, Nat.not_le.mpr hi, h1, h2, h3, beq_self_eq_true, Bool.and_true, (bne_iff_ne (a := l / 2 ^ (7 * i) &&& 127) (b := 0)).mpr h1]
        · have h3 : ¬ (l / 2 ^ (7 * i) &&& 127) &&& (t ^^^ 127) = 0 := fun z => h2 (hs.mp z)
          simp (disch := omega) only [li_0, li_1, li_2, li_3, li_4, li_6, li_7, li_8, li_9, li_10, li_12, li_21, li_24, li_31, li_60, li_63, li_127, li_128, li_256, li_312, li_384, nI_add, nu_mul, nu_sub, nu_div, nu_and, nu_or, nu_shr, nu_bit, nu_diff, bi_2, nI_leI, nI_ltI, nI_eq, vp_in_nI, nI_clamp, ar_na, ar_ba, bo_0, bo_1, bo_it, bo_if, bo_w, bo_w0, bo_w1, bo_nar, bo_n1, bo_nn0, st_bu, st_bu1, st_bu0, st_nu, forall_eq, true_implies, false_implies, forall_const, not_true_eq_false, not_false_eq_true, and_true, true_and, implies_true, and_self, Bool.false_eq_true, Bool.true_eq_false, reduceCtorEq, ite_true, ite_false, if_true, if_false, eq_self, Nat.zero_add, Nat.add_zero, Nat.le_refl, Nat.lt_irrefl, Nat.reduceEqDiff, Nat.reduceLeDiff, Nat.reduceLT, Nat.reduceAdd, Nat.reduceMul, Nat.reduceSub, wY_contains_4, Nat.not_le.mpr hi, h1, h2, h3, (beq_eq_false_iff_ne (a := t &&& (l / 2 ^ (7 * i) &&& 127)) (b := l / 2 ^ (7 * i) &&& 127)).mpr h2, Bool.and_false]
theorem nu_md (a d : Nat) : a - a / d * d = a % d := by
  have h := Nat.div_add_mod' a d
  have h2 := Nat.div_mul_le_self a d
  omega
theorem yc_weight {w : Nat} (hw : w ≤ 9999999) (ht : t < 128) : wpY_weight post (nI w) (nI t) ↔ post (nI (wt_ w t)) := by
  simp only [wpY_weight]
  refine lo_fold (W := fun n i (p : Nat × Nat) => wY_weight_7 post (nI t) n (nI p.2) (nI p.1) (nI i)) (fin := fun p => post (nI p.2)) (I := fun i p => p.1 ≤ 9999999 ∧ p.2 ≤ 9 * i) (e := 7) (fun n p => (p.1 / 10, p.2 + t / 2 ^ n % 2 * (p.1 % 10))) (fun _ _ h => h) ?_ ?_ ?_ 7 0 (w, 0) rfl ⟨hw, Nat.le_refl _⟩
  · intro i p _ h
    have : t / 2 ^ i % 2 * (p.1 % 10) ≤ 1 * 9 := Nat.mul_le_mul (by omega) (by omega)
    exact ⟨by show p.1 / 10 ≤ _; omega, by show p.2 + _ ≤ _; omega⟩
  · intro n p h
    obtain ⟨h1, h2⟩ := h
    simp (disch := omega) only [li_0, li_1, li_2, li_3, li_4, li_6, li_7, li_8, li_9, li_10, li_12, li_21, li_24, li_31, li_60, li_63, li_127, li_128, li_256, li_312, li_384, nI_add, nu_mul, nu_sub, nu_div, nu_and, nu_or, nu_shr, nu_bit, nu_diff, bi_2, nI_leI, nI_ltI, nI_eq, vp_in_nI, nI_clamp, ar_na, ar_ba, bo_0, bo_1, bo_it, bo_if, bo_w, bo_w0, bo_w1, bo_nar, bo_n1, bo_nn0, st_bu, st_bu1, st_bu0, st_nu, forall_eq, true_implies, false_implies, forall_const, not_true_eq_false, not_false_eq_true, and_true, true_and, implies_true, and_self, Bool.false_eq_true, Bool.true_eq_false, reduceCtorEq, ite_true, ite_false, if_true, if_false, eq_self, Nat.zero_add, Nat.add_zero, Nat.le_refl, Nat.lt_irrefl, Nat.reduceEqDiff, Nat.reduceLeDiff, Nat.reduceLT, Nat.reduceAdd, Nat.reduceMul, Nat.reduceSub, wY_weight_7]
  · intro n i p hi h
    obtain ⟨h1, h2⟩ := h
    obtain ⟨c, d⟩ := p
    dsimp only at h1 h2 ⊢
    rcases (by omega : t / 2 ^ i % 2 = 0 ∨ t / 2 ^ i % 2 = 1) with z | z
    · simp (disch := omega) only [li_0, li_1, li_2, li_3, li_4, li_6, li_7, li_8, li_9, li_10, li_12, li_21, li_24, li_31, li_60, li_63, li_127, li_128, li_256, li_312, li_384, nI_add, nu_mul, nu_sub, nu_div, nu_and, nu_or, nu_shr, nu_bit, nu_diff, bi_2, nI_leI, nI_ltI, nI_eq, vp_in_nI, nI_clamp, ar_na, ar_ba, bo_0, bo_1, bo_it, bo_if, bo_w, bo_w0, bo_w1, bo_nar, bo_n1, bo_nn0, st_bu, st_bu1, st_bu0, st_nu, forall_eq, true_implies, false_implies, forall_const, not_true_eq_false, not_false_eq_true, and_true, true_and, implies_true, and_self, Bool.false_eq_true, Bool.true_eq_false, reduceCtorEq, ite_true, ite_false, if_true, if_false, eq_self, Nat.zero_add, Nat.add_zero, Nat.le_refl, Nat.lt_irrefl, Nat.reduceEqDiff, Nat.reduceLeDiff, Nat.reduceLT, Nat.reduceAdd, Nat.reduceMul, Nat.reduceSub, wY_weight_7, Nat.not_le.mpr hi, z, Nat.zero_mul, nu_md]
    · simp (disch := omega) only [li_0, li_1, li_2, li_3, li_4, li_6, li_7, li_8, li_9, li_10, li_12, li_21, li_24, li_31, li_60, li_63, li_127, li_128, li_256, li_312, li_384, nI_add, nu_mul, nu_sub, nu_div, nu_and, nu_or, nu_shr, nu_bit, nu_diff, bi_2, nI_leI, nI_ltI, nI_eq, vp_in_nI, nI_clamp, ar_na, ar_ba, bo_0, bo_1, bo_it, bo_if, bo_w, bo_w0, bo_w1, bo_nar, bo_n1, bo_nn0, st_bu, st_bu1, st_bu0, st_nu, forall_eq, true_implies, false_implies, forall_const, not_true_eq_false, not_false_eq_true, and_true, true_and, implies_true, and_self, Bool.false_eq_true, Bool.true_eq_false, reduceCtorEq, ite_true, ite_false, if_true, if_false, eq_self, Nat.zero_add, Nat.add_zero, Nat.le_refl, Nat.lt_irrefl, Nat.reduceEqDiff, Nat.reduceLeDiff, Nat.reduceLT, Nat.reduceAdd, Nat.reduceMul, Nat.reduceSub, wY_weight_7, Nat.not_le.mpr hi, z, Nat.one_mul, nu_md]
theorem yc_lines1 {r c m line : Nat} {o : Bool} {J : Int32 → Int32 → Prop} (hc : 1 ≤ c) (hrc : r * c ≤ 7) (hm : m ≤ 7) (hl : line ≤ 7) (ht : t < 128) : (∃ n, wY_lines_26 post J (nI r) (nI c) (bo_i o) (nI t) (nI m) (nI line) n (nI 1) (nI 0)) ↔ J (nI (if gr_one r c o t line = true then m + 1 else m)) (nI (line + 1)) := by
  refine lo_fold (W := fun n i a => wY_lines_26 post J (nI r) (nI c) (bo_i o) (nI t) (nI m) (nI line) n (bo_i a) (nI i)) (fin := fun a => J (nI (if a = true then m + 1 else m)) (nI (line + 1))) (I := fun _ _ => True) (e := r * c) (fun k w => if (if o = true then k / c else k % c) = line ∧ t / 2 ^ k % 2 = 0 then false else w) (fun _ _ h => h) (fun _ _ _ _ => trivial) ?_ ?_ (r * c) 0 true (Nat.zero_add _) trivial
  · intro n a _
    cases a
    · simp (disch := omega) only [li_0, li_1, li_2, li_3, li_4, li_6, li_7, li_8, li_9, li_10, li_12, li_21, li_24, li_31, li_60, li_63, li_127, li_128, li_256, li_312, li_384, nI_add, nu_mul, nu_sub, nu_div, nu_and, nu_or, nu_shr, nu_bit, nu_diff, bi_2, nI_leI, nI_ltI, nI_eq, vp_in_nI, nI_clamp, ar_na, ar_ba, bo_0, bo_1, bo_it, bo_if, bo_w, bo_w0, bo_w1, bo_nar, bo_n1, bo_nn0, st_bu, st_bu1, st_bu0, st_nu, forall_eq, true_implies, false_implies, forall_const, not_true_eq_false, not_false_eq_true, and_true, true_and, implies_true, and_self, Bool.false_eq_true, Bool.true_eq_false, reduceCtorEq, ite_true, ite_false, if_true, if_false, eq_self, Nat.zero_add, Nat.add_zero, Nat.le_refl, Nat.lt_irrefl, Nat.reduceEqDiff, Nat.reduceLeDiff, Nat.reduceLT, Nat.reduceAdd, Nat.reduceMul, Nat.reduceSub, wY_lines_26]
    · simp (disch := omega) only [li_0, li_1, li_2, li_3, li_4, li_6, li_7, li_8, li_9, li_10, li_12, li_21, li_24, li_31, li_60, li_63, li_127, li_128, li_256, li_312, li_384, nI_add, nu_mul, nu_sub, nu_div, nu_and, nu_or, nu_shr, nu_bit, nu_diff, bi_2, nI_leI, nI_ltI, nI_eq, vp_in_nI, nI_clamp, ar_na, ar_ba, bo_0, bo_1, bo_it, bo_if, bo_w, bo_w0, bo_w1, bo_nar, bo_n1, bo_nn0, st_bu, st_bu1, st_bu0, st_nu, forall_eq, true_implies, false_implies, forall_const, not_true_eq_false, not_false_eq_true, and_true, true_and, implies_true, and_self, Bool.false_eq_true, Bool.true_eq_false, reduceCtorEq, ite_true, ite_false, if_true, if_false, eq_self, Nat.zero_add, Nat.add_zero, Nat.le_refl, Nat.lt_irrefl, Nat.reduceEqDiff, Nat.reduceLeDiff, Nat.reduceLT, Nat.reduceAdd, Nat.reduceMul, Nat.reduceSub, wY_lines_26]
  · intro n i a hi _
    have h1 := Nat.div_mul_le_self i c
    have h2 : i / c ≤ i := Nat.div_le_self _ _
    have h3 : i % c ≤ i := Nat.mod_le _ _
    have hc7 : c ≤ 2 ^ 30 := by
      have : c * 1 ≤ 2 ^ 30 ∨ r = 0 := by
        rcases Nat.eq_zero_or_pos r with z | z
        · exact Or.inr z
        · left
          have := Nat.le_mul_of_pos_left c z
          omega
      rcases this with z | z
      · omega
      · subst z; omega
    have hb : t / 2 ^ i % 2 < 2 := Nat.mod_lt _ (by decide)
    cases o
    · by_cases e1 : i % c = line
      · by_cases e2 : t / 2 ^ i % 2 = 0
        · simp (disch := omega) only [li_0, li_1, li_2, li_3, li_4, li_6, li_7, li_8, li_9, li_10, li_12, li_21, li_24, li_31, li_60, li_63, li_127, li_128, li_256, li_312, li_384, nI_add, nu_mul, nu_sub, nu_div, nu_and, nu_or, nu_shr, nu_bit, nu_diff, bi_2, nI_leI, nI_ltI, nI_eq, vp_in_nI, nI_clamp, ar_na, ar_ba, bo_0, bo_1, bo_it, bo_if, bo_w, bo_w0, bo_w1, bo_nar, bo_n1, bo_nn0, st_bu, st_bu1, st_bu0, st_nu, forall_eq, true_implies, false_implies, forall_const, not_true_eq_false, not_false_eq_true, and_true, true_and, implies_true, and_self, Bool.false_eq_true, Bool.true_eq_false, reduceCtorEq, ite_true, ite_false, if_true, if_false, eq_self, Nat.zero_add, Nat.add_zero, Nat.le_refl, Nat.lt_irrefl, Nat.reduceEqDiff, Nat.reduceLeDiff, Nat.reduceLT, Nat.reduceAdd, Nat.reduceMul, Nat.reduceSub, wY_lines_26, wY_lines_49, Nat.not_le.mpr hi, nu_md, e1, e2, Nat.ne_of_gt hc]
        · simp (disch := omega) only [li_0, li_1, li_2, li_3, li_4, li_6, li_7, li_8, li_9, li_10, li_12, li_21, li_24, li_31, li_60, li_63, li_127, li_128, li_256, li_312, li_384, nI_add, nu_mul, nu_sub, nu_div, nu_and, nu_or, nu_shr, nu_bit, nu_diff, bi_2, nI_leI, nI_ltI, nI_eq, vp_in_nI, nI_clamp, ar_na, ar_ba, bo_0, bo_1, bo_it, bo_if, bo_w, bo_w0, bo_w1, bo_nar, bo_n1, bo_nn0, st_bu, st_bu1, st_bu0, st_nu, forall_eq, true_implies, false_implies, forall_const, not_true_eq_false, not_false_eq_true, and_true, true_and, implies_true, and_self, Bool.false_eq_true, Bool.true_eq_false, reduceCtorEq, ite_true, ite_false, if_true, if_false, eq_self, Nat.zero_add, Nat.add_zero, Nat.le_refl, Nat.lt_irrefl, Nat.reduceEqDiff, Nat.reduceLeDiff, Nat.reduceLT, Nat.reduceAdd, Nat.reduceMul, Nat.reduceSub, wY_lines_26, wY_lines_49, Nat.not_le.mpr hi, nu_md, e1, e2, and_false, Nat.ne_of_gt hc]
      · simp (disch := omega) only [li_0, li_1, li_2, li_3, li_4, li_6, li_7, li_8, li_9, li_10, li_12, li_21, li_24, li_31, li_60, li_63, li_127, li_128, li_256, li_312, li_384, nI_add, nu_mul, nu_sub, nu_div, nu_and, nu_or, nu_shr, nu_bit, nu_diff, bi_2, nI_leI, nI_ltI, nI_eq, vp_in_nI, nI_clamp, ar_na, ar_ba, bo_0, bo_1, bo_it, bo_if, bo_w, bo_w0, bo_w1, bo_nar, bo_n1, bo_nn0, st_bu, st_bu1, st_bu0, st_nu, forall_eq, true_implies, false_implies, forall_const, not_true_eq_false, not_false_eq_true, and_true, true_and, implies_true, and_self, Bool.false_eq_true, Bool.true_eq_false, reduceCtorEq, ite_true, ite_false, if_true, if_false, eq_self, Nat.zero_add, Nat.add_zero, Nat.le_refl, Nat.lt_irrefl, Nat.reduceEqDiff, Nat.reduceLeDiff, Nat.reduceLT, Nat.reduceAdd, Nat.reduceMul, Nat.reduceSub, wY_lines_26, wY_lines_49, Nat.not_le.mpr hi, nu_md, e1, false_and, Nat.ne_of_gt hc]
    · by_cases e1 : i / c = line
      · by_cases e2 : t / 2 ^ i % 2 = 0
        · simp (disch := omega) only [li_0, li_1, li_2, li_3, li_4, li_6, li_7, li_8, li_9, li_10, li_12, li_21, li_24, li_31, li_60, li_63, li_127, li_128, li_256, li_312, li_384, nI_add, nu_mul, nu_sub, nu_div, nu_and, nu_or, nu_shr, nu_bit, nu_diff, bi_2, nI_leI, nI_ltI, nI_eq, vp_in_nI, nI_clamp, ar_na, ar_ba, bo_0, bo_1, bo_it, bo_if, bo_w, bo_w0, bo_w1, bo_nar, bo_n1, bo_nn0, st_bu, st_bu1, st_bu0, st_nu, forall_eq, true_implies, false_implies, forall_const, not_true_eq_false, not_false_eq_true, and_true, true_and, implies_true, and_self, Bool.false_eq_true, Bool.true_eq_false, reduceCtorEq, ite_true, ite_false, if_true, if_false, eq_self, Nat.zero_add, Nat.add_zero, Nat.le_refl, Nat.lt_irrefl, Nat.reduceEqDiff, Nat.reduceLeDiff, Nat.reduceLT, Nat.reduceAdd, Nat.reduceMul, Nat.reduceSub, wY_lines_26, wY_lines_49, Nat.not_le.mpr hi, nu_md, e1, e2, Nat.ne_of_gt hc]
        · simp (disch := omega) only [li_0, li_1, li_2, li_3, li_4, li_6, li_7, li_8, li_9, li_10, li_12, li_21, li_24, li_31, li_60, li_63, li_127, li_128, li_256, li_312, li_384, nI_add, nu_mul, nu_sub, nu_div, nu_and, nu_or, nu_shr, nu_bit, nu_diff, bi_2, nI_leI, nI_ltI, nI_eq, vp_in_nI, nI_clamp, ar_na, ar_ba, bo_0, bo_1, bo_it, bo_if, bo_w, bo_w0, bo_w1, bo_nar, bo_n1, bo_nn0, st_bu, st_bu1, st_bu0, st_nu, forall_eq, true_implies, false_implies, forall_const, not_true_eq_false, not_false_eq_true, and_true, true_and, implies_true, and_self, Bool.false_eq_true, Bool.true_eq_false, reduceCtorEq, ite_true, ite_false, if_true, if_false, eq_self, Nat.zero_add, Nat.add_zero, Nat.le_refl, Nat.lt_irrefl, Nat.reduceEqDiff, Nat.reduceLeDiff, Nat.reduceLT, Nat.reduceAdd, Nat.reduceMul, Nat.reduceSub, wY_lines_26, wY_lines_49, Nat.not_le.mpr hi, nu_md, e1, e2, and_false, Nat.ne_of_gt hc]
      · simp (disch := omega) only [li_0, li_1, li_2, li_3, li_4, li_6, li_7, li_8, li_9, li_10, li_12, li_21, li_24, li_31, li_60, li_63, li_127, li_128, li_256, li_312, li_384, nI_add, nu_mul, nu_sub, nu_div, nu_and, nu_or, nu_shr, nu_bit, nu_diff, bi_2, nI_leI, nI_ltI, nI_eq, vp_in_nI, nI_clamp, ar_na, ar_ba, bo_0, bo_1, bo_it, bo_if, bo_w, bo_w0, bo_w1, bo_nar, bo_n1, bo_nn0, st_bu, st_bu1, st_bu0, st_nu, forall_eq, true_implies, false_implies, forall_const, not_true_eq_false, not_false_eq_true, and_true, true_and, implies_true, and_self, Bool.false_eq_true, Bool.true_eq_false, reduceCtorEq, ite_true, ite_false, if_true, if_false, eq_self, Nat.zero_add, Nat.add_zero, Nat.le_refl, Nat.lt_irrefl, Nat.reduceEqDiff, Nat.reduceLeDiff, Nat.reduceLT, Nat.reduceAdd, Nat.reduceMul, Nat.reduceSub, wY_lines_26, wY_lines_49, Nat.not_le.mpr hi, nu_md, e1, false_and, Nat.ne_of_gt hc]
theorem yc_lines {r c : Nat} {o : Bool} (hr : r ≤ 7) (hc : 1 ≤ c) (hc7 : c ≤ 7) (hrc : r * c ≤ 7) (ht : t < 128) : wpY_lines post (nI r) (nI c) (bo_i o) (nI t) ↔ post (nI (gr_ln r c o t)) := by
  simp only [wpY_lines]
  refine lo_fold (W := fun n i a => wY_lines_6 post (nI r) (nI c) (bo_i o) (nI t) n (nI a) (nI i)) (fin := fun a => post (nI a)) (I := fun i a => a ≤ i) (e := if o = true then r else c) (fun line n => if gr_one r c o t line = true then n + 1 else n) (fun _ _ h => h) ?_ ?_ ?_ _ 0 0 (Nat.zero_add _) (Nat.le_refl _)
  · intro i a _ h
    split <;> omega
  · intro n a h
    cases o
    · simp (disch := omega) only [li_0, li_1, li_2, li_3, li_4, li_6, li_7, li_8, li_9, li_10, li_12, li_21, li_24, li_31, li_60, li_63, li_127, li_128, li_256, li_312, li_384, nI_add, nu_mul, nu_sub, nu_div, nu_and, nu_or, nu_shr, nu_bit, nu_diff, bi_2, nI_leI, nI_ltI, nI_eq, vp_in_nI, nI_clamp, ar_na, ar_ba, bo_0, bo_1, bo_it, bo_if, bo_w, bo_w0, bo_w1, bo_nar, bo_n1, bo_nn0, st_bu, st_bu1, st_bu0, st_nu, forall_eq, true_implies, false_implies, forall_const, not_true_eq_false, not_false_eq_true, and_true, true_and, implies_true, and_self, Bool.false_eq_true, Bool.true_eq_false, reduceCtorEq, ite_true, ite_false, if_true, if_false, eq_self, Nat.zero_add, Nat.add_zero, Nat.le_refl, Nat.lt_irrefl, Nat.reduceEqDiff, Nat.reduceLeDiff, Nat.reduceLT, Nat.reduceAdd, Nat.reduceMul, Nat.reduceSub, wY_lines_6, wY_lines_17]
    · simp (disch := omega) only [li_0, li_1, li_2, li_3, li_4, li_6, li_7, li_8, li_9, li_10, li_12, li_21, li_24, li_31, li_60, li_63, li_127, li_128, li_256, li_312, li_384, nI_add, nu_mul, nu_sub, nu_div, nu_and, nu_or, nu_shr, nu_bit, nu_diff, bi_2, nI_leI, nI_ltI, nI_eq, vp_in_nI, nI_clamp, ar_na, ar_ba, bo_0, bo_1, bo_it, bo_if, bo_w, bo_w0, bo_w1, bo_nar, bo_n1, bo_nn0, st_bu, st_bu1, st_bu0, st_nu, forall_eq, true_implies, false_implies, forall_const, not_true_eq_false, not_false_eq_true, and_true, true_and, implies_true, and_self, Bool.false_eq_true, Bool.true_eq_false, reduceCtorEq, ite_true, ite_false, if_true, if_false, eq_self, Nat.zero_add, Nat.add_zero, Nat.le_refl, Nat.lt_irrefl, Nat.reduceEqDiff, Nat.reduceLeDiff, Nat.reduceLT, Nat.reduceAdd, Nat.reduceMul, Nat.reduceSub, wY_lines_6, wY_lines_17]
  · intro n i a hi h
    have hi7 : i < 7 := by cases o <;> simp at hi <;> omega
    have g := yc_lines1 (post := post) (r := r) (c := c) (m := a) (line := i) (o := o) (J := wY_lines_6 post (nI r) (nI c) (bo_i o) (nI t) n) hc hrc (by omega) (by omega) ht
    cases o
    · have hi : i < c := by simpa using hi
      simp (disch := omega) only [wY_lines_6, wY_lines_17, li_0, li_1, bo_0, nI_leI, Nat.not_le.mpr hi, not_true_eq_false, not_false_eq_true, true_implies, false_implies, and_true, true_and]
      exact g
    · have hi : i < r := by simpa using hi
      simp (disch := omega) only [wY_lines_6, wY_lines_17, li_0, li_1, bo_0, nI_leI, Nat.not_le.mpr hi, not_true_eq_false, not_false_eq_true, true_implies, false_implies, and_true, true_and, Bool.true_eq_false]
      exact g
theorem yc_linesR {r c : Nat} (hr : r ≤ 7) (hc : 1 ≤ c) (hc7 : c ≤ 7) (hrc : r * c ≤ 7) (ht : t < 128) : wpY_lines post (nI r) (nI c) (nI 1) (nI t) ↔ post (nI (gr_ln r c true t)) := yc_lines (o := true) hr hc hc7 hrc ht
theorem yc_linesC {r c : Nat} (hr : r ≤ 7) (hc : 1 ≤ c) (hc7 : c ≤ 7) (hrc : r * c ≤ 7) (ht : t < 128) : wpY_lines post (nI r) (nI c) (nI 0) (nI t) ↔ post (nI (gr_ln r c false t)) := yc_lines (o := false) hr hc hc7 hrc ht
end
end
section
/-! the quorums of the reference; the component's layouts -/
theorem gr_le {r c : Nat} {o : Bool} {t : Nat} (hr : r ≤ 7) (hc : c ≤ 7) : gr_ln r c o t ≤ 7 := by
  have h := lo_fI (f := fun line n => if gr_one r c o t line = true then n + 1 else n) (I := fun i a => a ≤ i) (if o = true then r else c) 0 0 (by intro j a _ _ h; split <;> omega) (Nat.le_refl _)
  have h : gr_ln r c o t ≤ 0 + (if o = true then r else c) := h
  cases o <;> simp at h <;> omega
theorem wt_le (w t : Nat) : wt_ w t ≤ 63 := by
  have g : ∀ n x, t / 2 ^ n % 2 * (x % 10) ≤ 9 := fun n x => Nat.le_trans (Nat.mul_le_mul (show t / 2 ^ n % 2 ≤ 1 by omega) (show x % 10 ≤ 9 by omega)) (by decide)
  rw [wt_e]
  have g0 := g 0 w
  have g1 := g 1 (w / 10)
  have g2 := g 2 (w / 10 / 10)
  have g3 := g 3 (w / 10 / 10 / 10)
  have g4 := g 4 (w / 10 / 10 / 10 / 10)
  have g5 := g 5 (w / 10 / 10 / 10 / 10 / 10)
  have g6 := g 6 (w / 10 / 10 / 10 / 10 / 10 / 10)
  generalize t / 2 ^ 0 % 2 * (w % 10) = z0 at *
  generalize t / 2 ^ 1 % 2 * (w / 10 % 10) = z1 at *
  generalize t / 2 ^ 2 % 2 * (w / 10 / 10 % 10) = z2 at *
  generalize t / 2 ^ 3 % 2 * (w / 10 / 10 / 10 % 10) = z3 at *
  generalize t / 2 ^ 4 % 2 * (w / 10 / 10 / 10 / 10 % 10) = z4 at *
  generalize t / 2 ^ 5 % 2 * (w / 10 / 10 / 10 / 10 / 10 % 10) = z5 at *
  generalize t / 2 ^ 6 % 2 * (w / 10 / 10 / 10 / 10 / 10 / 10 % 10) = z6 at *
  omega
section
variable {bg : Nat} {df iq tb up fa co fr dn : Nat → Bool} {op ov sp sv qb qi qj qv ql so ba an pk kv vo kn : Nat → Nat} {srt num : Nat → Int32}
variable {post : Int32 → Prop} {s k t : Nat}
theorem yc_isQuorum (hs : s < 4) (hk : k < 3) (ht : t < 128) (hr : rg_ (srt s) (num (4 * s)) (num (4 * s + 1)) (num (4 * s + 2)) (num (4 * s + 3))) : wpY_isQuorum post (nI bg, srt, num, ar_n so, ar_n ba, ar_n an, pc_y pk, ar_n kv, ar_b fa, ar_b co, ar_b fr, ar_b dn, ar_n sp, ar_n sv, ar_n ql, ar_n qb, ar_n qj, ar_n qv, ar_n vo, ar_n kn) (nI s) (nI k) (nI t) ↔ post (bo_i (qf_ (srt s) (num (4 * s)) (num (4 * s + 1)) (num (4 * s + 2)) (num (4 * s + 3)) k t)) := by
  rcases hr with ⟨e0, a, b, c, d, ea, eb, ec, ed, h⟩ | ⟨e0, a, b, ea, eb, h⟩ | ⟨e0, a, b, c, d, ea, eb, ec, ed, h⟩ | ⟨e0, a, b, c, ea, eb, ec, h⟩
  · obtain ⟨h1, h2, h3, h4, h5, h6, h7⟩ := h
    rw [e0, ea, eb, ec, ed, qf_0 (by omega) (by omega) (by omega) (by omega) (by omega) (by omega) hk]
    have hz := sz_7 (t &&& a)
    have hta : t &&& a < 128 := nu_and7 ht
    rcases (by omega : k = 0 ∨ k = 1 ∨ k = 2) with rfl | rfl | rfl
    · have hb0 : 0 < b := h3
      by_cases z : b ≤ sz_ (t &&& a)
      · simp (disch := omega) only [li_0, li_1, li_2, li_3, li_4, li_6, li_7, li_8, li_9, li_10, li_12, li_21, li_24, li_31, li_60, li_63, li_127, li_128, li_256, li_312, li_384, nI_add, nu_mul, nu_sub, nu_div, nu_and, nu_or, nu_shr, nu_bit, nu_diff, bi_2, nI_leI, nI_ltI, nI_eq, vp_in_nI, nI_clamp, ar_na, ar_ba, bo_0, bo_1, bo_it, bo_if, bo_w, bo_w0, bo_w1, bo_nar, bo_n1, bo_nn0, st_bu, st_bu1, st_bu0, st_nu, forall_eq, true_implies, false_implies, forall_const, not_true_eq_false, not_false_eq_true, and_true, true_and, implies_true, and_self, Bool.false_eq_true, Bool.true_eq_false, reduceCtorEq, ite_true, ite_false, if_true, if_false, eq_self, Nat.zero_add, Nat.add_zero, Nat.le_refl, Nat.lt_irrefl, Nat.reduceEqDiff, Nat.reduceLeDiff, Nat.reduceLT, Nat.reduceAdd, Nat.reduceMul, Nat.reduceSub, wpY_isQuorum, wY_isQuorum_94, wY_isQuorum_180, wY_isQuorum_207, e0, ea, eb, ec, ed, yc_size, z, Nat.not_lt.mpr z, hb0, decide_true, Bool.and_self]
      · simp (disch := omega) only [li_0, li_1, li_2, li_3, li_4, li_6, li_7, li_8, li_9, li_10, li_12, li_21, li_24, li_31, li_60, li_63, li_127, li_128, li_256, li_312, li_384, nI_add, nu_mul, nu_sub, nu_div, nu_and, nu_or, nu_shr, nu_bit, nu_diff, bi_2, nI_leI, nI_ltI, nI_eq, vp_in_nI, nI_clamp, ar_na, ar_ba, bo_0, bo_1, bo_it, bo_if, bo_w, bo_w0, bo_w1, bo_nar, bo_n1, bo_nn0, st_bu, st_bu1, st_bu0, st_nu, forall_eq, true_implies, false_implies, forall_const, not_true_eq_false, not_false_eq_true, and_true, true_and, implies_true, and_self, Bool.false_eq_true, Bool.true_eq_false, reduceCtorEq, ite_true, ite_false, if_true, if_false, eq_self, Nat.zero_add, Nat.add_zero, Nat.le_refl, Nat.lt_irrefl, Nat.reduceEqDiff, Nat.reduceLeDiff, Nat.reduceLT, Nat.reduceAdd, Nat.reduceMul, Nat.reduceSub, wpY_isQuorum, wY_isQuorum_94, wY_isQuorum_180, wY_isQuorum_207, e0, ea, eb, ec, ed, yc_size, z, Nat.lt_of_not_le z, decide_false, Bool.and_false]
    · have hc0 : 0 < c := h5
      by_cases z : c ≤ sz_ (t &&& a)
      · simp (disch := omega) only [li_0, li_1, li_2, li_3, li_4, li_6, li_7, li_8, li_9, li_10, li_12, li_21, li_24, li_31, li_60, li_63, li_127, li_128, li_256, li_312, li_384, nI_add, nu_mul, nu_sub, nu_div, nu_and, nu_or, nu_shr, nu_bit, nu_diff, bi_2, nI_leI, nI_ltI, nI_eq, vp_in_nI, nI_clamp, ar_na, ar_ba, bo_0, bo_1, bo_it, bo_if, bo_w, bo_w0, bo_w1, bo_nar, bo_n1, bo_nn0, st_bu, st_bu1, st_bu0, st_nu, forall_eq, true_implies, false_implies, forall_const, not_true_eq_false, not_false_eq_true, and_true, true_and, implies_true, and_self, Bool.false_eq_true, Bool.true_eq_false, reduceCtorEq, ite_true, ite_false, if_true, if_false, eq_self, Nat.zero_add, Nat.add_zero, Nat.le_refl, Nat.lt_irrefl, Nat.reduceEqDiff, Nat.reduceLeDiff, Nat.reduceLT, Nat.reduceAdd, Nat.reduceMul, Nat.reduceSub, wpY_isQuorum, wY_isQuorum_94, wY_isQuorum_180, wY_isQuorum_207, e0, ea, eb, ec, ed, yc_size, z, Nat.not_lt.mpr z, hc0, decide_true, Bool.and_self]
      · simp (disch := omega) only [li_0, li_1, li_2, li_3, li_4, li_6, li_7, li_8, li_9, li_10, li_12, li_21, li_24, li_31, li_60, li_63, li_127, li_128, li_256, li_312, li_384, nI_add, nu_mul, nu_sub, nu_div, nu_and, nu_or, nu_shr, nu_bit, nu_diff, bi_2, nI_leI, nI_ltI, nI_eq, vp_in_nI, nI_clamp, ar_na, ar_ba, bo_0, bo_1, bo_it, bo_if, bo_w, bo_w0, bo_w1, bo_nar, bo_n1, bo_nn0, st_bu, st_bu1, st_bu0, st_nu, forall_eq, true_implies, false_implies, forall_const, not_true_eq_false, not_false_eq_true, and_true, true_and, implies_true, and_self, Bool.false_eq_true, Bool.true_eq_false, reduceCtorEq, ite_true, ite_false, if_true, if_false, eq_self, Nat.zero_add, Nat.add_zero, Nat.le_refl, Nat.lt_irrefl, Nat.reduceEqDiff, Nat.reduceLeDiff, Nat.reduceLT, Nat.reduceAdd, Nat.reduceMul, Nat.reduceSub, wpY_isQuorum, wY_isQuorum_94, wY_isQuorum_180, wY_isQuorum_207, e0, ea, eb, ec, ed, yc_size, z, Nat.lt_of_not_le z, decide_false, Bool.and_false]
    · by_cases z0 : d = 0
      · subst z0
        simp (disch := omega) only [li_0, li_1, li_2, li_3, li_4, li_6, li_7, li_8, li_9, li_10, li_12, li_21, li_24, li_31, li_60, li_63, li_127, li_128, li_256, li_312, li_384, nI_add, nu_mul, nu_sub, nu_div, nu_and, nu_or, nu_shr, nu_bit, nu_diff, bi_2, nI_leI, nI_ltI, nI_eq, vp_in_nI, nI_clamp, ar_na, ar_ba, bo_0, bo_1, bo_it, bo_if, bo_w, bo_w0, bo_w1, bo_nar, bo_n1, bo_nn0, st_bu, st_bu1, st_bu0, st_nu, forall_eq, true_implies, false_implies, forall_const, not_true_eq_false, not_false_eq_true, and_true, true_and, implies_true, and_self, Bool.false_eq_true, Bool.true_eq_false, reduceCtorEq, ite_true, ite_false, if_true, if_false, eq_self, Nat.zero_add, Nat.add_zero, Nat.le_refl, Nat.lt_irrefl, Nat.reduceEqDiff, Nat.reduceLeDiff, Nat.reduceLT, Nat.reduceAdd, Nat.reduceMul, Nat.reduceSub, wpY_isQuorum, wY_isQuorum_94, wY_isQuorum_180, wY_isQuorum_207, e0, ea, eb, ec, ed, decide_false, Bool.false_and]
      · have hd0 : 0 < d := Nat.pos_of_ne_zero z0
        by_cases z : d ≤ sz_ (t &&& a)
        · simp (disch := omega) only [li_0, li_1, li_2, li_3, li_4, li_6, li_7, li_8, li_9, li_10, li_12, li_21, li_24, li_31, li_60, li_63, li_127, li_128, li_256, li_312, li_384, nI_add, nu_mul, nu_sub, nu_div, nu_and, nu_or, nu_shr, nu_bit, nu_diff, bi_2, nI_leI, nI_ltI, nI_eq, vp_in_nI, nI_clamp, ar_na, ar_ba, bo_0, bo_1, bo_it, bo_if, bo_w, bo_w0, bo_w1, bo_nar, bo_n1, bo_nn0, st_bu, st_bu1, st_bu0, st_nu, forall_eq, true_implies, false_implies, forall_const, not_true_eq_false, not_false_eq_true, and_true, true_and, implies_true, and_self, Bool.false_eq_true, Bool.true_eq_false, reduceCtorEq, ite_true, ite_false, if_true, if_false, eq_self, Nat.zero_add, Nat.add_zero, Nat.le_refl, Nat.lt_irrefl, Nat.reduceEqDiff, Nat.reduceLeDiff, Nat.reduceLT, Nat.reduceAdd, Nat.reduceMul, Nat.reduceSub, wpY_isQuorum, wY_isQuorum_94, wY_isQuorum_180, wY_isQuorum_207, e0, ea, eb, ec, ed, yc_size, z, z0, Nat.not_lt.mpr z, hd0, decide_true, Bool.and_self]
        · simp (disch := omega) only [li_0, li_1, li_2, li_3, li_4, li_6, li_7, li_8, li_9, li_10, li_12, li_21, li_24, li_31, li_60, li_63, li_127, li_128, li_256, li_312, li_384, nI_add, nu_mul, nu_sub, nu_div, nu_and, nu_or, nu_shr, nu_bit, nu_diff, bi_2, nI_leI, nI_ltI, nI_eq, vp_in_nI, nI_clamp, ar_na, ar_ba, bo_0, bo_1, bo_it, bo_if, bo_w, bo_w0, bo_w1, bo_nar, bo_n1, bo_nn0, st_bu, st_bu1, st_bu0, st_nu, forall_eq, true_implies, false_implies, forall_const, not_true_eq_false, not_false_eq_true, and_true, true_and, implies_true, and_self, Bool.false_eq_true, Bool.true_eq_false, reduceCtorEq, ite_true, ite_false, if_true, if_false, eq_self, Nat.zero_add, Nat.add_zero, Nat.le_refl, Nat.lt_irrefl, Nat.reduceEqDiff, Nat.reduceLeDiff, Nat.reduceLT, Nat.reduceAdd, Nat.reduceMul, Nat.reduceSub, wpY_isQuorum, wY_isQuorum_94, wY_isQuorum_180, wY_isQuorum_207, e0, ea, eb, ec, ed, yc_size, z, z0, Nat.lt_of_not_le z, decide_false, Bool.and_false]
  · obtain ⟨h1, h2, h3, h4, h5⟩ := h
    rw [e0, ea, eb, qf_1 (by omega) (by omega)]
    have hz := gr_le (r := a) (c := b) (o := true) (t := t) h2 h4
    have hy := gr_le (r := a) (c := b) (o := false) (t := t) h2 h4
    rcases (by omega : k = 0 ∨ k = 1 ∨ k = 2) with rfl | rfl | rfl
    · by_cases z : 0 < gr_ln a b true t
      · simp (disch := omega) only [li_0, li_1, li_2, li_3, li_4, li_6, li_7, li_8, li_9, li_10, li_12, li_21, li_24, li_31, li_60, li_63, li_127, li_128, li_256, li_312, li_384, nI_add, nu_mul, nu_sub, nu_div, nu_and, nu_or, nu_shr, nu_bit, nu_diff, bi_2, nI_leI, nI_ltI, nI_eq, vp_in_nI, nI_clamp, ar_na, ar_ba, bo_0, bo_1, bo_it, bo_if, bo_w, bo_w0, bo_w1, bo_nar, bo_n1, bo_nn0, st_bu, st_bu1, st_bu0, st_nu, forall_eq, true_implies, false_implies, forall_const, not_true_eq_false, not_false_eq_true, and_true, true_and, implies_true, and_self, Bool.false_eq_true, Bool.true_eq_false, reduceCtorEq, ite_true, ite_false, if_true, if_false, eq_self, Nat.zero_add, Nat.add_zero, Nat.le_refl, Nat.lt_irrefl, Nat.reduceEqDiff, Nat.reduceLeDiff, Nat.reduceLT, Nat.reduceAdd, Nat.reduceMul, Nat.reduceSub, wpY_isQuorum, wY_isQuorum_94, e0, ea, eb, yc_linesR, z, Nat.not_le.mpr z, decide_true, false_and]
      · simp (disch := omega) only [li_0, li_1, li_2, li_3, li_4, li_6, li_7, li_8, li_9, li_10, li_12, li_21, li_24, li_31, li_60, li_63, li_127, li_128, li_256, li_312, li_384, nI_add, nu_mul, nu_sub, nu_div, nu_and, nu_or, nu_shr, nu_bit, nu_diff, bi_2, nI_leI, nI_ltI, nI_eq, vp_in_nI, nI_clamp, ar_na, ar_ba, bo_0, bo_1, bo_it, bo_if, bo_w, bo_w0, bo_w1, bo_nar, bo_n1, bo_nn0, st_bu, st_bu1, st_bu0, st_nu, forall_eq, true_implies, false_implies, forall_const, not_true_eq_false, not_false_eq_true, and_true, true_and, implies_true, and_self, Bool.false_eq_true, Bool.true_eq_false, reduceCtorEq, ite_true, ite_false, if_true, if_false, eq_self, Nat.zero_add, Nat.add_zero, Nat.le_refl, Nat.lt_irrefl, Nat.reduceEqDiff, Nat.reduceLeDiff, Nat.reduceLT, Nat.reduceAdd, Nat.reduceMul, Nat.reduceSub, wpY_isQuorum, wY_isQuorum_94, e0, ea, eb, yc_linesR, z, Nat.le_of_not_lt z, decide_false, false_and]
    · by_cases z : 1 ≤ gr_ln a b false t
      · simp (disch := omega) only [li_0, li_1, li_2, li_3, li_4, li_6, li_7, li_8, li_9, li_10, li_12, li_21, li_24, li_31, li_60, li_63, li_127, li_128, li_256, li_312, li_384, nI_add, nu_mul, nu_sub, nu_div, nu_and, nu_or, nu_shr, nu_bit, nu_diff, bi_2, nI_leI, nI_ltI, nI_eq, vp_in_nI, nI_clamp, ar_na, ar_ba, bo_0, bo_1, bo_it, bo_if, bo_w, bo_w0, bo_w1, bo_nar, bo_n1, bo_nn0, st_bu, st_bu1, st_bu0, st_nu, forall_eq, true_implies, false_implies, forall_const, not_true_eq_false, not_false_eq_true, and_true, true_and, implies_true, and_self, Bool.false_eq_true, Bool.true_eq_false, reduceCtorEq, ite_true, ite_false, if_true, if_false, eq_self, Nat.zero_add, Nat.add_zero, Nat.le_refl, Nat.lt_irrefl, Nat.reduceEqDiff, Nat.reduceLeDiff, Nat.reduceLT, Nat.reduceAdd, Nat.reduceMul, Nat.reduceSub, wpY_isQuorum, wY_isQuorum_94, wY_isQuorum_150, e0, ea, eb, yc_linesC, z, Nat.not_lt.mpr z, decide_true, false_and]
      · simp (disch := omega) only [li_0, li_1, li_2, li_3, li_4, li_6, li_7, li_8, li_9, li_10, li_12, li_21, li_24, li_31, li_60, li_63, li_127, li_128, li_256, li_312, li_384, nI_add, nu_mul, nu_sub, nu_div, nu_and, nu_or, nu_shr, nu_bit, nu_diff, bi_2, nI_leI, nI_ltI, nI_eq, vp_in_nI, nI_clamp, ar_na, ar_ba, bo_0, bo_1, bo_it, bo_if, bo_w, bo_w0, bo_w1, bo_nar, bo_n1, bo_nn0, st_bu, st_bu1, st_bu0, st_nu, forall_eq, true_implies, false_implies, forall_const, not_true_eq_false, not_false_eq_true, and_true, true_and, implies_true, and_self, Bool.false_eq_true, Bool.true_eq_false, reduceCtorEq, ite_true, ite_false, if_true, if_false, eq_self, Nat.zero_add, Nat.add_zero, Nat.le_refl, Nat.lt_irrefl, Nat.reduceEqDiff, Nat.reduceLeDiff, Nat.reduceLT, Nat.reduceAdd, Nat.reduceMul, Nat.reduceSub, wpY_isQuorum, wY_isQuorum_94, wY_isQuorum_150, e0, ea, eb, yc_linesC, z, Nat.lt_of_not_le z, decide_false, false_and]
    · by_cases z0 : num (4 * s + 3) = nI 0
      · simp (disch := omega) only [li_0, li_1, li_2, li_3, li_4, li_6, li_7, li_8, li_9, li_10, li_12, li_21, li_24, li_31, li_60, li_63, li_127, li_128, li_256, li_312, li_384, nI_add, nu_mul, nu_sub, nu_div, nu_and, nu_or, nu_shr, nu_bit, nu_diff, bi_2, nI_leI, nI_ltI, nI_eq, vp_in_nI, nI_clamp, ar_na, ar_ba, bo_0, bo_1, bo_it, bo_if, bo_w, bo_w0, bo_w1, bo_nar, bo_n1, bo_nn0, st_bu, st_bu1, st_bu0, st_nu, forall_eq, true_implies, false_implies, forall_const, not_true_eq_false, not_false_eq_true, and_true, true_and, implies_true, and_self, Bool.false_eq_true, Bool.true_eq_false, reduceCtorEq, ite_true, ite_false, if_true, if_false, eq_self, Nat.zero_add, Nat.add_zero, Nat.le_refl, Nat.lt_irrefl, Nat.reduceEqDiff, Nat.reduceLeDiff, Nat.reduceLT, Nat.reduceAdd, Nat.reduceMul, Nat.reduceSub, wpY_isQuorum, wY_isQuorum_94, wY_isQuorum_150, e0, ea, eb, z0]
      · by_cases z : b - 1 ≤ gr_ln a b false t
        · simp (disch := omega) only [li_0, li_1, li_2, li_3, li_4, li_6, li_7, li_8, li_9, li_10, li_12, li_21, li_24, li_31, li_60, li_63, li_127, li_128, li_256, li_312, li_384, nI_add, nu_mul, nu_sub, nu_div, nu_and, nu_or, nu_shr, nu_bit, nu_diff, bi_2, nI_leI, nI_ltI, nI_eq, vp_in_nI, nI_clamp, ar_na, ar_ba, bo_0, bo_1, bo_it, bo_if, bo_w, bo_w0, bo_w1, bo_nar, bo_n1, bo_nn0, st_bu, st_bu1, st_bu0, st_nu, forall_eq, true_implies, false_implies, forall_const, not_true_eq_false, not_false_eq_true, and_true, true_and, implies_true, and_self, Bool.false_eq_true, Bool.true_eq_false, reduceCtorEq, ite_true, ite_false, if_true, if_false, eq_self, Nat.zero_add, Nat.add_zero, Nat.le_refl, Nat.lt_irrefl, Nat.reduceEqDiff, Nat.reduceLeDiff, Nat.reduceLT, Nat.reduceAdd, Nat.reduceMul, Nat.reduceSub, wpY_isQuorum, wY_isQuorum_94, wY_isQuorum_150, e0, ea, eb, yc_linesC, z, z0, Nat.not_lt.mpr z, decide_true, and_false]
        · simp (disch := omega) only [li_0, li_1, li_2, li_3, li_4, li_6, li_7, li_8, li_9, li_10, li_12, li_21, li_24, li_31, li_60, li_63, li_127, li_128, li_256, li_312, li_384, nI_add, nu_mul, nu_sub, nu_div, nu_and, nu_or, nu_shr, nu_bit, nu_diff, bi_2, nI_leI, nI_ltI, nI_eq, vp_in_nI, nI_clamp, ar_na, ar_ba, bo_0, bo_1, bo_it, bo_if, bo_w, bo_w0, bo_w1, bo_nar, bo_n1, bo_nn0, st_bu, st_bu1, st_bu0, st_nu, forall_eq, true_implies, false_implies, forall_const, not_true_eq_false, not_false_eq_true, and_true, true_and, implies_true, and_self, Bool.false_eq_true, Bool.true_eq_false, reduceCtorEq, ite_true, ite_false, if_true, if_false, eq_self, Nat.zero_add, Nat.add_zero, Nat.le_refl, Nat.lt_irrefl, Nat.reduceEqDiff, Nat.reduceLeDiff, Nat.reduceLT, Nat.reduceAdd, Nat.reduceMul, Nat.reduceSub, wpY_isQuorum, wY_isQuorum_94, wY_isQuorum_150, e0, ea, eb, yc_linesC, z, z0, Nat.lt_of_not_le z, decide_false, and_false]
  · obtain ⟨h1, h2, h3, h4, h5, h6⟩ := h
    rw [e0, ea, eb, ec, ed, qf_2 (by omega) (by omega) (by omega) (by omega) (by omega) (by omega) hk]
    have hz := wt_le a t
    rcases (by omega : k = 0 ∨ k = 1 ∨ k = 2) with rfl | rfl | rfl
    · have hb0 : 0 < b := h2
      by_cases z : b ≤ wt_ a t
      · simp (disch := omega) only [li_0, li_1, li_2, li_3, li_4, li_6, li_7, li_8, li_9, li_10, li_12, li_21, li_24, li_31, li_60, li_63, li_127, li_128, li_256, li_312, li_384, nI_add, nu_mul, nu_sub, nu_div, nu_and, nu_or, nu_shr, nu_bit, nu_diff, bi_2, nI_leI, nI_ltI, nI_eq, vp_in_nI, nI_clamp, ar_na, ar_ba, bo_0, bo_1, bo_it, bo_if, bo_w, bo_w0, bo_w1, bo_nar, bo_n1, bo_nn0, st_bu, st_bu1, st_bu0, st_nu, forall_eq, true_implies, false_implies, forall_const, not_true_eq_false, not_false_eq_true, and_true, true_and, implies_true, and_self, Bool.false_eq_true, Bool.true_eq_false, reduceCtorEq, ite_true, ite_false, if_true, if_false, eq_self, Nat.zero_add, Nat.add_zero, Nat.le_refl, Nat.lt_irrefl, Nat.reduceEqDiff, Nat.reduceLeDiff, Nat.reduceLT, Nat.reduceAdd, Nat.reduceMul, Nat.reduceSub, wpY_isQuorum, wY_isQuorum_94, wY_isQuorum_180, wY_isQuorum_207, e0, ea, eb, ec, ed, yc_weight, z, Nat.not_lt.mpr z, hb0, decide_true, Bool.and_self]
      · simp (disch := omega) only [li_0, li_1, li_2, li_3, li_4, li_6, li_7, li_8, li_9, li_10, li_12, li_21, li_24, li_31, li_60, li_63, li_127, li_128, li_256, li_312, li_384, nI_add, nu_mul, nu_sub, nu_div, nu_and, nu_or, nu_shr, nu_bit, nu_diff, bi_2, nI_leI, nI_ltI, nI_eq, vp_in_nI, nI_clamp, ar_na, ar_ba, bo_0, bo_1, bo_it, bo_if, bo_w, bo_w0, bo_w1, bo_nar, bo_n1, bo_nn0, st_bu, st_bu1, st_bu0, st_nu, forall_eq, true_implies, false_implies, forall_const, not_true_eq_false, not_false_eq_true, and_true, true_and, implies_true, and_self, Bool.false_eq_true, Bool.true_eq_false, reduceCtorEq, ite_true, ite_false, if_true, if_false, eq_self, Nat.zero_add, Nat.add_zero, Nat.le_refl, Nat.lt_irrefl, Nat.reduceEqDiff, Nat.reduceLeDiff, Nat.reduceLT, Nat.reduceAdd, Nat.reduceMul, Nat.reduceSub, wpY_isQuorum, wY_isQuorum_94, wY_isQuorum_180, wY_isQuorum_207, e0, ea, eb, ec, ed, yc_weight, z, Nat.lt_of_not_le z, decide_false, Bool.and_false]
    · have hc0 : 0 < c := h4
      by_cases z : c ≤ wt_ a t
      · simp (disch := omega) only [li_0, li_1, li_2, li_3, li_4, li_6, li_7, li_8, li_9, li_10, li_12, li_21, li_24, li_31, li_60, li_63, li_127, li_128, li_256, li_312, li_384, nI_add, nu_mul, nu_sub, nu_div, nu_and, nu_or, nu_shr, nu_bit, nu_diff, bi_2, nI_leI, nI_ltI, nI_eq, vp_in_nI, nI_clamp, ar_na, ar_ba, bo_0, bo_1, bo_it, bo_if, bo_w, bo_w0, bo_w1, bo_nar, bo_n1, bo_nn0, st_bu, st_bu1, st_bu0, st_nu, forall_eq, true_implies, false_implies, forall_const, not_true_eq_false, not_false_eq_true, and_true, true_and, implies_true, and_self, Bool.false_eq_true, Bool.true_eq_false, reduceCtorEq, ite_true, ite_false, if_true, if_false, eq_self, Nat.zero_add, Nat.add_zero, Nat.le_refl, Nat.lt_irrefl, Nat.reduceEqDiff, Nat.reduceLeDiff, Nat.reduceLT, Nat.reduceAdd, Nat.reduceMul, Nat.reduceSub, wpY_isQuorum, wY_isQuorum_94, wY_isQuorum_180, wY_isQuorum_207, e0, ea, eb, ec, ed, yc_weight, z, Nat.not_lt.mpr z, hc0, decide_true, Bool.and_self]
      · simp (disch := omega) only [li_0, li_1, li_2, li_3, li_4, li_6, li_7, li_8, li_9, li_10, li_12, li_21, li_24, li_31, li_60, li_63, li_127, li_128, li_256, li_312, li_384, nI_add, nu_mul, nu_sub, nu_div, nu_and, nu_or, nu_shr, nu_bit, nu_diff, bi_2, nI_leI, nI_ltI, nI_eq, vp_in_nI, nI_clamp, ar_na, ar_ba, bo_0, bo_1, bo_it, bo_if, bo_w, bo_w0, bo_w1, bo_nar, bo_n1, bo_nn0, st_bu, st_bu1, st_bu0, st_nu, forall_eq, true_implies, false_implies, forall_const, not_true_eq_false, not_false_eq_true, and_true, true_and, implies_true, and_self, Bool.false_eq_true, Bool.true_eq_false, reduceCtorEq, ite_true, ite_false, if_true, if_false, eq_self, Nat.zero_add, Nat.add_zero, Nat.le_refl, Nat.lt_irrefl, Nat.reduceEqDiff, Nat.reduceLeDiff, Nat.reduceLT, Nat.reduceAdd, Nat.reduceMul, Nat.reduceSub, wpY_isQuorum, wY_isQuorum_94, wY_isQuorum_180, wY_isQuorum_207, e0, ea, eb, ec, ed, yc_weight, z, Nat.lt_of_not_le z, decide_false, Bool.and_false]
    · by_cases z0 : d = 0
      · subst z0
        simp (disch := omega) only [li_0, li_1, li_2, li_3, li_4, li_6, li_7, li_8, li_9, li_10, li_12, li_21, li_24, li_31, li_60, li_63, li_127, li_128, li_256, li_312, li_384, nI_add, nu_mul, nu_sub, nu_div, nu_and, nu_or, nu_shr, nu_bit, nu_diff, bi_2, nI_leI, nI_ltI, nI_eq, vp_in_nI, nI_clamp, ar_na, ar_ba, bo_0, bo_1, bo_it, bo_if, bo_w, bo_w0, bo_w1, bo_nar, bo_n1, bo_nn0, st_bu, st_bu1, st_bu0, st_nu, forall_eq, true_implies, false_implies, forall_const, not_true_eq_false, not_false_eq_true, and_true, true_and, implies_true, and_self, Bool.false_eq_true, Bool.true_eq_false, reduceCtorEq, ite_true, ite_false, if_true, if_false, eq_self, Nat.zero_add, Nat.add_zero, Nat.le_refl, Nat.lt_irrefl, Nat.reduceEqDiff, Nat.reduceLeDiff, Nat.reduceLT, Nat.reduceAdd, Nat.reduceMul, Nat.reduceSub, wpY_isQuorum, wY_isQuorum_94, wY_isQuorum_180, wY_isQuorum_207, e0, ea, eb, ec, ed, decide_false, Bool.false_and]
      · have hd0 : 0 < d := Nat.pos_of_ne_zero z0
        by_cases z : d ≤ wt_ a t
        · simp (disch := omega) only [li_0, li_1, li_2, li_3, li_4, li_6, li_7, li_8, li_9, li_10, li_12, li_21, li_24, li_31, li_60, li_63, li_127, li_128, li_256, li_312, li_384, nI_add, nu_mul, nu_sub, nu_div, nu_and, nu_or, nu_shr, nu_bit, nu_diff, bi_2, nI_leI, nI_ltI, nI_eq, vp_in_nI, nI_clamp, ar_na, ar_ba, bo_0, bo_1, bo_it, bo_if, bo_w, bo_w0, bo_w1, bo_nar, bo_n1, bo_nn0, st_bu, st_bu1, st_bu0, st_nu, forall_eq, true_implies, false_implies, forall_const, not_true_eq_false, not_false_eq_true, and_true, true_and, implies_true, and_self, Bool.false_eq_true, Bool.true_eq_false, reduceCtorEq, ite_true, ite_false, if_true, if_false, eq_self, Nat.zero_add, Nat.add_zero, Nat.le_refl, Nat.lt_irrefl, Nat.reduceEqDiff, Nat.reduceLeDiff, Nat.reduceLT, Nat.reduceAdd, Nat.reduceMul, Nat.reduceSub, wpY_isQuorum, wY_isQuorum_94, wY_isQuorum_180, wY_isQuorum_207, e0, ea, eb, ec, ed, yc_weight, z, z0, Nat.not_lt.mpr z, hd0, decide_true, Bool.and_self]
        · simp (disch := omega) only [li_0, li_1, li_2, li_3, li_4, li_6, li_7, li_8, li_9, li_10, li_12, li_21, li_24, li_31, li_60, li_63, li_127, li_128, li_256, li_312, li_384, nI_add, nu_mul, nu_sub, nu_div, nu_and, nu_or, nu_shr, nu_bit, nu_diff, bi_2, nI_leI, nI_ltI, nI_eq, vp_in_nI, nI_clamp, ar_na, ar_ba, bo_0, bo_1, bo_it, bo_if, bo_w, bo_w0, bo_w1, bo_nar, bo_n1, bo_nn0, st_bu, st_bu1, st_bu0, st_nu, forall_eq, true_implies, false_implies, forall_const, not_true_eq_false, not_false_eq_true, and_true, true_and, implies_true, and_self, Bool.false_eq_true, Bool.true_eq_false, reduceCtorEq, ite_true, ite_false, if_true, if_false, eq_self, Nat.zero_add, Nat.add_zero, Nat.le_refl, Nat.lt_irrefl, Nat.reduceEqDiff, Nat.reduceLeDiff, Nat.reduceLT, Nat.reduceAdd, Nat.reduceMul, Nat.reduceSub, wpY_isQuorum, wY_isQuorum_94, wY_isQuorum_180, wY_isQuorum_207, e0, ea, eb, ec, ed, yc_weight, z, z0, Nat.lt_of_not_le z, decide_false, Bool.and_false]
  · obtain ⟨h1, h2, h3⟩ := h
    rw [e0, ea, eb, ec, qf_3 (by omega) (by omega) (by omega)]
    rcases (by omega : k = 0 ∨ k = 1 ∨ k = 2) with rfl | rfl | rfl
    · simp (disch := omega) only [li_0, li_1, li_2, li_3, li_4, li_6, li_7, li_8, li_9, li_10, li_12, li_21, li_24, li_31, li_60, li_63, li_127, li_128, li_256, li_312, li_384, nI_add, nu_mul, nu_sub, nu_div, nu_and, nu_or, nu_shr, nu_bit, nu_diff, bi_2, nI_leI, nI_ltI, nI_eq, vp_in_nI, nI_clamp, ar_na, ar_ba, bo_0, bo_1, bo_it, bo_if, bo_w, bo_w0, bo_w1, bo_nar, bo_n1, bo_nn0, st_bu, st_bu1, st_bu0, st_nu, forall_eq, true_implies, false_implies, forall_const, not_true_eq_false, not_false_eq_true, and_true, true_and, implies_true, and_self, Bool.false_eq_true, Bool.true_eq_false, reduceCtorEq, ite_true, ite_false, if_true, if_false, eq_self, Nat.zero_add, Nat.add_zero, Nat.le_refl, Nat.lt_irrefl, Nat.reduceEqDiff, Nat.reduceLeDiff, Nat.reduceLT, Nat.reduceAdd, Nat.reduceMul, Nat.reduceSub, wpY_isQuorum, wY_isQuorum_77, e0, ea, eb, ec, yc_contains]
    · simp (disch := omega) only [li_0, li_1, li_2, li_3, li_4, li_6, li_7, li_8, li_9, li_10, li_12, li_21, li_24, li_31, li_60, li_63, li_127, li_128, li_256, li_312, li_384, nI_add, nu_mul, nu_sub, nu_div, nu_and, nu_or, nu_shr, nu_bit, nu_diff, bi_2, nI_leI, nI_ltI, nI_eq, vp_in_nI, nI_clamp, ar_na, ar_ba, bo_0, bo_1, bo_it, bo_if, bo_w, bo_w0, bo_w1, bo_nar, bo_n1, bo_nn0, st_bu, st_bu1, st_bu0, st_nu, forall_eq, true_implies, false_implies, forall_const, not_true_eq_false, not_false_eq_true, and_true, true_and, implies_true, and_self, Bool.false_eq_true, Bool.true_eq_false, reduceCtorEq, ite_true, ite_false, if_true, if_false, eq_self, Nat.zero_add, Nat.add_zero, Nat.le_refl, Nat.lt_irrefl, Nat.reduceEqDiff, Nat.reduceLeDiff, Nat.reduceLT, Nat.reduceAdd, Nat.reduceMul, Nat.reduceSub, wpY_isQuorum, wY_isQuorum_77, e0, ea, eb, ec, yc_contains]
    · simp (disch := omega) only [li_0, li_1, li_2, li_3, li_4, li_6, li_7, li_8, li_9, li_10, li_12, li_21, li_24, li_31, li_60, li_63, li_127, li_128, li_256, li_312, li_384, nI_add, nu_mul, nu_sub, nu_div, nu_and, nu_or, nu_shr, nu_bit, nu_diff, bi_2, nI_leI, nI_ltI, nI_eq, vp_in_nI, nI_clamp, ar_na, ar_ba, bo_0, bo_1, bo_it, bo_if, bo_w, bo_w0, bo_w1, bo_nar, bo_n1, bo_nn0, st_bu, st_bu1, st_bu0, st_nu, forall_eq, true_implies, false_implies, forall_const, not_true_eq_false, not_false_eq_true, and_true, true_and, implies_true, and_self, Bool.false_eq_true, Bool.true_eq_false, reduceCtorEq, ite_true, ite_false, if_true, if_false, eq_self, Nat.zero_add, Nat.add_zero, Nat.le_refl, Nat.lt_irrefl, Nat.reduceEqDiff, Nat.reduceLeDiff, Nat.reduceLT, Nat.reduceAdd, Nat.reduceMul, Nat.reduceSub, wpY_isQuorum, wY_isQuorum_77, e0, ea, eb, ec, yc_contains]
end
end
section
/-! the component's layouts of a trial -/
theorem lo_st {base : Nat} {g : Nat → Bool} : ∀ d i (tb : Nat → Bool) j, lo_f (fun t tb => st_b tb (base + t) (g t)) d i tb j = if base + i ≤ j ∧ j < base + i + d then g (j - base) else tb j
  | 0, i, tb, j => by unfold lo_f; rw [if_neg (by omega)]
  | d + 1, i, tb, j => by
    unfold lo_f
    rw [lo_st d (i + 1)]
    by_cases h : base + (i + 1) ≤ j ∧ j < base + (i + 1) + d
    · rw [if_pos h, if_pos (by omega)]
    · rw [if_neg h]
      by_cases e : j = base + i
      · subst e; rw [st_beq, if_pos (by omega), Nat.add_sub_cancel_left]
      · rw [st_bne e, if_neg (by omega)]
def tz_ (k : Nat) (g : Nat → Bool) (tb : Nat → Bool) : Nat → Bool := lo_f (fun t tb => st_b tb (k * 128 + t) (g t)) 128 0 tb
theorem tz_in {k t : Nat} {g tb : Nat → Bool} (ht : t < 128) : tz_ k g tb (k * 128 + t) = g t := by
  unfold tz_; rw [lo_st, if_pos (by omega), Nat.add_sub_cancel_left]
theorem tz_out {k j : Nat} {g tb : Nat → Bool} (h : j < k * 128 ∨ k * 128 + 128 ≤ j) : tz_ k g tb j = tb j := by
  unfold tz_; rw [lo_st, if_neg (by omega)]
theorem tz_3 {g0 g1 g2 tb : Nat → Bool} {k t : Nat} (hk : k < 3) (ht : t < 128) : tz_ 2 g2 (tz_ 1 g1 (tz_ 0 g0 tb)) (k * 128 + t) = if k = 0 then g0 t else if k = 1 then g1 t else g2 t := by
  rcases (by omega : k = 0 ∨ k = 1 ∨ k = 2) with rfl | rfl | rfl
  · rw [tz_out (by omega), tz_out (by omega), tz_in ht]; rfl
  · rw [tz_out (by omega), tz_in ht]; rfl
  · rw [tz_in ht]; rfl
section
variable {bg : Nat} {df iq tb up fa co fr dn : Nat → Bool} {op ov sp sv qb qi qj qv ql so ba an pk kv vo kn : Nat → Nat} {srt num : Nat → Int32}
variable {post : SX → Prop} {a k l t r c w : Nat}
theorem xc_layOutCount (hk : k < 3) (ha : a < 128) (hl : l ≤ 7) : wpX_layOutCount post (nI bg, ar_b df, ar_b iq, ar_b tb, ar_b up, ar_n op, ar_n ov, ar_n sp, ar_n sv, ar_n qb, ar_n qi, ar_n qv, ar_n ql, ar_n so, ar_b fa, ar_n ba, ar_n an, ar_b co, pc_x pk, ar_b fr, ar_n kv, ar_n vo, ar_n kn) (nI k) (nI a) (nI l) ↔ post (nI bg, ar_b df, ar_b iq, ar_b (tz_ k (fun t => decide (0 < l) && decide (l ≤ sz_ (t &&& a))) tb), ar_b up, ar_n op, ar_n ov, ar_n sp, ar_n sv, ar_n qb, ar_n qi, ar_n qv, ar_n ql, ar_n so, ar_b fa, ar_n ba, ar_n an, ar_b co, pc_x pk, ar_b fr, ar_n kv, ar_n vo, ar_n kn) := by
  simp only [wpX_layOutCount]
  refine lo_fold (W := fun n i tb => wX_layOutCount_3 post (nI k) (nI a) (nI l) (nI bg) n (nI i) (ar_b df) (ar_b iq) (ar_b tb) (ar_b up) (ar_n op) (ar_n ov) (ar_n sp) (ar_n sv) (ar_n qb) (ar_n qi) (ar_n qv) (ar_n ql) (ar_n so) (ar_b fa) (ar_n ba) (ar_n an) (ar_b co) (pc_x pk) (ar_b fr) (ar_n kv) (ar_n vo) (ar_n kn)) (fin := fun tb => post (nI bg, ar_b df, ar_b iq, ar_b tb, ar_b up, ar_n op, ar_n ov, ar_n sp, ar_n sv, ar_n qb, ar_n qi, ar_n qv, ar_n ql, ar_n so, ar_b fa, ar_n ba, ar_n an, ar_b co, pc_x pk, ar_b fr, ar_n kv, ar_n vo, ar_n kn)) (I := fun _ _ => True) (e := 128) (fun t tb => st_b tb (k * 128 + t) (decide (0 < l) && decide (l ≤ sz_ (t &&& a)))) (fun _ _ h => h) (fun _ _ _ _ => trivial) ?_ ?_ 128 0 tb rfl trivial
  · intro n tb _
    simp (disch := omega) only [li_0, li_1, li_2, li_3, li_4, li_6, li_7, li_8, li_9, li_10, li_12, li_21, li_24, li_31, li_60, li_63, li_127, li_128, li_256, li_312, li_384, nI_add, nu_mul, nu_sub, nu_div, nu_and, nu_or, nu_shr, nu_bit, nu_diff, bi_2, nI_leI, nI_ltI, nI_eq, vp_in_nI, nI_clamp, ar_na, ar_ba, bo_0, bo_1, bo_it, bo_if, bo_w, bo_w0, bo_w1, bo_nar, bo_n1, bo_nn0, st_bu, st_bu1, st_bu0, st_nu, forall_eq, true_implies, false_implies, forall_const, not_true_eq_false, not_false_eq_true, and_true, true_and, implies_true, and_self, Bool.false_eq_true, Bool.true_eq_false, reduceCtorEq, ite_true, ite_false, if_true, if_false, eq_self, Nat.zero_add, Nat.add_zero, Nat.le_refl, Nat.lt_irrefl, Nat.reduceEqDiff, Nat.reduceLeDiff, Nat.reduceLT, Nat.reduceAdd, Nat.reduceMul, Nat.reduceSub, wX_layOutCount_3]
  · intro n i tb hi _
    have hz := sz_7 (i &&& a)
    have hia : i &&& a < 128 := nu_and7 hi
    by_cases h0 : l = 0
    · subst h0
      simp (disch := omega) only [li_0, li_1, li_2, li_3, li_4, li_6, li_7, li_8, li_9, li_10, li_12, li_21, li_24, li_31, li_60, li_63, li_127, li_128, li_256, li_312, li_384, nI_add, nu_mul, nu_sub, nu_div, nu_and, nu_or, nu_shr, nu_bit, nu_diff, bi_2, nI_leI, nI_ltI, nI_eq, vp_in_nI, nI_clamp, ar_na, ar_ba, bo_0, bo_1, bo_it, bo_if, bo_w, bo_w0, bo_w1, bo_nar, bo_n1, bo_nn0, st_bu, st_bu1, st_bu0, st_nu, forall_eq, true_implies, false_implies, forall_const, not_true_eq_false, not_false_eq_true, and_true, true_and, implies_true, and_self, Bool.false_eq_true, Bool.true_eq_false, reduceCtorEq, ite_true, ite_false, if_true, if_false, eq_self, Nat.zero_add, Nat.add_zero, Nat.le_refl, Nat.lt_irrefl, Nat.reduceEqDiff, Nat.reduceLeDiff, Nat.reduceLT, Nat.reduceAdd, Nat.reduceMul, Nat.reduceSub, wX_layOutCount_3, Nat.not_le.mpr hi, decide_false, Bool.false_and]
    · have hl0 : 0 < l := Nat.pos_of_ne_zero h0
      by_cases z : l ≤ sz_ (i &&& a)
      · simp (disch := omega) only [li_0, li_1, li_2, li_3, li_4, li_6, li_7, li_8, li_9, li_10, li_12, li_21, li_24, li_31, li_60, li_63, li_127, li_128, li_256, li_312, li_384, nI_add, nu_mul, nu_sub, nu_div, nu_and, nu_or, nu_shr, nu_bit, nu_diff, bi_2, nI_leI, nI_ltI, nI_eq, vp_in_nI, nI_clamp, ar_na, ar_ba, bo_0, bo_1, bo_it, bo_if, bo_w, bo_w0, bo_w1, bo_nar, bo_n1, bo_nn0, st_bu, st_bu1, st_bu0, st_nu, forall_eq, true_implies, false_implies, forall_const, not_true_eq_false, not_false_eq_true, and_true, true_and, implies_true, and_self, Bool.false_eq_true, Bool.true_eq_false, reduceCtorEq, ite_true, ite_false, if_true, if_false, eq_self, Nat.zero_add, Nat.add_zero, Nat.le_refl, Nat.lt_irrefl, Nat.reduceEqDiff, Nat.reduceLeDiff, Nat.reduceLT, Nat.reduceAdd, Nat.reduceMul, Nat.reduceSub, wX_layOutCount_3, Nat.not_le.mpr hi, Nat.not_le.mpr hl0, xc_sizeOf, z, hl0, Nat.not_lt.mpr z, decide_true, Bool.and_self]
      · simp (disch := omega) only [li_0, li_1, li_2, li_3, li_4, li_6, li_7, li_8, li_9, li_10, li_12, li_21, li_24, li_31, li_60, li_63, li_127, li_128, li_256, li_312, li_384, nI_add, nu_mul, nu_sub, nu_div, nu_and, nu_or, nu_shr, nu_bit, nu_diff, bi_2, nI_leI, nI_ltI, nI_eq, vp_in_nI, nI_clamp, ar_na, ar_ba, bo_0, bo_1, bo_it, bo_if, bo_w, bo_w0, bo_w1, bo_nar, bo_n1, bo_nn0, st_bu, st_bu1, st_bu0, st_nu, forall_eq, true_implies, false_implies, forall_const, not_true_eq_false, not_false_eq_true, and_true, true_and, implies_true, and_self, Bool.false_eq_true, Bool.true_eq_false, reduceCtorEq, ite_true, ite_false, if_true, if_false, eq_self, Nat.zero_add, Nat.add_zero, Nat.le_refl, Nat.lt_irrefl, Nat.reduceEqDiff, Nat.reduceLeDiff, Nat.reduceLT, Nat.reduceAdd, Nat.reduceMul, Nat.reduceSub, wX_layOutCount_3, Nat.not_le.mpr hi, Nat.not_le.mpr hl0, xc_sizeOf, z, Nat.lt_of_not_le z, decide_false, Bool.and_false]
theorem rw_lt {c i : Nat} (h : c * i + c ≤ 7) : (2 ^ c - 1) * 2 ^ (c * i) < 128 := by
  have h1 : (2 ^ c - 1) * 2 ^ (c * i) ≤ 2 ^ c * 2 ^ (c * i) := Nat.mul_le_mul_right _ (Nat.sub_le _ _)
  have h2 : 2 ^ c * 2 ^ (c * i) ≤ 2 ^ 7 := by
    rw [← Nat.pow_add]; exact Nat.pow_le_pow_right (by decide) (by omega)
  have h3 : (2 ^ c - 1) * 2 ^ (c * i) < 2 ^ c * 2 ^ (c * i) := Nat.mul_lt_mul_of_pos_right (Nat.sub_lt (Nat.two_pow_pos c) (by decide)) (Nat.two_pow_pos _)
  omega
theorem xc_layOutRows1 {J : Int32 → (Nat → Int32) → (Nat → Int32) → (Nat → Int32) → (Nat → Int32) → (Nat → Int32) → (Nat → Int32) → (Nat → Int32) → (Nat → Int32) → (Nat → Int32) → (Nat → Int32) → (Nat → Int32) → (Nat → Int32) → (Nat → Int32) → (Nat → Int32) → (Nat → Int32) → (Nat → Int32) → (Nat → Int32) → (Nat → Int32) → (Nat → Int32) → (Nat → Int32) → (Nat → Int32) → (Nat → Int32) → Prop} (hr : r ≤ 7) (hc : 1 ≤ c) (hrc : r * c ≤ 7) (ht : t < 128) : (∃ n, wX_layOutRows_15 post J (nI r) (nI c) (nI t) (nI bg) (ar_b df) (ar_b iq) (ar_b tb) (ar_b up) (ar_n op) (ar_n ov) (ar_n sp) (ar_n sv) (ar_n qb) (ar_n qi) (ar_n qv) (ar_n ql) (ar_n so) (ar_b fa) (ar_n ba) (ar_n an) (ar_b co) (pc_x pk) (ar_b fr) (ar_n kv) (ar_n vo) (ar_n kn) n (nI 0) (nI 0)) ↔ J (nI (t + 1)) (ar_b df) (ar_b iq) (ar_b (st_b tb (0 * 128 + t) (gr_row r c t))) (ar_b up) (ar_n op) (ar_n ov) (ar_n sp) (ar_n sv) (ar_n qb) (ar_n qi) (ar_n qv) (ar_n ql) (ar_n so) (ar_b fa) (ar_n ba) (ar_n an) (ar_b co) (pc_x pk) (ar_b fr) (ar_n kv) (ar_n vo) (ar_n kn) := by
  refine lo_fold (W := fun n i a => wX_layOutRows_15 post J (nI r) (nI c) (nI t) (nI bg) (ar_b df) (ar_b iq) (ar_b tb) (ar_b up) (ar_n op) (ar_n ov) (ar_n sp) (ar_n sv) (ar_n qb) (ar_n qi) (ar_n qv) (ar_n ql) (ar_n so) (ar_b fa) (ar_n ba) (ar_n an) (ar_b co) (pc_x pk) (ar_b fr) (ar_n kv) (ar_n vo) (ar_n kn) n (bo_i a) (nI i)) (fin := fun a => J (nI (t + 1)) (ar_b df) (ar_b iq) (ar_b (st_b tb (0 * 128 + t) a)) (ar_b up) (ar_n op) (ar_n ov) (ar_n sp) (ar_n sv) (ar_n qb) (ar_n qi) (ar_n qv) (ar_n ql) (ar_n so) (ar_b fa) (ar_n ba) (ar_n an) (ar_b co) (pc_x pk) (ar_b fr) (ar_n kv) (ar_n vo) (ar_n kn)) (I := fun _ _ => True) (e := r) (fun i a => a || (t &&& ((2 ^ c - 1) * 2 ^ (c * i)) == (2 ^ c - 1) * 2 ^ (c * i))) (fun _ _ h => h) (fun _ _ _ _ => trivial) ?_ ?_ r 0 false (Nat.zero_add _) trivial
  · intro n a _
    simp (disch := omega) only [li_0, li_1, li_2, li_3, li_4, li_6, li_7, li_8, li_9, li_10, li_12, li_21, li_24, li_31, li_60, li_63, li_127, li_128, li_256, li_312, li_384, nI_add, nu_mul, nu_sub, nu_div, nu_and, nu_or, nu_shr, nu_bit, nu_diff, bi_2, nI_leI, nI_ltI, nI_eq, vp_in_nI, nI_clamp, ar_na, ar_ba, bo_0, bo_1, bo_it, bo_if, bo_w, bo_w0, bo_w1, bo_nar, bo_n1, bo_nn0, st_bu, st_bu1, st_bu0, st_nu, forall_eq, true_implies, false_implies, forall_const, not_true_eq_false, not_false_eq_true, and_true, true_and, implies_true, and_self, Bool.false_eq_true, Bool.true_eq_false, reduceCtorEq, ite_true, ite_false, if_true, if_false, eq_self, Nat.zero_add, Nat.add_zero, Nat.le_refl, Nat.lt_irrefl, Nat.reduceEqDiff, Nat.reduceLeDiff, Nat.reduceLT, Nat.reduceAdd, Nat.reduceMul, Nat.reduceSub, wX_layOutRows_15, Nat.zero_mul]
  · intro n i a hi _
    have hci : c * i + c ≤ 7 := by
      have : c * (i + 1) ≤ c * r := Nat.mul_le_mul_left c hi
      rw [Nat.mul_add, Nat.mul_one, Nat.mul_comm c r] at this
      omega
    have hrow := rw_lt hci
    have hp : 0 < 2 ^ c := Nat.two_pow_pos c
    have hrow2 : t &&& (2 ^ c - 1) * 2 ^ (c * i) < 128 := nu_and7 ht
    cases a with
    | true =>
      rw [Bool.true_or]
      simp (disch := omega) only [li_0, li_1, li_2, li_3, li_4, li_6, li_7, li_8, li_9, li_10, li_12, li_21, li_24, li_31, li_60, li_63, li_127, li_128, li_256, li_312, li_384, nI_add, nu_mul, nu_sub, nu_div, nu_and, nu_or, nu_shr, nu_bit, nu_diff, bi_2, nI_leI, nI_ltI, nI_eq, vp_in_nI, nI_clamp, ar_na, ar_ba, bo_0, bo_1, bo_it, bo_if, bo_w, bo_w0, bo_w1, bo_nar, bo_n1, bo_nn0, st_bu, st_bu1, st_bu0, st_nu, forall_eq, true_implies, false_implies, forall_const, not_true_eq_false, not_false_eq_true, and_true, true_and, implies_true, and_self, Bool.false_eq_true, Bool.true_eq_false, reduceCtorEq, ite_true, ite_false, if_true, if_false, eq_self, Nat.zero_add, Nat.add_zero, Nat.le_refl, Nat.lt_irrefl, Nat.reduceEqDiff, Nat.reduceLeDiff, Nat.reduceLT, Nat.reduceAdd, Nat.reduceMul, Nat.reduceSub, wX_layOutRows_15, Nat.not_le.mpr hi]
    | false =>
      rw [Bool.false_or]
      by_cases z : t &&& (2 ^ c - 1) * 2 ^ (c * i) = (2 ^ c - 1) * 2 ^ (c * i)
      · simp (disch := omega) only [li_0, li_1, li_2, li_3, li_4, li_6, li_7, li_8, li_9, li_10, li_12, li_21, li_24, li_31, li_60, li_63, li_127, li_128, li_256, li_312, li_384, nI_add, nu_mul, nu_sub, nu_div, nu_and, nu_or, nu_shr, nu_bit, nu_diff, bi_2, nI_leI, nI_ltI, nI_eq, vp_in_nI, nI_clamp, ar_na, ar_ba, bo_0, bo_1, bo_it, bo_if, bo_w, bo_w0, bo_w1, bo_nar, bo_n1, bo_nn0, st_bu, st_bu1, st_bu0, st_nu, forall_eq, true_implies, false_implies, forall_const, not_true_eq_false, not_false_eq_true, and_true, true_and, implies_true, and_self, Bool.false_eq_true, Bool.true_eq_false, reduceCtorEq, ite_true, ite_false, if_true, if_false, eq_self, Nat.zero_add, Nat.add_zero, Nat.le_refl, Nat.lt_irrefl, Nat.reduceEqDiff, Nat.reduceLeDiff, Nat.reduceLT, Nat.reduceAdd, Nat.reduceMul, Nat.reduceSub, wX_layOutRows_15, Nat.not_le.mpr hi, nu_shl, z, beq_self_eq_true]
      · simp (disch := omega) only [li_0, li_1, li_2, li_3, li_4, li_6, li_7, li_8, li_9, li_10, li_12, li_21, li_24, li_31, li_60, li_63, li_127, li_128, li_256, li_312, li_384, nI_add, nu_mul, nu_sub, nu_div, nu_and, nu_or, nu_shr, nu_bit, nu_diff, bi_2, nI_leI, nI_ltI, nI_eq, vp_in_nI, nI_clamp, ar_na, ar_ba, bo_0, bo_1, bo_it, bo_if, bo_w, bo_w0, bo_w1, bo_nar, bo_n1, bo_nn0, st_bu, st_bu1, st_bu0, st_nu, forall_eq, true_implies, false_implies, forall_const, not_true_eq_false, not_false_eq_true, and_true, true_and, implies_true, and_self, Bool.false_eq_true, Bool.true_eq_false, reduceCtorEq, ite_true, ite_false, if_true, if_false, eq_self, Nat.zero_add, Nat.add_zero, Nat.le_refl, Nat.lt_irrefl, Nat.reduceEqDiff, Nat.reduceLeDiff, Nat.reduceLT, Nat.reduceAdd, Nat.reduceMul, Nat.reduceSub, wX_layOutRows_15, Nat.not_le.mpr hi, nu_shl, z, (beq_eq_false_iff_ne (a := t &&& (2 ^ c - 1) * 2 ^ (c * i)) (b := (2 ^ c - 1) * 2 ^ (c * i))).mpr z]
theorem xc_layOutRows (hr : r ≤ 7) (hc : 1 ≤ c) (hrc : r * c ≤ 7) : wpX_layOutRows post (nI bg, ar_b df, ar_b iq, ar_b tb, ar_b up, ar_n op, ar_n ov, ar_n sp, ar_n sv, ar_n qb, ar_n qi, ar_n qv, ar_n ql, ar_n so, ar_b fa, ar_n ba, ar_n an, ar_b co, pc_x pk, ar_b fr, ar_n kv, ar_n vo, ar_n kn) (nI r) (nI c) ↔ post (nI bg, ar_b df, ar_b iq, ar_b (tz_ 0 (gr_row r c) tb), ar_b up, ar_n op, ar_n ov, ar_n sp, ar_n sv, ar_n qb, ar_n qi, ar_n qv, ar_n ql, ar_n so, ar_b fa, ar_n ba, ar_n an, ar_b co, pc_x pk, ar_b fr, ar_n kv, ar_n vo, ar_n kn) := by
  simp only [wpX_layOutRows]
  refine lo_fold (W := fun n i tb => wX_layOutRows_2 post (nI r) (nI c) (nI bg) n (nI i) (ar_b df) (ar_b iq) (ar_b tb) (ar_b up) (ar_n op) (ar_n ov) (ar_n sp) (ar_n sv) (ar_n qb) (ar_n qi) (ar_n qv) (ar_n ql) (ar_n so) (ar_b fa) (ar_n ba) (ar_n an) (ar_b co) (pc_x pk) (ar_b fr) (ar_n kv) (ar_n vo) (ar_n kn)) (fin := fun tb => post (nI bg, ar_b df, ar_b iq, ar_b tb, ar_b up, ar_n op, ar_n ov, ar_n sp, ar_n sv, ar_n qb, ar_n qi, ar_n qv, ar_n ql, ar_n so, ar_b fa, ar_n ba, ar_n an, ar_b co, pc_x pk, ar_b fr, ar_n kv, ar_n vo, ar_n kn)) (I := fun _ _ => True) (e := 128) (fun t tb => st_b tb (0 * 128 + t) (gr_row r c t)) (fun _ _ h => h) (fun _ _ _ _ => trivial) ?_ ?_ 128 0 tb rfl trivial
  · intro n tb _
    simp (disch := omega) only [li_0, li_1, li_2, li_3, li_4, li_6, li_7, li_8, li_9, li_10, li_12, li_21, li_24, li_31, li_60, li_63, li_127, li_128, li_256, li_312, li_384, nI_add, nu_mul, nu_sub, nu_div, nu_and, nu_or, nu_shr, nu_bit, nu_diff, bi_2, nI_leI, nI_ltI, nI_eq, vp_in_nI, nI_clamp, ar_na, ar_ba, bo_0, bo_1, bo_it, bo_if, bo_w, bo_w0, bo_w1, bo_nar, bo_n1, bo_nn0, st_bu, st_bu1, st_bu0, st_nu, forall_eq, true_implies, false_implies, forall_const, not_true_eq_false, not_false_eq_true, and_true, true_and, implies_true, and_self, Bool.false_eq_true, Bool.true_eq_false, reduceCtorEq, ite_true, ite_false, if_true, if_false, eq_self, Nat.zero_add, Nat.add_zero, Nat.le_refl, Nat.lt_irrefl, Nat.reduceEqDiff, Nat.reduceLeDiff, Nat.reduceLT, Nat.reduceAdd, Nat.reduceMul, Nat.reduceSub, wX_layOutRows_2]
  · intro n i tb hi _
    simp (disch := omega) only [wX_layOutRows_2, li_0, li_128, nI_leI, Nat.not_le.mpr hi, not_false_eq_true, true_implies, false_implies, true_and]
    exact xc_layOutRows1 hr hc hrc hi
theorem xc_columnOf {post : Int32 → Prop} {j : Nat} (hr : r ≤ 7) (hj : j < c) (hrc : r * c ≤ 7) : wpX_columnOf post (nI r) (nI c) (nI j) ↔ post (nI (gr_cm r c j)) := by
  simp only [wpX_columnOf]
  refine lo_fold (W := fun n i a => wX_columnOf_5 post (nI r) (nI c) (nI j) n (nI a) (nI i)) (fin := fun a => post (nI a)) (I := fun _ _ => True) (e := r) (fun i a => a ||| 2 ^ (c * i + j)) (fun _ _ h => h) (fun _ _ _ _ => trivial) ?_ ?_ r 0 0 (Nat.zero_add _) trivial
  · intro n a _
    simp (disch := omega) only [li_0, li_1, li_2, li_3, li_4, li_6, li_7, li_8, li_9, li_10, li_12, li_21, li_24, li_31, li_60, li_63, li_127, li_128, li_256, li_312, li_384, nI_add, nu_mul, nu_sub, nu_div, nu_and, nu_or, nu_shr, nu_bit, nu_diff, bi_2, nI_leI, nI_ltI, nI_eq, vp_in_nI, nI_clamp, ar_na, ar_ba, bo_0, bo_1, bo_it, bo_if, bo_w, bo_w0, bo_w1, bo_nar, bo_n1, bo_nn0, st_bu, st_bu1, st_bu0, st_nu, forall_eq, true_implies, false_implies, forall_const, not_true_eq_false, not_false_eq_true, and_true, true_and, implies_true, and_self, Bool.false_eq_true, Bool.true_eq_false, reduceCtorEq, ite_true, ite_false, if_true, if_false, eq_self, Nat.zero_add, Nat.add_zero, Nat.le_refl, Nat.lt_irrefl, Nat.reduceEqDiff, Nat.reduceLeDiff, Nat.reduceLT, Nat.reduceAdd, Nat.reduceMul, Nat.reduceSub, wX_columnOf_5]
  · intro n i a hi _
    have hci : c * i + c ≤ 7 := by
      have : c * (i + 1) ≤ c * r := Nat.mul_le_mul_left c hi
      rw [Nat.mul_add, Nat.mul_one, Nat.mul_comm c r] at this
      omega
    simp (disch := omega) only [li_0, li_1, li_2, li_3, li_4, li_6, li_7, li_8, li_9, li_10, li_12, li_21, li_24, li_31, li_60, li_63, li_127, li_128, li_256, li_312, li_384, nI_add, nu_mul, nu_sub, nu_div, nu_and, nu_or, nu_shr, nu_bit, nu_diff, bi_2, nI_leI, nI_ltI, nI_eq, vp_in_nI, nI_clamp, ar_na, ar_ba, bo_0, bo_1, bo_it, bo_if, bo_w, bo_w0, bo_w1, bo_nar, bo_n1, bo_nn0, st_bu, st_bu1, st_bu0, st_nu, forall_eq, true_implies, false_implies, forall_const, not_true_eq_false, not_false_eq_true, and_true, true_and, implies_true, and_self, Bool.false_eq_true, Bool.true_eq_false, reduceCtorEq, ite_true, ite_false, if_true, if_false, eq_self, Nat.zero_add, Nat.add_zero, Nat.le_refl, Nat.lt_irrefl, Nat.reduceEqDiff, Nat.reduceLeDiff, Nat.reduceLT, Nat.reduceAdd, Nat.reduceMul, Nat.reduceSub, wX_columnOf_5, Nat.not_le.mpr hi]
theorem cm_lt {j : Nat} (hj : j < c) (hrc : r * c ≤ 7) : gr_cm r c j < 128 := by
  refine lo_fI (f := fun i a => a ||| 2 ^ (c * i + j)) (I := fun _ a => a < 128) r 0 0 ?_ (by decide)
  intro i a _ hi ha
  have hci : c * i + c ≤ 7 := by
    have : c * (i + 1) ≤ c * r := Nat.mul_le_mul_left c (by omega)
    rw [Nat.mul_add, Nat.mul_one, Nat.mul_comm c r] at this
    omega
  exact nu_or7 ha (nu_lt7 _ (by omega))
theorem xc_layOutColumns1 {J : Int32 → (Nat → Int32) → (Nat → Int32) → (Nat → Int32) → (Nat → Int32) → (Nat → Int32) → (Nat → Int32) → (Nat → Int32) → (Nat → Int32) → (Nat → Int32) → (Nat → Int32) → (Nat → Int32) → (Nat → Int32) → (Nat → Int32) → (Nat → Int32) → (Nat → Int32) → (Nat → Int32) → (Nat → Int32) → (Nat → Int32) → (Nat → Int32) → (Nat → Int32) → (Nat → Int32) → (Nat → Int32) → Prop} {L : Int32} {lb : Nat → Bool} (hL : (L = -nI 3 ∧ ∀ a, lb a = false) ∨ ∃ l, l ≤ 7 ∧ L = nI l ∧ ∀ a, lb a = decide (l ≤ a)) (hk : k < 3) (hr : r ≤ 7) (hc : c ≤ 7) (hrc : r * c ≤ 7) (ht : t < 128) : (∃ n, wX_layOutColumns_17 post J (nI k) (nI r) (nI c) L (nI t) (nI bg) (ar_b df) (ar_b iq) (ar_b tb) (ar_b up) (ar_n op) (ar_n ov) (ar_n sp) (ar_n sv) (ar_n qb) (ar_n qi) (ar_n qv) (ar_n ql) (ar_n so) (ar_b fa) (ar_n ba) (ar_n an) (ar_b co) (pc_x pk) (ar_b fr) (ar_n kv) (ar_n vo) (ar_n kn) n (nI 0) (nI 0)) ↔ J (nI (t + 1)) (ar_b df) (ar_b iq) (ar_b (st_b tb (k * 128 + t) (lb (gr_col r c t)))) (ar_b up) (ar_n op) (ar_n ov) (ar_n sp) (ar_n sv) (ar_n qb) (ar_n qi) (ar_n qv) (ar_n ql) (ar_n so) (ar_b fa) (ar_n ba) (ar_n an) (ar_b co) (pc_x pk) (ar_b fr) (ar_n kv) (ar_n vo) (ar_n kn) := by
  refine lo_fold (W := fun n i a => wX_layOutColumns_17 post J (nI k) (nI r) (nI c) L (nI t) (nI bg) (ar_b df) (ar_b iq) (ar_b tb) (ar_b up) (ar_n op) (ar_n ov) (ar_n sp) (ar_n sv) (ar_n qb) (ar_n qi) (ar_n qv) (ar_n ql) (ar_n so) (ar_b fa) (ar_n ba) (ar_n an) (ar_b co) (pc_x pk) (ar_b fr) (ar_n kv) (ar_n vo) (ar_n kn) n (nI a) (nI i)) (fin := fun a => J (nI (t + 1)) (ar_b df) (ar_b iq) (ar_b (st_b tb (k * 128 + t) (lb a))) (ar_b up) (ar_n op) (ar_n ov) (ar_n sp) (ar_n sv) (ar_n qb) (ar_n qi) (ar_n qv) (ar_n ql) (ar_n so) (ar_b fa) (ar_n ba) (ar_n an) (ar_b co) (pc_x pk) (ar_b fr) (ar_n kv) (ar_n vo) (ar_n kn)) (I := fun i a => a ≤ i) (e := c) (fun j a => a + if t &&& gr_cm r c j = gr_cm r c j then 1 else 0) (fun _ _ h => h) ?_ ?_ ?_ c 0 0 (Nat.zero_add _) (Nat.le_refl _)
  · intro i a _ h
    split <;> omega
  · intro n a ha
    rcases hL with ⟨rfl, hb⟩ | ⟨l, hl, rfl, hb⟩
    · simp (disch := omega) only [li_0, li_1, li_2, li_3, li_4, li_6, li_7, li_8, li_9, li_10, li_12, li_21, li_24, li_31, li_60, li_63, li_127, li_128, li_256, li_312, li_384, nI_add, nu_mul, nu_sub, nu_div, nu_and, nu_or, nu_shr, nu_bit, nu_diff, bi_2, nI_leI, nI_ltI, nI_eq, vp_in_nI, nI_clamp, ar_na, ar_ba, bo_0, bo_1, bo_it, bo_if, bo_w, bo_w0, bo_w1, bo_nar, bo_n1, bo_nn0, st_bu, st_bu1, st_bu0, st_nu, forall_eq, true_implies, false_implies, forall_const, not_true_eq_false, not_false_eq_true, and_true, true_and, implies_true, and_self, Bool.false_eq_true, Bool.true_eq_false, reduceCtorEq, ite_true, ite_false, if_true, if_false, eq_self, Nat.zero_add, Nat.add_zero, Nat.le_refl, Nat.lt_irrefl, Nat.reduceEqDiff, Nat.reduceLeDiff, Nat.reduceLT, Nat.reduceAdd, Nat.reduceMul, Nat.reduceSub, wX_layOutColumns_17, hb]
    · by_cases z : l ≤ a
      · simp (disch := omega) only [li_0, li_1, li_2, li_3, li_4, li_6, li_7, li_8, li_9, li_10, li_12, li_21, li_24, li_31, li_60, li_63, li_127, li_128, li_256, li_312, li_384, nI_add, nu_mul, nu_sub, nu_div, nu_and, nu_or, nu_shr, nu_bit, nu_diff, bi_2, nI_leI, nI_ltI, nI_eq, vp_in_nI, nI_clamp, ar_na, ar_ba, bo_0, bo_1, bo_it, bo_if, bo_w, bo_w0, bo_w1, bo_nar, bo_n1, bo_nn0, st_bu, st_bu1, st_bu0, st_nu, forall_eq, true_implies, false_implies, forall_const, not_true_eq_false, not_false_eq_true, and_true, true_and, implies_true, and_self, Bool.false_eq_true, Bool.true_eq_false, reduceCtorEq, ite_true, ite_false, if_true, if_false, eq_self, Nat.zero_add, Nat.add_zero, Nat.le_refl, Nat.lt_irrefl, Nat.reduceEqDiff, Nat.reduceLeDiff, Nat.reduceLT, Nat.reduceAdd, Nat.reduceMul, Nat.reduceSub, wX_layOutColumns_17, hb, ng_3, z, Nat.not_lt.mpr z, decide_true]
      · simp (disch := omega) only [li_0, li_1, li_2, li_3, li_4, li_6, li_7, li_8, li_9, li_10, li_12, li_21, li_24, li_31, li_60, li_63, li_127, li_128, li_256, li_312, li_384, nI_add, nu_mul, nu_sub, nu_div, nu_and, nu_or, nu_shr, nu_bit, nu_diff, bi_2, nI_leI, nI_ltI, nI_eq, vp_in_nI, nI_clamp, ar_na, ar_ba, bo_0, bo_1, bo_it, bo_if, bo_w, bo_w0, bo_w1, bo_nar, bo_n1, bo_nn0, st_bu, st_bu1, st_bu0, st_nu, forall_eq, true_implies, false_implies, forall_const, not_true_eq_false, not_false_eq_true, and_true, true_and, implies_true, and_self, Bool.false_eq_true, Bool.true_eq_false, reduceCtorEq, ite_true, ite_false, if_true, if_false, eq_self, Nat.zero_add, Nat.add_zero, Nat.le_refl, Nat.lt_irrefl, Nat.reduceEqDiff, Nat.reduceLeDiff, Nat.reduceLT, Nat.reduceAdd, Nat.reduceMul, Nat.reduceSub, wX_layOutColumns_17, hb, ng_3, z, Nat.lt_of_not_le z, decide_false]
  · intro n i a hi ha
    have hm := cm_lt hi hrc
    have hm2 : t &&& gr_cm r c i < 128 := nu_and7 ht
    by_cases z : t &&& gr_cm r c i = gr_cm r c i
    · simp (disch := omega) only [li_0, li_1, li_2, li_3, li_4, li_6, li_7, li_8, li_9, li_10, li_12, li_21, li_24, li_31, li_60, li_63, li_127, li_128, li_256, li_312, li_384, nI_add, nu_mul, nu_sub, nu_div, nu_and, nu_or, nu_shr, nu_bit, nu_diff, bi_2, nI_leI, nI_ltI, nI_eq, vp_in_nI, nI_clamp, ar_na, ar_ba, bo_0, bo_1, bo_it, bo_if, bo_w, bo_w0, bo_w1, bo_nar, bo_n1, bo_nn0, st_bu, st_bu1, st_bu0, st_nu, forall_eq, true_implies, false_implies, forall_const, not_true_eq_false, not_false_eq_true, and_true, true_and, implies_true, and_self, Bool.false_eq_true, Bool.true_eq_false, reduceCtorEq, ite_true, ite_false, if_true, if_false, eq_self, Nat.zero_add, Nat.add_zero, Nat.le_refl, Nat.lt_irrefl, Nat.reduceEqDiff, Nat.reduceLeDiff, Nat.reduceLT, Nat.reduceAdd, Nat.reduceMul, Nat.reduceSub, wX_layOutColumns_17, Nat.not_le.mpr hi, xc_columnOf, z]
    · simp (disch := omega) only [li_0, li_1, li_2, li_3, li_4, li_6, li_7, li_8, li_9, li_10, li_12, li_21, li_24, li_31, li_60, li_63, li_127, li_128, li_256, li_312, li_384, nI_add, nu_mul, nu_sub, nu_div, nu_and, nu_or, nu_shr, nu_bit, nu_diff, bi_2, nI_leI, nI_ltI, nI_eq, vp_in_nI, nI_clamp, ar_na, ar_ba, bo_0, bo_1, bo_it, bo_if, bo_w, bo_w0, bo_w1, bo_nar, bo_n1, bo_nn0, st_bu, st_bu1, st_bu0, st_nu, forall_eq, true_implies, false_implies, forall_const, not_true_eq_false, not_false_eq_true, and_true, true_and, implies_true, and_self, Bool.false_eq_true, Bool.true_eq_false, reduceCtorEq, ite_true, ite_false, if_true, if_false, eq_self, Nat.zero_add, Nat.add_zero, Nat.le_refl, Nat.lt_irrefl, Nat.reduceEqDiff, Nat.reduceLeDiff, Nat.reduceLT, Nat.reduceAdd, Nat.reduceMul, Nat.reduceSub, wX_layOutColumns_17, Nat.not_le.mpr hi, xc_columnOf, z]
theorem xc_layOutColumns {L : Int32} {lb : Nat → Bool} (hL : (L = -nI 3 ∧ ∀ a, lb a = false) ∨ ∃ l, l ≤ 7 ∧ L = nI l ∧ ∀ a, lb a = decide (l ≤ a)) (hk : k < 3) (hr : r ≤ 7) (hc : c ≤ 7) (hrc : r * c ≤ 7) : wpX_layOutColumns post (nI bg, ar_b df, ar_b iq, ar_b tb, ar_b up, ar_n op, ar_n ov, ar_n sp, ar_n sv, ar_n qb, ar_n qi, ar_n qv, ar_n ql, ar_n so, ar_b fa, ar_n ba, ar_n an, ar_b co, pc_x pk, ar_b fr, ar_n kv, ar_n vo, ar_n kn) (nI k) (nI r) (nI c) L ↔ post (nI bg, ar_b df, ar_b iq, ar_b (tz_ k (fun t => lb (gr_col r c t)) tb), ar_b up, ar_n op, ar_n ov, ar_n sp, ar_n sv, ar_n qb, ar_n qi, ar_n qv, ar_n ql, ar_n so, ar_b fa, ar_n ba, ar_n an, ar_b co, pc_x pk, ar_b fr, ar_n kv, ar_n vo, ar_n kn) := by
  simp only [wpX_layOutColumns]
  refine lo_fold (W := fun n i tb => wX_layOutColumns_3 post (nI k) (nI r) (nI c) L (nI bg) n (nI i) (ar_b df) (ar_b iq) (ar_b tb) (ar_b up) (ar_n op) (ar_n ov) (ar_n sp) (ar_n sv) (ar_n qb) (ar_n qi) (ar_n qv) (ar_n ql) (ar_n so) (ar_b fa) (ar_n ba) (ar_n an) (ar_b co) (pc_x pk) (ar_b fr) (ar_n kv) (ar_n vo) (ar_n kn)) (fin := fun tb => post (nI bg, ar_b df, ar_b iq, ar_b tb, ar_b up, ar_n op, ar_n ov, ar_n sp, ar_n sv, ar_n qb, ar_n qi, ar_n qv, ar_n ql, ar_n so, ar_b fa, ar_n ba, ar_n an, ar_b co, pc_x pk, ar_b fr, ar_n kv, ar_n vo, ar_n kn)) (I := fun _ _ => True) (e := 128) (fun t tb => st_b tb (k * 128 + t) (lb (gr_col r c t))) (fun _ _ h => h) (fun _ _ _ _ => trivial) ?_ ?_ 128 0 tb rfl trivial
  · intro n tb _
    simp (disch := omega) only [li_0, li_1, li_2, li_3, li_4, li_6, li_7, li_8, li_9, li_10, li_12, li_21, li_24, li_31, li_60, li_63, li_127, li_128, li_256, li_312, li_384, nI_add, nu_mul, nu_sub, nu_div, nu_and, nu_or, nu_shr, nu_bit, nu_diff, bi_2, nI_leI, nI_ltI, nI_eq, vp_in_nI, nI_clamp, ar_na, ar_ba, bo_0, bo_1, bo_it, bo_if, bo_w, bo_w0, bo_w1, bo_nar, bo_n1, bo_nn0, st_bu, st_bu1, st_bu0, st_nu, forall_eq, true_implies, false_implies, forall_const, not_true_eq_false, not_false_eq_true, and_true, true_and, implies_true, and_self, Bool.false_eq_true, Bool.true_eq_false, reduceCtorEq, ite_true, ite_false, if_true, if_false, eq_self, Nat.zero_add, Nat.add_zero, Nat.le_refl, Nat.lt_irrefl, Nat.reduceEqDiff, Nat.reduceLeDiff, Nat.reduceLT, Nat.reduceAdd, Nat.reduceMul, Nat.reduceSub, wX_layOutColumns_3]
  · intro n i tb hi _
    simp (disch := omega) only [wX_layOutColumns_3, li_0, li_128, nI_leI, Nat.not_le.mpr hi, not_false_eq_true, true_implies, false_implies, true_and]
    exact xc_layOutColumns1 hL hk hr hc hrc hi
theorem xc_layOutWeights1 {J : Int32 → (Nat → Int32) → (Nat → Int32) → (Nat → Int32) → (Nat → Int32) → (Nat → Int32) → (Nat → Int32) → (Nat → Int32) → (Nat → Int32) → (Nat → Int32) → (Nat → Int32) → (Nat → Int32) → (Nat → Int32) → (Nat → Int32) → (Nat → Int32) → (Nat → Int32) → (Nat → Int32) → (Nat → Int32) → (Nat → Int32) → (Nat → Int32) → (Nat → Int32) → (Nat → Int32) → (Nat → Int32) → Prop} (hk : k < 3) (hw : w ≤ 9999999) (hl : l ≤ 63) (ht : t < 128) : (∃ n, wX_layOutWeights_20 post J (nI k) (nI w) (nI l) (nI t) (nI bg) (ar_b df) (ar_b iq) (ar_b tb) (ar_b up) (ar_n op) (ar_n ov) (ar_n sp) (ar_n sv) (ar_n qb) (ar_n qi) (ar_n qv) (ar_n ql) (ar_n so) (ar_b fa) (ar_n ba) (ar_n an) (ar_b co) (pc_x pk) (ar_b fr) (ar_n kv) (ar_n vo) (ar_n kn) n (nI w) (nI 0) (nI 0)) ↔ J (nI (t + 1)) (ar_b df) (ar_b iq) (ar_b (st_b tb (k * 128 + t) (decide (0 < l) && decide (l ≤ wt_ w t)))) (ar_b up) (ar_n op) (ar_n ov) (ar_n sp) (ar_n sv) (ar_n qb) (ar_n qi) (ar_n qv) (ar_n ql) (ar_n so) (ar_b fa) (ar_n ba) (ar_n an) (ar_b co) (pc_x pk) (ar_b fr) (ar_n kv) (ar_n vo) (ar_n kn) := by
  refine lo_fold (W := fun n i (p : Nat × Nat) => wX_layOutWeights_20 post J (nI k) (nI w) (nI l) (nI t) (nI bg) (ar_b df) (ar_b iq) (ar_b tb) (ar_b up) (ar_n op) (ar_n ov) (ar_n sp) (ar_n sv) (ar_n qb) (ar_n qi) (ar_n qv) (ar_n ql) (ar_n so) (ar_b fa) (ar_n ba) (ar_n an) (ar_b co) (pc_x pk) (ar_b fr) (ar_n kv) (ar_n vo) (ar_n kn) n (nI p.1) (nI p.2) (nI i)) (fin := fun p => J (nI (t + 1)) (ar_b df) (ar_b iq) (ar_b (st_b tb (k * 128 + t) (decide (0 < l) && decide (l ≤ p.2)))) (ar_b up) (ar_n op) (ar_n ov) (ar_n sp) (ar_n sv) (ar_n qb) (ar_n qi) (ar_n qv) (ar_n ql) (ar_n so) (ar_b fa) (ar_n ba) (ar_n an) (ar_b co) (pc_x pk) (ar_b fr) (ar_n kv) (ar_n vo) (ar_n kn)) (I := fun i p => p.1 ≤ 9999999 ∧ p.2 ≤ 9 * i) (e := 7) (fun n p => (p.1 / 10, p.2 + t / 2 ^ n % 2 * (p.1 % 10))) (fun _ _ h => h) ?_ ?_ ?_ 7 0 (w, 0) rfl ⟨hw, Nat.le_refl _⟩
  · intro i p _ h
    have : t / 2 ^ i % 2 * (p.1 % 10) ≤ 1 * 9 := Nat.mul_le_mul (by omega) (by omega)
    exact ⟨by show p.1 / 10 ≤ _; omega, by show p.2 + _ ≤ _; omega⟩
  · intro n p h
    obtain ⟨h1, h2⟩ := h
    obtain ⟨x, y⟩ := p
    dsimp only at h1 h2 ⊢
    by_cases h0 : l = 0
    · subst h0
      simp (disch := omega) only [li_0, li_1, li_2, li_3, li_4, li_6, li_7, li_8, li_9, li_10, li_12, li_21, li_24, li_31, li_60, li_63, li_127, li_128, li_256, li_312, li_384, nI_add, nu_mul, nu_sub, nu_div, nu_and, nu_or, nu_shr, nu_bit, nu_diff, bi_2, nI_leI, nI_ltI, nI_eq, vp_in_nI, nI_clamp, ar_na, ar_ba, bo_0, bo_1, bo_it, bo_if, bo_w, bo_w0, bo_w1, bo_nar, bo_n1, bo_nn0, st_bu, st_bu1, st_bu0, st_nu, forall_eq, true_implies, false_implies, forall_const, not_true_eq_false, not_false_eq_true, and_true, true_and, implies_true, and_self, Bool.false_eq_true, Bool.true_eq_false, reduceCtorEq, ite_true, ite_false, if_true, if_false, eq_self, Nat.zero_add, Nat.add_zero, Nat.le_refl, Nat.lt_irrefl, Nat.reduceEqDiff, Nat.reduceLeDiff, Nat.reduceLT, Nat.reduceAdd, Nat.reduceMul, Nat.reduceSub, wX_layOutWeights_20, decide_false, Bool.false_and]
    · have hl0 : 0 < l := Nat.pos_of_ne_zero h0
      by_cases z : l ≤ y
      · simp (disch := omega) only [li_0, li_1, li_2, li_3, li_4, li_6, li_7, li_8, li_9, li_10, li_12, li_21, li_24, li_31, li_60, li_63, li_127, li_128, li_256, li_312, li_384, nI_add, nu_mul, nu_sub, nu_div, nu_and, nu_or, nu_shr, nu_bit, nu_diff, bi_2, nI_leI, nI_ltI, nI_eq, vp_in_nI, nI_clamp, ar_na, ar_ba, bo_0, bo_1, bo_it, bo_if, bo_w, bo_w0, bo_w1, bo_nar, bo_n1, bo_nn0, st_bu, st_bu1, st_bu0, st_nu, forall_eq, true_implies, false_implies, forall_const, not_true_eq_false, not_false_eq_true, and_true, true_and, implies_true, and_self, Bool.false_eq_true, Bool.true_eq_false, reduceCtorEq, ite_true, ite_false, if_true, if_false, eq_self, Nat.zero_add, Nat.add_zero, Nat.le_refl, Nat.lt_irrefl, Nat.reduceEqDiff, Nat.reduceLeDiff, Nat.reduceLT, Nat.reduceAdd, Nat.reduceMul, Nat.reduceSub, wX_layOutWeights_20, Nat.not_le.mpr hl0, z, hl0, Nat.not_lt.mpr z, decide_true, Bool.and_self]
      · simp (disch := omega) only [li_0, li_1, li_2, li_3, li_4, li_6, li_7, li_8, li_9, li_10, li_12, li_21, li_24, li_31, li_60, li_63, li_127, li_128, li_256, li_312, li_384, nI_add, nu_mul, nu_sub, nu_div, nu_and, nu_or, nu_shr, nu_bit, nu_diff, bi_2, nI_leI, nI_ltI, nI_eq, vp_in_nI, nI_clamp, ar_na, ar_ba, bo_0, bo_1, bo_it, bo_if, bo_w, bo_w0, bo_w1, bo_nar, bo_n1, bo_nn0, st_bu, st_bu1, st_bu0, st_nu, forall_eq, true_implies, false_implies, forall_const, not_true_eq_false, not_false_eq_true, and_true, true_and, implies_true, and_self, Bool.false_eq_true, Bool.true_eq_false, reduceCtorEq, ite_true, ite_false, if_true, if_false, eq_self, Nat.zero_add, Nat.add_zero, Nat.le_refl, Nat.lt_irrefl, Nat.reduceEqDiff, Nat.reduceLeDiff, Nat.reduceLT, Nat.reduceAdd, Nat.reduceMul, Nat.reduceSub, wX_layOutWeights_20, Nat.not_le.mpr hl0, z, Nat.lt_of_not_le z, decide_false, Bool.and_false]
  · intro n i p hi h
    obtain ⟨h1, h2⟩ := h
    obtain ⟨x, y⟩ := p
    dsimp only at h1 h2 ⊢
    simp (disch := omega) only [li_0, li_1, li_2, li_3, li_4, li_6, li_7, li_8, li_9, li_10, li_12, li_21, li_24, li_31, li_60, li_63, li_127, li_128, li_256, li_312, li_384, nI_add, nu_mul, nu_sub, nu_div, nu_and, nu_or, nu_shr, nu_bit, nu_diff, bi_2, nI_leI, nI_ltI, nI_eq, vp_in_nI, nI_clamp, ar_na, ar_ba, bo_0, bo_1, bo_it, bo_if, bo_w, bo_w0, bo_w1, bo_nar, bo_n1, bo_nn0, st_bu, st_bu1, st_bu0, st_nu, forall_eq, true_implies, false_implies, forall_const, not_true_eq_false, not_false_eq_true, and_true, true_and, implies_true, and_self, Bool.false_eq_true, Bool.true_eq_false, reduceCtorEq, ite_true, ite_false, if_true, if_false, eq_self, Nat.zero_add, Nat.add_zero, Nat.le_refl, Nat.lt_irrefl, Nat.reduceEqDiff, Nat.reduceLeDiff, Nat.reduceLT, Nat.reduceAdd, Nat.reduceMul, Nat.reduceSub, wX_layOutWeights_20, Nat.not_le.mpr hi, nu_md]
theorem xc_layOutWeights (hk : k < 3) (hw : w ≤ 9999999) (hl : l ≤ 63) : wpX_layOutWeights post (nI bg, ar_b df, ar_b iq, ar_b tb, ar_b up, ar_n op, ar_n ov, ar_n sp, ar_n sv, ar_n qb, ar_n qi, ar_n qv, ar_n ql, ar_n so, ar_b fa, ar_n ba, ar_n an, ar_b co, pc_x pk, ar_b fr, ar_n kv, ar_n vo, ar_n kn) (nI k) (nI w) (nI l) ↔ post (nI bg, ar_b df, ar_b iq, ar_b (tz_ k (fun t => decide (0 < l) && decide (l ≤ wt_ w t)) tb), ar_b up, ar_n op, ar_n ov, ar_n sp, ar_n sv, ar_n qb, ar_n qi, ar_n qv, ar_n ql, ar_n so, ar_b fa, ar_n ba, ar_n an, ar_b co, pc_x pk, ar_b fr, ar_n kv, ar_n vo, ar_n kn) := by
  simp only [wpX_layOutWeights]
  refine lo_fold (W := fun n i tb => wX_layOutWeights_3 post (nI k) (nI w) (nI l) (nI bg) n (nI i) (ar_b df) (ar_b iq) (ar_b tb) (ar_b up) (ar_n op) (ar_n ov) (ar_n sp) (ar_n sv) (ar_n qb) (ar_n qi) (ar_n qv) (ar_n ql) (ar_n so) (ar_b fa) (ar_n ba) (ar_n an) (ar_b co) (pc_x pk) (ar_b fr) (ar_n kv) (ar_n vo) (ar_n kn)) (fin := fun tb => post (nI bg, ar_b df, ar_b iq, ar_b tb, ar_b up, ar_n op, ar_n ov, ar_n sp, ar_n sv, ar_n qb, ar_n qi, ar_n qv, ar_n ql, ar_n so, ar_b fa, ar_n ba, ar_n an, ar_b co, pc_x pk, ar_b fr, ar_n kv, ar_n vo, ar_n kn)) (I := fun _ _ => True) (e := 128) (fun t tb => st_b tb (k * 128 + t) (decide (0 < l) && decide (l ≤ wt_ w t))) (fun _ _ h => h) (fun _ _ _ _ => trivial) ?_ ?_ 128 0 tb rfl trivial
  · intro n tb _
    simp (disch := omega) only [li_0, li_1, li_2, li_3, li_4, li_6, li_7, li_8, li_9, li_10, li_12, li_21, li_24, li_31, li_60, li_63, li_127, li_128, li_256, li_312, li_384, nI_add, nu_mul, nu_sub, nu_div, nu_and, nu_or, nu_shr, nu_bit, nu_diff, bi_2, nI_leI, nI_ltI, nI_eq, vp_in_nI, nI_clamp, ar_na, ar_ba, bo_0, bo_1, bo_it, bo_if, bo_w, bo_w0, bo_w1, bo_nar, bo_n1, bo_nn0, st_bu, st_bu1, st_bu0, st_nu, forall_eq, true_implies, false_implies, forall_const, not_true_eq_false, not_false_eq_true, and_true, true_and, implies_true, and_self, Bool.false_eq_true, Bool.true_eq_false, reduceCtorEq, ite_true, ite_false, if_true, if_false, eq_self, Nat.zero_add, Nat.add_zero, Nat.le_refl, Nat.lt_irrefl, Nat.reduceEqDiff, Nat.reduceLeDiff, Nat.reduceLT, Nat.reduceAdd, Nat.reduceMul, Nat.reduceSub, wX_layOutWeights_3]
  · intro n i tb hi _
    simp (disch := omega) only [wX_layOutWeights_3, li_0, li_128, nI_leI, Nat.not_le.mpr hi, not_false_eq_true, true_implies, false_implies, true_and]
    exact xc_layOutWeights1 hk hw hl hi
theorem xc_layOutList1 {J : Int32 → (Nat → Int32) → (Nat → Int32) → (Nat → Int32) → (Nat → Int32) → (Nat → Int32) → (Nat → Int32) → (Nat → Int32) → (Nat → Int32) → (Nat → Int32) → (Nat → Int32) → (Nat → Int32) → (Nat → Int32) → (Nat → Int32) → (Nat → Int32) → (Nat → Int32) → (Nat → Int32) → (Nat → Int32) → (Nat → Int32) → (Nat → Int32) → (Nat → Int32) → (Nat → Int32) → (Nat → Int32) → Prop} (hk : k < 3) (hl : l ≤ 268435455) (ht : t < 128) : (∃ n, wX_layOutList_15 post J (nI k) (nI l) (nI t) (nI bg) (ar_b df) (ar_b iq) (ar_b tb) (ar_b up) (ar_n op) (ar_n ov) (ar_n sp) (ar_n sv) (ar_n qb) (ar_n qi) (ar_n qv) (ar_n ql) (ar_n so) (ar_b fa) (ar_n ba) (ar_n an) (ar_b co) (pc_x pk) (ar_b fr) (ar_n kv) (ar_n vo) (ar_n kn) n (nI 0) (nI 0)) ↔ J (nI (t + 1)) (ar_b df) (ar_b iq) (ar_b (st_b tb (k * 128 + t) (li_ l t))) (ar_b up) (ar_n op) (ar_n ov) (ar_n sp) (ar_n sv) (ar_n qb) (ar_n qi) (ar_n qv) (ar_n ql) (ar_n so) (ar_b fa) (ar_n ba) (ar_n an) (ar_b co) (pc_x pk) (ar_b fr) (ar_n kv) (ar_n vo) (ar_n kn) := by
  refine lo_fold (W := fun n i a => wX_layOutList_15 post J (nI k) (nI l) (nI t) (nI bg) (ar_b df) (ar_b iq) (ar_b tb) (ar_b up) (ar_n op) (ar_n ov) (ar_n sp) (ar_n sv) (ar_n qb) (ar_n qi) (ar_n qv) (ar_n ql) (ar_n so) (ar_b fa) (ar_n ba) (ar_n an) (ar_b co) (pc_x pk) (ar_b fr) (ar_n kv) (ar_n vo) (ar_n kn) n (bo_i a) (nI i)) (fin := fun a => J (nI (t + 1)) (ar_b df) (ar_b iq) (ar_b (st_b tb (k * 128 + t) a)) (ar_b up) (ar_n op) (ar_n ov) (ar_n sp) (ar_n sv) (ar_n qb) (ar_n qi) (ar_n qv) (ar_n ql) (ar_n so) (ar_b fa) (ar_n ba) (ar_n an) (ar_b co) (pc_x pk) (ar_b fr) (ar_n kv) (ar_n vo) (ar_n kn)) (I := fun _ _ => True) (e := 4) (fun p a => a || (l / 2 ^ (7 * p) &&& 127) != 0 && (t &&& (l / 2 ^ (7 * p) &&& 127)) == (l / 2 ^ (7 * p) &&& 127)) (fun _ _ h => h) (fun _ _ _ _ => trivial) ?_ ?_ 4 0 false rfl trivial
  · intro n a _
    simp (disch := omega) only [li_0, li_1, li_2, li_3, li_4, li_6, li_7, li_8, li_9, li_10, li_12, li_21, li_24, li_31, li_60, li_63, li_127, li_128, li_256, li_312, li_384, nI_add, nu_mul, nu_sub, nu_div, nu_and, nu_or, nu_shr, nu_bit, nu_diff, bi_2, nI_leI, nI_ltI, nI_eq, vp_in_nI, nI_clamp, ar_na, ar_ba, bo_0, bo_1, bo_it, bo_if, bo_w, bo_w0, bo_w1, bo_nar, bo_n1, bo_nn0, st_bu, st_bu1, st_bu0, st_nu, forall_eq, true_implies, false_implies, forall_const, not_true_eq_false, not_false_eq_true, and_true, true_and, implies_true, and_self, Bool.false_eq_true, Bool.true_eq_false, reduceCtorEq, ite_true, ite_false, if_true, if_false, eq_self, Nat.zero_add, Nat.add_zero, Nat.le_refl, Nat.lt_irrefl, Nat.reduceEqDiff, Nat.reduceLeDiff, Nat.reduceLT, Nat.reduceAdd, Nat.reduceMul, Nat.reduceSub, wX_layOutList_15]
  · intro n i a hi _
    have hm : l / 2 ^ (7 * i) &&& 127 < 128 := nu_and7r (by decide)
    have hm2 : t &&& (l / 2 ^ (7 * i) &&& 127) < 128 := nu_and7 ht
    cases a with
    | true =>
      rw [Bool.true_or]
      simp (disch := omega) only [li_0, li_1, li_2, li_3, li_4, li_6, li_7, li_8, li_9, li_10, li_12, li_21, li_24, li_31, li_60, li_63, li_127, li_128, li_256, li_312, li_384, nI_add, nu_mul, nu_sub, nu_div, nu_and, nu_or, nu_shr, nu_bit, nu_diff, bi_2, nI_leI, nI_ltI, nI_eq, vp_in_nI, nI_clamp, ar_na, ar_ba, bo_0, bo_1, bo_it, bo_if, bo_w, bo_w0, bo_w1, bo_nar, bo_n1, bo_nn0, st_bu, st_bu1, st_bu0, st_nu, forall_eq, true_implies, false_implies, forall_const, not_true_eq_false, not_false_eq_true, and_true, true_and, implies_true, and_self, Bool.false_eq_true, Bool.true_eq_false, reduceCtorEq, ite_true, ite_false, if_true, if_false, eq_self, Nat.zero_add, Nat.add_zero, Nat.le_refl, Nat.lt_irrefl, Nat.reduceEqDiff, Nat.reduceLeDiff, Nat.reduceLT, Nat.reduceAdd, Nat.reduceMul, Nat.reduceSub, wX_layOutList_15, Nat.not_le.mpr hi]
    | false =>
      rw [Bool.false_or]
      by_cases h1 : l / 2 ^ (7 * i) &&& 127 = 0
      · simp (disch := omega) only [li_0, li_1, li_2, li_3, li_4, li_6, li_7, li_8, li_9, li_10, li_12, li_21, li_24, li_31, li_60, li_63, li_127, li_128, li_256, li_312, li_384, nI_add, nu_mul, nu_sub, nu_div, nu_and, nu_or, nu_shr, nu_bit, nu_diff, bi_2, nI_leI, nI_ltI, nI_eq, vp_in_nI, nI_clamp, ar_na, ar_ba, bo_0, bo_1, bo_it, bo_if, bo_w, bo_w0, bo_w1, bo_nar, bo_n1, bo_nn0, st_bu, st_bu1, st_bu0, st_nu, forall_eq, true_implies, false_implies, forall_const, not_true_eq_false, not_false_eq_true, and_true, true_and, implies_true, and_self, Bool.false_eq_true, Bool.true_eq_false, reduceCtorEq, ite_true, ite_false, if_true, if_false, eq_self, Nat.zero_add, Nat.add_zero, Nat.le_refl, Nat.lt_irrefl, Nat.reduceEqDiff, Nat.reduceLeDiff, Nat.reduceLT, Nat.reduceAdd, Nat.reduceMul, Nat.reduceSub, wX_layOutList_15, Nat.not_le.mpr hi, h1, bne_self_eq_false, Bool.false_and]
      · by_cases h2 : t &&& (l / 2 ^ (7 * i) &&& 127) = l / 2 ^ (7 * i) &&& 127
        · simp (disch := omega) only [li_0, li_1, li_2, li_3, li_4, li_6, li_7, li_8, li_9, li_10, li_12, li_21, li_24, li_31, li_60, li_63, li_127, li_128, li_256, li_312, li_384, nI_add, nu_mul, nu_sub, nu_div, nu_and, nu_or, nu_shr, nu_bit, nu_diff, bi_2, nI_leI, nI_ltI, nI_eq, vp_in_nI, nI_clamp, ar_na, ar_ba, bo_0, bo_1, bo_it, bo_if, bo_w, bo_w0, bo_w1, bo_nar, bo_n1, bo_nn0, st_bu, st_bu1, st_bu0, st_nu, forall_eq, true_implies, false_implies, forall_const, not_true_eq_false, not_false_eq_true, and_true, true_and, implies_true, and_self, Bool.false_eq_true, Bool.true_eq_false, reduceCtorEq, ite_true, ite_false, if_true, if_false, eq_self, Nat.zero_add, Nat.add_zero, Nat.le_refl, Nat.lt_irrefl, Nat.reduceEqDiff, Nat.reduceLeDiff, Nat.reduceLT, Nat.reduceAdd, Nat.reduceMul, Nat.reduceSub, wX_layOutList_15, Nat.not_le.mpr hi, h1, h2, beq_self_eq_true, Bool.and_true, (bne_iff_ne (a := l / 2 ^ (7 * i) &&& 127) (b := 0)).mpr h1]
        · simp (disch := omega) only [li_0, li_1, li_2, li_3, li_4, li_6, li_7, li_8, li_9, li_10, li_12, li_21, li_24, li_31, li_60, li_63, li_127, li_128, li_256, li_312, li_384, nI_add, nu_mul, nu_sub, nu_div, nu_and, nu_or, nu_shr, nu_bit, nu_diff, bi_2, nI_leI, nI_ltI, nI_eq, vp_in_nI, nI_clamp, ar_na, ar_ba, bo_0, bo_1, bo_it, bo_if, bo_w, bo_w0, bo_w1, bo_nar, bo_n1, bo_nn0, st_bu, st_bu1, st_bu0, st_nu, forall_eq, true_implies, false_implies, forall_const, not_true_eq_false, not_false_eq_true, and_true, true_and, implies_true, and_self, Bool.false_eq_true, Bool.true_eq_false, reduceCtorEq, ite_true, ite_false, if_true, if_false, eq_self, Nat.zero_add, Nat.add_zero, Nat.le_refl, Nat.lt_irrefl, Nat.reduceEqDiff, Nat.reduceLeDiff, Nat.reduceLT, Nat.reduceAdd, Nat.reduceMul, Nat.reduceSub, wX_layOutList_15, Nat.not_le.mpr hi, h1, h2, (beq_eq_false_iff_ne (a := t &&& (l / 2 ^ (7 * i) &&& 127)) (b := l / 2 ^ (7 * i) &&& 127)).mpr h2, Bool.and_false]
theorem xc_layOutList (hk : k < 3) (hl : l ≤ 268435455) : wpX_layOutList post (nI bg, ar_b df, ar_b iq, ar_b tb, ar_b up, ar_n op, ar_n ov, ar_n sp, ar_n sv, ar_n qb, ar_n qi, ar_n qv, ar_n ql, ar_n so, ar_b fa, ar_n ba, ar_n an, ar_b co, pc_x pk, ar_b fr, ar_n kv, ar_n vo, ar_n kn) (nI k) (nI l) ↔ post (nI bg, ar_b df, ar_b iq, ar_b (tz_ k (li_ l) tb), ar_b up, ar_n op, ar_n ov, ar_n sp, ar_n sv, ar_n qb, ar_n qi, ar_n qv, ar_n ql, ar_n so, ar_b fa, ar_n ba, ar_n an, ar_b co, pc_x pk, ar_b fr, ar_n kv, ar_n vo, ar_n kn) := by
  simp only [wpX_layOutList]
  refine lo_fold (W := fun n i tb => wX_layOutList_2 post (nI k) (nI l) (nI bg) n (nI i) (ar_b df) (ar_b iq) (ar_b tb) (ar_b up) (ar_n op) (ar_n ov) (ar_n sp) (ar_n sv) (ar_n qb) (ar_n qi) (ar_n qv) (ar_n ql) (ar_n so) (ar_b fa) (ar_n ba) (ar_n an) (ar_b co) (pc_x pk) (ar_b fr) (ar_n kv) (ar_n vo) (ar_n kn)) (fin := fun tb => post (nI bg, ar_b df, ar_b iq, ar_b tb, ar_b up, ar_n op, ar_n ov, ar_n sp, ar_n sv, ar_n qb, ar_n qi, ar_n qv, ar_n ql, ar_n so, ar_b fa, ar_n ba, ar_n an, ar_b co, pc_x pk, ar_b fr, ar_n kv, ar_n vo, ar_n kn)) (I := fun _ _ => True) (e := 128) (fun t tb => st_b tb (k * 128 + t) (li_ l t)) (fun _ _ h => h) (fun _ _ _ _ => trivial) ?_ ?_ 128 0 tb rfl trivial
  · intro n tb _
    simp (disch := omega) only [li_0, li_1, li_2, li_3, li_4, li_6, li_7, li_8, li_9, li_10, li_12, li_21, li_24, li_31, li_60, li_63, li_127, li_128, li_256, li_312, li_384, nI_add, nu_mul, nu_sub, nu_div, nu_and, nu_or, nu_shr, nu_bit, nu_diff, bi_2, nI_leI, nI_ltI, nI_eq, vp_in_nI, nI_clamp, ar_na, ar_ba, bo_0, bo_1, bo_it, bo_if, bo_w, bo_w0, bo_w1, bo_nar, bo_n1, bo_nn0, st_bu, st_bu1, st_bu0, st_nu, forall_eq, true_implies, false_implies, forall_const, not_true_eq_false, not_false_eq_true, and_true, true_and, implies_true, and_self, Bool.false_eq_true, Bool.true_eq_false, reduceCtorEq, ite_true, ite_false, if_true, if_false, eq_self, Nat.zero_add, Nat.add_zero, Nat.le_refl, Nat.lt_irrefl, Nat.reduceEqDiff, Nat.reduceLeDiff, Nat.reduceLT, Nat.reduceAdd, Nat.reduceMul, Nat.reduceSub, wX_layOutList_2]
  · intro n i tb hi _
    simp (disch := omega) only [wX_layOutList_2, li_0, li_128, nI_leI, Nat.not_le.mpr hi, not_false_eq_true, true_implies, false_implies, true_and]
    exact xc_layOutList1 hk hl hi
end
end
