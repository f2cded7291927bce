section
/-! numbers, bits, stores, loops: nothing of the class here -/
def bo_i (b : Bool) : Int32 := if b = true then 1 else 0
def ar_n (f : Nat → Nat) : Nat → Int32 := fun j => nI (f j)
def ar_b (f : Nat → Bool) : Nat → Int32 := fun j => bo_i (f j)
def st_n (f : Nat → Nat) (k x : Nat) : Nat → Nat := fun j => if j = k then x else f j
def st_b (f : Nat → Bool) (k : Nat) (x : Bool) : Nat → Bool := fun j => if j = k then x else f j
theorem ar_na (f : Nat → Nat) (j : Nat) : ar_n f j = nI (f j) := rfl
theorem ar_ba (f : Nat → Bool) (j : Nat) : ar_b f j = bo_i (f j) := rfl
theorem bo_it : bo_i true = nI 1 := rfl
theorem bo_if : bo_i false = nI 0 := rfl
theorem bo_0 (b : Bool) : bo_i b = nI 0 ↔ b = false := by cases b <;> decide
theorem bo_1 (b : Bool) : bo_i b = nI 1 ↔ b = true := by cases b <;> decide
theorem bo_n0 (b : Bool) : (¬ bo_i b = nI 0) ↔ b = true := by cases b <;> decide
theorem bo_nar (b : Bool) : vp_nar .boolean (bo_i b) = bo_i b := by
  cases b <;> (show (_ &&& (1 : Int32)) = _) <;> decide
theorem bo_n1 : vp_nar .boolean (nI 1) = nI 1 := by show (_ &&& (1 : Int32)) = _; decide
theorem bo_nn0 : vp_nar .boolean (nI 0) = nI 0 := by show (_ &&& (1 : Int32)) = _; decide
theorem bo_w (b : Bool) : narrow .boolean (.int (bo_i b)) = .int (bo_i b) := congrArg Value.int (by cases b <;> decide)
theorem bo_w1 : narrow .boolean (.int (nI 1)) = .int (nI 1) := congrArg Value.int (by decide)
theorem bo_w0 : narrow .boolean (.int (nI 0)) = .int (nI 0) := congrArg Value.int (by decide)
theorem st_nu (f : Nat → Nat) (k x : Nat) : upd (ar_n f) k (nI x) = ar_n (st_n f k x) := by
  funext j; show (if j = k then nI x else nI (f j)) = nI (if j = k then x else f j); split <;> rfl
theorem st_bu (f : Nat → Bool) (k : Nat) (x : Bool) : upd (ar_b f) k (bo_i x) = ar_b (st_b f k x) := by
  funext j; show (if j = k then bo_i x else bo_i (f j)) = bo_i (if j = k then x else f j); split <;> rfl
theorem st_bu1 (f : Nat → Bool) (k : Nat) : upd (ar_b f) k (nI 1) = ar_b (st_b f k true) := st_bu f k true
theorem st_bu0 (f : Nat → Bool) (k : Nat) : upd (ar_b f) k (nI 0) = ar_b (st_b f k false) := st_bu f k false
theorem st_ne {f : Nat → Nat} {k j x : Nat} (h : j ≠ k) : st_n f k x j = f j := if_neg h
theorem st_eq {f : Nat → Nat} {k x : Nat} : st_n f k x k = x := if_pos rfl
theorem st_bne {f : Nat → Bool} {k j : Nat} {x : Bool} (h : j ≠ k) : st_b f k x j = f j := if_neg h
theorem st_beq {f : Nat → Bool} {k : Nat} {x : Bool} : st_b f k x k = x := if_pos rfl
theorem st_self {f : Nat → Nat} {k : Nat} : st_n f k (f k) = f := by
  funext j; show (if j = k then f k else f j) = f j; split
  · rename_i h; rw [h]
  · rfl
theorem st_bself {f : Nat → Bool} {k : Nat} {x : Bool} (h : f k = x) : st_b f k x = f := by
  funext j; show (if j = k then x else f j) = f j; split
  · rename_i e; rw [e, h]
  · rfl
theorem up_self {f : Nat → Int32} {k : Nat} {x : Int32} (h : f k = x) : upd f k x = f := by
  funext j; show (if j = k then x else f j) = f j; split
  · rename_i e; rw [e, h]
  · rfl
theorem up_up {f : Nat → Int32} {k : Nat} {x y : Int32} : upd (upd f k x) k y = upd f k y := by
  funext j; show (if j = k then y else if j = k then x else f j) = if j = k then y else f j; split <;> rfl
theorem up_eq {f : Nat → Int32} {k : Nat} {x : Int32} : upd f k x k = x := if_pos rfl
theorem up_ne {f : Nat → Int32} {k j : Nat} {x : Int32} (h : j ≠ k) : upd f k x j = f j := if_neg h
/-! numbers -/
theorem nu_mul (a b : Nat) : nI a * nI b = nI (a * b) := (Int32.ofNat_mul a b).symm
theorem nu_sub {a b : Nat} (h : b ≤ a) : nI a - nI b = nI (a - b) := by
  obtain ⟨c, rfl⟩ : ∃ c, a = c + b := ⟨a - b, by omega⟩
  rw [← nI_add, Int32.add_sub_cancel, Nat.add_sub_cancel]
theorem nu_m1 {n : Nat} (h : 0 < n) : nI n + (-nI 1) = nI (n - 1) := by
  obtain ⟨c, rfl⟩ : ∃ c, n = c + 1 := ⟨n - 1, by omega⟩
  rw [Nat.add_sub_cancel, ← nI_1, Int32.add_assoc, show (1 : Int32) + (-nI 1) = 0 from rfl, Int32.add_zero]
theorem nu_div {a d : Nat} (ha : a < 2 ^ 31) (h0 : 0 < d) (hd : d < 2 ^ 31) : nI a / nI d = nI (a / d) := by
  apply Int32.toInt_inj.mp
  rw [lg_idiv_nonneg (by rw [nI_toInt ha]; omega) (by rw [nI_toInt hd]; omega), nI_toInt ha, nI_toInt hd, nI_toInt (Nat.lt_of_le_of_lt (Nat.div_le_self a d) ha)]
  first | rfl | exact (Int.natCast_ediv _ _).symm
theorem nu_rem {a d : Nat} (ha : a < 2 ^ 31) (h0 : 0 < d) (hd : d < 2 ^ 31) : nI a - nI a / nI d * nI d = nI (a % d) := by
  rw [nu_div ha h0 hd, nu_mul, nu_sub (Nat.div_mul_le_self a d)]
  exact congrArg nI (by have := Nat.div_add_mod' a d; omega)
theorem nu_and (a b : Nat) : nI a &&& nI b = nI (a &&& b) := by
  apply Int32.toBitVec_inj.1
  show BitVec.ofNat 32 a &&& BitVec.ofNat 32 b = BitVec.ofNat 32 (a &&& b)
  apply BitVec.eq_of_getLsbD_eq
  intro i hi
  simp [hi]
theorem nu_or (a b : Nat) : nI a ||| nI b = nI (a ||| b) := by
  apply Int32.toBitVec_inj.1
  show BitVec.ofNat 32 a ||| BitVec.ofNat 32 b = BitVec.ofNat 32 (a ||| b)
  apply BitVec.eq_of_getLsbD_eq
  intro i hi
  simp [hi]
theorem nu_xor (a b : Nat) : nI a ^^^ nI b = nI (a ^^^ b) := by
  apply Int32.toBitVec_inj.1
  show BitVec.ofNat 32 a ^^^ BitVec.ofNat 32 b = BitVec.ofNat 32 (a ^^^ b)
  apply BitVec.eq_of_getLsbD_eq
  intro i hi
  simp [hi]
theorem nu_shc : ∀ n, n < 32 → ((nI (n &&& 31)).toBitVec.smod 32).toNat = n := by decide +kernel
theorem nu_tn {n : Nat} (h : n < 2 ^ 32) : (nI n).toBitVec.toNat = n := Nat.mod_eq_of_lt h
theorem nu_shr {a n : Nat} (ha : a < 2 ^ 31) (hn : n < 32) : nI a >>> nI (n &&& 31) = nI (a / 2 ^ n) := by
  apply Int32.toInt_inj.mp
  have h2 : a / 2 ^ n ≤ a := Nat.div_le_self _ _
  have e : (nI a >>> nI (n &&& 31)).toInt = (nI a).toInt >>> n := by
    show ((nI a).toBitVec.sshiftRight ((nI (n &&& 31)).toBitVec.smod 32).toNat).toInt = _
    rw [nu_shc n hn, BitVec.toInt_sshiftRight]
    rfl
  rw [e, nI_toInt ha, nI_toInt (by omega), Int.shiftRight_eq_div_pow]
  rfl
theorem nu_shl {a n : Nat} (hn : n < 32) (h : a * 2 ^ n < 2 ^ 32) : nI a <<< nI (n &&& 31) = nI (a * 2 ^ n) := by
  apply Int32.toBitVec_inj.mp
  apply BitVec.eq_of_toNat_eq
  have ha : a < 2 ^ 32 := Nat.lt_of_le_of_lt (Nat.le_mul_of_pos_right a (Nat.two_pow_pos n)) h
  have e : (nI a <<< nI (n &&& 31)).toBitVec.toNat = (nI a).toBitVec.toNat * 2 ^ n % 2 ^ 32 := by
    show ((nI a).toBitVec <<< ((nI (n &&& 31)).toBitVec.smod 32).toNat).toNat = _
    rw [nu_shc n hn, BitVec.toNat_shiftLeft, Nat.shiftLeft_eq]
  rw [e, nu_tn ha, nu_tn h, Nat.mod_eq_of_lt h]
theorem nu_bit {n : Nat} (hn : n < 31) : nI 1 <<< nI (n &&& 31) = nI (2 ^ n) := by
  have h : 2 ^ n < 2 ^ 31 := Nat.pow_lt_pow_right (by decide) hn
  rw [nu_shl (by omega) (by omega), Nat.one_mul]
theorem bi_2 (x n : Nat) : x / 2 ^ n &&& 1 = x / 2 ^ n % 2 := Nat.and_one_is_mod _
theorem nu_m1x : (-nI 1 : Int32) = nI 4294967295 := by decide
theorem nu_lt7 : ∀ n, n < 7 → 2 ^ n < 128 := by decide
theorem nu_lt8 : ∀ n, n < 8 → 2 ^ n < 256 := by decide
theorem nu_and7 {a b : Nat} (h : a < 128) : a &&& b < 128 := Nat.lt_of_le_of_lt Nat.and_le_left h
theorem nu_and7r {a b : Nat} (h : b < 128) : a &&& b < 128 := Nat.lt_of_le_of_lt Nat.and_le_right h
theorem nu_or7 {a b : Nat} (h : a < 128) (h' : b < 128) : a ||| b < 128 := Nat.or_lt_two_pow (n := 7) h h'
theorem nu_xor7 {a b : Nat} (h : a < 128) (h' : b < 128) : a ^^^ b < 128 := Nat.xor_lt_two_pow (n := 7) h h'
theorem nu_tb {a : Nat} (h : a < 128) {i : Nat} (hi : 7 ≤ i) : a.testBit i = false :=
  Nat.testBit_lt_two_pow (Nat.lt_of_lt_of_le h (show 2 ^ 7 ≤ 2 ^ i from Nat.pow_le_pow_right (by decide) hi))
theorem nu_t127 (i : Nat) : (127 : Nat).testBit i = decide (i < 7) := by
  rw [show (127 : Nat) = 2 ^ 7 - 1 from rfl, Nat.testBit_two_pow_sub_one]
theorem nu_t32 (i : Nat) : (4294967295 : Nat).testBit i = decide (i < 32) := by
  rw [show (4294967295 : Nat) = 2 ^ 32 - 1 from rfl, Nat.testBit_two_pow_sub_one]
/-- the set without .. -/
theorem nu_diff {a m : Nat} (h : a < 128) : nI a &&& (nI m ^^^ (-nI 1)) = nI (a &&& (m ^^^ 127)) := by
  rw [nu_m1x, nu_xor, nu_and]
  apply congrArg nI
  apply Nat.eq_of_testBit_eq
  intro i
  rw [Nat.testBit_and, Nat.testBit_and, Nat.testBit_xor, Nat.testBit_xor, nu_t127, nu_t32]
  by_cases hi : i < 7
  · rw [decide_eq_true hi, decide_eq_true (show i < 32 by omega)]
  · rw [nu_tb h (by omega), Bool.false_and, Bool.false_and]
/-- what is in both, and nothing missing -/
theorem nu_sub0 {a b : Nat} (ha : a < 128) : a &&& (b ^^^ 127) = 0 ↔ b &&& a = a := by
  constructor
  · intro h
    apply Nat.eq_of_testBit_eq
    intro i
    have e := congrArg (fun z => Nat.testBit z i) h
    simp only [Nat.testBit_and, Nat.testBit_xor, nu_t127, Nat.zero_testBit] at e
    rw [Nat.testBit_and]
    by_cases hi : i < 7
    · rw [decide_eq_true hi] at e
      revert e; cases a.testBit i <;> cases b.testBit i <;> decide
    · rw [nu_tb ha (by omega), Bool.and_false]
  · intro h
    apply Nat.eq_of_testBit_eq
    intro i
    have e := congrArg (fun z => Nat.testBit z i) h
    simp only [Nat.testBit_and] at e
    rw [Nat.testBit_and, Nat.testBit_xor, nu_t127, Nat.zero_testBit]
    by_cases hi : i < 7
    · rw [decide_eq_true hi]
      revert e; cases a.testBit i <;> cases b.testBit i <;> decide
    · rw [nu_tb ha (by omega), Bool.false_and]
/-! loops -/
def lo_f {α : Type} (f : Nat → α → α) : Nat → Nat → α → α
  | 0, _, a => a
  | d + 1, i, a => lo_f f d (i + 1) (f i a)
def lo_a (P : Nat → Bool) : Nat → Nat → Bool
  | 0, _ => true
  | d + 1, i => P i && lo_a P d (i + 1)
def lo_s (P : Nat → Bool) : Nat → Nat → Nat
  | 0, i => i
  | d + 1, i => if P i = true then i else lo_s P d (i + 1)
theorem lo_fold {α : Type} {W : Nat → Nat → α → Prop} {fin : α → Prop} {I : Nat → α → Prop} {e : Nat} (f : Nat → α → α)
    (h0 : ∀ i a, ¬ W 0 i a) (hI : ∀ i a, i < e → I i a → I (i + 1) (f i a))
    (hx : ∀ n a, I e a → (W (n + 1) e a ↔ fin a))
    (hs : ∀ n i a, i < e → I i a → (W (n + 1) i a ↔ W n (i + 1) (f i a))) :
    ∀ d i a, i + d = e → I i a → ((∃ n, W n i a) ↔ fin (lo_f f d i a)) := by
  intro d
  induction d with
  | zero =>
    intro i a hi ha
    obtain rfl : i = e := by omega
    constructor
    · rintro ⟨n, h⟩
      cases n with
      | zero => exact absurd h (h0 _ _)
      | succ n => exact (hx n a ha).mp h
    · exact fun h => ⟨1, (hx 0 a ha).mpr h⟩
  | succ d ih =>
    intro i a hi ha
    have g := ih (i + 1) (f i a) (by omega) (hI i a (by omega) ha)
    constructor
    · rintro ⟨n, h⟩
      cases n with
      | zero => exact absurd h (h0 _ _)
      | succ n => exact g.mp ⟨n, (hs n i a (by omega) ha).mp h⟩
    · intro h
      obtain ⟨n, h⟩ := g.mpr h
      exact ⟨n + 1, (hs n i a (by omega) ha).mpr h⟩
/-- a search: A is asked where P holds first, B at the end -/
theorem lo_find {W : Nat → Nat → Prop} {A : Nat → Prop} {B : Prop} {e : Nat} (P : Nat → Bool)
    (h0 : ∀ i, ¬ W 0 i) (hx : ∀ n, W (n + 1) e ↔ B)
    (ht : ∀ n i, i < e → P i = true → (W (n + 1) i ↔ A i))
    (hf : ∀ n i, i < e → P i = false → (W (n + 1) i ↔ W n (i + 1))) :
    ∀ d i, i + d = e → ((∃ n, W n i) ↔ (lo_s P d i < e → A (lo_s P d i)) ∧ (¬ lo_s P d i < e → B)) := by
  intro d
  induction d with
  | zero =>
    intro i hi
    obtain rfl : i = e := by omega
    constructor
    · rintro ⟨n, h⟩
      cases n with
      | zero => exact absurd h (h0 _)
      | succ n => exact ⟨fun z => absurd z (Nat.lt_irrefl _), fun _ => (hx n).mp h⟩
    · exact fun h => ⟨1, (hx 0).mpr (h.2 (Nat.lt_irrefl _))⟩
  | succ d ih =>
    intro i hi
    have g := ih (i + 1) (by omega)
    cases hp : P i with
    | true =>
      have es : lo_s P (d + 1) i = i := if_pos hp
      rw [es]
      constructor
      · rintro ⟨n, h⟩
        cases n with
        | zero => exact absurd h (h0 _)
        | succ n => exact ⟨fun _ => (ht n i (by omega) hp).mp h, fun z => absurd (show i < e by omega) z⟩
      · exact fun h => ⟨1, (ht 0 i (by omega) hp).mpr (h.1 (by omega))⟩
    | false =>
      have es : lo_s P (d + 1) i = lo_s P d (i + 1) := if_neg (by rw [hp]; decide)
      rw [es]
      constructor
      · rintro ⟨n, h⟩
        cases n with
        | zero => exact absurd h (h0 _)
        | succ n => exact g.mp ⟨n, (hf n i (by omega) hp).mp h⟩
      · intro h
        obtain ⟨n, h⟩ := g.mpr h
        exact ⟨n + 1, (hf n i (by omega) hp).mpr h⟩
/-- all of them, or the first that fails -/
theorem lo_all {W : Nat → Nat → Prop} {A B : Prop} {e : Nat} (P : Nat → Bool)
    (h0 : ∀ i, ¬ W 0 i) (hx : ∀ n, W (n + 1) e ↔ B)
    (hf : ∀ n i, i < e → P i = false → (W (n + 1) i ↔ A))
    (ht : ∀ n i, i < e → P i = true → (W (n + 1) i ↔ W n (i + 1))) :
    ∀ d i, i + d = e → ((∃ n, W n i) ↔ (lo_a P d i = true → B) ∧ (lo_a P d i = false → A)) := by
  intro d
  induction d with
  | zero =>
    intro i hi
    obtain rfl : i = e := by omega
    constructor
    · rintro ⟨n, h⟩
      cases n with
      | zero => exact absurd h (h0 _)
      | succ n => exact ⟨fun _ => (hx n).mp h, fun z => nomatch z⟩
    · exact fun h => ⟨1, (hx 0).mpr (h.1 rfl)⟩
  | succ d ih =>
    intro i hi
    have g := ih (i + 1) (by omega)
    cases hp : P i with
    | false =>
      have es : lo_a P (d + 1) i = false := by show (P i && _) = false; rw [hp]; rfl
      rw [es]
      constructor
      · rintro ⟨n, h⟩
        cases n with
        | zero => exact absurd h (h0 _)
        | succ n => exact ⟨(fun z => nomatch z), fun _ => (hf n i (by omega) hp).mp h⟩
      · exact fun h => ⟨1, (hf 0 i (by omega) hp).mpr (h.2 rfl)⟩
    | true =>
      have es : lo_a P (d + 1) i = lo_a P d (i + 1) := by show (P i && _) = _; rw [hp]; rfl
      rw [es]
      constructor
      · rintro ⟨n, h⟩
        cases n with
        | zero => exact absurd h (h0 _)
        | succ n => exact g.mp ⟨n, (ht n i (by omega) hp).mp h⟩
      · intro h
        obtain ⟨n, h⟩ := g.mpr h
        exact ⟨n + 1, (ht n i (by omega) hp).mpr h⟩
/-- the same from a least index on -/
theorem lo_findL {W : Nat → Nat → Prop} {A : Nat → Prop} {B : Prop} {e lo : Nat} (P : Nat → Bool)
    (h0 : ∀ i, ¬ W 0 i) (hx : ∀ n, W (n + 1) e ↔ B)
    (ht : ∀ n i, lo ≤ i → i < e → P i = true → (W (n + 1) i ↔ A i))
    (hf : ∀ n i, lo ≤ i → i < e → P i = false → (W (n + 1) i ↔ W n (i + 1))) :
    ∀ d i, lo ≤ i → i + d = e → ((∃ n, W n i) ↔ (lo_s P d i < e → A (lo_s P d i)) ∧ (¬ lo_s P d i < e → B)) := by
  intro d
  induction d with
  | zero =>
    intro i hl hi
    obtain rfl : i = e := by omega
    constructor
    · rintro ⟨n, h⟩
      cases n with
      | zero => exact absurd h (h0 _)
      | succ n => exact ⟨fun z => absurd z (Nat.lt_irrefl _), fun _ => (hx n).mp h⟩
    · exact fun h => ⟨1, (hx 0).mpr (h.2 (Nat.lt_irrefl _))⟩
  | succ d ih =>
    intro i hl hi
    have g := ih (i + 1) (by omega) (by omega)
    cases hp : P i with
    | true =>
      have es : lo_s P (d + 1) i = i := if_pos hp
      rw [es]
      constructor
      · rintro ⟨n, h⟩
        cases n with
        | zero => exact absurd h (h0 _)
        | succ n => exact ⟨fun _ => (ht n i hl (by omega) hp).mp h, fun z => absurd (show i < e by omega) z⟩
      · exact fun h => ⟨1, (ht 0 i hl (by omega) hp).mpr (h.1 (by omega))⟩
    | false =>
      have es : lo_s P (d + 1) i = lo_s P d (i + 1) := if_neg (by rw [hp]; decide)
      rw [es]
      constructor
      · rintro ⟨n, h⟩
        cases n with
        | zero => exact absurd h (h0 _)
        | succ n => exact g.mp ⟨n, (hf n i hl (by omega) hp).mp h⟩
      · intro h
        obtain ⟨n, h⟩ := g.mpr h
        exact ⟨n + 1, (hf n i hl (by omega) hp).mpr h⟩
theorem lo_allL {W : Nat → Nat → Prop} {A B : Prop} {e lo : Nat} (P : Nat → Bool)
    (h0 : ∀ i, ¬ W 0 i) (hx : ∀ n, W (n + 1) e ↔ B)
    (hf : ∀ n i, lo ≤ i → i < e → P i = false → (W (n + 1) i ↔ A))
    (ht : ∀ n i, lo ≤ i → i < e → P i = true → (W (n + 1) i ↔ W n (i + 1))) :
    ∀ d i, lo ≤ i → i + d = e → ((∃ n, W n i) ↔ (lo_a P d i = true → B) ∧ (lo_a P d i = false → A)) := by
  intro d
  induction d with
  | zero =>
    intro i hl hi
    obtain rfl : i = e := by omega
    constructor
    · rintro ⟨n, h⟩
      cases n with
      | zero => exact absurd h (h0 _)
      | succ n => exact ⟨fun _ => (hx n).mp h, fun z => nomatch z⟩
    · exact fun h => ⟨1, (hx 0).mpr (h.1 rfl)⟩
  | succ d ih =>
    intro i hl hi
    have g := ih (i + 1) (by omega) (by omega)
    cases hp : P i with
    | false =>
      have es : lo_a P (d + 1) i = false := by show (P i && _) = false; rw [hp]; rfl
      rw [es]
      constructor
      · rintro ⟨n, h⟩
        cases n with
        | zero => exact absurd h (h0 _)
        | succ n => exact ⟨(fun z => nomatch z), fun _ => (hf n i hl (by omega) hp).mp h⟩
      · exact fun h => ⟨1, (hf 0 i hl (by omega) hp).mpr (h.2 rfl)⟩
    | true =>
      have es : lo_a P (d + 1) i = lo_a P d (i + 1) := by show (P i && _) = _; rw [hp]; rfl
      rw [es]
      constructor
      · rintro ⟨n, h⟩
        cases n with
        | zero => exact absurd h (h0 _)
        | succ n => exact g.mp ⟨n, (ht n i hl (by omega) hp).mp h⟩
      · intro h
        obtain ⟨n, h⟩ := g.mpr h
        exact ⟨n + 1, (ht n i hl (by omega) hp).mpr h⟩
theorem lo_s1 (P : Nat → Bool) : ∀ d i, i ≤ lo_s P d i ∧ lo_s P d i ≤ i + d
  | 0, i => ⟨Nat.le_refl _, Nat.le_refl _⟩
  | d + 1, i => by
    have := lo_s1 P d (i + 1)
    unfold lo_s
    split <;> omega
theorem lo_s2 (P : Nat → Bool) : ∀ d i, lo_s P d i < i + d → P (lo_s P d i) = true
  | 0, i => fun h => absurd h (Nat.lt_irrefl _)
  | d + 1, i => by
    have := lo_s2 P d (i + 1)
    unfold lo_s
    split
    · intro _; assumption
    · intro h; exact this (by omega)
theorem lo_sc {P Q : Nat → Bool} : ∀ d i, (∀ j, i ≤ j → j < i + d → P j = Q j) → lo_s P d i = lo_s Q d i
  | 0, _, _ => rfl
  | d + 1, i, h => by
    unfold lo_s
    rw [h i (by omega) (by omega), lo_sc d (i + 1) (fun j a b => h j (by omega) (by omega))]
theorem lo_ac {P Q : Nat → Bool} : ∀ d i, (∀ j, i ≤ j → j < i + d → P j = Q j) → lo_a P d i = lo_a Q d i
  | 0, _, _ => rfl
  | d + 1, i, h => by
    unfold lo_a
    rw [h i (by omega) (by omega), lo_ac d (i + 1) (fun j a b => h j (by omega) (by omega))]
theorem lo_ai {P : Nat → Bool} : ∀ d i, lo_a P d i = true ↔ ∀ j, i ≤ j → j < i + d → P j = true
  | 0, i => ⟨fun _ j a b => absurd b (by omega), fun _ => rfl⟩
  | d + 1, i => by
    unfold lo_a
    rw [Bool.and_eq_true, lo_ai d (i + 1)]
    constructor
    · rintro ⟨a, b⟩ j h1 h2
      rcases Nat.lt_or_ge i j with h | h
      · exact b j h (by omega)
      · obtain rfl : j = i := by omega
        exact a
    · exact fun h => ⟨h i (Nat.le_refl _) (by omega), fun j a b => h j (by omega) (by omega)⟩
theorem lo_fc {α : Type} {f g : Nat → α → α} : ∀ d i a, (∀ j a, i ≤ j → j < i + d → f j a = g j a) → lo_f f d i a = lo_f g d i a
  | 0, _, _, _ => rfl
  | d + 1, i, a, h => by
    unfold lo_f
    rw [h i a (by omega) (by omega), lo_fc d (i + 1) _ (fun j a x y => h j a (by omega) (by omega))]
theorem lo_fI {α : Type} {f : Nat → α → α} {I : Nat → α → Prop} : ∀ d i a, (∀ j a, i ≤ j → j < i + d → I j a → I (j + 1) (f j a)) → I i a → I (i + d) (lo_f f d i a)
  | 0, _, _, _, h => h
  | d + 1, i, a, h, ha => by
    have := lo_fI (f := f) (I := I) d (i + 1) (f i a) (fun j a x y => h j a (by omega) (by omega)) (h i a (Nat.le_refl _) (by omega) ha)
    rw [show i + (d + 1) = i + 1 + d by omega]
    exact this
end
section
/-! sizes, least ones, the four sorts of systems: pure -/
def sz_ (s : Nat) : Nat := lo_f (fun n a => a + s / 2 ^ n % 2) 7 0 0
theorem sz_e (s : Nat) : sz_ s = 0 + s / 2 ^ 0 % 2 + s / 2 ^ 1 % 2 + s / 2 ^ 2 % 2 + s / 2 ^ 3 % 2 + s / 2 ^ 4 % 2 + s / 2 ^ 5 % 2 + s / 2 ^ 6 % 2 := rfl
theorem sz_7 (s : Nat) : sz_ s ≤ 7 := by rw [sz_e]; omega
theorem sz_b {a b i : Nat} (h : a.testBit i = true → b.testBit i = true) : a / 2 ^ i % 2 ≤ b / 2 ^ i % 2 := by
  rw [← Nat.toNat_testBit, ← Nat.toNat_testBit]
  revert h
  cases a.testBit i <;> cases b.testBit i <;> decide
theorem sz_mono {a b : Nat} (h : ∀ i, a.testBit i = true → b.testBit i = true) : sz_ a ≤ sz_ b := by
  rw [sz_e, sz_e]
  have h0 := sz_b (h 0)
  have h1 := sz_b (h 1)
  have h2 := sz_b (h 2)
  have h3 := sz_b (h 3)
  have h4 := sz_b (h 4)
  have h5 := sz_b (h 5)
  have h6 := sz_b (h 6)
  generalize a / 2 ^ 0 % 2 = a0 at *
  generalize a / 2 ^ 1 % 2 = a1 at *
  generalize a / 2 ^ 2 % 2 = a2 at *
  generalize a / 2 ^ 3 % 2 = a3 at *
  generalize a / 2 ^ 4 % 2 = a4 at *
  generalize a / 2 ^ 5 % 2 = a5 at *
  generalize a / 2 ^ 6 % 2 = a6 at *
  generalize b / 2 ^ 0 % 2 = b0 at *
  generalize b / 2 ^ 1 % 2 = b1 at *
  generalize b / 2 ^ 2 % 2 = b2 at *
  generalize b / 2 ^ 3 % 2 = b3 at *
  generalize b / 2 ^ 4 % 2 = b4 at *
  generalize b / 2 ^ 5 % 2 = b5 at *
  generalize b / 2 ^ 6 % 2 = b6 at *
  omega
/-- one bit less -/
theorem sz_drop {s k : Nat} (hs : s < 128) (h : s.testBit k = true) : s &&& (2 ^ k ^^^ 127) < s := by
  have hle : s &&& (2 ^ k ^^^ 127) ≤ s := Nat.and_le_left
  rcases Nat.lt_or_ge (s &&& (2 ^ k ^^^ 127)) s with z | z
  · exact z
  · have e : s &&& (2 ^ k ^^^ 127) = s := by omega
    have hk : k < 7 := by
      rcases Nat.lt_or_ge k 7 with z | z
      · exact z
      · rw [nu_tb hs z] at h; exact nomatch h
    have e2 := congrArg (fun z => Nat.testBit z k) e
    simp only [Nat.testBit_and, Nat.testBit_xor, nu_t127, h, Nat.testBit_two_pow_self, hk, decide_true] at e2
    exact nomatch e2
/-- the least sets of a family -/
def ls_ (Q : Nat → Bool) (s : Nat) : Bool := Q s && lo_a (fun k => !(s / 2 ^ k % 2 == 1 && Q (s &&& (2 ^ k ^^^ 127)))) 7 0
theorem ls_ex {Q : Nat → Bool} : ∀ s, s < 128 → Q s = true → ∃ t, t < 128 ∧ ls_ Q t = true ∧ ∀ i, t.testBit i = true → s.testBit i = true := by
  intro s
  induction s using Nat.strongRecOn with
  | _ s ih =>
    intro hs hq
    cases hl : ls_ Q s with
    | true => exact ⟨s, hs, hl, fun _ h => h⟩
    | false =>
      unfold ls_ at hl
      rw [hq, Bool.true_and] at hl
      have : ¬ ∀ k, 0 ≤ k → k < 0 + 7 → (!(s / 2 ^ k % 2 == 1 && Q (s &&& (2 ^ k ^^^ 127)))) = true := by
        rw [← lo_ai, hl]; decide
      have ⟨k, hk⟩ := Classical.not_forall.mp this
      have ⟨hk0, hk1⟩ := Classical.not_imp.mp hk
      have ⟨hk2, hk3⟩ := Classical.not_imp.mp hk1
      rw [Bool.not_eq_true', Bool.not_eq_false, Bool.and_eq_true, beq_iff_eq] at hk3
      obtain ⟨hb, hQ⟩ := hk3
      have ht : s.testBit k = true := by rw [Nat.testBit_eq_decide_div_mod_eq, decide_eq_true hb]
      obtain ⟨t, h1, h2, h3⟩ := ih _ (sz_drop hs ht) (nu_and7 hs) hQ
      refine ⟨t, h1, h2, fun i hi => ?_⟩
      have := h3 i hi
      rw [Nat.testBit_and, Bool.and_eq_true] at this
      exact this.1
theorem mi_ {Q : Nat → Bool} {g : Nat → Nat} : ∀ d i a y, y ≤ lo_f (fun r a => if Q r = true then min a (g r) else a) d i a ↔ y ≤ a ∧ ∀ r, i ≤ r → r < i + d → Q r = true → y ≤ g r
  | 0, i, a, y => ⟨fun h => ⟨h, fun r h1 h2 => absurd h2 (by omega)⟩, fun h => h.1⟩
  | d + 1, i, a, y => by
    unfold lo_f
    rw [mi_ d (i + 1)]
    constructor
    · rintro ⟨h1, h2⟩
      cases hq : Q i with
      | true =>
        rw [if_pos hq, Nat.le_min] at h1
        refine ⟨h1.1, fun r a b c => ?_⟩
        rcases Nat.lt_or_ge i r with z | z
        · exact h2 r z (by omega) c
        · obtain rfl : r = i := by omega
          exact h1.2
      | false =>
        rw [if_neg (by rw [hq]; decide)] at h1
        refine ⟨h1, fun r a b c => ?_⟩
        rcases Nat.lt_or_ge i r with z | z
        · exact h2 r z (by omega) c
        · obtain rfl : r = i := by omega
          rw [hq] at c; exact nomatch c
    · rintro ⟨h1, h2⟩
      refine ⟨?_, fun r a b c => h2 r (by omega) (by omega) c⟩
      cases hq : Q i with
      | true => rw [if_pos rfl, Nat.le_min]; exact ⟨h1, h2 i (Nat.le_refl _) (by omega) hq⟩
      | false => rw [if_neg (by decide)]; exact h1
theorem mi_eq {x y : Nat} (h : ∀ z, z ≤ x ↔ z ≤ y) : x = y := Nat.le_antisymm ((h x).mp (Nat.le_refl _)) ((h y).mpr (Nat.le_refl _))
/-- the least size among all sets of a family, and among its least sets -/
theorem mi_ls {Q : Nat → Bool} (a : Nat) : lo_f (fun r a => if Q r = true then min a (sz_ r) else a) 128 0 a = lo_f (fun r a => if ls_ Q r = true then min a (sz_ r) else a) 128 0 a := by
  apply mi_eq
  intro z
  rw [mi_, mi_]
  constructor
  · rintro ⟨h1, h2⟩
    refine ⟨h1, fun r a b c => h2 r a b ?_⟩
    unfold ls_ at c
    exact (Bool.and_eq_true _ _ ▸ c).1
  · rintro ⟨h1, h2⟩
    refine ⟨h1, fun r a b c => ?_⟩
    obtain ⟨t, ht, hl, hsub⟩ := ls_ex r (by omega) c
    exact Nat.le_trans (h2 t (Nat.zero_le _) (by omega) hl) (sz_mono hsub)
/-- nested: the least common size -/
def mc_ (P Q : Nat → Bool) (a : Nat) : Nat := lo_f (fun q a => if P q = true then lo_f (fun r a => if Q r = true then min a (sz_ (q &&& r)) else a) 128 0 a else a) 128 0 a
theorem mc_i {P Q : Nat → Bool} : ∀ d i a y, y ≤ lo_f (fun q a => if P q = true then lo_f (fun r a => if Q r = true then min a (sz_ (q &&& r)) else a) 128 0 a else a) d i a ↔ y ≤ a ∧ ∀ q, i ≤ q → q < i + d → P q = true → ∀ r, r < 128 → Q r = true → y ≤ sz_ (q &&& r)
  | 0, i, a, y => ⟨fun h => ⟨h, fun r h1 h2 => absurd h2 (by omega)⟩, fun h => h.1⟩
  | d + 1, i, a, y => by
    unfold lo_f
    rw [mc_i d (i + 1)]
    constructor
    · rintro ⟨h1, h2⟩
      cases hq : P i with
      | true =>
        rw [if_pos hq, mi_] at h1
        refine ⟨h1.1, fun r a b c => ?_⟩
        rcases Nat.lt_or_ge i r with z | z
        · exact h2 r z (by omega) c
        · obtain rfl : r = i := by omega
          exact fun x hx hQ => h1.2 x (Nat.zero_le _) (by omega) hQ
      | false =>
        rw [if_neg (by rw [hq]; decide)] at h1
        refine ⟨h1, fun r a b c => ?_⟩
        rcases Nat.lt_or_ge i r with z | z
        · exact h2 r z (by omega) c
        · obtain rfl : r = i := by omega
          rw [hq] at c; exact nomatch c
    · rintro ⟨h1, h2⟩
      refine ⟨?_, fun r a b c => h2 r (by omega) (by omega) c⟩
      cases hq : P i with
      | true => rw [if_pos rfl, mi_]; exact ⟨h1, fun r _ hr hQ => h2 i (Nat.le_refl _) (by omega) hq r (by omega) hQ⟩
      | false => rw [if_neg (by decide)]; exact h1
theorem mc_ls {P Q : Nat → Bool} (a : Nat) : mc_ P Q a = mc_ (ls_ P) Q a := by
  apply mi_eq
  intro z
  unfold mc_
  rw [mc_i, mc_i]
  constructor
  · rintro ⟨h1, h2⟩
    refine ⟨h1, fun r a b c => h2 r a b ?_⟩
    unfold ls_ at c
    exact (Bool.and_eq_true _ _ ▸ c).1
  · rintro ⟨h1, h2⟩
    refine ⟨h1, fun q a b c r hr hQ => ?_⟩
    obtain ⟨t, ht, hl, hsub⟩ := ls_ex q (by omega) c
    refine Nat.le_trans (h2 t (Nat.zero_le _) (by omega) hl r hr hQ) (sz_mono fun i hi => ?_)
    rw [Nat.testBit_and, Bool.and_eq_true] at hi ⊢
    exact ⟨hsub i hi.1, hi.2⟩
/-! the sorts -/
def gr_row (r c s : Nat) : Bool := lo_f (fun i a => a || (s &&& ((2 ^ c - 1) * 2 ^ (c * i)) == (2 ^ c - 1) * 2 ^ (c * i))) r 0 false
def gr_cm (r c j : Nat) : Nat := lo_f (fun i a => a ||| 2 ^ (c * i + j)) r 0 0
def gr_col (r c s : Nat) : Nat := lo_f (fun j a => a + if s &&& gr_cm r c j = gr_cm r c j then 1 else 0) c 0 0
def gr_one (r c : Nat) (o : Bool) (s line : Nat) : Bool := lo_f (fun k w => if (if o = true then k / c else k % c) = line ∧ s / 2 ^ k % 2 = 0 then false else w) (r * c) 0 true
def gr_ln (r c : Nat) (o : Bool) (s : Nat) : Nat := lo_f (fun line n => if gr_one r c o s line = true then n + 1 else n) (if o = true then r else c) 0 0
def gr_chk : Bool := (List.range 8).all fun r => (List.range 8).all fun c => !(decide (1 ≤ r) && decide (1 ≤ c) && decide (r * c ≤ 7)) || (List.range 128).all fun s => (gr_row r c s == decide (0 < gr_ln r c true s)) && (gr_col r c s == gr_ln r c false s) && decide (gr_ln r c true s ≤ gr_ln r c true 127) && decide (gr_ln r c false s ≤ gr_ln r c false 127)
theorem gr_ok : gr_chk = true := by decide +kernel
theorem gr_all {r c s : Nat} (h1 : 1 ≤ r) (h2 : 1 ≤ c) (h : r * c ≤ 7) (hs : s < 128) : gr_row r c s = decide (0 < gr_ln r c true s) ∧ gr_col r c s = gr_ln r c false s ∧ gr_ln r c true s ≤ gr_ln r c true 127 ∧ gr_ln r c false s ≤ gr_ln r c false 127 := by
  have hr : r ≤ 7 := Nat.le_trans (Nat.le_mul_of_pos_right r h2) h
  have hc : c ≤ 7 := Nat.le_trans (Nat.le_mul_of_pos_left c h1) h
  have g := gr_ok
  unfold gr_chk at g
  rw [List.all_eq_true] at g
  have g := g r (List.mem_range.mpr (by omega))
  rw [List.all_eq_true] at g
  have g := g c (List.mem_range.mpr (by omega))
  rw [decide_eq_true h1, decide_eq_true h2, decide_eq_true h] at g
  have g : ((List.range 128).all fun s => (gr_row r c s == decide (0 < gr_ln r c true s)) && (gr_col r c s == gr_ln r c false s) && decide (gr_ln r c true s ≤ gr_ln r c true 127) && decide (gr_ln r c false s ≤ gr_ln r c false 127)) = true := g
  rw [List.all_eq_true] at g
  have g := g s (List.mem_range.mpr hs)
  rw [Bool.and_eq_true, Bool.and_eq_true, Bool.and_eq_true, beq_iff_eq, beq_iff_eq, decide_eq_true_eq, decide_eq_true_eq] at g
  exact ⟨g.1.1.1, g.1.1.2, g.1.2, g.2⟩
def wt_ (w s : Nat) : Nat := (lo_f (fun n (p : Nat × Nat) => (p.1 / 10, p.2 + s / 2 ^ n % 2 * (p.1 % 10))) 7 0 (w, 0)).2
theorem wt_m {s n : Nat} (x : Nat) : s / 2 ^ n % 2 * x ≤ 1 * x := Nat.mul_le_mul_right x (by omega)
theorem wt_e (w s : Nat) : wt_ w s = 0 + s / 2 ^ 0 % 2 * (w % 10) + s / 2 ^ 1 % 2 * (w / 10 % 10) + s / 2 ^ 2 % 2 * (w / 10 / 10 % 10) + s / 2 ^ 3 % 2 * (w / 10 / 10 / 10 % 10) + s / 2 ^ 4 % 2 * (w / 10 / 10 / 10 / 10 % 10) + s / 2 ^ 5 % 2 * (w / 10 / 10 / 10 / 10 / 10 % 10) + s / 2 ^ 6 % 2 * (w / 10 / 10 / 10 / 10 / 10 / 10 % 10) := rfl
theorem wt_mono (w s : Nat) : wt_ w s ≤ wt_ w 127 := by
  rw [wt_e, wt_e]
  exact Nat.add_le_add (Nat.add_le_add (Nat.add_le_add (Nat.add_le_add (Nat.add_le_add (Nat.add_le_add (Nat.add_le_add (Nat.le_refl _) (wt_m _)) (wt_m _)) (wt_m _)) (wt_m _)) (wt_m _)) (wt_m _)) (wt_m _)
def li_ (l s : Nat) : Bool := lo_f (fun p a => a || (l / 2 ^ (7 * p) &&& 127) != 0 && (s &&& (l / 2 ^ (7 * p) &&& 127)) == (l / 2 ^ (7 * p) &&& 127)) 4 0 false
theorem li_mono {l s : Nat} (h : li_ l s = true) : li_ l 127 = true := by
  have e : ∀ x, (x &&& 127) != 0 && (127 &&& (x &&& 127)) == (x &&& 127) ↔ (x &&& 127) ≠ 0 := by
    intro x
    have : 127 &&& (x &&& 127) = x &&& 127 := by
      apply Nat.eq_of_testBit_eq
      intro i
      simp only [Nat.testBit_and, nu_t127]
      cases x.testBit i <;> by_cases h : i < 7 <;> simp [h]
    rw [this]; simp
  have k : li_ l s = true → ∃ p, p < 4 ∧ (l / 2 ^ (7 * p) &&& 127) ≠ 0 := by
    intro h
    unfold li_ at h
    simp only [lo_f, Bool.or_eq_true, Bool.and_eq_true, bne_iff_ne] at h
    rcases h with (((h | h) | h) | h) | h
    · exact nomatch h
    · exact ⟨_, by decide, h.1⟩
    · exact ⟨_, by decide, h.1⟩
    · exact ⟨_, by decide, h.1⟩
    · exact ⟨_, by decide, h.1⟩
  obtain ⟨p, hp, hz⟩ := k h
  have hz := (e _).mpr hz
  unfold li_
  simp only [lo_f, Bool.or_eq_true]
  rcases (by omega : p = 0 ∨ p = 1 ∨ p = 2 ∨ p = 3) with rfl | rfl | rfl | rfl
  · exact Or.inl (Or.inl (Or.inl (Or.inr hz)))
  · exact Or.inl (Or.inl (Or.inr hz))
  · exact Or.inl (Or.inr hz)
  · exact Or.inr hz
end
section
/-! the two states as images of one; the small methods -/
theorem li_0 : (0 : Int32) = nI 0 := rfl
theorem li_1 : (1 : Int32) = nI 1 := rfl
theorem li_2 : (2 : Int32) = nI 2 := rfl
theorem li_3 : (3 : Int32) = nI 3 := rfl
theorem li_4 : (4 : Int32) = nI 4 := rfl
theorem li_6 : (6 : Int32) = nI 6 := rfl
theorem li_7 : (7 : Int32) = nI 7 := rfl
theorem li_8 : (8 : Int32) = nI 8 := rfl
theorem li_9 : (9 : Int32) = nI 9 := rfl
theorem li_10 : (10 : Int32) = nI 10 := rfl
theorem li_12 : (12 : Int32) = nI 12 := rfl
theorem li_21 : (21 : Int32) = nI 21 := rfl
theorem li_24 : (24 : Int32) = nI 24 := rfl
theorem li_31 : (31 : Int32) = nI 31 := rfl
theorem li_60 : (60 : Int32) = nI 60 := rfl
theorem li_63 : (63 : Int32) = nI 63 := rfl
theorem li_127 : (127 : Int32) = nI 127 := rfl
theorem li_128 : (128 : Int32) = nI 128 := rfl
theorem li_256 : (256 : Int32) = nI 256 := rfl
theorem li_312 : (312 : Int32) = nI 312 := rfl
theorem li_384 : (384 : Int32) = nI 384 := rfl
def pc_x (p : Nat → Nat) : Nat → Int32 := fun j => if p j = 0 then -nI 3 else nI (p j - 1)
def pc_y (p : Nat → Nat) : Nat → Int32 := fun j => if p j = 0 then -nI 1 else nI (p j - 1)
def mn_ (a : Nat) : Int32 := if a = 8 then -nI 3 else nI a
theorem pc_x0 {p : Nat → Nat} {j : Nat} (h : p j = 0) : pc_x p j = -nI 3 := if_pos h
theorem pc_xs {p : Nat → Nat} {j : Nat} (h : 0 < p j) : pc_x p j = nI (p j - 1) := if_neg (by omega)
theorem pc_y0 {p : Nat → Nat} {j : Nat} (h : p j = 0) : pc_y p j = -nI 1 := if_pos h
theorem pc_ys {p : Nat → Nat} {j : Nat} (h : 0 < p j) : pc_y p j = nI (p j - 1) := if_neg (by omega)
theorem pc_xu (p : Nat → Nat) (k x : Nat) : upd (pc_x p) k (nI x) = pc_x (st_n p k (x + 1)) := by
  funext j
  show (if j = k then nI x else if p j = 0 then -nI 3 else nI (p j - 1)) = if (if j = k then x + 1 else p j) = 0 then -nI 3 else nI ((if j = k then x + 1 else p j) - 1)
  by_cases h : j = k
  · rw [if_pos h, if_pos h, if_neg (by omega)]; rfl
  · rw [if_neg h, if_neg h]
theorem pc_yu (p : Nat → Nat) (k x : Nat) : upd (pc_y p) k (nI x) = pc_y (st_n p k (x + 1)) := by
  funext j
  show (if j = k then nI x else if p j = 0 then -nI 1 else nI (p j - 1)) = if (if j = k then x + 1 else p j) = 0 then -nI 1 else nI ((if j = k then x + 1 else p j) - 1)
  by_cases h : j = k
  · rw [if_pos h, if_pos h, if_neg (by omega)]; rfl
  · rw [if_neg h, if_neg h]
theorem ng_3 {a : Nat} (h : a < 2 ^ 31) : ¬ nI a = -nI 3 := by
  intro z
  have := congrArg Int32.toInt z
  rw [nI_toInt h, show (-nI 3 : Int32).toInt = -3 from by decide] at this
  omega
theorem ng_3' {a : Nat} (h : a < 2 ^ 31) : ¬ -nI 3 = nI a := fun z => ng_3 h z.symm
theorem ng_1 {a : Nat} (h : a < 2 ^ 31) : ¬ nI a = -nI 1 := by
  intro z
  have := congrArg Int32.toInt z
  rw [nI_toInt h, show (-nI 1 : Int32).toInt = -1 from by decide] at this
  omega
theorem ng_1' {a : Nat} (h : a < 2 ^ 31) : ¬ -nI 1 = nI a := fun z => ng_1 h z.symm
theorem ng_1le {a : Nat} (h : a < 2 ^ 31) : -nI 1 ≤ nI a := by
  rw [Int32.le_iff_toInt_le, nI_toInt h, show (-nI 1 : Int32).toInt = -1 from by decide]; omega
theorem ng_1lt {a : Nat} (h : a < 2 ^ 31) : -nI 1 < nI a := by
  rw [Int32.lt_iff_toInt_lt, nI_toInt h, show (-nI 1 : Int32).toInt = -1 from by decide]; omega
/-- is a number within a range -/
def iz (a b : Nat) (x : Int32) : Bool := decide ((a : Int) ≤ x.toInt ∧ x.toInt ≤ (b : Int))
theorem iz_n {a b j : Nat} (h : j < 2 ^ 31) : iz a b (nI j) = decide (a ≤ j ∧ j ≤ b) := by
  unfold iz
  rw [nI_toInt h]
  exact decide_eq_decide.mpr (by omega)
theorem iz_c (a b : Nat) (x : Int32) : iz a b x = false ∨ ∃ j, a ≤ j ∧ j ≤ b ∧ j < 2 ^ 31 ∧ x = nI j ∧ iz a b (nI j) = true := by
  cases h : iz a b x with
  | false => exact Or.inl rfl
  | true =>
    right
    have h' := h
    unfold iz at h'
    rw [decide_eq_true_eq] at h'
    have hx : ¬ x < 0 := by
      rw [Int32.lt_iff_toInt_lt, show (0 : Int32).toInt = 0 from by decide]; omega
    obtain ⟨j, hj, rfl⟩ := nI_of hx
    rw [nI_toInt hj] at h'
    exact ⟨j, by omega, by omega, hj, rfl, h⟩
theorem iz_lt {a b : Nat} {x : Int32} (ha : a < 2 ^ 31) (hb : b < 2 ^ 31) {P : Int32 → Prop} : ((x < nI a → P (nI 0)) ∧ (¬ x < nI a → ((nI b < x → P (nI 0)) ∧ (¬ nI b < x → P (nI 1))))) ↔ P (bo_i (iz a b x)) := by
  unfold iz
  simp only [Int32.lt_iff_toInt_lt, nI_toInt ha, nI_toInt hb]
  by_cases h1 : x.toInt < a
  · rw [decide_eq_false (by omega)]; simp [h1]; exact Iff.rfl
  · by_cases h2 : (b : Int) < x.toInt
    · rw [decide_eq_false (by omega)]; simp [h1, h2]; exact Iff.rfl
    · rw [decide_eq_true (by omega)]; simp [h1, h2]; exact Iff.rfl
theorem iz_le {b : Nat} {x : Int32} (hb : b + 1 < 2 ^ 31) {P : Int32 → Prop} : ((x < nI 0 → P (nI 0)) ∧ (¬ x < nI 0 → ((nI (b + 1) ≤ x → P (nI 0)) ∧ (¬ nI (b + 1) ≤ x → P (nI 1))))) ↔ P (bo_i (iz 0 b x)) := by
  unfold iz
  simp only [Int32.lt_iff_toInt_lt, Int32.le_iff_toInt_le, nI_toInt hb, nI_toInt (show 0 < 2 ^ 31 by decide)]
  by_cases h1 : x.toInt < 0
  · rw [decide_eq_false (by omega)]; simp [h1]; exact Iff.rfl
  · by_cases h2 : ((b + 1 : Nat) : Int) ≤ x.toInt
    · rw [decide_eq_false (by omega)]; simp only [h2]; simp [h1]; exact Iff.rfl
    · rw [decide_eq_true (by omega)]; simp only [h2]; simp [h1]; exact Iff.rfl
section
variable {bg : Nat} {df iq tb up fa co fr dn : Nat → Bool} {op ov sp sv qb qi qj qv ql so ba an pk kv vo kn : Nat → Nat} {srt num : Nat → Int32}
variable {post : Int32 → Prop} {x : Int32} {a b s k t n : Nat}
theorem xc_within (ha : a < 2 ^ 31) (hb : b < 2 ^ 31) : wpX_within post x (nI a) (nI b) ↔ post (bo_i (iz a b x)) := iz_lt ha hb
theorem yc_in (ha : a < 2 ^ 31) (hb : b < 2 ^ 31) : wpY_in post x (nI a) (nI b) ↔ post (bo_i (iz a b x)) := iz_lt ha hb
theorem xc_isNode : wpX_isNode post x ↔ post (bo_i (iz 0 6 x)) := iz_le (b := 6) (by decide)
theorem xc_isKind : wpX_isKind post x ↔ post (bo_i (iz 0 2 x)) := iz_le (b := 2) (by decide)
theorem xc_isInstance : wpX_isInstance post x ↔ post (bo_i (iz 0 2 x)) := iz_le (b := 2) (by decide)
theorem xc_isLearner : wpX_isLearner post x ↔ post (bo_i (iz 0 1 x)) := iz_le (b := 1) (by decide)
theorem xc_isValue : wpX_isValue post x ↔ post (bo_i (iz 1 7 x)) := iz_lt (by decide) (by decide)
theorem xc_isBallot (hb : bg ≤ 12) : wpX_isBallot post (nI bg, ar_b df, ar_b iq, ar_b tb, ar_b up, ar_n op, ar_n ov, ar_n sp, ar_n sv, ar_n qb, ar_n qi, ar_n qv, ar_n ql, ar_n so, ar_b fa, ar_n ba, ar_n an, ar_b co, pc_x pk, ar_b fr, ar_n kv, ar_n vo, ar_n kn) x ↔ post (bo_i (iz 1 bg x)) := iz_lt (by decide) (by omega)
theorem yc_isBallot (hb : bg ≤ 12) : wpY_isBallot post (nI bg, srt, num, ar_n so, ar_n ba, ar_n an, pc_y pk, ar_n kv, ar_b fa, ar_b co, ar_b fr, ar_b dn, ar_n sp, ar_n sv, ar_n ql, ar_n qb, ar_n qj, ar_n qv, ar_n vo, ar_n kn) x ↔ post (bo_i (iz 1 bg x)) := by
  simp only [wpY_isBallot]
  refine (iz_lt (a := 1) (b := bg) (by decide) (by omega) (P := fun r => narrow .boolean (.int r) = .int r ∧ post r)).trans ?_
  simp only [bo_w, true_and]
theorem xc_tallyCell : wpX_tallyCell post (nI a) (nI b) (nI k) ↔ post (nI ((a * 3 + b) * 8 + k)) := by
  simp (disch := first | omega | assumption) only [li_0, li_1, li_2, li_3, li_4, li_6, li_7, li_8, li_9, li_10, li_12, li_21, li_24, li_31, li_60, li_63, li_127, li_128, li_256, li_312, li_384, nI_add, nu_mul, nu_sub, nu_div, nu_and, nu_or, nu_shr, nu_bit, nu_diff, bi_2, nI_leI, nI_ltI, nI_eq, vp_in_nI, nI_clamp, ar_na, ar_ba, bo_0, bo_1, bo_it, bo_if, bo_w, bo_w0, bo_w1, bo_nar, bo_n1, bo_nn0, st_bu, st_bu1, st_bu0, st_nu, forall_eq, true_implies, false_implies, forall_const, not_true_eq_false, not_false_eq_true, and_true, true_and, implies_true, and_self, Bool.false_eq_true, Bool.true_eq_false, reduceCtorEq, ite_true, ite_false, if_true, if_false, eq_self, Nat.zero_add, Nat.add_zero, Nat.le_refl, Nat.lt_irrefl, Nat.reduceEqDiff, Nat.reduceLeDiff, Nat.reduceLT, Nat.reduceAdd, Nat.reduceMul, Nat.reduceSub, wpX_tallyCell]
theorem xc_holds (hs : s < 4) (hk : k < 3) (ht : t < 128) : wpX_holds post (nI bg, ar_b df, ar_b iq, ar_b tb, ar_b up, ar_n op, ar_n ov, ar_n sp, ar_n sv, ar_n qb, ar_n qi, ar_n qv, ar_n ql, ar_n so, ar_b fa, ar_n ba, ar_n an, ar_b co, pc_x pk, ar_b fr, ar_n kv, ar_n vo, ar_n kn) (nI s) (nI k) (nI t) ↔ post (bo_i (iq (s * 384 + k * 128 + t))) := by
  simp (disch := first | omega | assumption) only [li_0, li_1, li_2, li_3, li_4, li_6, li_7, li_8, li_9, li_10, li_12, li_21, li_24, li_31, li_60, li_63, li_127, li_128, li_256, li_312, li_384, nI_add, nu_mul, nu_sub, nu_div, nu_and, nu_or, nu_shr, nu_bit, nu_diff, bi_2, nI_leI, nI_ltI, nI_eq, vp_in_nI, nI_clamp, ar_na, ar_ba, bo_0, bo_1, bo_it, bo_if, bo_w, bo_w0, bo_w1, bo_nar, bo_n1, bo_nn0, st_bu, st_bu1, st_bu0, st_nu, forall_eq, true_implies, false_implies, forall_const, not_true_eq_false, not_false_eq_true, and_true, true_and, implies_true, and_self, Bool.false_eq_true, Bool.true_eq_false, reduceCtorEq, ite_true, ite_false, if_true, if_false, eq_self, Nat.zero_add, Nat.add_zero, Nat.le_refl, Nat.lt_irrefl, Nat.reduceEqDiff, Nat.reduceLeDiff, Nat.reduceLT, Nat.reduceAdd, Nat.reduceMul, Nat.reduceSub, wpX_holds]
theorem xc_sizeOf (hs : s < 128) : wpX_sizeOf post (nI s) ↔ post (nI (sz_ s)) := by
  simp only [wpX_sizeOf]
  refine lo_fold (W := fun n i a => wX_sizeOf_4 post (nI s) n (nI a) (nI i)) (fin := fun a => post (nI a)) (I := fun i a => a ≤ i) (e := 7) (fun n a => a + s / 2 ^ n % 2) (fun _ _ h => h) ?_ ?_ ?_ 7 0 0 rfl (Nat.le_refl _)
  · intro i a _ h
    have : s / 2 ^ i % 2 < 2 := Nat.mod_lt _ (by decide)
    omega
  · intro n a _
    simp (disch := first | omega | assumption) only [li_0, li_1, li_2, li_3, li_4, li_6, li_7, li_8, li_9, li_10, li_12, li_21, li_24, li_31, li_60, li_63, li_127, li_128, li_256, li_312, li_384, nI_add, nu_mul, nu_sub, nu_div, nu_and, nu_or, nu_shr, nu_bit, nu_diff, bi_2, nI_leI, nI_ltI, nI_eq, vp_in_nI, nI_clamp, ar_na, ar_ba, bo_0, bo_1, bo_it, bo_if, bo_w, bo_w0, bo_w1, bo_nar, bo_n1, bo_nn0, st_bu, st_bu1, st_bu0, st_nu, forall_eq, true_implies, false_implies, forall_const, not_true_eq_false, not_false_eq_true, and_true, true_and, implies_true, and_self, Bool.false_eq_true, Bool.true_eq_false, reduceCtorEq, ite_true, ite_false, if_true, if_false, eq_self, Nat.zero_add, Nat.add_zero, Nat.le_refl, Nat.lt_irrefl, Nat.reduceEqDiff, Nat.reduceLeDiff, Nat.reduceLT, Nat.reduceAdd, Nat.reduceMul, Nat.reduceSub, wX_sizeOf_4]
  · intro n i a hi ha
    simp (disch := first | omega | assumption) only [li_0, li_1, li_2, li_3, li_4, li_6, li_7, li_8, li_9, li_10, li_12, li_21, li_24, li_31, li_60, li_63, li_127, li_128, li_256, li_312, li_384, nI_add, nu_mul, nu_sub, nu_div, nu_and, nu_or, nu_shr, nu_bit, nu_diff, bi_2, nI_leI, nI_ltI, nI_eq, vp_in_nI, nI_clamp, ar_na, ar_ba, bo_0, bo_1, bo_it, bo_if, bo_w, bo_w0, bo_w1, bo_nar, bo_n1, bo_nn0, st_bu, st_bu1, st_bu0, st_nu, forall_eq, true_implies, false_implies, forall_const, not_true_eq_false, not_false_eq_true, and_true, true_and, implies_true, and_self, Bool.false_eq_true, Bool.true_eq_false, reduceCtorEq, ite_true, ite_false, if_true, if_false, eq_self, Nat.zero_add, Nat.add_zero, Nat.le_refl, Nat.lt_irrefl, Nat.reduceEqDiff, Nat.reduceLeDiff, Nat.reduceLT, Nat.reduceAdd, Nat.reduceMul, Nat.reduceSub, wX_sizeOf_4, Nat.not_le.mpr hi, nu_shr, nu_and, bi_2]
theorem yc_size (hs : s < 128) : wpY_size post (nI s) ↔ post (nI (sz_ s)) := by
  simp only [wpY_size]
  refine lo_fold (W := fun n i a => wY_size_4 post (nI s) n (nI a) (nI i)) (fin := fun a => post (nI a)) (I := fun i a => a ≤ i) (e := 7) (fun n a => a + s / 2 ^ n % 2) (fun _ _ h => h) ?_ ?_ ?_ 7 0 0 rfl (Nat.le_refl _)
  · intro i a _ h
    have : s / 2 ^ i % 2 < 2 := Nat.mod_lt _ (by decide)
    omega
  · intro n a _
    simp (disch := first | omega | assumption) only [li_0, li_1, li_2, li_3, li_4, li_6, li_7, li_8, li_9, li_10, li_12, li_21, li_24, li_31, li_60, li_63, li_127, li_128, li_256, li_312, li_384, nI_add, nu_mul, nu_sub, nu_div, nu_and, nu_or, nu_shr, nu_bit, nu_diff, bi_2, nI_leI, nI_ltI, nI_eq, vp_in_nI, nI_clamp, ar_na, ar_ba, bo_0, bo_1, bo_it, bo_if, bo_w, bo_w0, bo_w1, bo_nar, bo_n1, bo_nn0, st_bu, st_bu1, st_bu0, st_nu, forall_eq, true_implies, false_implies, forall_const, not_true_eq_false, not_false_eq_true, and_true, true_and, implies_true, and_self, Bool.false_eq_true, Bool.true_eq_false, reduceCtorEq, ite_true, ite_false, if_true, if_false, eq_self, Nat.zero_add, Nat.add_zero, Nat.le_refl, Nat.lt_irrefl, Nat.reduceEqDiff, Nat.reduceLeDiff, Nat.reduceLT, Nat.reduceAdd, Nat.reduceMul, Nat.reduceSub, wY_size_4]
  · intro n i a hi ha
    simp (disch := first | omega | assumption) only [li_0, li_1, li_2, li_3, li_4, li_6, li_7, li_8, li_9, li_10, li_12, li_21, li_24, li_31, li_60, li_63, li_127, li_128, li_256, li_312, li_384, nI_add, nu_mul, nu_sub, nu_div, nu_and, nu_or, nu_shr, nu_bit, nu_diff, bi_2, nI_leI, nI_ltI, nI_eq, vp_in_nI, nI_clamp, ar_na, ar_ba, bo_0, bo_1, bo_it, bo_if, bo_w, bo_w0, bo_w1, bo_nar, bo_n1, bo_nn0, st_bu, st_bu1, st_bu0, st_nu, forall_eq, true_implies, false_implies, forall_const, not_true_eq_false, not_false_eq_true, and_true, true_and, implies_true, and_self, Bool.false_eq_true, Bool.true_eq_false, reduceCtorEq, ite_true, ite_false, if_true, if_false, eq_self, Nat.zero_add, Nat.add_zero, Nat.le_refl, Nat.lt_irrefl, Nat.reduceEqDiff, Nat.reduceLeDiff, Nat.reduceLT, Nat.reduceAdd, Nat.reduceMul, Nat.reduceSub, wY_size_4, Nat.not_le.mpr hi, nu_shr, nu_and, bi_2]
theorem mn_8 : mn_ 8 = -nI 3 := rfl
theorem mn_lt (h : a < 8) : mn_ a = nI a := if_neg (by omega)
theorem xc_lesser (ha : a ≤ 8) (hb : b ≤ 7) : wpX_lesser post (mn_ a) (nI b) ↔ post (mn_ (min a b)) := by
  rcases Nat.lt_or_ge a 8 with h | h
  · rw [mn_lt h, mn_lt (show min a b < 8 by omega)]
    by_cases z : a ≤ b
    · simp (disch := first | omega | assumption) only [li_0, li_1, li_2, li_3, li_4, li_6, li_7, li_8, li_9, li_10, li_12, li_21, li_24, li_31, li_60, li_63, li_127, li_128, li_256, li_312, li_384, nI_add, nu_mul, nu_sub, nu_div, nu_and, nu_or, nu_shr, nu_bit, nu_diff, bi_2, nI_leI, nI_ltI, nI_eq, vp_in_nI, nI_clamp, ar_na, ar_ba, bo_0, bo_1, bo_it, bo_if, bo_w, bo_w0, bo_w1, bo_nar, bo_n1, bo_nn0, st_bu, st_bu1, st_bu0, st_nu, forall_eq, true_implies, false_implies, forall_const, not_true_eq_false, not_false_eq_true, and_true, true_and, implies_true, and_self, Bool.false_eq_true, Bool.true_eq_false, reduceCtorEq, ite_true, ite_false, if_true, if_false, eq_self, Nat.zero_add, Nat.add_zero, Nat.le_refl, Nat.lt_irrefl, Nat.reduceEqDiff, Nat.reduceLeDiff, Nat.reduceLT, Nat.reduceAdd, Nat.reduceMul, Nat.reduceSub, wpX_lesser, ng_3, z, Nat.min_eq_left z]
    · simp (disch := first | omega | assumption) only [li_0, li_1, li_2, li_3, li_4, li_6, li_7, li_8, li_9, li_10, li_12, li_21, li_24, li_31, li_60, li_63, li_127, li_128, li_256, li_312, li_384, nI_add, nu_mul, nu_sub, nu_div, nu_and, nu_or, nu_shr, nu_bit, nu_diff, bi_2, nI_leI, nI_ltI, nI_eq, vp_in_nI, nI_clamp, ar_na, ar_ba, bo_0, bo_1, bo_it, bo_if, bo_w, bo_w0, bo_w1, bo_nar, bo_n1, bo_nn0, st_bu, st_bu1, st_bu0, st_nu, forall_eq, true_implies, false_implies, forall_const, not_true_eq_false, not_false_eq_true, and_true, true_and, implies_true, and_self, Bool.false_eq_true, Bool.true_eq_false, reduceCtorEq, ite_true, ite_false, if_true, if_false, eq_self, Nat.zero_add, Nat.add_zero, Nat.le_refl, Nat.lt_irrefl, Nat.reduceEqDiff, Nat.reduceLeDiff, Nat.reduceLT, Nat.reduceAdd, Nat.reduceMul, Nat.reduceSub, wpX_lesser, ng_3, z, Nat.min_eq_right (show b ≤ a by omega)]
  · obtain rfl : a = 8 := by omega
    rw [mn_8, mn_lt (show min 8 b < 8 by omega), Nat.min_eq_right (by omega)]
    simp (disch := first | omega | assumption) only [li_0, li_1, li_2, li_3, li_4, li_6, li_7, li_8, li_9, li_10, li_12, li_21, li_24, li_31, li_60, li_63, li_127, li_128, li_256, li_312, li_384, nI_add, nu_mul, nu_sub, nu_div, nu_and, nu_or, nu_shr, nu_bit, nu_diff, bi_2, nI_leI, nI_ltI, nI_eq, vp_in_nI, nI_clamp, ar_na, ar_ba, bo_0, bo_1, bo_it, bo_if, bo_w, bo_w0, bo_w1, bo_nar, bo_n1, bo_nn0, st_bu, st_bu1, st_bu0, st_nu, forall_eq, true_implies, false_implies, forall_const, not_true_eq_false, not_false_eq_true, and_true, true_and, implies_true, and_self, Bool.false_eq_true, Bool.true_eq_false, reduceCtorEq, ite_true, ite_false, if_true, if_false, eq_self, Nat.zero_add, Nat.add_zero, Nat.le_refl, Nat.lt_irrefl, Nat.reduceEqDiff, Nat.reduceLeDiff, Nat.reduceLT, Nat.reduceAdd, Nat.reduceMul, Nat.reduceSub, wpX_lesser]
end
end
section
/-! what the reference reckons of a system, and what the component lays out -/
def cl_ (x : Int32) : Nat := x.toNatClampNeg
theorem cl_n {n : Nat} (h : n < 2 ^ 31) : cl_ (nI n) = n := nI_clamp h
def qf_ (so a b c d : Int32) (k t : Nat) : Bool :=
  if so = nI 3 then li_ (cl_ (if k = 0 then a else if k = 1 then b else c)) t
  else if k = 2 ∧ d = nI 0 then false
  else if so = nI 1 then (if k = 0 then decide (0 < gr_ln (cl_ a) (cl_ b) true t) else decide ((if k = 1 then 1 else cl_ b - 1) ≤ gr_ln (cl_ a) (cl_ b) false t))
  else decide (cl_ (if k = 0 then b else if k = 1 then c else d) ≤ (if so = nI 0 then sz_ (t &&& cl_ a) else wt_ (cl_ a) t))
def rg_ (so a b c d : Int32) : Prop :=
  (so = nI 0 ∧ ∃ a' b' c' d', a = nI a' ∧ b = nI b' ∧ c = nI c' ∧ d = nI d' ∧ 1 ≤ a' ∧ a' ≤ 127 ∧ 1 ≤ b' ∧ b' ≤ 7 ∧ 1 ≤ c' ∧ c' ≤ 7 ∧ d' ≤ 7) ∨
  (so = nI 1 ∧ ∃ a' b', a = nI a' ∧ b = nI b' ∧ 1 ≤ a' ∧ a' ≤ 7 ∧ 1 ≤ b' ∧ b' ≤ 7 ∧ a' * b' ≤ 7) ∨
  (so = nI 2 ∧ ∃ a' b' c' d', a = nI a' ∧ b = nI b' ∧ c = nI c' ∧ d = nI d' ∧ a' ≤ 9999999 ∧ 1 ≤ b' ∧ b' ≤ 63 ∧ 1 ≤ c' ∧ c' ≤ 63 ∧ d' ≤ 63) ∨
  (so = nI 3 ∧ ∃ a' b' c', a = nI a' ∧ b = nI b' ∧ c = nI c' ∧ a' ≤ 268435455 ∧ b' ≤ 268435455 ∧ c' ≤ 268435455)
theorem nn_eq {a b : Nat} (ha : a < 2 ^ 31) (hb : b < 2 ^ 31) (h : a ≠ b) : ¬ nI a = nI b := by rw [nI_eq ha hb]; exact h
theorem qf_3 {a b c : Nat} {d : Int32} {k t : Nat} (ha : a ≤ 268435455) (hb : b ≤ 268435455) (hc : c ≤ 268435455) : qf_ (nI 3) (nI a) (nI b) (nI c) d k t = li_ (if k = 0 then a else if k = 1 then b else c) t := by
  unfold qf_
  rw [if_pos rfl]
  by_cases h0 : k = 0
  · simp only [h0, if_true]; rw [cl_n (by omega)]
  · by_cases h1 : k = 1
    · simp only [h1, if_true, if_false, Nat.one_ne_zero]; rw [cl_n (by omega)]
    · simp only [h0, h1, if_false]; rw [cl_n (by omega)]
theorem qf_1 {a b : Nat} {c d : Int32} {k t : Nat} (ha : a ≤ 7) (hb : b ≤ 7) : qf_ (nI 1) (nI a) (nI b) c d k t = if k = 2 ∧ d = nI 0 then false else if k = 0 then decide (0 < gr_ln a b true t) else decide ((if k = 1 then 1 else b - 1) ≤ gr_ln a b false t) := by
  unfold qf_
  rw [if_neg (nn_eq (by decide) (by decide) (by decide)), if_pos rfl, cl_n (by omega), cl_n (by omega)]
theorem qf_0 {a b c d : Nat} {k t : Nat} (ha : a ≤ 127) (hb : b ≤ 7) (hc : c ≤ 7) (hd : d ≤ 7) (hb1 : 1 ≤ b) (hc1 : 1 ≤ c) (hk : k < 3) : qf_ (nI 0) (nI a) (nI b) (nI c) (nI d) k t = (decide (0 < if k = 0 then b else if k = 1 then c else d) && decide ((if k = 0 then b else if k = 1 then c else d) ≤ sz_ (t &&& a))) := by
  unfold qf_
  rw [if_neg (nn_eq (by decide) (by decide) (by decide)), if_neg (nn_eq (by decide) (by decide) (by decide)), if_pos rfl, cl_n (show a < 2 ^ 31 by omega)]
  have hdz : nI d = nI 0 ↔ d = 0 := nI_eq (by omega) (by decide)
  rcases (by omega : k = 0 ∨ k = 1 ∨ k = 2) with rfl | rfl | rfl
  · simp [cl_n (show b < 2 ^ 31 by omega), hb1]; intro _; omega
  · simp [cl_n (show c < 2 ^ 31 by omega), hc1]; intro _; omega
  · by_cases h : d = 0
    · simp [h]
    · simp [hdz, h, cl_n (show d < 2 ^ 31 by omega), Nat.pos_of_ne_zero h]
theorem qf_2 {a b c d : Nat} {k t : Nat} (ha : a ≤ 9999999) (hb : b ≤ 63) (hc : c ≤ 63) (hd : d ≤ 63) (hb1 : 1 ≤ b) (hc1 : 1 ≤ c) (hk : k < 3) : qf_ (nI 2) (nI a) (nI b) (nI c) (nI d) k t = (decide (0 < if k = 0 then b else if k = 1 then c else d) && decide ((if k = 0 then b else if k = 1 then c else d) ≤ wt_ a t)) := by
  unfold qf_
  rw [if_neg (nn_eq (by decide) (by decide) (by decide)), if_neg (nn_eq (by decide) (by decide) (by decide)), if_neg (nn_eq (by decide) (by decide) (by decide)), cl_n (show a < 2 ^ 31 by omega)]
  have hdz : nI d = nI 0 ↔ d = 0 := nI_eq (by omega) (by decide)
  rcases (by omega : k = 0 ∨ k = 1 ∨ k = 2) with rfl | rfl | rfl
  · simp [cl_n (show b < 2 ^ 31 by omega), hb1]; intro _; omega
  · simp [cl_n (show c < 2 ^ 31 by omega), hc1]; intro _; omega
  · by_cases h : d = 0
    · simp [h]
    · simp [hdz, h, cl_n (show d < 2 ^ 31 by omega), Nat.pos_of_ne_zero h]
/-- if any set is a quorum, all nodes are -/
theorem qf_top {so a b c d : Int32} {k t : Nat} (h : rg_ so a b c d) (hk : k < 3) (ht : t < 128) (hq : qf_ so a b c d k t = true) : qf_ so a b c d k 127 = true := by
  rcases h with ⟨rfl, a', b', c', d', rfl, rfl, rfl, rfl, h⟩ | ⟨rfl, a', b', rfl, rfl, h⟩ | ⟨rfl, a', b', c', d', rfl, rfl, rfl, rfl, h⟩ | ⟨rfl, a', b', c', rfl, rfl, rfl, h⟩
  · rw [qf_0 (by omega) (by omega) (by omega) (by omega) (by omega) (by omega) hk, Bool.and_eq_true, decide_eq_true_eq, decide_eq_true_eq] at hq ⊢
    refine ⟨hq.1, Nat.le_trans hq.2 (sz_mono fun i hi => ?_)⟩
    rw [Nat.testBit_and, Bool.and_eq_true] at hi ⊢
    refine ⟨?_, hi.2⟩
    rw [nu_t127, decide_eq_true_eq]
    rcases Nat.lt_or_ge i 7 with z | z
    · exact z
    · rw [nu_tb ht z] at hi; exact nomatch hi.1
  · rw [qf_1 (by omega) (by omega)] at hq ⊢
    have g := gr_all (s := t) h.1 h.2.2.1 h.2.2.2.2 ht
    by_cases h2 : k = 2 ∧ d = nI 0
    · rw [if_pos h2] at hq; exact nomatch hq
    · rw [if_neg h2] at hq ⊢
      by_cases h0 : k = 0
      · rw [if_pos h0, decide_eq_true_eq] at hq ⊢
        omega
      · rw [if_neg h0, decide_eq_true_eq] at hq ⊢
        omega
  · rw [qf_2 (by omega) (by omega) (by omega) (by omega) (by omega) (by omega) hk, Bool.and_eq_true, decide_eq_true_eq, decide_eq_true_eq] at hq ⊢
    exact ⟨hq.1, Nat.le_trans hq.2 (wt_mono _ _)⟩
  · rw [qf_3 (by omega) (by omega) (by omega)] at hq ⊢
    exact li_mono hq
section
variable {bg : Nat} {df iq tb up fa co fr dn : Nat → Bool} {op ov sp sv qb qi qj qv ql so ba an pk kv vo kn : Nat → Nat} {srt num : Nat → Int32}
variable {post : Int32 → Prop} {x : Int32} {s k t l : Nat}
theorem yc_contains (hl : l < 268435456) (ht : t < 128) : wpY_contains post (nI l) (nI t) ↔ post (bo_i (li_ l t)) := by
  simp only [wpY_contains]
  refine lo_fold (W := fun n i a => wY_contains_4 post (nI l) (nI t) n (bo_i a) (nI i)) (fin := fun a => post (bo_i a)) (I := fun _ _ => True) (e := 4) (fun p a => a || (l / 2 ^ (7 * p) &&& 127) != 0 && (t &&& (l / 2 ^ (7 * p) &&& 127)) == (l / 2 ^ (7 * p) &&& 127)) (fun _ _ h => h) (fun _ _ _ _ => trivial) ?_ ?_ 4 0 false rfl trivial
  · intro n a _
    simp (disch := first | omega | assumption) only [li_0, li_1, li_2, li_3, li_4, li_6, li_7, li_8, li_9, li_10, li_12, li_21, li_24, li_31, li_60, li_63, li_127, li_128, li_256, li_312, li_384, nI_add, nu_mul, nu_sub, nu_div, nu_and, nu_or, nu_shr, nu_bit, nu_diff, bi_2, nI_leI, nI_ltI, nI_eq, vp_in_nI, nI_clamp, ar_na, ar_ba, bo_0, bo_1, bo_it, bo_if, bo_w, bo_w0, bo_w1, bo_nar, bo_n1, bo_nn0, st_bu, st_bu1, st_bu0, st_nu, forall_eq, true_implies, false_implies, forall_const, not_true_eq_false, not_false_eq_true, and_true, true_and, implies_true, and_self, Bool.false_eq_true, Bool.true_eq_false, reduceCtorEq, ite_true, ite_false, if_true, if_false, eq_self, Nat.zero_add, Nat.add_zero, Nat.le_refl, Nat.lt_irrefl, Nat.reduceEqDiff, Nat.reduceLeDiff, Nat.reduceLT, Nat.reduceAdd, Nat.reduceMul, Nat.reduceSub, wY_contains_4]
  · intro n i a hi _
    have hm : l / 2 ^ (7 * i) &&& 127 < 128 := nu_and7r (by decide)
    have hd : (l / 2 ^ (7 * i) &&& 127) &&& (t ^^^ 127) < 128 := nu_and7 hm
    have hs := nu_sub0 (b := t) hm
    cases a with
    | true =>
      rw [Bool.true_or]
      simp (disch := first | omega | assumption) only [li_0, li_1, li_2, li_3, li_4, li_6, li_7, li_8, li_9, li_10, li_12, li_21, li_24, li_31, li_60, li_63, li_127, li_128, li_256, li_312, li_384, nI_add, nu_mul, nu_sub, nu_div, nu_and, nu_or, nu_shr, nu_bit, nu_diff, bi_2, nI_leI, nI_ltI, nI_eq, vp_in_nI, nI_clamp, ar_na, ar_ba, bo_0, bo_1, bo_it, bo_if, bo_w, bo_w0, bo_w1, bo_nar, bo_n1, bo_nn0, st_bu, st_bu1, st_bu0, st_nu, forall_eq, true_implies, false_implies, forall_const, not_true_eq_false, not_false_eq_true, and_true, true_and, implies_true, and_self, Bool.false_eq_true, Bool.true_eq_false, reduceCtorEq, ite_true, ite_false, if_true, if_false, eq_self, Nat.zero_add, Nat.add_zero, Nat.le_refl, Nat.lt_irrefl, Nat.reduceEqDiff, Nat.reduceLeDiff, Nat.reduceLT, Nat.reduceAdd, Nat.reduceMul, Nat.reduceSub, wY_contains_4, Nat.not_le.mpr hi]
    | false =>
      rw [Bool.false_or]
      by_cases h1 : l / 2 ^ (7 * i) &&& 127 = 0
      · simp (disch := first | omega | assumption) only [li_0, li_1, li_2, li_3, li_4, li_6, li_7, li_8, li_9, li_10, li_12, li_21, li_24, li_31, li_60, li_63, li_127, li_128, li_256, li_312, li_384, nI_add, nu_mul, nu_sub, nu_div, nu_and, nu_or, nu_shr, nu_bit, nu_diff, bi_2, nI_leI, nI_ltI, nI_eq, vp_in_nI, nI_clamp, ar_na, ar_ba, bo_0, bo_1, bo_it, bo_if, bo_w, bo_w0, bo_w1, bo_nar, bo_n1, bo_nn0, st_bu, st_bu1, st_bu0, st_nu, forall_eq, true_implies, false_implies, forall_const, not_true_eq_false, not_false_eq_true, and_true, true_and, implies_true, and_self, Bool.false_eq_true, Bool.true_eq_false, reduceCtorEq, ite_true, ite_false, if_true, if_false, eq_self, Nat.zero_add, Nat.add_zero, Nat.le_refl, Nat.lt_irrefl, Nat.reduceEqDiff, Nat.reduceLeDiff, Nat.reduceLT, Nat.reduceAdd, Nat.reduceMul, Nat.reduceSub, wY_contains_4, Nat.not_le.mpr hi, h1, bne_self_eq_false, Bool.false_and]
      · by_cases h2 : t &&& (l / 2 ^ (7 * i) &&& 127) = l / 2 ^ (7 * i) &&& 127
        · have h3 := hs.mpr h2
          simp (disch := first | omega | assumption) only [li_0, li_1, li_2, li_3, li_4, li_6, li_7, li_8, li_9, li_10, li_12, li_21, li_24, li_31, li_60, li_63, li_127, li_128, li_256, li_312, li_384, nI_add, nu_mul, nu_sub, nu_div, nu_and, nu_or, nu_shr, nu_bit, nu_diff, bi_2, nI_leI, nI_ltI, nI_eq, vp_in_nI, nI_clamp, ar_na, ar_ba, bo_0, bo_1, bo_it, bo_if, bo_w, bo_w0, bo_w1, bo_nar, bo_n1, bo_nn0, st_bu, st_bu1, st_bu0, st_nu, forall_eq, true_implies, false_implies, forall_const, not_true_eq_false, not_false_eq_true, and_true, true_and, implies_true, and_self, Bool.false_eq_true, Bool.true_eq_false, reduceCtorEq, ite_true, ite_false, if_true, if_false, eq_self, Nat.zero_add, Nat.add_zero, Nat.le_refl, Nat.lt_irrefl, Nat.reduceEqDiff, Nat.reduceLeDiff, Nat.reduceLT, Nat.reduceAdd, Nat.reduceMul, Nat.reduceSub, wY_contains_4, Nat.not_le.mpr hi, h1, h2, h3, beq_self_eq_true, Bool.and_true, (bne_iff_ne (a := l / 2 ^ (7 * i) &&& 127) (b := 0)).mpr h1]
        · have h3 : ¬ (l / 2 ^ (7 * i) &&& 127) &&& (t ^^^ 127) = 0 := fun z => h2 (hs.mp z)
          simp (disch := first | omega | assumption) only [li_0, li_1, li_2, li_3, li_4, li_6, li_7, li_8, li_9, li_10, li_12, li_21, li_24, li_31, li_60, li_63, li_127, li_128, li_256, li_312, li_384, nI_add, nu_mul, nu_sub, nu_div, nu_and, nu_or, nu_shr, nu_bit, nu_diff, bi_2, nI_leI, nI_ltI, nI_eq, vp_in_nI, nI_clamp, ar_na, ar_ba, bo_0, bo_1, bo_it, bo_if, bo_w, bo_w0, bo_w1, bo_nar, bo_n1, bo_nn0, st_bu, st_bu1, st_bu0, st_nu, forall_eq, true_implies, false_implies, forall_const, not_true_eq_false, not_false_eq_true, and_true, true_and, implies_true, and_self, Bool.false_eq_true, Bool.true_eq_false, reduceCtorEq, ite_true, ite_false, if_true, if_false, eq_self, Nat.zero_add, Nat.add_zero, Nat.le_refl, Nat.lt_irrefl, Nat.reduceEqDiff, Nat.reduceLeDiff, Nat.reduceLT, Nat.reduceAdd, Nat.reduceMul, Nat.reduceSub, wY_contains_4, Nat.not_le.mpr hi, h1, h2, h3, (beq_eq_false_iff_ne (a := t &&& (l / 2 ^ (7 * i) &&& 127)) (b := l / 2 ^ (7 * i) &&& 127)).mpr h2, Bool.and_false]
theorem nu_md (a d : Nat) : a - a / d * d = a % d := by
  have h := Nat.div_add_mod' a d
  have h2 := Nat.div_mul_le_self a d
  omega
theorem yc_weight {w : Nat} (hw : w ≤ 9999999) (ht : t < 128) : wpY_weight post (nI w) (nI t) ↔ post (nI (wt_ w t)) := by
  simp only [wpY_weight]
  refine lo_fold (W := fun n i (p : Nat × Nat) => wY_weight_7 post (nI t) n (nI p.2) (nI p.1) (nI i)) (fin := fun p => post (nI p.2)) (I := fun i p => p.1 ≤ 9999999 ∧ p.2 ≤ 9 * i) (e := 7) (fun n p => (p.1 / 10, p.2 + t / 2 ^ n % 2 * (p.1 % 10))) (fun _ _ h => h) ?_ ?_ ?_ 7 0 (w, 0) rfl ⟨hw, Nat.le_refl _⟩
  · intro i p _ h
    have : t / 2 ^ i % 2 * (p.1 % 10) ≤ 1 * 9 := Nat.mul_le_mul (by omega) (by omega)
    exact ⟨by show p.1 / 10 ≤ _; omega, by show p.2 + _ ≤ _; omega⟩
  · intro n p h
    obtain ⟨h1, h2⟩ := h
    simp (disch := first | omega | assumption) only [li_0, li_1, li_2, li_3, li_4, li_6, li_7, li_8, li_9, li_10, li_12, li_21, li_24, li_31, li_60, li_63, li_127, li_128, li_256, li_312, li_384, nI_add, nu_mul, nu_sub, nu_div, nu_and, nu_or, nu_shr, nu_bit, nu_diff, bi_2, nI_leI, nI_ltI, nI_eq, vp_in_nI, nI_clamp, ar_na, ar_ba, bo_0, bo_1, bo_it, bo_if, bo_w, bo_w0, bo_w1, bo_nar, bo_n1, bo_nn0, st_bu, st_bu1, st_bu0, st_nu, forall_eq, true_implies, false_implies, forall_const, not_true_eq_false, not_false_eq_true, and_true, true_and, implies_true, and_self, Bool.false_eq_true, Bool.true_eq_false, reduceCtorEq, ite_true, ite_false, if_true, if_false, eq_self, Nat.zero_add, Nat.add_zero, Nat.le_refl, Nat.lt_irrefl, Nat.reduceEqDiff, Nat.reduceLeDiff, Nat.reduceLT, Nat.reduceAdd, Nat.reduceMul, Nat.reduceSub, wY_weight_7]
  · intro n i p hi h
    obtain ⟨h1, h2⟩ := h
    obtain ⟨c, d⟩ := p
    dsimp only at h1 h2 ⊢
    rcases (by omega : t / 2 ^ i % 2 = 0 ∨ t / 2 ^ i % 2 = 1) with z | z
    · simp (disch := first | omega | assumption) only [li_0, li_1, li_2, li_3, li_4, li_6, li_7, li_8, li_9, li_10, li_12, li_21, li_24, li_31, li_60, li_63, li_127, li_128, li_256, li_312, li_384, nI_add, nu_mul, nu_sub, nu_div, nu_and, nu_or, nu_shr, nu_bit, nu_diff, bi_2, nI_leI, nI_ltI, nI_eq, vp_in_nI, nI_clamp, ar_na, ar_ba, bo_0, bo_1, bo_it, bo_if, bo_w, bo_w0, bo_w1, bo_nar, bo_n1, bo_nn0, st_bu, st_bu1, st_bu0, st_nu, forall_eq, true_implies, false_implies, forall_const, not_true_eq_false, not_false_eq_true, and_true, true_and, implies_true, and_self, Bool.false_eq_true, Bool.true_eq_false, reduceCtorEq, ite_true, ite_false, if_true, if_false, eq_self, Nat.zero_add, Nat.add_zero, Nat.le_refl, Nat.lt_irrefl, Nat.reduceEqDiff, Nat.reduceLeDiff, Nat.reduceLT, Nat.reduceAdd, Nat.reduceMul, Nat.reduceSub, wY_weight_7, Nat.not_le.mpr hi, z, Nat.zero_mul, nu_md]
    · simp (disch := first | omega | assumption) only [li_0, li_1, li_2, li_3, li_4, li_6, li_7, li_8, li_9, li_10, li_12, li_21, li_24, li_31, li_60, li_63, li_127, li_128, li_256, li_312, li_384, nI_add, nu_mul, nu_sub, nu_div, nu_and, nu_or, nu_shr, nu_bit, nu_diff, bi_2, nI_leI, nI_ltI, nI_eq, vp_in_nI, nI_clamp, ar_na, ar_ba, bo_0, bo_1, bo_it, bo_if, bo_w, bo_w0, bo_w1, bo_nar, bo_n1, bo_nn0, st_bu, st_bu1, st_bu0, st_nu, forall_eq, true_implies, false_implies, forall_const, not_true_eq_false, not_false_eq_true, and_true, true_and, implies_true, and_self, Bool.false_eq_true, Bool.true_eq_false, reduceCtorEq, ite_true, ite_false, if_true, if_false, eq_self, Nat.zero_add, Nat.add_zero, Nat.le_refl, Nat.lt_irrefl, Nat.reduceEqDiff, Nat.reduceLeDiff, Nat.reduceLT, Nat.reduceAdd, Nat.reduceMul, Nat.reduceSub, wY_weight_7, Nat.not_le.mpr hi, z, Nat.one_mul, nu_md]
theorem yc_lines1 {r c m line : Nat} {o : Bool} {J : Int32 → Int32 → Prop} (hc : 1 ≤ c) (hrc : r * c ≤ 7) (hm : m ≤ 7) (hl : line ≤ 7) (ht : t < 128) : (∃ n, wY_lines_26 post J (nI r) (nI c) (bo_i o) (nI t) (nI m) (nI line) n (nI 1) (nI 0)) ↔ J (nI (if gr_one r c o t line = true then m + 1 else m)) (nI (line + 1)) := by
  refine lo_fold (W := fun n i a => wY_lines_26 post J (nI r) (nI c) (bo_i o) (nI t) (nI m) (nI line) n (bo_i a) (nI i)) (fin := fun a => J (nI (if a = true then m + 1 else m)) (nI (line + 1))) (I := fun _ _ => True) (e := r * c) (fun k w => if (if o = true then k / c else k % c) = line ∧ t / 2 ^ k % 2 = 0 then false else w) (fun _ _ h => h) (fun _ _ _ _ => trivial) ?_ ?_ (r * c) 0 true (Nat.zero_add _) trivial
  · intro n a _
    cases a
    · simp (disch := first | omega | assumption) only [li_0, li_1, li_2, li_3, li_4, li_6, li_7, li_8, li_9, li_10, li_12, li_21, li_24, li_31, li_60, li_63, li_127, li_128, li_256, li_312, li_384, nI_add, nu_mul, nu_sub, nu_div, nu_and, nu_or, nu_shr, nu_bit, nu_diff, bi_2, nI_leI, nI_ltI, nI_eq, vp_in_nI, nI_clamp, ar_na, ar_ba, bo_0, bo_1, bo_it, bo_if, bo_w, bo_w0, bo_w1, bo_nar, bo_n1, bo_nn0, st_bu, st_bu1, st_bu0, st_nu, forall_eq, true_implies, false_implies, forall_const, not_true_eq_false, not_false_eq_true, and_true, true_and, implies_true, and_self, Bool.false_eq_true, Bool.true_eq_false, reduceCtorEq, ite_true, ite_false, if_true, if_false, eq_self, Nat.zero_add, Nat.add_zero, Nat.le_refl, Nat.lt_irrefl, Nat.reduceEqDiff, Nat.reduceLeDiff, Nat.reduceLT, Nat.reduceAdd, Nat.reduceMul, Nat.reduceSub, wY_lines_26]
    · simp (disch := first | omega | assumption) only [li_0, li_1, li_2, li_3, li_4, li_6, li_7, li_8, li_9, li_10, li_12, li_21, li_24, li_31, li_60, li_63, li_127, li_128, li_256, li_312, li_384, nI_add, nu_mul, nu_sub, nu_div, nu_and, nu_or, nu_shr, nu_bit, nu_diff, bi_2, nI_leI, nI_ltI, nI_eq, vp_in_nI, nI_clamp, ar_na, ar_ba, bo_0, bo_1, bo_it, bo_if, bo_w, bo_w0, bo_w1, bo_nar, bo_n1, bo_nn0, st_bu, st_bu1, st_bu0, st_nu, forall_eq, true_implies, false_implies, forall_const, not_true_eq_false, not_false_eq_true, and_true, true_and, implies_true, and_self, Bool.false_eq_true, Bool.true_eq_false, reduceCtorEq, ite_true, ite_false, if_true, if_false, eq_self, Nat.zero_add, Nat.add_zero, Nat.le_refl, Nat.lt_irrefl, Nat.reduceEqDiff, Nat.reduceLeDiff, Nat.reduceLT, Nat.reduceAdd, Nat.reduceMul, Nat.reduceSub, wY_lines_26]
  · intro n i a hi _
    have h1 := Nat.div_mul_le_self i c
    have h2 : i / c ≤ i := Nat.div_le_self _ _
    have h3 : i % c ≤ i := Nat.mod_le _ _
    have hc7 : c ≤ 2 ^ 30 := by
      have : c * 1 ≤ 2 ^ 30 ∨ r = 0 := by
        rcases Nat.eq_zero_or_pos r with z | z
        · exact Or.inr z
        · left
          have := Nat.le_mul_of_pos_left c z
          omega
      rcases this with z | z
      · omega
      · subst z; omega
    have hb : t / 2 ^ i % 2 < 2 := Nat.mod_lt _ (by decide)
    cases o
    · by_cases e1 : i % c = line
      · by_cases e2 : t / 2 ^ i % 2 = 0
        · simp (disch := first | omega | assumption) only [li_0, li_1, li_2, li_3, li_4, li_6, li_7, li_8, li_9, li_10, li_12, li_21, li_24, li_31, li_60, li_63, li_127, li_128, li_256, li_312, li_384, nI_add, nu_mul, nu_sub, nu_div, nu_and, nu_or, nu_shr, nu_bit, nu_diff, bi_2, nI_leI, nI_ltI, nI_eq, vp_in_nI, nI_clamp, ar_na, ar_ba, bo_0, bo_1, bo_it, bo_if, bo_w, bo_w0, bo_w1, bo_nar, bo_n1, bo_nn0, st_bu, st_bu1, st_bu0, st_nu, forall_eq, true_implies, false_implies, forall_const, not_true_eq_false, not_false_eq_true, and_true, true_and, implies_true, and_self, Bool.false_eq_true, Bool.true_eq_false, reduceCtorEq, ite_true, ite_false, if_true, if_false, eq_self, Nat.zero_add, Nat.add_zero, Nat.le_refl, Nat.lt_irrefl, Nat.reduceEqDiff, Nat.reduceLeDiff, Nat.reduceLT, Nat.reduceAdd, Nat.reduceMul, Nat.reduceSub, wY_lines_26, wY_lines_49, Nat.not_le.mpr hi, nu_md, e1, e2, Nat.ne_of_gt hc]
        · simp (disch := first | omega | assumption) only [li_0, li_1, li_2, li_3, li_4, li_6, li_7, li_8, li_9, li_10, li_12, li_21, li_24, li_31, li_60, li_63, li_127, li_128, li_256, li_312, li_384, nI_add, nu_mul, nu_sub, nu_div, nu_and, nu_or, nu_shr, nu_bit, nu_diff, bi_2, nI_leI, nI_ltI, nI_eq, vp_in_nI, nI_clamp, ar_na, ar_ba, bo_0, bo_1, bo_it, bo_if, bo_w, bo_w0, bo_w1, bo_nar, bo_n1, bo_nn0, st_bu, st_bu1, st_bu0, st_nu, forall_eq, true_implies, false_implies, forall_const, not_true_eq_false, not_false_eq_true, and_true, true_and, implies_true, and_self, Bool.false_eq_true, Bool.true_eq_false, reduceCtorEq, ite_true, ite_false, if_true, if_false, eq_self, Nat.zero_add, Nat.add_zero, Nat.le_refl, Nat.lt_irrefl, Nat.reduceEqDiff, Nat.reduceLeDiff, Nat.reduceLT, Nat.reduceAdd, Nat.reduceMul, Nat.reduceSub, wY_lines_26, wY_lines_49, Nat.not_le.mpr hi, nu_md, e1, e2, and_false, Nat.ne_of_gt hc]
      · simp (disch := first | omega | assumption) only [li_0, li_1, li_2, li_3, li_4, li_6, li_7, li_8, li_9, li_10, li_12, li_21, li_24, li_31, li_60, li_63, li_127, li_128, li_256, li_312, li_384, nI_add, nu_mul, nu_sub, nu_div, nu_and, nu_or, nu_shr, nu_bit, nu_diff, bi_2, nI_leI, nI_ltI, nI_eq, vp_in_nI, nI_clamp, ar_na, ar_ba, bo_0, bo_1, bo_it, bo_if, bo_w, bo_w0, bo_w1, bo_nar, bo_n1, bo_nn0, st_bu, st_bu1, st_bu0, st_nu, forall_eq, true_implies, false_implies, forall_const, not_true_eq_false, not_false_eq_true, and_true, true_and, implies_true, and_self, Bool.false_eq_true, Bool.true_eq_false, reduceCtorEq, ite_true, ite_false, if_true, if_false, eq_self, Nat.zero_add, Nat.add_zero, Nat.le_refl, Nat.lt_irrefl, Nat.reduceEqDiff, Nat.reduceLeDiff, Nat.reduceLT, Nat.reduceAdd, Nat.reduceMul, Nat.reduceSub, wY_lines_26, wY_lines_49, Nat.not_le.mpr hi, nu_md, e1, false_and, Nat.ne_of_gt hc]
    · by_cases e1 : i / c = line
      · by_cases e2 : t / 2 ^ i % 2 = 0
        · simp (disch := first | omega | assumption) only [li_0, li_1, li_2, li_3, li_4, li_6, li_7, li_8, li_9, li_10, li_12, li_21, li_24, li_31, li_60, li_63, li_127, li_128, li_256, li_312, li_384, nI_add, nu_mul, nu_sub, nu_div, nu_and, nu_or, nu_shr, nu_bit, nu_diff, bi_2, nI_leI, nI_ltI, nI_eq, vp_in_nI, nI_clamp, ar_na, ar_ba, bo_0, bo_1, bo_it, bo_if, bo_w, bo_w0, bo_w1, bo_nar, bo_n1, bo_nn0, st_bu, st_bu1, st_bu0, st_nu, forall_eq, true_implies, false_implies, forall_const, not_true_eq_false, not_false_eq_true, and_true, true_and, implies_true, and_self, Bool.false_eq_true, Bool.true_eq_false, reduceCtorEq, ite_true, ite_false, if_true, if_false, eq_self, Nat.zero_add, Nat.add_zero, Nat.le_refl, Nat.lt_irrefl, Nat.reduceEqDiff, Nat.reduceLeDiff, Nat.reduceLT, Nat.reduceAdd, Nat.reduceMul, Nat.reduceSub, wY_lines_26, wY_lines_49, Nat.not_le.mpr hi, nu_md, e1, e2, Nat.ne_of_gt hc]
        · simp (disch := first | omega | assumption) only [li_0, li_1, li_2, li_3, li_4, li_6, li_7, li_8, li_9, li_10, li_12, li_21, li_24, li_31, li_60, li_63, li_127, li_128, li_256, li_312, li_384, nI_add, nu_mul, nu_sub, nu_div, nu_and, nu_or, nu_shr, nu_bit, nu_diff, bi_2, nI_leI, nI_ltI, nI_eq, vp_in_nI, nI_clamp, ar_na, ar_ba, bo_0, bo_1, bo_it, bo_if, bo_w, bo_w0, bo_w1, bo_nar, bo_n1, bo_nn0, st_bu, st_bu1, st_bu0, st_nu, forall_eq, true_implies, false_implies, forall_const, not_true_eq_false, not_false_eq_true, and_true, true_and, implies_true, and_self, Bool.false_eq_true, Bool.true_eq_false, reduceCtorEq, ite_true, ite_false, if_true, if_false, eq_self, Nat.zero_add, Nat.add_zero, Nat.le_refl, Nat.lt_irrefl, Nat.reduceEqDiff, Nat.reduceLeDiff, Nat.reduceLT, Nat.reduceAdd, Nat.reduceMul, Nat.reduceSub, wY_lines_26, wY_lines_49, Nat.not_le.mpr hi, nu_md, e1, e2, and_false, Nat.ne_of_gt hc]
      · simp (disch := first | omega | assumption) only [li_0, li_1, li_2, li_3, li_4, li_6, li_7, li_8, li_9, li_10, li_12, li_21, li_24, li_31, li_60, li_63, li_127, li_128, li_256, li_312, li_384, nI_add, nu_mul, nu_sub, nu_div, nu_and, nu_or, nu_shr, nu_bit, nu_diff, bi_2, nI_leI, nI_ltI, nI_eq, vp_in_nI, nI_clamp, ar_na, ar_ba, bo_0, bo_1, bo_it, bo_if, bo_w, bo_w0, bo_w1, bo_nar, bo_n1, bo_nn0, st_bu, st_bu1, st_bu0, st_nu, forall_eq, true_implies, false_implies, forall_const, not_true_eq_false, not_false_eq_true, and_true, true_and, implies_true, and_self, Bool.false_eq_true, Bool.true_eq_false, reduceCtorEq, ite_true, ite_false, if_true, if_false, eq_self, Nat.zero_add, Nat.add_zero, Nat.le_refl, Nat.lt_irrefl, Nat.reduceEqDiff, Nat.reduceLeDiff, Nat.reduceLT, Nat.reduceAdd, Nat.reduceMul, Nat.reduceSub, wY_lines_26, wY_lines_49, Nat.not_le.mpr hi, nu_md, e1, false_and, Nat.ne_of_gt hc]
theorem yc_lines {r c : Nat} {o : Bool} (hr : r ≤ 7) (hc : 1 ≤ c) (hc7 : c ≤ 7) (hrc : r * c ≤ 7) (ht : t < 128) : wpY_lines post (nI r) (nI c) (bo_i o) (nI t) ↔ post (nI (gr_ln r c o t)) := by
  simp only [wpY_lines]
  refine lo_fold (W := fun n i a => wY_lines_6 post (nI r) (nI c) (bo_i o) (nI t) n (nI a) (nI i)) (fin := fun a => post (nI a)) (I := fun i a => a ≤ i) (e := if o = true then r else c) (fun line n => if gr_one r c o t line = true then n + 1 else n) (fun _ _ h => h) ?_ ?_ ?_ _ 0 0 (Nat.zero_add _) (Nat.le_refl _)
  · intro i a _ h
    split <;> omega
  · intro n a h
    cases o
    · simp (disch := first | omega | assumption) only [li_0, li_1, li_2, li_3, li_4, li_6, li_7, li_8, li_9, li_10, li_12, li_21, li_24, li_31, li_60, li_63, li_127, li_128, li_256, li_312, li_384, nI_add, nu_mul, nu_sub, nu_div, nu_and, nu_or, nu_shr, nu_bit, nu_diff, bi_2, nI_leI, nI_ltI, nI_eq, vp_in_nI, nI_clamp, ar_na, ar_ba, bo_0, bo_1, bo_it, bo_if, bo_w, bo_w0, bo_w1, bo_nar, bo_n1, bo_nn0, st_bu, st_bu1, st_bu0, st_nu, forall_eq, true_implies, false_implies, forall_const, not_true_eq_false, not_false_eq_true, and_true, true_and, implies_true, and_self, Bool.false_eq_true, Bool.true_eq_false, reduceCtorEq, ite_true, ite_false, if_true, if_false, eq_self, Nat.zero_add, Nat.add_zero, Nat.le_refl, Nat.lt_irrefl, Nat.reduceEqDiff, Nat.reduceLeDiff, Nat.reduceLT, Nat.reduceAdd, Nat.reduceMul, Nat.reduceSub, wY_lines_6, wY_lines_17]
    · simp (disch := first | omega | assumption) only [li_0, li_1, li_2, li_3, li_4, li_6, li_7, li_8, li_9, li_10, li_12, li_21, li_24, li_31, li_60, li_63, li_127, li_128, li_256, li_312, li_384, nI_add, nu_mul, nu_sub, nu_div, nu_and, nu_or, nu_shr, nu_bit, nu_diff, bi_2, nI_leI, nI_ltI, nI_eq, vp_in_nI, nI_clamp, ar_na, ar_ba, bo_0, bo_1, bo_it, bo_if, bo_w, bo_w0, bo_w1, bo_nar, bo_n1, bo_nn0, st_bu, st_bu1, st_bu0, st_nu, forall_eq, true_implies, false_implies, forall_const, not_true_eq_false, not_false_eq_true, and_true, true_and, implies_true, and_self, Bool.false_eq_true, Bool.true_eq_false, reduceCtorEq, ite_true, ite_false, if_true, if_false, eq_self, Nat.zero_add, Nat.add_zero, Nat.le_refl, Nat.lt_irrefl, Nat.reduceEqDiff, Nat.reduceLeDiff, Nat.reduceLT, Nat.reduceAdd, Nat.reduceMul, Nat.reduceSub, wY_lines_6, wY_lines_17]
  · intro n i a hi h
    have hi7 : i < 7 := by cases o <;> simp at hi <;> omega
    have g := yc_lines1 (post := post) (r := r) (c := c) (m := a) (line := i) (o := o) (J := wY_lines_6 post (nI r) (nI c) (bo_i o) (nI t) n) hc hrc (by omega) (by omega) ht
    cases o
    · have hi : i < c := by simpa using hi
      simp (disch := omega) only [wY_lines_6, wY_lines_17, li_0, li_1, bo_0, nI_leI, Nat.not_le.mpr hi, not_true_eq_false, not_false_eq_true, true_implies, false_implies, and_true, true_and]
      exact g
    · have hi : i < r := by simpa using hi
      simp (disch := omega) only [wY_lines_6, wY_lines_17, li_0, li_1, bo_0, nI_leI, Nat.not_le.mpr hi, not_true_eq_false, not_false_eq_true, true_implies, false_implies, and_true, true_and, Bool.true_eq_false]
      exact g
theorem yc_linesR {r c : Nat} (hr : r ≤ 7) (hc : 1 ≤ c) (hc7 : c ≤ 7) (hrc : r * c ≤ 7) (ht : t < 128) : wpY_lines post (nI r) (nI c) (nI 1) (nI t) ↔ post (nI (gr_ln r c true t)) := yc_lines (o := true) hr hc hc7 hrc ht
theorem yc_linesC {r c : Nat} (hr : r ≤ 7) (hc : 1 ≤ c) (hc7 : c ≤ 7) (hrc : r * c ≤ 7) (ht : t < 128) : wpY_lines post (nI r) (nI c) (nI 0) (nI t) ↔ post (nI (gr_ln r c false t)) := yc_lines (o := false) hr hc hc7 hrc ht
end
end
section
/-! the quorums of the reference; the component's layouts -/
theorem gr_le {r c : Nat} {o : Bool} {t : Nat} (hr : r ≤ 7) (hc : c ≤ 7) : gr_ln r c o t ≤ 7 := by
  have h := lo_fI (f := fun line n => if gr_one r c o t line = true then n + 1 else n) (I := fun i a => a ≤ i) (if o = true then r else c) 0 0 (by intro j a _ _ h; split <;> omega) (Nat.le_refl _)
  have h : gr_ln r c o t ≤ 0 + (if o = true then r else c) := h
  cases o <;> simp at h <;> omega
theorem wt_le (w t : Nat) : wt_ w t ≤ 63 := by
  have g : ∀ n x, t / 2 ^ n % 2 * (x % 10) ≤ 9 := fun n x => Nat.le_trans (Nat.mul_le_mul (show t / 2 ^ n % 2 ≤ 1 by omega) (show x % 10 ≤ 9 by omega)) (by decide)
  rw [wt_e]
  have g0 := g 0 w
  have g1 := g 1 (w / 10)
  have g2 := g 2 (w / 10 / 10)
  have g3 := g 3 (w / 10 / 10 / 10)
  have g4 := g 4 (w / 10 / 10 / 10 / 10)
  have g5 := g 5 (w / 10 / 10 / 10 / 10 / 10)
  have g6 := g 6 (w / 10 / 10 / 10 / 10 / 10 / 10)
  generalize t / 2 ^ 0 % 2 * (w % 10) = z0 at *
  generalize t / 2 ^ 1 % 2 * (w / 10 % 10) = z1 at *
  generalize t / 2 ^ 2 % 2 * (w / 10 / 10 % 10) = z2 at *
  generalize t / 2 ^ 3 % 2 * (w / 10 / 10 / 10 % 10) = z3 at *
  generalize t / 2 ^ 4 % 2 * (w / 10 / 10 / 10 / 10 % 10) = z4 at *
  generalize t / 2 ^ 5 % 2 * (w / 10 / 10 / 10 / 10 / 10 % 10) = z5 at *
  generalize t / 2 ^ 6 % 2 * (w / 10 / 10 / 10 / 10 / 10 / 10 % 10) = z6 at *
  omega
section
variable {bg : Nat} {df iq tb up fa co fr dn : Nat → Bool} {op ov sp sv qb qi qj qv ql so ba an pk kv vo kn : Nat → Nat} {srt num : Nat → Int32}
variable {post : Int32 → Prop} {s k t : Nat}
theorem yc_isQuorum (hs : s < 4) (hk : k < 3) (ht : t < 128) (hr : rg_ (srt s) (num (4 * s)) (num (4 * s + 1)) (num (4 * s + 2)) (num (4 * s + 3))) : wpY_isQuorum post (nI bg, srt, num, ar_n so, ar_n ba, ar_n an, pc_y pk, ar_n kv, ar_b fa, ar_b co, ar_b fr, ar_b dn, ar_n sp, ar_n sv, ar_n ql, ar_n qb, ar_n qj, ar_n qv, ar_n vo, ar_n kn) (nI s) (nI k) (nI t) ↔ post (bo_i (qf_ (srt s) (num (4 * s)) (num (4 * s + 1)) (num (4 * s + 2)) (num (4 * s + 3)) k t)) := by
  rcases hr with ⟨e0, a, b, c, d, ea, eb, ec, ed, h⟩ | ⟨e0, a, b, ea, eb, h⟩ | ⟨e0, a, b, c, d, ea, eb, ec, ed, h⟩ | ⟨e0, a, b, c, ea, eb, ec, h⟩
  · obtain ⟨h1, h2, h3, h4, h5, h6, h7⟩ := h
    rw [e0, ea, eb, ec, ed, qf_0 (by omega) (by omega) (by omega) (by omega) (by omega) (by omega) hk]
    have hz := sz_7 (t &&& a)
    have hta : t &&& a < 128 := nu_and7 ht
    rcases (by omega : k = 0 ∨ k = 1 ∨ k = 2) with rfl | rfl | rfl
    · have hb0 : 0 < b := h3
      by_cases z : b ≤ sz_ (t &&& a)
      · simp (disch := first | omega | assumption) only [li_0, li_1, li_2, li_3, li_4, li_6, li_7, li_8, li_9, li_10, li_12, li_21, li_24, li_31, li_60, li_63, li_127, li_128, li_256, li_312, li_384, nI_add, nu_mul, nu_sub, nu_div, nu_and, nu_or, nu_shr, nu_bit, nu_diff, bi_2, nI_leI, nI_ltI, nI_eq, vp_in_nI, nI_clamp, ar_na, ar_ba, bo_0, bo_1, bo_it, bo_if, bo_w, bo_w0, bo_w1, bo_nar, bo_n1, bo_nn0, st_bu, st_bu1, st_bu0, st_nu, forall_eq, true_implies, false_implies, forall_const, not_true_eq_false, not_false_eq_true, and_true, true_and, implies_true, and_self, Bool.false_eq_true, Bool.true_eq_false, reduceCtorEq, ite_true, ite_false, if_true, if_false, eq_self, Nat.zero_add, Nat.add_zero, Nat.le_refl, Nat.lt_irrefl, Nat.reduceEqDiff, Nat.reduceLeDiff, Nat.reduceLT, Nat.reduceAdd, Nat.reduceMul, Nat.reduceSub, wpY_isQuorum, wY_isQuorum_94, wY_isQuorum_180, wY_isQuorum_207, e0, ea, eb, ec, ed, yc_size, z, Nat.not_lt.mpr z, hb0, decide_true, Bool.and_self]
      · simp (disch := first | omega | assumption) only [li_0, li_1, li_2, li_3, li_4, li_6, li_7, li_8, li_9, li_10, li_12, li_21, li_24, li_31, li_60, li_63, li_127, li_128, li_256, li_312, li_384, nI_add, nu_mul, nu_sub, nu_div, nu_and, nu_or, nu_shr, nu_bit, nu_diff, bi_2, nI_leI, nI_ltI, nI_eq, vp_in_nI, nI_clamp, ar_na, ar_ba, bo_0, bo_1, bo_it, bo_if, bo_w, bo_w0, bo_w1, bo_nar, bo_n1, bo_nn0, st_bu, st_bu1, st_bu0, st_nu, forall_eq, true_implies, false_implies, forall_const, not_true_eq_false, not_false_eq_true, and_true, true_and, implies_true, and_self, Bool.false_eq_true, Bool.true_eq_false, reduceCtorEq, ite_true, ite_false, if_true, if_false, eq_self, Nat.zero_add, Nat.add_zero, Nat.le_refl, Nat.lt_irrefl, Nat.reduceEqDiff, Nat.reduceLeDiff, Nat.reduceLT, Nat.reduceAdd, Nat.reduceMul, Nat.reduceSub, wpY_isQuorum, wY_isQuorum_94, wY_isQuorum_180, wY_isQuorum_207, e0, ea, eb, ec, ed, yc_size, z, Nat.lt_of_not_le z, decide_false, Bool.and_false]
    · have hc0 : 0 < c := h5
      by_cases z : c ≤ sz_ (t &&& a)
      · simp (disch := first | omega | assumption) only [li_0, li_1, li_2, li_3, li_4, li_6, li_7, li_8, li_9, li_10, li_12, li_21, li_24, li_31, li_60, li_63, li_127, li_128, li_256, li_312, li_384, nI_add, nu_mul, nu_sub, nu_div, nu_and, nu_or, nu_shr, nu_bit, nu_diff, bi_2, nI_leI, nI_ltI, nI_eq, vp_in_nI, nI_clamp, ar_na, ar_ba, bo_0, bo_1, bo_it, bo_if, bo_w, bo_w0, bo_w1, bo_nar, bo_n1, bo_nn0, st_bu, st_bu1, st_bu0, st_nu, forall_eq, true_implies, false_implies, forall_const, not_true_eq_false, not_false_eq_true, and_true, true_and, implies_true, and_self, Bool.false_eq_true, Bool.true_eq_false, reduceCtorEq, ite_true, ite_false, if_true, if_false, eq_self, Nat.zero_add, Nat.add_zero, Nat.le_refl, Nat.lt_irrefl, Nat.reduceEqDiff, Nat.reduceLeDiff, Nat.reduceLT, Nat.reduceAdd, Nat.reduceMul, Nat.reduceSub, wpY_isQuorum, wY_isQuorum_94, wY_isQuorum_180, wY_isQuorum_207, e0, ea, eb, ec, ed, yc_size, z, Nat.not_lt.mpr z, hc0, decide_true, Bool.and_self]
      · simp (disch := first | omega | assumption) only [li_0, li_1, li_2, li_3, li_4, li_6, li_7, li_8, li_9, li_10, li_12, li_21, li_24, li_31, li_60, li_63, li_127, li_128, li_256, li_312, li_384, nI_add, nu_mul, nu_sub, nu_div, nu_and, nu_or, nu_shr, nu_bit, nu_diff, bi_2, nI_leI, nI_ltI, nI_eq, vp_in_nI, nI_clamp, ar_na, ar_ba, bo_0, bo_1, bo_it, bo_if, bo_w, bo_w0, bo_w1, bo_nar, bo_n1, bo_nn0, st_bu, st_bu1, st_bu0, st_nu, forall_eq, true_implies, false_implies, forall_const, not_true_eq_false, not_false_eq_true, and_true, true_and, implies_true, and_self, Bool.false_eq_true, Bool.true_eq_false, reduceCtorEq, ite_true, ite_false, if_true, if_false, eq_self, Nat.zero_add, Nat.add_zero, Nat.le_refl, Nat.lt_irrefl, Nat.reduceEqDiff, Nat.reduceLeDiff, Nat.reduceLT, Nat.reduceAdd, Nat.reduceMul, Nat.reduceSub, wpY_isQuorum, wY_isQuorum_94, wY_isQuorum_180, wY_isQuorum_207, e0, ea, eb, ec, ed, yc_size, z, Nat.lt_of_not_le z, decide_false, Bool.and_false]
    · by_cases z0 : d = 0
      · subst z0
        simp (disch := first | omega | assumption) only [li_0, li_1, li_2, li_3, li_4, li_6, li_7, li_8, li_9, li_10, li_12, li_21, li_24, li_31, li_60, li_63, li_127, li_128, li_256, li_312, li_384, nI_add, nu_mul, nu_sub, nu_div, nu_and, nu_or, nu_shr, nu_bit, nu_diff, bi_2, nI_leI, nI_ltI, nI_eq, vp_in_nI, nI_clamp, ar_na, ar_ba, bo_0, bo_1, bo_it, bo_if, bo_w, bo_w0, bo_w1, bo_nar, bo_n1, bo_nn0, st_bu, st_bu1, st_bu0, st_nu, forall_eq, true_implies, false_implies, forall_const, not_true_eq_false, not_false_eq_true, and_true, true_and, implies_true, and_self, Bool.false_eq_true, Bool.true_eq_false, reduceCtorEq, ite_true, ite_false, if_true, if_false, eq_self, Nat.zero_add, Nat.add_zero, Nat.le_refl, Nat.lt_irrefl, Nat.reduceEqDiff, Nat.reduceLeDiff, Nat.reduceLT, Nat.reduceAdd, Nat.reduceMul, Nat.reduceSub, wpY_isQuorum, wY_isQuorum_94, wY_isQuorum_180, wY_isQuorum_207, e0, ea, eb, ec, ed, decide_false, Bool.false_and]
      · have hd0 : 0 < d := Nat.pos_of_ne_zero z0
        by_cases z : d ≤ sz_ (t &&& a)
        · simp (disch := first | omega | assumption) only [li_0, li_1, li_2, li_3, li_4, li_6, li_7, li_8, li_9, li_10, li_12, li_21, li_24, li_31, li_60, li_63, li_127, li_128, li_256, li_312, li_384, nI_add, nu_mul, nu_sub, nu_div, nu_and, nu_or, nu_shr, nu_bit, nu_diff, bi_2, nI_leI, nI_ltI, nI_eq, vp_in_nI, nI_clamp, ar_na, ar_ba, bo_0, bo_1, bo_it, bo_if, bo_w, bo_w0, bo_w1, bo_nar, bo_n1, bo_nn0, st_bu, st_bu1, st_bu0, st_nu, forall_eq, true_implies, false_implies, forall_const, not_true_eq_false, not_false_eq_true, and_true, true_and, implies_true, and_self, Bool.false_eq_true, Bool.true_eq_false, reduceCtorEq, ite_true, ite_false, if_true, if_false, eq_self, Nat.zero_add, Nat.add_zero, Nat.le_refl, Nat.lt_irrefl, Nat.reduceEqDiff, Nat.reduceLeDiff, Nat.reduceLT, Nat.reduceAdd, Nat.reduceMul, Nat.reduceSub, wpY_isQuorum, wY_isQuorum_94, wY_isQuorum_180, wY_isQuorum_207, e0, ea, eb, ec, ed, yc_size, z, z0, Nat.not_lt.mpr z, hd0, decide_true, Bool.and_self]
        · simp (disch := first | omega | assumption) only [li_0, li_1, li_2, li_3, li_4, li_6, li_7, li_8, li_9, li_10, li_12, li_21, li_24, li_31, li_60, li_63, li_127, li_128, li_256, li_312, li_384, nI_add, nu_mul, nu_sub, nu_div, nu_and, nu_or, nu_shr, nu_bit, nu_diff, bi_2, nI_leI, nI_ltI, nI_eq, vp_in_nI, nI_clamp, ar_na, ar_ba, bo_0, bo_1, bo_it, bo_if, bo_w, bo_w0, bo_w1, bo_nar, bo_n1, bo_nn0, st_bu, st_bu1, st_bu0, st_nu, forall_eq, true_implies, false_implies, forall_const, not_true_eq_false, not_false_eq_true, and_true, true_and, implies_true, and_self, Bool.false_eq_true, Bool.true_eq_false, reduceCtorEq, ite_true, ite_false, if_true, if_false, eq_self, Nat.zero_add, Nat.add_zero, Nat.le_refl, Nat.lt_irrefl, Nat.reduceEqDiff, Nat.reduceLeDiff, Nat.reduceLT, Nat.reduceAdd, Nat.reduceMul, Nat.reduceSub, wpY_isQuorum, wY_isQuorum_94, wY_isQuorum_180, wY_isQuorum_207, e0, ea, eb, ec, ed, yc_size, z, z0, Nat.lt_of_not_le z, decide_false, Bool.and_false]
  · obtain ⟨h1, h2, h3, h4, h5⟩ := h
    rw [e0, ea, eb, qf_1 (by omega) (by omega)]
    have hz := gr_le (r := a) (c := b) (o := true) (t := t) h2 h4
    have hy := gr_le (r := a) (c := b) (o := false) (t := t) h2 h4
    rcases (by omega : k = 0 ∨ k = 1 ∨ k = 2) with rfl | rfl | rfl
    · by_cases z : 0 < gr_ln a b true t
      · simp (disch := first | omega | assumption) only [li_0, li_1, li_2, li_3, li_4, li_6, li_7, li_8, li_9, li_10, li_12, li_21, li_24, li_31, li_60, li_63, li_127, li_128, li_256, li_312, li_384, nI_add, nu_mul, nu_sub, nu_div, nu_and, nu_or, nu_shr, nu_bit, nu_diff, bi_2, nI_leI, nI_ltI, nI_eq, vp_in_nI, nI_clamp, ar_na, ar_ba, bo_0, bo_1, bo_it, bo_if, bo_w, bo_w0, bo_w1, bo_nar, bo_n1, bo_nn0, st_bu, st_bu1, st_bu0, st_nu, forall_eq, true_implies, false_implies, forall_const, not_true_eq_false, not_false_eq_true, and_true, true_and, implies_true, and_self, Bool.false_eq_true, Bool.true_eq_false, reduceCtorEq, ite_true, ite_false, if_true, if_false, eq_self, Nat.zero_add, Nat.add_zero, Nat.le_refl, Nat.lt_irrefl, Nat.reduceEqDiff, Nat.reduceLeDiff, Nat.reduceLT, Nat.reduceAdd, Nat.reduceMul, Nat.reduceSub, wpY_isQuorum, wY_isQuorum_94, e0, ea, eb, yc_linesR, z, Nat.not_le.mpr z, decide_true, false_and]
      · simp (disch := first | omega | assumption) only [li_0, li_1, li_2, li_3, li_4, li_6, li_7, li_8, li_9, li_10, li_12, li_21, li_24, li_31, li_60, li_63, li_127, li_128, li_256, li_312, li_384, nI_add, nu_mul, nu_sub, nu_div, nu_and, nu_or, nu_shr, nu_bit, nu_diff, bi_2, nI_leI, nI_ltI, nI_eq, vp_in_nI, nI_clamp, ar_na, ar_ba, bo_0, bo_1, bo_it, bo_if, bo_w, bo_w0, bo_w1, bo_nar, bo_n1, bo_nn0, st_bu, st_bu1, st_bu0, st_nu, forall_eq, true_implies, false_implies, forall_const, not_true_eq_false, not_false_eq_true, and_true, true_and, implies_true, and_self, Bool.false_eq_true, Bool.true_eq_false, reduceCtorEq, ite_true, ite_false, if_true, if_false, eq_self, Nat.zero_add, Nat.add_zero, Nat.le_refl, Nat.lt_irrefl, Nat.reduceEqDiff, Nat.reduceLeDiff, Nat.reduceLT, Nat.reduceAdd, Nat.reduceMul, Nat.reduceSub, wpY_isQuorum, wY_isQuorum_94, e0, ea, eb, yc_linesR, z, Nat.le_of_not_lt z, decide_false, false_and]
    · by_cases z : 1 ≤ gr_ln a b false t
      · simp (disch := first | omega | assumption) only [li_0, li_1, li_2, li_3, li_4, li_6, li_7, li_8, li_9, li_10, li_12, li_21, li_24, li_31, li_60, li_63, li_127, li_128, li_256, li_312, li_384, nI_add, nu_mul, nu_sub, nu_div, nu_and, nu_or, nu_shr, nu_bit, nu_diff, bi_2, nI_leI, nI_ltI, nI_eq, vp_in_nI, nI_clamp, ar_na, ar_ba, bo_0, bo_1, bo_it, bo_if, bo_w, bo_w0, bo_w1, bo_nar, bo_n1, bo_nn0, st_bu, st_bu1, st_bu0, st_nu, forall_eq, true_implies, false_implies, forall_const, not_true_eq_false, not_false_eq_true, and_true, true_and, implies_true, and_self, Bool.false_eq_true, Bool.true_eq_false, reduceCtorEq, ite_true, ite_false, if_true, if_false, eq_self, Nat.zero_add, Nat.add_zero, Nat.le_refl, Nat.lt_irrefl, Nat.reduceEqDiff, Nat.reduceLeDiff, Nat.reduceLT, Nat.reduceAdd, Nat.reduceMul, Nat.reduceSub, wpY_isQuorum, wY_isQuorum_94, wY_isQuorum_150, e0, ea, eb, yc_linesC, z, Nat.not_lt.mpr z, decide_true, false_and]
      · simp (disch := first | omega | assumption) only [li_0, li_1, li_2, li_3, li_4, li_6, li_7, li_8, li_9, li_10, li_12, li_21, li_24, li_31, li_60, li_63, li_127, li_128, li_256, li_312, li_384, nI_add, nu_mul, nu_sub, nu_div, nu_and, nu_or, nu_shr, nu_bit, nu_diff, bi_2, nI_leI, nI_ltI, nI_eq, vp_in_nI, nI_clamp, ar_na, ar_ba, bo_0, bo_1, bo_it, bo_if, bo_w, bo_w0, bo_w1, bo_nar, bo_n1, bo_nn0, st_bu, st_bu1, st_bu0, st_nu, forall_eq, true_implies, false_implies, forall_const, not_true_eq_false, not_false_eq_true, and_true, true_and, implies_true, and_self, Bool.false_eq_true, Bool.true_eq_false, reduceCtorEq, ite_true, ite_false, if_true, if_false, eq_self, Nat.zero_add, Nat.add_zero, Nat.le_refl, Nat.lt_irrefl, Nat.reduceEqDiff, Nat.reduceLeDiff, Nat.reduceLT, Nat.reduceAdd, Nat.reduceMul, Nat.reduceSub, wpY_isQuorum, wY_isQuorum_94, wY_isQuorum_150, e0, ea, eb, yc_linesC, z, Nat.lt_of_not_le z, decide_false, false_and]
    · by_cases z0 : num (4 * s + 3) = nI 0
      · simp (disch := first | omega | assumption) only [li_0, li_1, li_2, li_3, li_4, li_6, li_7, li_8, li_9, li_10, li_12, li_21, li_24, li_31, li_60, li_63, li_127, li_128, li_256, li_312, li_384, nI_add, nu_mul, nu_sub, nu_div, nu_and, nu_or, nu_shr, nu_bit, nu_diff, bi_2, nI_leI, nI_ltI, nI_eq, vp_in_nI, nI_clamp, ar_na, ar_ba, bo_0, bo_1, bo_it, bo_if, bo_w, bo_w0, bo_w1, bo_nar, bo_n1, bo_nn0, st_bu, st_bu1, st_bu0, st_nu, forall_eq, true_implies, false_implies, forall_const, not_true_eq_false, not_false_eq_true, and_true, true_and, implies_true, and_self, Bool.false_eq_true, Bool.true_eq_false, reduceCtorEq, ite_true, ite_false, if_true, if_false, eq_self, Nat.zero_add, Nat.add_zero, Nat.le_refl, Nat.lt_irrefl, Nat.reduceEqDiff, Nat.reduceLeDiff, Nat.reduceLT, Nat.reduceAdd, Nat.reduceMul, Nat.reduceSub, wpY_isQuorum, wY_isQuorum_94, wY_isQuorum_150, e0, ea, eb, z0]
      · by_cases z : b - 1 ≤ gr_ln a b false t
        · simp (disch := first | omega | assumption) only [li_0, li_1, li_2, li_3, li_4, li_6, li_7, li_8, li_9, li_10, li_12, li_21, li_24, li_31, li_60, li_63, li_127, li_128, li_256, li_312, li_384, nI_add, nu_mul, nu_sub, nu_div, nu_and, nu_or, nu_shr, nu_bit, nu_diff, bi_2, nI_leI, nI_ltI, nI_eq, vp_in_nI, nI_clamp, ar_na, ar_ba, bo_0, bo_1, bo_it, bo_if, bo_w, bo_w0, bo_w1, bo_nar, bo_n1, bo_nn0, st_bu, st_bu1, st_bu0, st_nu, forall_eq, true_implies, false_implies, forall_const, not_true_eq_false, not_false_eq_true, and_true, true_and, implies_true, and_self, Bool.false_eq_true, Bool.true_eq_false, reduceCtorEq, ite_true, ite_false, if_true, if_false, eq_self, Nat.zero_add, Nat.add_zero, Nat.le_refl, Nat.lt_irrefl, Nat.reduceEqDiff, Nat.reduceLeDiff, Nat.reduceLT, Nat.reduceAdd, Nat.reduceMul, Nat.reduceSub, wpY_isQuorum, wY_isQuorum_94, wY_isQuorum_150, e0, ea, eb, yc_linesC, z, z0, Nat.not_lt.mpr z, decide_true, and_false]
        · simp (disch := first | omega | assumption) only [li_0, li_1, li_2, li_3, li_4, li_6, li_7, li_8, li_9, li_10, li_12, li_21, li_24, li_31, li_60, li_63, li_127, li_128, li_256, li_312, li_384, nI_add, nu_mul, nu_sub, nu_div, nu_and, nu_or, nu_shr, nu_bit, nu_diff, bi_2, nI_leI, nI_ltI, nI_eq, vp_in_nI, nI_clamp, ar_na, ar_ba, bo_0, bo_1, bo_it, bo_if, bo_w, bo_w0, bo_w1, bo_nar, bo_n1, bo_nn0, st_bu, st_bu1, st_bu0, st_nu, forall_eq, true_implies, false_implies, forall_const, not_true_eq_false, not_false_eq_true, and_true, true_and, implies_true, and_self, Bool.false_eq_true, Bool.true_eq_false, reduceCtorEq, ite_true, ite_false, if_true, if_false, eq_self, Nat.zero_add, Nat.add_zero, Nat.le_refl, Nat.lt_irrefl, Nat.reduceEqDiff, Nat.reduceLeDiff, Nat.reduceLT, Nat.reduceAdd, Nat.reduceMul, Nat.reduceSub, wpY_isQuorum, wY_isQuorum_94, wY_isQuorum_150, e0, ea, eb, yc_linesC, z, z0, Nat.lt_of_not_le z, decide_false, and_false]
  · obtain ⟨h1, h2, h3, h4, h5, h6⟩ := h
    rw [e0, ea, eb, ec, ed, qf_2 (by omega) (by omega) (by omega) (by omega) (by omega) (by omega) hk]
    have hz := wt_le a t
    rcases (by omega : k = 0 ∨ k = 1 ∨ k = 2) with rfl | rfl | rfl
    · have hb0 : 0 < b := h2
      by_cases z : b ≤ wt_ a t
      · simp (disch := first | omega | assumption) only [li_0, li_1, li_2, li_3, li_4, li_6, li_7, li_8, li_9, li_10, li_12, li_21, li_24, li_31, li_60, li_63, li_127, li_128, li_256, li_312, li_384, nI_add, nu_mul, nu_sub, nu_div, nu_and, nu_or, nu_shr, nu_bit, nu_diff, bi_2, nI_leI, nI_ltI, nI_eq, vp_in_nI, nI_clamp, ar_na, ar_ba, bo_0, bo_1, bo_it, bo_if, bo_w, bo_w0, bo_w1, bo_nar, bo_n1, bo_nn0, st_bu, st_bu1, st_bu0, st_nu, forall_eq, true_implies, false_implies, forall_const, not_true_eq_false, not_false_eq_true, and_true, true_and, implies_true, and_self, Bool.false_eq_true, Bool.true_eq_false, reduceCtorEq, ite_true, ite_false, if_true, if_false, eq_self, Nat.zero_add, Nat.add_zero, Nat.le_refl, Nat.lt_irrefl, Nat.reduceEqDiff, Nat.reduceLeDiff, Nat.reduceLT, Nat.reduceAdd, Nat.reduceMul, Nat.reduceSub, wpY_isQuorum, wY_isQuorum_94, wY_isQuorum_180, wY_isQuorum_207, e0, ea, eb, ec, ed, yc_weight, z, Nat.not_lt.mpr z, hb0, decide_true, Bool.and_self]
      · simp (disch := first | omega | assumption) only [li_0, li_1, li_2, li_3, li_4, li_6, li_7, li_8, li_9, li_10, li_12, li_21, li_24, li_31, li_60, li_63, li_127, li_128, li_256, li_312, li_384, nI_add, nu_mul, nu_sub, nu_div, nu_and, nu_or, nu_shr, nu_bit, nu_diff, bi_2, nI_leI, nI_ltI, nI_eq, vp_in_nI, nI_clamp, ar_na, ar_ba, bo_0, bo_1, bo_it, bo_if, bo_w, bo_w0, bo_w1, bo_nar, bo_n1, bo_nn0, st_bu, st_bu1, st_bu0, st_nu, forall_eq, true_implies, false_implies, forall_const, not_true_eq_false, not_false_eq_true, and_true, true_and, implies_true, and_self, Bool.false_eq_true, Bool.true_eq_false, reduceCtorEq, ite_true, ite_false, if_true, if_false, eq_self, Nat.zero_add, Nat.add_zero, Nat.le_refl, Nat.lt_irrefl, Nat.reduceEqDiff, Nat.reduceLeDiff, Nat.reduceLT, Nat.reduceAdd, Nat.reduceMul, Nat.reduceSub, wpY_isQuorum, wY_isQuorum_94, wY_isQuorum_180, wY_isQuorum_207, e0, ea, eb, ec, ed, yc_weight, z, Nat.lt_of_not_le z, decide_false, Bool.and_false]
    · have hc0 : 0 < c := h4
      by_cases z : c ≤ wt_ a t
      · simp (disch := first | omega | assumption) only [li_0, li_1, li_2, li_3, li_4, li_6, li_7, li_8, li_9, li_10, li_12, li_21, li_24, li_31, li_60, li_63, li_127, li_128, li_256, li_312, li_384, nI_add, nu_mul, nu_sub, nu_div, nu_and, nu_or, nu_shr, nu_bit, nu_diff, bi_2, nI_leI, nI_ltI, nI_eq, vp_in_nI, nI_clamp, ar_na, ar_ba, bo_0, bo_1, bo_it, bo_if, bo_w, bo_w0, bo_w1, bo_nar, bo_n1, bo_nn0, st_bu, st_bu1, st_bu0, st_nu, forall_eq, true_implies, false_implies, forall_const, not_true_eq_false, not_false_eq_true, and_true, true_and, implies_true, and_self, Bool.false_eq_true, Bool.true_eq_false, reduceCtorEq, ite_true, ite_false, if_true, if_false, eq_self, Nat.zero_add, Nat.add_zero, Nat.le_refl, Nat.lt_irrefl, Nat.reduceEqDiff, Nat.reduceLeDiff, Nat.reduceLT, Nat.reduceAdd, Nat.reduceMul, Nat.reduceSub, wpY_isQuorum, wY_isQuorum_94, wY_isQuorum_180, wY_isQuorum_207, e0, ea, eb, ec, ed, yc_weight, z, Nat.not_lt.mpr z, hc0, decide_true, Bool.and_self]
      · simp (disch := first | omega | assumption) only [li_0, li_1, li_2, li_3, li_4, li_6, li_7, li_8, li_9, li_10, li_12, li_21, li_24, li_31, li_60, li_63, li_127, li_128, li_256, li_312, li_384, nI_add, nu_mul, nu_sub, nu_div, nu_and, nu_or, nu_shr, nu_bit, nu_diff, bi_2, nI_leI, nI_ltI, nI_eq, vp_in_nI, nI_clamp, ar_na, ar_ba, bo_0, bo_1, bo_it, bo_if, bo_w, bo_w0, bo_w1, bo_nar, bo_n1, bo_nn0, st_bu, st_bu1, st_bu0, st_nu, forall_eq, true_implies, false_implies, forall_const, not_true_eq_false, not_false_eq_true, and_true, true_and, implies_true, and_self, Bool.false_eq_true, Bool.true_eq_false, reduceCtorEq, ite_true, ite_false, if_true, if_false, eq_self, Nat.zero_add, Nat.add_zero, Nat.le_refl, Nat.lt_irrefl, Nat.reduceEqDiff, Nat.reduceLeDiff, Nat.reduceLT, Nat.reduceAdd, Nat.reduceMul, Nat.reduceSub, wpY_isQuorum, wY_isQuorum_94, wY_isQuorum_180, wY_isQuorum_207, e0, ea, eb, ec, ed, yc_weight, z, Nat.lt_of_not_le z, decide_false, Bool.and_false]
    · by_cases z0 : d = 0
      · subst z0
        simp (disch := first | omega | assumption) only [li_0, li_1, li_2, li_3, li_4, li_6, li_7, li_8, li_9, li_10, li_12, li_21, li_24, li_31, li_60, li_63, li_127, li_128, li_256, li_312, li_384, nI_add, nu_mul, nu_sub, nu_div, nu_and, nu_or, nu_shr, nu_bit, nu_diff, bi_2, nI_leI, nI_ltI, nI_eq, vp_in_nI, nI_clamp, ar_na, ar_ba, bo_0, bo_1, bo_it, bo_if, bo_w, bo_w0, bo_w1, bo_nar, bo_n1, bo_nn0, st_bu, st_bu1, st_bu0, st_nu, forall_eq, true_implies, false_implies, forall_const, not_true_eq_false, not_false_eq_true, and_true, true_and, implies_true, and_self, Bool.false_eq_true, Bool.true_eq_false, reduceCtorEq, ite_true, ite_false, if_true, if_false, eq_self, Nat.zero_add, Nat.add_zero, Nat.le_refl, Nat.lt_irrefl, Nat.reduceEqDiff, Nat.reduceLeDiff, Nat.reduceLT, Nat.reduceAdd, Nat.reduceMul, Nat.reduceSub, wpY_isQuorum, wY_isQuorum_94, wY_isQuorum_180, wY_isQuorum_207, e0, ea, eb, ec, ed, decide_false, Bool.false_and]
      · have hd0 : 0 < d := Nat.pos_of_ne_zero z0
        by_cases z : d ≤ wt_ a t
        · simp (disch := first | omega | assumption) only [li_0, li_1, li_2, li_3, li_4, li_6, li_7, li_8, li_9, li_10, li_12, li_21, li_24, li_31, li_60, li_63, li_127, li_128, li_256, li_312, li_384, nI_add, nu_mul, nu_sub, nu_div, nu_and, nu_or, nu_shr, nu_bit, nu_diff, bi_2, nI_leI, nI_ltI, nI_eq, vp_in_nI, nI_clamp, ar_na, ar_ba, bo_0, bo_1, bo_it, bo_if, bo_w, bo_w0, bo_w1, bo_nar, bo_n1, bo_nn0, st_bu, st_bu1, st_bu0, st_nu, forall_eq, true_implies, false_implies, forall_const, not_true_eq_false, not_false_eq_true, and_true, true_and, implies_true, and_self, Bool.false_eq_true, Bool.true_eq_false, reduceCtorEq, ite_true, ite_false, if_true, if_false, eq_self, Nat.zero_add, Nat.add_zero, Nat.le_refl, Nat.lt_irrefl, Nat.reduceEqDiff, Nat.reduceLeDiff, Nat.reduceLT, Nat.reduceAdd, Nat.reduceMul, Nat.reduceSub, wpY_isQuorum, wY_isQuorum_94, wY_isQuorum_180, wY_isQuorum_207, e0, ea, eb, ec, ed, yc_weight, z, z0, Nat.not_lt.mpr z, hd0, decide_true, Bool.and_self]
        · simp (disch := first | omega | assumption) only [li_0, li_1, li_2, li_3, li_4, li_6, li_7, li_8, li_9, li_10, li_12, li_21, li_24, li_31, li_60, li_63, li_127, li_128, li_256, li_312, li_384, nI_add, nu_mul, nu_sub, nu_div, nu_and, nu_or, nu_shr, nu_bit, nu_diff, bi_2, nI_leI, nI_ltI, nI_eq, vp_in_nI, nI_clamp, ar_na, ar_ba, bo_0, bo_1, bo_it, bo_if, bo_w, bo_w0, bo_w1, bo_nar, bo_n1, bo_nn0, st_bu, st_bu1, st_bu0, st_nu, forall_eq, true_implies, false_implies, forall_const, not_true_eq_false, not_false_eq_true, and_true, true_and, implies_true, and_self, Bool.false_eq_true, Bool.true_eq_false, reduceCtorEq, ite_true, ite_false, if_true, if_false, eq_self, Nat.zero_add, Nat.add_zero, Nat.le_refl, Nat.lt_irrefl, Nat.reduceEqDiff, Nat.reduceLeDiff, Nat.reduceLT, Nat.reduceAdd, Nat.reduceMul, Nat.reduceSub, wpY_isQuorum, wY_isQuorum_94, wY_isQuorum_180, wY_isQuorum_207, e0, ea, eb, ec, ed, yc_weight, z, z0, Nat.lt_of_not_le z, decide_false, Bool.and_false]
  · obtain ⟨h1, h2, h3⟩ := h
    rw [e0, ea, eb, ec, qf_3 (by omega) (by omega) (by omega)]
    rcases (by omega : k = 0 ∨ k = 1 ∨ k = 2) with rfl | rfl | rfl
    · simp (disch := first | omega | assumption) only [li_0, li_1, li_2, li_3, li_4, li_6, li_7, li_8, li_9, li_10, li_12, li_21, li_24, li_31, li_60, li_63, li_127, li_128, li_256, li_312, li_384, nI_add, nu_mul, nu_sub, nu_div, nu_and, nu_or, nu_shr, nu_bit, nu_diff, bi_2, nI_leI, nI_ltI, nI_eq, vp_in_nI, nI_clamp, ar_na, ar_ba, bo_0, bo_1, bo_it, bo_if, bo_w, bo_w0, bo_w1, bo_nar, bo_n1, bo_nn0, st_bu, st_bu1, st_bu0, st_nu, forall_eq, true_implies, false_implies, forall_const, not_true_eq_false, not_false_eq_true, and_true, true_and, implies_true, and_self, Bool.false_eq_true, Bool.true_eq_false, reduceCtorEq, ite_true, ite_false, if_true, if_false, eq_self, Nat.zero_add, Nat.add_zero, Nat.le_refl, Nat.lt_irrefl, Nat.reduceEqDiff, Nat.reduceLeDiff, Nat.reduceLT, Nat.reduceAdd, Nat.reduceMul, Nat.reduceSub, wpY_isQuorum, wY_isQuorum_77, e0, ea, eb, ec, yc_contains]
    · simp (disch := first | omega | assumption) only [li_0, li_1, li_2, li_3, li_4, li_6, li_7, li_8, li_9, li_10, li_12, li_21, li_24, li_31, li_60, li_63, li_127, li_128, li_256, li_312, li_384, nI_add, nu_mul, nu_sub, nu_div, nu_and, nu_or, nu_shr, nu_bit, nu_diff, bi_2, nI_leI, nI_ltI, nI_eq, vp_in_nI, nI_clamp, ar_na, ar_ba, bo_0, bo_1, bo_it, bo_if, bo_w, bo_w0, bo_w1, bo_nar, bo_n1, bo_nn0, st_bu, st_bu1, st_bu0, st_nu, forall_eq, true_implies, false_implies, forall_const, not_true_eq_false, not_false_eq_true, and_true, true_and, implies_true, and_self, Bool.false_eq_true, Bool.true_eq_false, reduceCtorEq, ite_true, ite_false, if_true, if_false, eq_self, Nat.zero_add, Nat.add_zero, Nat.le_refl, Nat.lt_irrefl, Nat.reduceEqDiff, Nat.reduceLeDiff, Nat.reduceLT, Nat.reduceAdd, Nat.reduceMul, Nat.reduceSub, wpY_isQuorum, wY_isQuorum_77, e0, ea, eb, ec, yc_contains]
    · simp (disch := first | omega | assumption) only [li_0, li_1, li_2, li_3, li_4, li_6, li_7, li_8, li_9, li_10, li_12, li_21, li_24, li_31, li_60, li_63, li_127, li_128, li_256, li_312, li_384, nI_add, nu_mul, nu_sub, nu_div, nu_and, nu_or, nu_shr, nu_bit, nu_diff, bi_2, nI_leI, nI_ltI, nI_eq, vp_in_nI, nI_clamp, ar_na, ar_ba, bo_0, bo_1, bo_it, bo_if, bo_w, bo_w0, bo_w1, bo_nar, bo_n1, bo_nn0, st_bu, st_bu1, st_bu0, st_nu, forall_eq, true_implies, false_implies, forall_const, not_true_eq_false, not_false_eq_true, and_true, true_and, implies_true, and_self, Bool.false_eq_true, Bool.true_eq_false, reduceCtorEq, ite_true, ite_false, if_true, if_false, eq_self, Nat.zero_add, Nat.add_zero, Nat.le_refl, Nat.lt_irrefl, Nat.reduceEqDiff, Nat.reduceLeDiff, Nat.reduceLT, Nat.reduceAdd, Nat.reduceMul, Nat.reduceSub, wpY_isQuorum, wY_isQuorum_77, e0, ea, eb, ec, yc_contains]
end
end
section
/-! the component's layouts of a trial -/
theorem lo_st {base : Nat} {g : Nat → Bool} : ∀ d i (tb : Nat → Bool) j, lo_f (fun t tb => st_b tb (base + t) (g t)) d i tb j = if base + i ≤ j ∧ j < base + i + d then g (j - base) else tb j
  | 0, i, tb, j => by unfold lo_f; rw [if_neg (by omega)]
  | d + 1, i, tb, j => by
    unfold lo_f
    rw [lo_st d (i + 1)]
    by_cases h : base + (i + 1) ≤ j ∧ j < base + (i + 1) + d
    · rw [if_pos h, if_pos (by omega)]
    · rw [if_neg h]
      by_cases e : j = base + i
      · subst e; rw [st_beq, if_pos (by omega), Nat.add_sub_cancel_left]
      · rw [st_bne e, if_neg (by omega)]
def tz_ (k : Nat) (g : Nat → Bool) (tb : Nat → Bool) : Nat → Bool := lo_f (fun t tb => st_b tb (k * 128 + t) (g t)) 128 0 tb
theorem tz_in {k t : Nat} {g tb : Nat → Bool} (ht : t < 128) : tz_ k g tb (k * 128 + t) = g t := by
  unfold tz_; rw [lo_st, if_pos (by omega), Nat.add_sub_cancel_left]
theorem tz_out {k j : Nat} {g tb : Nat → Bool} (h : j < k * 128 ∨ k * 128 + 128 ≤ j) : tz_ k g tb j = tb j := by
  unfold tz_; rw [lo_st, if_neg (by omega)]
theorem tz_3 {g0 g1 g2 tb : Nat → Bool} {k t : Nat} (hk : k < 3) (ht : t < 128) : tz_ 2 g2 (tz_ 1 g1 (tz_ 0 g0 tb)) (k * 128 + t) = if k = 0 then g0 t else if k = 1 then g1 t else g2 t := by
  rcases (by omega : k = 0 ∨ k = 1 ∨ k = 2) with rfl | rfl | rfl
  · rw [tz_out (by omega), tz_out (by omega), tz_in ht]; rfl
  · rw [tz_out (by omega), tz_in ht]; rfl
  · rw [tz_in ht]; rfl
section
variable {bg : Nat} {df iq tb up fa co fr dn : Nat → Bool} {op ov sp sv qb qi qj qv ql so ba an pk kv vo kn : Nat → Nat} {srt num : Nat → Int32}
variable {post : SX → Prop} {a k l t r c w : Nat}
theorem xc_layOutCount (hk : k < 3) (ha : a < 128) (hl : l ≤ 7) : wpX_layOutCount post (nI bg, ar_b df, ar_b iq, ar_b tb, ar_b up, ar_n op, ar_n ov, ar_n sp, ar_n sv, ar_n qb, ar_n qi, ar_n qv, ar_n ql, ar_n so, ar_b fa, ar_n ba, ar_n an, ar_b co, pc_x pk, ar_b fr, ar_n kv, ar_n vo, ar_n kn) (nI k) (nI a) (nI l) ↔ post (nI bg, ar_b df, ar_b iq, ar_b (tz_ k (fun t => decide (0 < l) && decide (l ≤ sz_ (t &&& a))) tb), ar_b up, ar_n op, ar_n ov, ar_n sp, ar_n sv, ar_n qb, ar_n qi, ar_n qv, ar_n ql, ar_n so, ar_b fa, ar_n ba, ar_n an, ar_b co, pc_x pk, ar_b fr, ar_n kv, ar_n vo, ar_n kn) := by
  simp only [wpX_layOutCount]
  refine lo_fold (W := fun n i tb => wX_layOutCount_3 post (nI k) (nI a) (nI l) (nI bg) n (nI i) (ar_b df) (ar_b iq) (ar_b tb) (ar_b up) (ar_n op) (ar_n ov) (ar_n sp) (ar_n sv) (ar_n qb) (ar_n qi) (ar_n qv) (ar_n ql) (ar_n so) (ar_b fa) (ar_n ba) (ar_n an) (ar_b co) (pc_x pk) (ar_b fr) (ar_n kv) (ar_n vo) (ar_n kn)) (fin := fun tb => post (nI bg, ar_b df, ar_b iq, ar_b tb, ar_b up, ar_n op, ar_n ov, ar_n sp, ar_n sv, ar_n qb, ar_n qi, ar_n qv, ar_n ql, ar_n so, ar_b fa, ar_n ba, ar_n an, ar_b co, pc_x pk, ar_b fr, ar_n kv, ar_n vo, ar_n kn)) (I := fun _ _ => True) (e := 128) (fun t tb => st_b tb (k * 128 + t) (decide (0 < l) && decide (l ≤ sz_ (t &&& a)))) (fun _ _ h => h) (fun _ _ _ _ => trivial) ?_ ?_ 128 0 tb rfl trivial
  · intro n tb _
    simp (disch := first | omega | assumption) only [li_0, li_1, li_2, li_3, li_4, li_6, li_7, li_8, li_9, li_10, li_12, li_21, li_24, li_31, li_60, li_63, li_127, li_128, li_256, li_312, li_384, nI_add, nu_mul, nu_sub, nu_div, nu_and, nu_or, nu_shr, nu_bit, nu_diff, bi_2, nI_leI, nI_ltI, nI_eq, vp_in_nI, nI_clamp, ar_na, ar_ba, bo_0, bo_1, bo_it, bo_if, bo_w, bo_w0, bo_w1, bo_nar, bo_n1, bo_nn0, st_bu, st_bu1, st_bu0, st_nu, forall_eq, true_implies, false_implies, forall_const, not_true_eq_false, not_false_eq_true, and_true, true_and, implies_true, and_self, Bool.false_eq_true, Bool.true_eq_false, reduceCtorEq, ite_true, ite_false, if_true, if_false, eq_self, Nat.zero_add, Nat.add_zero, Nat.le_refl, Nat.lt_irrefl, Nat.reduceEqDiff, Nat.reduceLeDiff, Nat.reduceLT, Nat.reduceAdd, Nat.reduceMul, Nat.reduceSub, wX_layOutCount_3]
  · intro n i tb hi _
    have hz := sz_7 (i &&& a)
    have hia : i &&& a < 128 := nu_and7 hi
    by_cases h0 : l = 0
    · subst h0
      simp (disch := first | omega | assumption) only [li_0, li_1, li_2, li_3, li_4, li_6, li_7, li_8, li_9, li_10, li_12, li_21, li_24, li_31, li_60, li_63, li_127, li_128, li_256, li_312, li_384, nI_add, nu_mul, nu_sub, nu_div, nu_and, nu_or, nu_shr, nu_bit, nu_diff, bi_2, nI_leI, nI_ltI, nI_eq, vp_in_nI, nI_clamp, ar_na, ar_ba, bo_0, bo_1, bo_it, bo_if, bo_w, bo_w0, bo_w1, bo_nar, bo_n1, bo_nn0, st_bu, st_bu1, st_bu0, st_nu, forall_eq, true_implies, false_implies, forall_const, not_true_eq_false, not_false_eq_true, and_true, true_and, implies_true, and_self, Bool.false_eq_true, Bool.true_eq_false, reduceCtorEq, ite_true, ite_false, if_true, if_false, eq_self, Nat.zero_add, Nat.add_zero, Nat.le_refl, Nat.lt_irrefl, Nat.reduceEqDiff, Nat.reduceLeDiff, Nat.reduceLT, Nat.reduceAdd, Nat.reduceMul, Nat.reduceSub, wX_layOutCount_3, Nat.not_le.mpr hi, decide_false, Bool.false_and]
    · have hl0 : 0 < l := Nat.pos_of_ne_zero h0
      by_cases z : l ≤ sz_ (i &&& a)
      · simp (disch := first | omega | assumption) only [li_0, li_1, li_2, li_3, li_4, li_6, li_7, li_8, li_9, li_10, li_12, li_21, li_24, li_31, li_60, li_63, li_127, li_128, li_256, li_312, li_384, nI_add, nu_mul, nu_sub, nu_div, nu_and, nu_or, nu_shr, nu_bit, nu_diff, bi_2, nI_leI, nI_ltI, nI_eq, vp_in_nI, nI_clamp, ar_na, ar_ba, bo_0, bo_1, bo_it, bo_if, bo_w, bo_w0, bo_w1, bo_nar, bo_n1, bo_nn0, st_bu, st_bu1, st_bu0, st_nu, forall_eq, true_implies, false_implies, forall_const, not_true_eq_false, not_false_eq_true, and_true, true_and, implies_true, and_self, Bool.false_eq_true, Bool.true_eq_false, reduceCtorEq, ite_true, ite_false, if_true, if_false, eq_self, Nat.zero_add, Nat.add_zero, Nat.le_refl, Nat.lt_irrefl, Nat.reduceEqDiff, Nat.reduceLeDiff, Nat.reduceLT, Nat.reduceAdd, Nat.reduceMul, Nat.reduceSub, wX_layOutCount_3, Nat.not_le.mpr hi, Nat.not_le.mpr hl0, xc_sizeOf, z, hl0, Nat.not_lt.mpr z, decide_true, Bool.and_self]
      · simp (disch := first | omega | assumption) only [li_0, li_1, li_2, li_3, li_4, li_6, li_7, li_8, li_9, li_10, li_12, li_21, li_24, li_31, li_60, li_63, li_127, li_128, li_256, li_312, li_384, nI_add, nu_mul, nu_sub, nu_div, nu_and, nu_or, nu_shr, nu_bit, nu_diff, bi_2, nI_leI, nI_ltI, nI_eq, vp_in_nI, nI_clamp, ar_na, ar_ba, bo_0, bo_1, bo_it, bo_if, bo_w, bo_w0, bo_w1, bo_nar, bo_n1, bo_nn0, st_bu, st_bu1, st_bu0, st_nu, forall_eq, true_implies, false_implies, forall_const, not_true_eq_false, not_false_eq_true, and_true, true_and, implies_true, and_self, Bool.false_eq_true, Bool.true_eq_false, reduceCtorEq, ite_true, ite_false, if_true, if_false, eq_self, Nat.zero_add, Nat.add_zero, Nat.le_refl, Nat.lt_irrefl, Nat.reduceEqDiff, Nat.reduceLeDiff, Nat.reduceLT, Nat.reduceAdd, Nat.reduceMul, Nat.reduceSub, wX_layOutCount_3, Nat.not_le.mpr hi, Nat.not_le.mpr hl0, xc_sizeOf, z, Nat.lt_of_not_le z, decide_false, Bool.and_false]
theorem rw_lt {c i : Nat} (h : c * i + c ≤ 7) : (2 ^ c - 1) * 2 ^ (c * i) < 128 := by
  have h1 : (2 ^ c - 1) * 2 ^ (c * i) ≤ 2 ^ c * 2 ^ (c * i) := Nat.mul_le_mul_right _ (Nat.sub_le _ _)
  have h2 : 2 ^ c * 2 ^ (c * i) ≤ 2 ^ 7 := by
    rw [← Nat.pow_add]; exact Nat.pow_le_pow_right (by decide) (by omega)
  have h3 : (2 ^ c - 1) * 2 ^ (c * i) < 2 ^ c * 2 ^ (c * i) := Nat.mul_lt_mul_of_pos_right (Nat.sub_lt (Nat.two_pow_pos c) (by decide)) (Nat.two_pow_pos _)
  omega
theorem xc_layOutRows1 {J : Int32 → (Nat → Int32) → (Nat → Int32) → (Nat → Int32) → (Nat → Int32) → (Nat → Int32) → (Nat → Int32) → (Nat → Int32) → (Nat → Int32) → (Nat → Int32) → (Nat → Int32) → (Nat → Int32) → (Nat → Int32) → (Nat → Int32) → (Nat → Int32) → (Nat → Int32) → (Nat → Int32) → (Nat → Int32) → (Nat → Int32) → (Nat → Int32) → (Nat → Int32) → (Nat → Int32) → (Nat → Int32) → Prop} (hr : r ≤ 7) (hc : 1 ≤ c) (hrc : r * c ≤ 7) (ht : t < 128) : (∃ n, wX_layOutRows_15 post J (nI r) (nI c) (nI t) (nI bg) (ar_b df) (ar_b iq) (ar_b tb) (ar_b up) (ar_n op) (ar_n ov) (ar_n sp) (ar_n sv) (ar_n qb) (ar_n qi) (ar_n qv) (ar_n ql) (ar_n so) (ar_b fa) (ar_n ba) (ar_n an) (ar_b co) (pc_x pk) (ar_b fr) (ar_n kv) (ar_n vo) (ar_n kn) n (nI 0) (nI 0)) ↔ J (nI (t + 1)) (ar_b df) (ar_b iq) (ar_b (st_b tb (0 * 128 + t) (gr_row r c t))) (ar_b up) (ar_n op) (ar_n ov) (ar_n sp) (ar_n sv) (ar_n qb) (ar_n qi) (ar_n qv) (ar_n ql) (ar_n so) (ar_b fa) (ar_n ba) (ar_n an) (ar_b co) (pc_x pk) (ar_b fr) (ar_n kv) (ar_n vo) (ar_n kn) := by
  refine lo_fold (W := fun n i a => wX_layOutRows_15 post J (nI r) (nI c) (nI t) (nI bg) (ar_b df) (ar_b iq) (ar_b tb) (ar_b up) (ar_n op) (ar_n ov) (ar_n sp) (ar_n sv) (ar_n qb) (ar_n qi) (ar_n qv) (ar_n ql) (ar_n so) (ar_b fa) (ar_n ba) (ar_n an) (ar_b co) (pc_x pk) (ar_b fr) (ar_n kv) (ar_n vo) (ar_n kn) n (bo_i a) (nI i)) (fin := fun a => J (nI (t + 1)) (ar_b df) (ar_b iq) (ar_b (st_b tb (0 * 128 + t) a)) (ar_b up) (ar_n op) (ar_n ov) (ar_n sp) (ar_n sv) (ar_n qb) (ar_n qi) (ar_n qv) (ar_n ql) (ar_n so) (ar_b fa) (ar_n ba) (ar_n an) (ar_b co) (pc_x pk) (ar_b fr) (ar_n kv) (ar_n vo) (ar_n kn)) (I := fun _ _ => True) (e := r) (fun i a => a || (t &&& ((2 ^ c - 1) * 2 ^ (c * i)) == (2 ^ c - 1) * 2 ^ (c * i))) (fun _ _ h => h) (fun _ _ _ _ => trivial) ?_ ?_ r 0 false (Nat.zero_add _) trivial
  · intro n a _
    simp (disch := first | omega | assumption) only [li_0, li_1, li_2, li_3, li_4, li_6, li_7, li_8, li_9, li_10, li_12, li_21, li_24, li_31, li_60, li_63, li_127, li_128, li_256, li_312, li_384, nI_add, nu_mul, nu_sub, nu_div, nu_and, nu_or, nu_shr, nu_bit, nu_diff, bi_2, nI_leI, nI_ltI, nI_eq, vp_in_nI, nI_clamp, ar_na, ar_ba, bo_0, bo_1, bo_it, bo_if, bo_w, bo_w0, bo_w1, bo_nar, bo_n1, bo_nn0, st_bu, st_bu1, st_bu0, st_nu, forall_eq, true_implies, false_implies, forall_const, not_true_eq_false, not_false_eq_true, and_true, true_and, implies_true, and_self, Bool.false_eq_true, Bool.true_eq_false, reduceCtorEq, ite_true, ite_false, if_true, if_false, eq_self, Nat.zero_add, Nat.add_zero, Nat.le_refl, Nat.lt_irrefl, Nat.reduceEqDiff, Nat.reduceLeDiff, Nat.reduceLT, Nat.reduceAdd, Nat.reduceMul, Nat.reduceSub, wX_layOutRows_15, Nat.zero_mul]
  · intro n i a hi _
    have hci : c * i + c ≤ 7 := by
      have : c * (i + 1) ≤ c * r := Nat.mul_le_mul_left c hi
      rw [Nat.mul_add, Nat.mul_one, Nat.mul_comm c r] at this
      omega
    have hrow := rw_lt hci
    have hp : 0 < 2 ^ c := Nat.two_pow_pos c
    have hrow2 : t &&& (2 ^ c - 1) * 2 ^ (c * i) < 128 := nu_and7 ht
    cases a with
    | true =>
      rw [Bool.true_or]
      simp (disch := first | omega | assumption) only [li_0, li_1, li_2, li_3, li_4, li_6, li_7, li_8, li_9, li_10, li_12, li_21, li_24, li_31, li_60, li_63, li_127, li_128, li_256, li_312, li_384, nI_add, nu_mul, nu_sub, nu_div, nu_and, nu_or, nu_shr, nu_bit, nu_diff, bi_2, nI_leI, nI_ltI, nI_eq, vp_in_nI, nI_clamp, ar_na, ar_ba, bo_0, bo_1, bo_it, bo_if, bo_w, bo_w0, bo_w1, bo_nar, bo_n1, bo_nn0, st_bu, st_bu1, st_bu0, st_nu, forall_eq, true_implies, false_implies, forall_const, not_true_eq_false, not_false_eq_true, and_true, true_and, implies_true, and_self, Bool.false_eq_true, Bool.true_eq_false, reduceCtorEq, ite_true, ite_false, if_true, if_false, eq_self, Nat.zero_add, Nat.add_zero, Nat.le_refl, Nat.lt_irrefl, Nat.reduceEqDiff, Nat.reduceLeDiff, Nat.reduceLT, Nat.reduceAdd, Nat.reduceMul, Nat.reduceSub, wX_layOutRows_15, Nat.not_le.mpr hi]
    | false =>
      rw [Bool.false_or]
      by_cases z : t &&& (2 ^ c - 1) * 2 ^ (c * i) = (2 ^ c - 1) * 2 ^ (c * i)
      · simp (disch := first | omega | assumption) only [li_0, li_1, li_2, li_3, li_4, li_6, li_7, li_8, li_9, li_10, li_12, li_21, li_24, li_31, li_60, li_63, li_127, li_128, li_256, li_312, li_384, nI_add, nu_mul, nu_sub, nu_div, nu_and, nu_or, nu_shr, nu_bit, nu_diff, bi_2, nI_leI, nI_ltI, nI_eq, vp_in_nI, nI_clamp, ar_na, ar_ba, bo_0, bo_1, bo_it, bo_if, bo_w, bo_w0, bo_w1, bo_nar, bo_n1, bo_nn0, st_bu, st_bu1, st_bu0, st_nu, forall_eq, true_implies, false_implies, forall_const, not_true_eq_false, not_false_eq_true, and_true, true_and, implies_true, and_self, Bool.false_eq_true, Bool.true_eq_false, reduceCtorEq, ite_true, ite_false, if_true, if_false, eq_self, Nat.zero_add, Nat.add_zero, Nat.le_refl, Nat.lt_irrefl, Nat.reduceEqDiff, Nat.reduceLeDiff, Nat.reduceLT, Nat.reduceAdd, Nat.reduceMul, Nat.reduceSub, wX_layOutRows_15, Nat.not_le.mpr hi, nu_shl, z, beq_self_eq_true]
      · simp (disch := first | omega | assumption) only [li_0, li_1, li_2, li_3, li_4, li_6, li_7, li_8, li_9, li_10, li_12, li_21, li_24, li_31, li_60, li_63, li_127, li_128, li_256, li_312, li_384, nI_add, nu_mul, nu_sub, nu_div, nu_and, nu_or, nu_shr, nu_bit, nu_diff, bi_2, nI_leI, nI_ltI, nI_eq, vp_in_nI, nI_clamp, ar_na, ar_ba, bo_0, bo_1, bo_it, bo_if, bo_w, bo_w0, bo_w1, bo_nar, bo_n1, bo_nn0, st_bu, st_bu1, st_bu0, st_nu, forall_eq, true_implies, false_implies, forall_const, not_true_eq_false, not_false_eq_true, and_true, true_and, implies_true, and_self, Bool.false_eq_true, Bool.true_eq_false, reduceCtorEq, ite_true, ite_false, if_true, if_false, eq_self, Nat.zero_add, Nat.add_zero, Nat.le_refl, Nat.lt_irrefl, Nat.reduceEqDiff, Nat.reduceLeDiff, Nat.reduceLT, Nat.reduceAdd, Nat.reduceMul, Nat.reduceSub, wX_layOutRows_15, Nat.not_le.mpr hi, nu_shl, z, (beq_eq_false_iff_ne (a := t &&& (2 ^ c - 1) * 2 ^ (c * i)) (b := (2 ^ c - 1) * 2 ^ (c * i))).mpr z]
theorem xc_layOutRows (hr : r ≤ 7) (hc : 1 ≤ c) (hrc : r * c ≤ 7) : wpX_layOutRows post (nI bg, ar_b df, ar_b iq, ar_b tb, ar_b up, ar_n op, ar_n ov, ar_n sp, ar_n sv, ar_n qb, ar_n qi, ar_n qv, ar_n ql, ar_n so, ar_b fa, ar_n ba, ar_n an, ar_b co, pc_x pk, ar_b fr, ar_n kv, ar_n vo, ar_n kn) (nI r) (nI c) ↔ post (nI bg, ar_b df, ar_b iq, ar_b (tz_ 0 (gr_row r c) tb), ar_b up, ar_n op, ar_n ov, ar_n sp, ar_n sv, ar_n qb, ar_n qi, ar_n qv, ar_n ql, ar_n so, ar_b fa, ar_n ba, ar_n an, ar_b co, pc_x pk, ar_b fr, ar_n kv, ar_n vo, ar_n kn) := by
  simp only [wpX_layOutRows]
  refine lo_fold (W := fun n i tb => wX_layOutRows_2 post (nI r) (nI c) (nI bg) n (nI i) (ar_b df) (ar_b iq) (ar_b tb) (ar_b up) (ar_n op) (ar_n ov) (ar_n sp) (ar_n sv) (ar_n qb) (ar_n qi) (ar_n qv) (ar_n ql) (ar_n so) (ar_b fa) (ar_n ba) (ar_n an) (ar_b co) (pc_x pk) (ar_b fr) (ar_n kv) (ar_n vo) (ar_n kn)) (fin := fun tb => post (nI bg, ar_b df, ar_b iq, ar_b tb, ar_b up, ar_n op, ar_n ov, ar_n sp, ar_n sv, ar_n qb, ar_n qi, ar_n qv, ar_n ql, ar_n so, ar_b fa, ar_n ba, ar_n an, ar_b co, pc_x pk, ar_b fr, ar_n kv, ar_n vo, ar_n kn)) (I := fun _ _ => True) (e := 128) (fun t tb => st_b tb (0 * 128 + t) (gr_row r c t)) (fun _ _ h => h) (fun _ _ _ _ => trivial) ?_ ?_ 128 0 tb rfl trivial
  · intro n tb _
    simp (disch := first | omega | assumption) only [li_0, li_1, li_2, li_3, li_4, li_6, li_7, li_8, li_9, li_10, li_12, li_21, li_24, li_31, li_60, li_63, li_127, li_128, li_256, li_312, li_384, nI_add, nu_mul, nu_sub, nu_div, nu_and, nu_or, nu_shr, nu_bit, nu_diff, bi_2, nI_leI, nI_ltI, nI_eq, vp_in_nI, nI_clamp, ar_na, ar_ba, bo_0, bo_1, bo_it, bo_if, bo_w, bo_w0, bo_w1, bo_nar, bo_n1, bo_nn0, st_bu, st_bu1, st_bu0, st_nu, forall_eq, true_implies, false_implies, forall_const, not_true_eq_false, not_false_eq_true, and_true, true_and, implies_true, and_self, Bool.false_eq_true, Bool.true_eq_false, reduceCtorEq, ite_true, ite_false, if_true, if_false, eq_self, Nat.zero_add, Nat.add_zero, Nat.le_refl, Nat.lt_irrefl, Nat.reduceEqDiff, Nat.reduceLeDiff, Nat.reduceLT, Nat.reduceAdd, Nat.reduceMul, Nat.reduceSub, wX_layOutRows_2]
  · intro n i tb hi _
    simp (disch := omega) only [wX_layOutRows_2, li_0, li_128, nI_leI, Nat.not_le.mpr hi, not_false_eq_true, true_implies, false_implies, true_and]
    exact xc_layOutRows1 hr hc hrc hi
theorem xc_columnOf {post : Int32 → Prop} {j : Nat} (hr : r ≤ 7) (hj : j < c) (hrc : r * c ≤ 7) : wpX_columnOf post (nI r) (nI c) (nI j) ↔ post (nI (gr_cm r c j)) := by
  simp only [wpX_columnOf]
  refine lo_fold (W := fun n i a => wX_columnOf_5 post (nI r) (nI c) (nI j) n (nI a) (nI i)) (fin := fun a => post (nI a)) (I := fun _ _ => True) (e := r) (fun i a => a ||| 2 ^ (c * i + j)) (fun _ _ h => h) (fun _ _ _ _ => trivial) ?_ ?_ r 0 0 (Nat.zero_add _) trivial
  · intro n a _
    simp (disch := first | omega | assumption) only [li_0, li_1, li_2, li_3, li_4, li_6, li_7, li_8, li_9, li_10, li_12, li_21, li_24, li_31, li_60, li_63, li_127, li_128, li_256, li_312, li_384, nI_add, nu_mul, nu_sub, nu_div, nu_and, nu_or, nu_shr, nu_bit, nu_diff, bi_2, nI_leI, nI_ltI, nI_eq, vp_in_nI, nI_clamp, ar_na, ar_ba, bo_0, bo_1, bo_it, bo_if, bo_w, bo_w0, bo_w1, bo_nar, bo_n1, bo_nn0, st_bu, st_bu1, st_bu0, st_nu, forall_eq, true_implies, false_implies, forall_const, not_true_eq_false, not_false_eq_true, and_true, true_and, implies_true, and_self, Bool.false_eq_true, Bool.true_eq_false, reduceCtorEq, ite_true, ite_false, if_true, if_false, eq_self, Nat.zero_add, Nat.add_zero, Nat.le_refl, Nat.lt_irrefl, Nat.reduceEqDiff, Nat.reduceLeDiff, Nat.reduceLT, Nat.reduceAdd, Nat.reduceMul, Nat.reduceSub, wX_columnOf_5]
  · intro n i a hi _
    have hci : c * i + c ≤ 7 := by
      have : c * (i + 1) ≤ c * r := Nat.mul_le_mul_left c hi
      rw [Nat.mul_add, Nat.mul_one, Nat.mul_comm c r] at this
      omega
    simp (disch := first | omega | assumption) only [li_0, li_1, li_2, li_3, li_4, li_6, li_7, li_8, li_9, li_10, li_12, li_21, li_24, li_31, li_60, li_63, li_127, li_128, li_256, li_312, li_384, nI_add, nu_mul, nu_sub, nu_div, nu_and, nu_or, nu_shr, nu_bit, nu_diff, bi_2, nI_leI, nI_ltI, nI_eq, vp_in_nI, nI_clamp, ar_na, ar_ba, bo_0, bo_1, bo_it, bo_if, bo_w, bo_w0, bo_w1, bo_nar, bo_n1, bo_nn0, st_bu, st_bu1, st_bu0, st_nu, forall_eq, true_implies, false_implies, forall_const, not_true_eq_false, not_false_eq_true, and_true, true_and, implies_true, and_self, Bool.false_eq_true, Bool.true_eq_false, reduceCtorEq, ite_true, ite_false, if_true, if_false, eq_self, Nat.zero_add, Nat.add_zero, Nat.le_refl, Nat.lt_irrefl, Nat.reduceEqDiff, Nat.reduceLeDiff, Nat.reduceLT, Nat.reduceAdd, Nat.reduceMul, Nat.reduceSub, wX_columnOf_5, Nat.not_le.mpr hi]
theorem cm_lt {j : Nat} (hj : j < c) (hrc : r * c ≤ 7) : gr_cm r c j < 128 := by
  refine lo_fI (f := fun i a => a ||| 2 ^ (c * i + j)) (I := fun _ a => a < 128) r 0 0 ?_ (by decide)
  intro i a _ hi ha
  have hci : c * i + c ≤ 7 := by
    have : c * (i + 1) ≤ c * r := Nat.mul_le_mul_left c (by omega)
    rw [Nat.mul_add, Nat.mul_one, Nat.mul_comm c r] at this
    omega
  exact nu_or7 ha (nu_lt7 _ (by omega))
theorem xc_layOutColumns1 {J : Int32 → (Nat → Int32) → (Nat → Int32) → (Nat → Int32) → (Nat → Int32) → (Nat → Int32) → (Nat → Int32) → (Nat → Int32) → (Nat → Int32) → (Nat → Int32) → (Nat → Int32) → (Nat → Int32) → (Nat → Int32) → (Nat → Int32) → (Nat → Int32) → (Nat → Int32) → (Nat → Int32) → (Nat → Int32) → (Nat → Int32) → (Nat → Int32) → (Nat → Int32) → (Nat → Int32) → (Nat → Int32) → Prop} {L : Int32} {lb : Nat → Bool} (hL : (L = -nI 3 ∧ ∀ a, lb a = false) ∨ ∃ l, l ≤ 7 ∧ L = nI l ∧ ∀ a, lb a = decide (l ≤ a)) (hk : k < 3) (hr : r ≤ 7) (hc : c ≤ 7) (hrc : r * c ≤ 7) (ht : t < 128) : (∃ n, wX_layOutColumns_17 post J (nI k) (nI r) (nI c) L (nI t) (nI bg) (ar_b df) (ar_b iq) (ar_b tb) (ar_b up) (ar_n op) (ar_n ov) (ar_n sp) (ar_n sv) (ar_n qb) (ar_n qi) (ar_n qv) (ar_n ql) (ar_n so) (ar_b fa) (ar_n ba) (ar_n an) (ar_b co) (pc_x pk) (ar_b fr) (ar_n kv) (ar_n vo) (ar_n kn) n (nI 0) (nI 0)) ↔ J (nI (t + 1)) (ar_b df) (ar_b iq) (ar_b (st_b tb (k * 128 + t) (lb (gr_col r c t)))) (ar_b up) (ar_n op) (ar_n ov) (ar_n sp) (ar_n sv) (ar_n qb) (ar_n qi) (ar_n qv) (ar_n ql) (ar_n so) (ar_b fa) (ar_n ba) (ar_n an) (ar_b co) (pc_x pk) (ar_b fr) (ar_n kv) (ar_n vo) (ar_n kn) := by
  refine lo_fold (W := fun n i a => wX_layOutColumns_17 post J (nI k) (nI r) (nI c) L (nI t) (nI bg) (ar_b df) (ar_b iq) (ar_b tb) (ar_b up) (ar_n op) (ar_n ov) (ar_n sp) (ar_n sv) (ar_n qb) (ar_n qi) (ar_n qv) (ar_n ql) (ar_n so) (ar_b fa) (ar_n ba) (ar_n an) (ar_b co) (pc_x pk) (ar_b fr) (ar_n kv) (ar_n vo) (ar_n kn) n (nI a) (nI i)) (fin := fun a => J (nI (t + 1)) (ar_b df) (ar_b iq) (ar_b (st_b tb (k * 128 + t) (lb a))) (ar_b up) (ar_n op) (ar_n ov) (ar_n sp) (ar_n sv) (ar_n qb) (ar_n qi) (ar_n qv) (ar_n ql) (ar_n so) (ar_b fa) (ar_n ba) (ar_n an) (ar_b co) (pc_x pk) (ar_b fr) (ar_n kv) (ar_n vo) (ar_n kn)) (I := fun i a => a ≤ i) (e := c) (fun j a => a + if t &&& gr_cm r c j = gr_cm r c j then 1 else 0) (fun _ _ h => h) ?_ ?_ ?_ c 0 0 (Nat.zero_add _) (Nat.le_refl _)
  · intro i a _ h
    split <;> omega
  · intro n a ha
    rcases hL with ⟨rfl, hb⟩ | ⟨l, hl, rfl, hb⟩
    · simp (disch := first | omega | assumption) only [li_0, li_1, li_2, li_3, li_4, li_6, li_7, li_8, li_9, li_10, li_12, li_21, li_24, li_31, li_60, li_63, li_127, li_128, li_256, li_312, li_384, nI_add, nu_mul, nu_sub, nu_div, nu_and, nu_or, nu_shr, nu_bit, nu_diff, bi_2, nI_leI, nI_ltI, nI_eq, vp_in_nI, nI_clamp, ar_na, ar_ba, bo_0, bo_1, bo_it, bo_if, bo_w, bo_w0, bo_w1, bo_nar, bo_n1, bo_nn0, st_bu, st_bu1, st_bu0, st_nu, forall_eq, true_implies, false_implies, forall_const, not_true_eq_false, not_false_eq_true, and_true, true_and, implies_true, and_self, Bool.false_eq_true, Bool.true_eq_false, reduceCtorEq, ite_true, ite_false, if_true, if_false, eq_self, Nat.zero_add, Nat.add_zero, Nat.le_refl, Nat.lt_irrefl, Nat.reduceEqDiff, Nat.reduceLeDiff, Nat.reduceLT, Nat.reduceAdd, Nat.reduceMul, Nat.reduceSub, wX_layOutColumns_17, hb]
    · by_cases z : l ≤ a
      · simp (disch := first | omega | assumption) only [li_0, li_1, li_2, li_3, li_4, li_6, li_7, li_8, li_9, li_10, li_12, li_21, li_24, li_31, li_60, li_63, li_127, li_128, li_256, li_312, li_384, nI_add, nu_mul, nu_sub, nu_div, nu_and, nu_or, nu_shr, nu_bit, nu_diff, bi_2, nI_leI, nI_ltI, nI_eq, vp_in_nI, nI_clamp, ar_na, ar_ba, bo_0, bo_1, bo_it, bo_if, bo_w, bo_w0, bo_w1, bo_nar, bo_n1, bo_nn0, st_bu, st_bu1, st_bu0, st_nu, forall_eq, true_implies, false_implies, forall_const, not_true_eq_false, not_false_eq_true, and_true, true_and, implies_true, and_self, Bool.false_eq_true, Bool.true_eq_false, reduceCtorEq, ite_true, ite_false, if_true, if_false, eq_self, Nat.zero_add, Nat.add_zero, Nat.le_refl, Nat.lt_irrefl, Nat.reduceEqDiff, Nat.reduceLeDiff, Nat.reduceLT, Nat.reduceAdd, Nat.reduceMul, Nat.reduceSub, wX_layOutColumns_17, hb, ng_3, z, Nat.not_lt.mpr z, decide_true]
      · simp (disch := first | omega | assumption) only [li_0, li_1, li_2, li_3, li_4, li_6, li_7, li_8, li_9, li_10, li_12, li_21, li_24, li_31, li_60, li_63, li_127, li_128, li_256, li_312, li_384, nI_add, nu_mul, nu_sub, nu_div, nu_and, nu_or, nu_shr, nu_bit, nu_diff, bi_2, nI_leI, nI_ltI, nI_eq, vp_in_nI, nI_clamp, ar_na, ar_ba, bo_0, bo_1, bo_it, bo_if, bo_w, bo_w0, bo_w1, bo_nar, bo_n1, bo_nn0, st_bu, st_bu1, st_bu0, st_nu, forall_eq, true_implies, false_implies, forall_const, not_true_eq_false, not_false_eq_true, and_true, true_and, implies_true, and_self, Bool.false_eq_true, Bool.true_eq_false, reduceCtorEq, ite_true, ite_false, if_true, if_false, eq_self, Nat.zero_add, Nat.add_zero, Nat.le_refl, Nat.lt_irrefl, Nat.reduceEqDiff, Nat.reduceLeDiff, Nat.reduceLT, Nat.reduceAdd, Nat.reduceMul, Nat.reduceSub, wX_layOutColumns_17, hb, ng_3, z, Nat.lt_of_not_le z, decide_false]
  · intro n i a hi ha
    have hm := cm_lt hi hrc
    have hm2 : t &&& gr_cm r c i < 128 := nu_and7 ht
    by_cases z : t &&& gr_cm r c i = gr_cm r c i
    · simp (disch := first | omega | assumption) only [li_0, li_1, li_2, li_3, li_4, li_6, li_7, li_8, li_9, li_10, li_12, li_21, li_24, li_31, li_60, li_63, li_127, li_128, li_256, li_312, li_384, nI_add, nu_mul, nu_sub, nu_div, nu_and, nu_or, nu_shr, nu_bit, nu_diff, bi_2, nI_leI, nI_ltI, nI_eq, vp_in_nI, nI_clamp, ar_na, ar_ba, bo_0, bo_1, bo_it, bo_if, bo_w, bo_w0, bo_w1, bo_nar, bo_n1, bo_nn0, st_bu, st_bu1, st_bu0, st_nu, forall_eq, true_implies, false_implies, forall_const, not_true_eq_false, not_false_eq_true, and_true, true_and, implies_true, and_self, Bool.false_eq_true, Bool.true_eq_false, reduceCtorEq, ite_true, ite_false, if_true, if_false, eq_self, Nat.zero_add, Nat.add_zero, Nat.le_refl, Nat.lt_irrefl, Nat.reduceEqDiff, Nat.reduceLeDiff, Nat.reduceLT, Nat.reduceAdd, Nat.reduceMul, Nat.reduceSub, wX_layOutColumns_17, Nat.not_le.mpr hi, xc_columnOf, z]
    · simp (disch := first | omega | assumption) only [li_0, li_1, li_2, li_3, li_4, li_6, li_7, li_8, li_9, li_10, li_12, li_21, li_24, li_31, li_60, li_63, li_127, li_128, li_256, li_312, li_384, nI_add, nu_mul, nu_sub, nu_div, nu_and, nu_or, nu_shr, nu_bit, nu_diff, bi_2, nI_leI, nI_ltI, nI_eq, vp_in_nI, nI_clamp, ar_na, ar_ba, bo_0, bo_1, bo_it, bo_if, bo_w, bo_w0, bo_w1, bo_nar, bo_n1, bo_nn0, st_bu, st_bu1, st_bu0, st_nu, forall_eq, true_implies, false_implies, forall_const, not_true_eq_false, not_false_eq_true, and_true, true_and, implies_true, and_self, Bool.false_eq_true, Bool.true_eq_false, reduceCtorEq, ite_true, ite_false, if_true, if_false, eq_self, Nat.zero_add, Nat.add_zero, Nat.le_refl, Nat.lt_irrefl, Nat.reduceEqDiff, Nat.reduceLeDiff, Nat.reduceLT, Nat.reduceAdd, Nat.reduceMul, Nat.reduceSub, wX_layOutColumns_17, Nat.not_le.mpr hi, xc_columnOf, z]
theorem xc_layOutColumns {L : Int32} {lb : Nat → Bool} (hL : (L = -nI 3 ∧ ∀ a, lb a = false) ∨ ∃ l, l ≤ 7 ∧ L = nI l ∧ ∀ a, lb a = decide (l ≤ a)) (hk : k < 3) (hr : r ≤ 7) (hc : c ≤ 7) (hrc : r * c ≤ 7) : wpX_layOutColumns post (nI bg, ar_b df, ar_b iq, ar_b tb, ar_b up, ar_n op, ar_n ov, ar_n sp, ar_n sv, ar_n qb, ar_n qi, ar_n qv, ar_n ql, ar_n so, ar_b fa, ar_n ba, ar_n an, ar_b co, pc_x pk, ar_b fr, ar_n kv, ar_n vo, ar_n kn) (nI k) (nI r) (nI c) L ↔ post (nI bg, ar_b df, ar_b iq, ar_b (tz_ k (fun t => lb (gr_col r c t)) tb), ar_b up, ar_n op, ar_n ov, ar_n sp, ar_n sv, ar_n qb, ar_n qi, ar_n qv, ar_n ql, ar_n so, ar_b fa, ar_n ba, ar_n an, ar_b co, pc_x pk, ar_b fr, ar_n kv, ar_n vo, ar_n kn) := by
  simp only [wpX_layOutColumns]
  refine lo_fold (W := fun n i tb => wX_layOutColumns_3 post (nI k) (nI r) (nI c) L (nI bg) n (nI i) (ar_b df) (ar_b iq) (ar_b tb) (ar_b up) (ar_n op) (ar_n ov) (ar_n sp) (ar_n sv) (ar_n qb) (ar_n qi) (ar_n qv) (ar_n ql) (ar_n so) (ar_b fa) (ar_n ba) (ar_n an) (ar_b co) (pc_x pk) (ar_b fr) (ar_n kv) (ar_n vo) (ar_n kn)) (fin := fun tb => post (nI bg, ar_b df, ar_b iq, ar_b tb, ar_b up, ar_n op, ar_n ov, ar_n sp, ar_n sv, ar_n qb, ar_n qi, ar_n qv, ar_n ql, ar_n so, ar_b fa, ar_n ba, ar_n an, ar_b co, pc_x pk, ar_b fr, ar_n kv, ar_n vo, ar_n kn)) (I := fun _ _ => True) (e := 128) (fun t tb => st_b tb (k * 128 + t) (lb (gr_col r c t))) (fun _ _ h => h) (fun _ _ _ _ => trivial) ?_ ?_ 128 0 tb rfl trivial
  · intro n tb _
    simp (disch := first | omega | assumption) only [li_0, li_1, li_2, li_3, li_4, li_6, li_7, li_8, li_9, li_10, li_12, li_21, li_24, li_31, li_60, li_63, li_127, li_128, li_256, li_312, li_384, nI_add, nu_mul, nu_sub, nu_div, nu_and, nu_or, nu_shr, nu_bit, nu_diff, bi_2, nI_leI, nI_ltI, nI_eq, vp_in_nI, nI_clamp, ar_na, ar_ba, bo_0, bo_1, bo_it, bo_if, bo_w, bo_w0, bo_w1, bo_nar, bo_n1, bo_nn0, st_bu, st_bu1, st_bu0, st_nu, forall_eq, true_implies, false_implies, forall_const, not_true_eq_false, not_false_eq_true, and_true, true_and, implies_true, and_self, Bool.false_eq_true, Bool.true_eq_false, reduceCtorEq, ite_true, ite_false, if_true, if_false, eq_self, Nat.zero_add, Nat.add_zero, Nat.le_refl, Nat.lt_irrefl, Nat.reduceEqDiff, Nat.reduceLeDiff, Nat.reduceLT, Nat.reduceAdd, Nat.reduceMul, Nat.reduceSub, wX_layOutColumns_3]
  · intro n i tb hi _
    simp (disch := omega) only [wX_layOutColumns_3, li_0, li_128, nI_leI, Nat.not_le.mpr hi, not_false_eq_true, true_implies, false_implies, true_and]
    exact xc_layOutColumns1 hL hk hr hc hrc hi
theorem xc_layOutWeights1 {J : Int32 → (Nat → Int32) → (Nat → Int32) → (Nat → Int32) → (Nat → Int32) → (Nat → Int32) → (Nat → Int32) → (Nat → Int32) → (Nat → Int32) → (Nat → Int32) → (Nat → Int32) → (Nat → Int32) → (Nat → Int32) → (Nat → Int32) → (Nat → Int32) → (Nat → Int32) → (Nat → Int32) → (Nat → Int32) → (Nat → Int32) → (Nat → Int32) → (Nat → Int32) → (Nat → Int32) → (Nat → Int32) → Prop} (hk : k < 3) (hw : w ≤ 9999999) (hl : l ≤ 63) (ht : t < 128) : (∃ n, wX_layOutWeights_20 post J (nI k) (nI w) (nI l) (nI t) (nI bg) (ar_b df) (ar_b iq) (ar_b tb) (ar_b up) (ar_n op) (ar_n ov) (ar_n sp) (ar_n sv) (ar_n qb) (ar_n qi) (ar_n qv) (ar_n ql) (ar_n so) (ar_b fa) (ar_n ba) (ar_n an) (ar_b co) (pc_x pk) (ar_b fr) (ar_n kv) (ar_n vo) (ar_n kn) n (nI w) (nI 0) (nI 0)) ↔ J (nI (t + 1)) (ar_b df) (ar_b iq) (ar_b (st_b tb (k * 128 + t) (decide (0 < l) && decide (l ≤ wt_ w t)))) (ar_b up) (ar_n op) (ar_n ov) (ar_n sp) (ar_n sv) (ar_n qb) (ar_n qi) (ar_n qv) (ar_n ql) (ar_n so) (ar_b fa) (ar_n ba) (ar_n an) (ar_b co) (pc_x pk) (ar_b fr) (ar_n kv) (ar_n vo) (ar_n kn) := by
  refine lo_fold (W := fun n i (p : Nat × Nat) => wX_layOutWeights_20 post J (nI k) (nI w) (nI l) (nI t) (nI bg) (ar_b df) (ar_b iq) (ar_b tb) (ar_b up) (ar_n op) (ar_n ov) (ar_n sp) (ar_n sv) (ar_n qb) (ar_n qi) (ar_n qv) (ar_n ql) (ar_n so) (ar_b fa) (ar_n ba) (ar_n an) (ar_b co) (pc_x pk) (ar_b fr) (ar_n kv) (ar_n vo) (ar_n kn) n (nI p.1) (nI p.2) (nI i)) (fin := fun p => J (nI (t + 1)) (ar_b df) (ar_b iq) (ar_b (st_b tb (k * 128 + t) (decide (0 < l) && decide (l ≤ p.2)))) (ar_b up) (ar_n op) (ar_n ov) (ar_n sp) (ar_n sv) (ar_n qb) (ar_n qi) (ar_n qv) (ar_n ql) (ar_n so) (ar_b fa) (ar_n ba) (ar_n an) (ar_b co) (pc_x pk) (ar_b fr) (ar_n kv) (ar_n vo) (ar_n kn)) (I := fun i p => p.1 ≤ 9999999 ∧ p.2 ≤ 9 * i) (e := 7) (fun n p => (p.1 / 10, p.2 + t / 2 ^ n % 2 * (p.1 % 10))) (fun _ _ h => h) ?_ ?_ ?_ 7 0 (w, 0) rfl ⟨hw, Nat.le_refl _⟩
  · intro i p _ h
    have : t / 2 ^ i % 2 * (p.1 % 10) ≤ 1 * 9 := Nat.mul_le_mul (by omega) (by omega)
    exact ⟨by show p.1 / 10 ≤ _; omega, by show p.2 + _ ≤ _; omega⟩
  · intro n p h
    obtain ⟨h1, h2⟩ := h
    obtain ⟨x, y⟩ := p
    dsimp only at h1 h2 ⊢
    by_cases h0 : l = 0
    · subst h0
      simp (disch := first | omega | assumption) only [li_0, li_1, li_2, li_3, li_4, li_6, li_7, li_8, li_9, li_10, li_12, li_21, li_24, li_31, li_60, li_63, li_127, li_128, li_256, li_312, li_384, nI_add, nu_mul, nu_sub, nu_div, nu_and, nu_or, nu_shr, nu_bit, nu_diff, bi_2, nI_leI, nI_ltI, nI_eq, vp_in_nI, nI_clamp, ar_na, ar_ba, bo_0, bo_1, bo_it, bo_if, bo_w, bo_w0, bo_w1, bo_nar, bo_n1, bo_nn0, st_bu, st_bu1, st_bu0, st_nu, forall_eq, true_implies, false_implies, forall_const, not_true_eq_false, not_false_eq_true, and_true, true_and, implies_true, and_self, Bool.false_eq_true, Bool.true_eq_false, reduceCtorEq, ite_true, ite_false, if_true, if_false, eq_self, Nat.zero_add, Nat.add_zero, Nat.le_refl, Nat.lt_irrefl, Nat.reduceEqDiff, Nat.reduceLeDiff, Nat.reduceLT, Nat.reduceAdd, Nat.reduceMul, Nat.reduceSub, wX_layOutWeights_20, decide_false, Bool.false_and]
    · have hl0 : 0 < l := Nat.pos_of_ne_zero h0
      by_cases z : l ≤ y
      · simp (disch := first | omega | assumption) only [li_0, li_1, li_2, li_3, li_4, li_6, li_7, li_8, li_9, li_10, li_12, li_21, li_24, li_31, li_60, li_63, li_127, li_128, li_256, li_312, li_384, nI_add, nu_mul, nu_sub, nu_div, nu_and, nu_or, nu_shr, nu_bit, nu_diff, bi_2, nI_leI, nI_ltI, nI_eq, vp_in_nI, nI_clamp, ar_na, ar_ba, bo_0, bo_1, bo_it, bo_if, bo_w, bo_w0, bo_w1, bo_nar, bo_n1, bo_nn0, st_bu, st_bu1, st_bu0, st_nu, forall_eq, true_implies, false_implies, forall_const, not_true_eq_false, not_false_eq_true, and_true, true_and, implies_true, and_self, Bool.false_eq_true, Bool.true_eq_false, reduceCtorEq, ite_true, ite_false, if_true, if_false, eq_self, Nat.zero_add, Nat.add_zero, Nat.le_refl, Nat.lt_irrefl, Nat.reduceEqDiff, Nat.reduceLeDiff, Nat.reduceLT, Nat.reduceAdd, Nat.reduceMul, Nat.reduceSub, wX_layOutWeights_20, Nat.not_le.mpr hl0, z, hl0, Nat.not_lt.mpr z, decide_true, Bool.and_self]
      · simp (disch := first | omega | assumption) only [li_0, li_1, li_2, li_3, li_4, li_6, li_7, li_8, li_9, li_10, li_12, li_21, li_24, li_31, li_60, li_63, li_127, li_128, li_256, li_312, li_384, nI_add, nu_mul, nu_sub, nu_div, nu_and, nu_or, nu_shr, nu_bit, nu_diff, bi_2, nI_leI, nI_ltI, nI_eq, vp_in_nI, nI_clamp, ar_na, ar_ba, bo_0, bo_1, bo_it, bo_if, bo_w, bo_w0, bo_w1, bo_nar, bo_n1, bo_nn0, st_bu, st_bu1, st_bu0, st_nu, forall_eq, true_implies, false_implies, forall_const, not_true_eq_false, not_false_eq_true, and_true, true_and, implies_true, and_self, Bool.false_eq_true, Bool.true_eq_false, reduceCtorEq, ite_true, ite_false, if_true, if_false, eq_self, Nat.zero_add, Nat.add_zero, Nat.le_refl, Nat.lt_irrefl, Nat.reduceEqDiff, Nat.reduceLeDiff, Nat.reduceLT, Nat.reduceAdd, Nat.reduceMul, Nat.reduceSub, wX_layOutWeights_20, Nat.not_le.mpr hl0, z, Nat.lt_of_not_le z, decide_false, Bool.and_false]
  · intro n i p hi h
    obtain ⟨h1, h2⟩ := h
    obtain ⟨x, y⟩ := p
    dsimp only at h1 h2 ⊢
    simp (disch := first | omega | assumption) only [li_0, li_1, li_2, li_3, li_4, li_6, li_7, li_8, li_9, li_10, li_12, li_21, li_24, li_31, li_60, li_63, li_127, li_128, li_256, li_312, li_384, nI_add, nu_mul, nu_sub, nu_div, nu_and, nu_or, nu_shr, nu_bit, nu_diff, bi_2, nI_leI, nI_ltI, nI_eq, vp_in_nI, nI_clamp, ar_na, ar_ba, bo_0, bo_1, bo_it, bo_if, bo_w, bo_w0, bo_w1, bo_nar, bo_n1, bo_nn0, st_bu, st_bu1, st_bu0, st_nu, forall_eq, true_implies, false_implies, forall_const, not_true_eq_false, not_false_eq_true, and_true, true_and, implies_true, and_self, Bool.false_eq_true, Bool.true_eq_false, reduceCtorEq, ite_true, ite_false, if_true, if_false, eq_self, Nat.zero_add, Nat.add_zero, Nat.le_refl, Nat.lt_irrefl, Nat.reduceEqDiff, Nat.reduceLeDiff, Nat.reduceLT, Nat.reduceAdd, Nat.reduceMul, Nat.reduceSub, wX_layOutWeights_20, Nat.not_le.mpr hi, nu_md]
theorem xc_layOutWeights (hk : k < 3) (hw : w ≤ 9999999) (hl : l ≤ 63) : wpX_layOutWeights post (nI bg, ar_b df, ar_b iq, ar_b tb, ar_b up, ar_n op, ar_n ov, ar_n sp, ar_n sv, ar_n qb, ar_n qi, ar_n qv, ar_n ql, ar_n so, ar_b fa, ar_n ba, ar_n an, ar_b co, pc_x pk, ar_b fr, ar_n kv, ar_n vo, ar_n kn) (nI k) (nI w) (nI l) ↔ post (nI bg, ar_b df, ar_b iq, ar_b (tz_ k (fun t => decide (0 < l) && decide (l ≤ wt_ w t)) tb), ar_b up, ar_n op, ar_n ov, ar_n sp, ar_n sv, ar_n qb, ar_n qi, ar_n qv, ar_n ql, ar_n so, ar_b fa, ar_n ba, ar_n an, ar_b co, pc_x pk, ar_b fr, ar_n kv, ar_n vo, ar_n kn) := by
  simp only [wpX_layOutWeights]
  refine lo_fold (W := fun n i tb => wX_layOutWeights_3 post (nI k) (nI w) (nI l) (nI bg) n (nI i) (ar_b df) (ar_b iq) (ar_b tb) (ar_b up) (ar_n op) (ar_n ov) (ar_n sp) (ar_n sv) (ar_n qb) (ar_n qi) (ar_n qv) (ar_n ql) (ar_n so) (ar_b fa) (ar_n ba) (ar_n an) (ar_b co) (pc_x pk) (ar_b fr) (ar_n kv) (ar_n vo) (ar_n kn)) (fin := fun tb => post (nI bg, ar_b df, ar_b iq, ar_b tb, ar_b up, ar_n op, ar_n ov, ar_n sp, ar_n sv, ar_n qb, ar_n qi, ar_n qv, ar_n ql, ar_n so, ar_b fa, ar_n ba, ar_n an, ar_b co, pc_x pk, ar_b fr, ar_n kv, ar_n vo, ar_n kn)) (I := fun _ _ => True) (e := 128) (fun t tb => st_b tb (k * 128 + t) (decide (0 < l) && decide (l ≤ wt_ w t))) (fun _ _ h => h) (fun _ _ _ _ => trivial) ?_ ?_ 128 0 tb rfl trivial
  · intro n tb _
    simp (disch := first | omega | assumption) only [li_0, li_1, li_2, li_3, li_4, li_6, li_7, li_8, li_9, li_10, li_12, li_21, li_24, li_31, li_60, li_63, li_127, li_128, li_256, li_312, li_384, nI_add, nu_mul, nu_sub, nu_div, nu_and, nu_or, nu_shr, nu_bit, nu_diff, bi_2, nI_leI, nI_ltI, nI_eq, vp_in_nI, nI_clamp, ar_na, ar_ba, bo_0, bo_1, bo_it, bo_if, bo_w, bo_w0, bo_w1, bo_nar, bo_n1, bo_nn0, st_bu, st_bu1, st_bu0, st_nu, forall_eq, true_implies, false_implies, forall_const, not_true_eq_false, not_false_eq_true, and_true, true_and, implies_true, and_self, Bool.false_eq_true, Bool.true_eq_false, reduceCtorEq, ite_true, ite_false, if_true, if_false, eq_self, Nat.zero_add, Nat.add_zero, Nat.le_refl, Nat.lt_irrefl, Nat.reduceEqDiff, Nat.reduceLeDiff, Nat.reduceLT, Nat.reduceAdd, Nat.reduceMul, Nat.reduceSub, wX_layOutWeights_3]
  · intro n i tb hi _
    simp (disch := omega) only [wX_layOutWeights_3, li_0, li_128, nI_leI, Nat.not_le.mpr hi, not_false_eq_true, true_implies, false_implies, true_and]
    exact xc_layOutWeights1 hk hw hl hi
theorem xc_layOutList1 {J : Int32 → (Nat → Int32) → (Nat → Int32) → (Nat → Int32) → (Nat → Int32) → (Nat → Int32) → (Nat → Int32) → (Nat → Int32) → (Nat → Int32) → (Nat → Int32) → (Nat → Int32) → (Nat → Int32) → (Nat → Int32) → (Nat → Int32) → (Nat → Int32) → (Nat → Int32) → (Nat → Int32) → (Nat → Int32) → (Nat → Int32) → (Nat → Int32) → (Nat → Int32) → (Nat → Int32) → (Nat → Int32) → Prop} (hk : k < 3) (hl : l ≤ 268435455) (ht : t < 128) : (∃ n, wX_layOutList_15 post J (nI k) (nI l) (nI t) (nI bg) (ar_b df) (ar_b iq) (ar_b tb) (ar_b up) (ar_n op) (ar_n ov) (ar_n sp) (ar_n sv) (ar_n qb) (ar_n qi) (ar_n qv) (ar_n ql) (ar_n so) (ar_b fa) (ar_n ba) (ar_n an) (ar_b co) (pc_x pk) (ar_b fr) (ar_n kv) (ar_n vo) (ar_n kn) n (nI 0) (nI 0)) ↔ J (nI (t + 1)) (ar_b df) (ar_b iq) (ar_b (st_b tb (k * 128 + t) (li_ l t))) (ar_b up) (ar_n op) (ar_n ov) (ar_n sp) (ar_n sv) (ar_n qb) (ar_n qi) (ar_n qv) (ar_n ql) (ar_n so) (ar_b fa) (ar_n ba) (ar_n an) (ar_b co) (pc_x pk) (ar_b fr) (ar_n kv) (ar_n vo) (ar_n kn) := by
  refine lo_fold (W := fun n i a => wX_layOutList_15 post J (nI k) (nI l) (nI t) (nI bg) (ar_b df) (ar_b iq) (ar_b tb) (ar_b up) (ar_n op) (ar_n ov) (ar_n sp) (ar_n sv) (ar_n qb) (ar_n qi) (ar_n qv) (ar_n ql) (ar_n so) (ar_b fa) (ar_n ba) (ar_n an) (ar_b co) (pc_x pk) (ar_b fr) (ar_n kv) (ar_n vo) (ar_n kn) n (bo_i a) (nI i)) (fin := fun a => J (nI (t + 1)) (ar_b df) (ar_b iq) (ar_b (st_b tb (k * 128 + t) a)) (ar_b up) (ar_n op) (ar_n ov) (ar_n sp) (ar_n sv) (ar_n qb) (ar_n qi) (ar_n qv) (ar_n ql) (ar_n so) (ar_b fa) (ar_n ba) (ar_n an) (ar_b co) (pc_x pk) (ar_b fr) (ar_n kv) (ar_n vo) (ar_n kn)) (I := fun _ _ => True) (e := 4) (fun p a => a || (l / 2 ^ (7 * p) &&& 127) != 0 && (t &&& (l / 2 ^ (7 * p) &&& 127)) == (l / 2 ^ (7 * p) &&& 127)) (fun _ _ h => h) (fun _ _ _ _ => trivial) ?_ ?_ 4 0 false rfl trivial
  · intro n a _
    simp (disch := first | omega | assumption) only [li_0, li_1, li_2, li_3, li_4, li_6, li_7, li_8, li_9, li_10, li_12, li_21, li_24, li_31, li_60, li_63, li_127, li_128, li_256, li_312, li_384, nI_add, nu_mul, nu_sub, nu_div, nu_and, nu_or, nu_shr, nu_bit, nu_diff, bi_2, nI_leI, nI_ltI, nI_eq, vp_in_nI, nI_clamp, ar_na, ar_ba, bo_0, bo_1, bo_it, bo_if, bo_w, bo_w0, bo_w1, bo_nar, bo_n1, bo_nn0, st_bu, st_bu1, st_bu0, st_nu, forall_eq, true_implies, false_implies, forall_const, not_true_eq_false, not_false_eq_true, and_true, true_and, implies_true, and_self, Bool.false_eq_true, Bool.true_eq_false, reduceCtorEq, ite_true, ite_false, if_true, if_false, eq_self, Nat.zero_add, Nat.add_zero, Nat.le_refl, Nat.lt_irrefl, Nat.reduceEqDiff, Nat.reduceLeDiff, Nat.reduceLT, Nat.reduceAdd, Nat.reduceMul, Nat.reduceSub, wX_layOutList_15]
  · intro n i a hi _
    have hm : l / 2 ^ (7 * i) &&& 127 < 128 := nu_and7r (by decide)
    have hm2 : t &&& (l / 2 ^ (7 * i) &&& 127) < 128 := nu_and7 ht
    cases a with
    | true =>
      rw [Bool.true_or]
      simp (disch := first | omega | assumption) only [li_0, li_1, li_2, li_3, li_4, li_6, li_7, li_8, li_9, li_10, li_12, li_21, li_24, li_31, li_60, li_63, li_127, li_128, li_256, li_312, li_384, nI_add, nu_mul, nu_sub, nu_div, nu_and, nu_or, nu_shr, nu_bit, nu_diff, bi_2, nI_leI, nI_ltI, nI_eq, vp_in_nI, nI_clamp, ar_na, ar_ba, bo_0, bo_1, bo_it, bo_if, bo_w, bo_w0, bo_w1, bo_nar, bo_n1, bo_nn0, st_bu, st_bu1, st_bu0, st_nu, forall_eq, true_implies, false_implies, forall_const, not_true_eq_false, not_false_eq_true, and_true, true_and, implies_true, and_self, Bool.false_eq_true, Bool.true_eq_false, reduceCtorEq, ite_true, ite_false, if_true, if_false, eq_self, Nat.zero_add, Nat.add_zero, Nat.le_refl, Nat.lt_irrefl, Nat.reduceEqDiff, Nat.reduceLeDiff, Nat.reduceLT, Nat.reduceAdd, Nat.reduceMul, Nat.reduceSub, wX_layOutList_15, Nat.not_le.mpr hi]
    | false =>
      rw [Bool.false_or]
      by_cases h1 : l / 2 ^ (7 * i) &&& 127 = 0
      · simp (disch := first | omega | assumption) only [li_0, li_1, li_2, li_3, li_4, li_6, li_7, li_8, li_9, li_10, li_12, li_21, li_24, li_31, li_60, li_63, li_127, li_128, li_256, li_312, li_384, nI_add, nu_mul, nu_sub, nu_div, nu_and, nu_or, nu_shr, nu_bit, nu_diff, bi_2, nI_leI, nI_ltI, nI_eq, vp_in_nI, nI_clamp, ar_na, ar_ba, bo_0, bo_1, bo_it, bo_if, bo_w, bo_w0, bo_w1, bo_nar, bo_n1, bo_nn0, st_bu, st_bu1, st_bu0, st_nu, forall_eq, true_implies, false_implies, forall_const, not_true_eq_false, not_false_eq_true, and_true, true_and, implies_true, and_self, Bool.false_eq_true, Bool.true_eq_false, reduceCtorEq, ite_true, ite_false, if_true, if_false, eq_self, Nat.zero_add, Nat.add_zero, Nat.le_refl, Nat.lt_irrefl, Nat.reduceEqDiff, Nat.reduceLeDiff, Nat.reduceLT, Nat.reduceAdd, Nat.reduceMul, Nat.reduceSub, wX_layOutList_15, Nat.not_le.mpr hi, h1, bne_self_eq_false, Bool.false_and]
      · by_cases h2 : t &&& (l / 2 ^ (7 * i) &&& 127) = l / 2 ^ (7 * i) &&& 127
        · simp (disch := first | omega | assumption) only [li_0, li_1, li_2, li_3, li_4, li_6, li_7, li_8, li_9, li_10, li_12, li_21, li_24, li_31, li_60, li_63, li_127, li_128, li_256, li_312, li_384, nI_add, nu_mul, nu_sub, nu_div, nu_and, nu_or, nu_shr, nu_bit, nu_diff, bi_2, nI_leI, nI_ltI, nI_eq, vp_in_nI, nI_clamp, ar_na, ar_ba, bo_0, bo_1, bo_it, bo_if, bo_w, bo_w0, bo_w1, bo_nar, bo_n1, bo_nn0, st_bu, st_bu1, st_bu0, st_nu, forall_eq, true_implies, false_implies, forall_const, not_true_eq_false, not_false_eq_true, and_true, true_and, implies_true, and_self, Bool.false_eq_true, Bool.true_eq_false, reduceCtorEq, ite_true, ite_false, if_true, if_false, eq_self, Nat.zero_add, Nat.add_zero, Nat.le_refl, Nat.lt_irrefl, Nat.reduceEqDiff, Nat.reduceLeDiff, Nat.reduceLT, Nat.reduceAdd, Nat.reduceMul, Nat.reduceSub, wX_layOutList_15, Nat.not_le.mpr hi, h1, h2, beq_self_eq_true, Bool.and_true, (bne_iff_ne (a := l / 2 ^ (7 * i) &&& 127) (b := 0)).mpr h1]
        · simp (disch := first | omega | assumption) only [li_0, li_1, li_2, li_3, li_4, li_6, li_7, li_8, li_9, li_10, li_12, li_21, li_24, li_31, li_60, li_63, li_127, li_128, li_256, li_312, li_384, nI_add, nu_mul, nu_sub, nu_div, nu_and, nu_or, nu_shr, nu_bit, nu_diff, bi_2, nI_leI, nI_ltI, nI_eq, vp_in_nI, nI_clamp, ar_na, ar_ba, bo_0, bo_1, bo_it, bo_if, bo_w, bo_w0, bo_w1, bo_nar, bo_n1, bo_nn0, st_bu, st_bu1, st_bu0, st_nu, forall_eq, true_implies, false_implies, forall_const, not_true_eq_false, not_false_eq_true, and_true, true_and, implies_true, and_self, Bool.false_eq_true, Bool.true_eq_false, reduceCtorEq, ite_true, ite_false, if_true, if_false, eq_self, Nat.zero_add, Nat.add_zero, Nat.le_refl, Nat.lt_irrefl, Nat.reduceEqDiff, Nat.reduceLeDiff, Nat.reduceLT, Nat.reduceAdd, Nat.reduceMul, Nat.reduceSub, wX_layOutList_15, Nat.not_le.mpr hi, h1, h2, (beq_eq_false_iff_ne (a := t &&& (l / 2 ^ (7 * i) &&& 127)) (b := l / 2 ^ (7 * i) &&& 127)).mpr h2, Bool.and_false]
theorem xc_layOutList (hk : k < 3) (hl : l ≤ 268435455) : wpX_layOutList post (nI bg, ar_b df, ar_b iq, ar_b tb, ar_b up, ar_n op, ar_n ov, ar_n sp, ar_n sv, ar_n qb, ar_n qi, ar_n qv, ar_n ql, ar_n so, ar_b fa, ar_n ba, ar_n an, ar_b co, pc_x pk, ar_b fr, ar_n kv, ar_n vo, ar_n kn) (nI k) (nI l) ↔ post (nI bg, ar_b df, ar_b iq, ar_b (tz_ k (li_ l) tb), ar_b up, ar_n op, ar_n ov, ar_n sp, ar_n sv, ar_n qb, ar_n qi, ar_n qv, ar_n ql, ar_n so, ar_b fa, ar_n ba, ar_n an, ar_b co, pc_x pk, ar_b fr, ar_n kv, ar_n vo, ar_n kn) := by
  simp only [wpX_layOutList]
  refine lo_fold (W := fun n i tb => wX_layOutList_2 post (nI k) (nI l) (nI bg) n (nI i) (ar_b df) (ar_b iq) (ar_b tb) (ar_b up) (ar_n op) (ar_n ov) (ar_n sp) (ar_n sv) (ar_n qb) (ar_n qi) (ar_n qv) (ar_n ql) (ar_n so) (ar_b fa) (ar_n ba) (ar_n an) (ar_b co) (pc_x pk) (ar_b fr) (ar_n kv) (ar_n vo) (ar_n kn)) (fin := fun tb => post (nI bg, ar_b df, ar_b iq, ar_b tb, ar_b up, ar_n op, ar_n ov, ar_n sp, ar_n sv, ar_n qb, ar_n qi, ar_n qv, ar_n ql, ar_n so, ar_b fa, ar_n ba, ar_n an, ar_b co, pc_x pk, ar_b fr, ar_n kv, ar_n vo, ar_n kn)) (I := fun _ _ => True) (e := 128) (fun t tb => st_b tb (k * 128 + t) (li_ l t)) (fun _ _ h => h) (fun _ _ _ _ => trivial) ?_ ?_ 128 0 tb rfl trivial
  · intro n tb _
    simp (disch := first | omega | assumption) only [li_0, li_1, li_2, li_3, li_4, li_6, li_7, li_8, li_9, li_10, li_12, li_21, li_24, li_31, li_60, li_63, li_127, li_128, li_256, li_312, li_384, nI_add, nu_mul, nu_sub, nu_div, nu_and, nu_or, nu_shr, nu_bit, nu_diff, bi_2, nI_leI, nI_ltI, nI_eq, vp_in_nI, nI_clamp, ar_na, ar_ba, bo_0, bo_1, bo_it, bo_if, bo_w, bo_w0, bo_w1, bo_nar, bo_n1, bo_nn0, st_bu, st_bu1, st_bu0, st_nu, forall_eq, true_implies, false_implies, forall_const, not_true_eq_false, not_false_eq_true, and_true, true_and, implies_true, and_self, Bool.false_eq_true, Bool.true_eq_false, reduceCtorEq, ite_true, ite_false, if_true, if_false, eq_self, Nat.zero_add, Nat.add_zero, Nat.le_refl, Nat.lt_irrefl, Nat.reduceEqDiff, Nat.reduceLeDiff, Nat.reduceLT, Nat.reduceAdd, Nat.reduceMul, Nat.reduceSub, wX_layOutList_2]
  · intro n i tb hi _
    simp (disch := omega) only [wX_layOutList_2, li_0, li_128, nI_leI, Nat.not_le.mpr hi, not_false_eq_true, true_implies, false_implies, true_and]
    exact xc_layOutList1 hk hl hi
end
end
section
/-! the relation -/
def in_s (df iq : Nat → Bool) (srt num : Nat → Int32) : Prop := ∀ s, s < 4 → (df s = false ∧ srt s = -nI 1) ∨ (df s = true ∧ rg_ (srt s) (num (4 * s)) (num (4 * s + 1)) (num (4 * s + 2)) (num (4 * s + 3)) ∧ ∀ k t, k < 3 → t < 128 → iq (s * 384 + k * 128 + t) = qf_ (srt s) (num (4 * s)) (num (4 * s + 1)) (num (4 * s + 2)) (num (4 * s + 3)) k t)
def in_b (bg : Nat) (df : Nat → Bool) (so ba : Nat → Nat) : Prop := ∀ b, 1 ≤ b → b ≤ bg → so b < 4 ∧ df (so b) = true ∧ ba b < b
def in_p (pk : Nat → Nat) (fr : Nat → Bool) : Prop := ∀ j, pk j ≤ 8 ∧ (fr j = true → pk j ≠ 0) ∧ (pk j = 1 → fr j = true)
def vo_ (bg : Nat) (pk : Nat → Nat) (i x : Nat) : Prop := x = 0 ∨ (1 ≤ x / 8 ∧ x / 8 ≤ bg ∧ 1 ≤ x % 8 ∧ pk (x / 8 * 3 + i) ≠ 0)
def in_v (bg : Nat) (pk sv kv : Nat → Nat) : Prop := (∀ n i, n < 7 → i < 3 → vo_ bg pk i (sv (n * 3 + i))) ∧ (∀ b n i, b ≤ 12 → n < 7 → i < 3 → vo_ bg pk i (kv (b * 21 + n * 3 + i)))
def in_c (vo kn an : Nat → Nat) : Prop := ∀ j, vo j < 128 ∧ kn j < 128 ∧ an j < 128
def rc_ (bg : Nat) (pk : Nat → Nat) (b i j v : Nat) : Prop := 1 ≤ b ∧ b ≤ bg ∧ ((v = 0 ∧ j = 3) ∨ (1 ≤ v ∧ v ≤ 7 ∧ j = i ∧ i < 3 ∧ pk (b * 3 + i) ≠ 0))
def in_q (bg : Nat) (up : Nat → Bool) (pk sp qb qi qj qv ql : Nat → Nat) : Prop := ∀ n, n < 7 → ql n ≤ 6 ∧ sp n ≤ bg ∧ (up n = false → ql n = 0) ∧ ∀ p, p < ql n → rc_ bg pk (qb (n * 6 + p)) (qi (n * 6 + p)) (qj (n * 6 + p)) (qv (n * 6 + p)) ∧ sp n ≤ qb (n * 6 + p) ∧ (p + 1 < ql n → qb (n * 6 + p) ≤ qb (n * 6 + p + 1))
def wv_ (qb qj qv : Nat → Nat) (i : Nat) : Nat → Nat → Nat → Nat := lo_f (fun k v => if qj k = i then 8 * qb k + qv k else v)
def in_o (op ov sp sv qb qj qv ql : Nat → Nat) : Prop := ∀ n, n < 7 → op n = (if ql n = 0 then sp n else qb (n * 6 + ql n - 1)) ∧ ∀ i, i < 3 → ov (n * 3 + i) = wv_ qb qj qv i (ql n) (n * 6) (sv (n * 3 + i))
def in_a (an sp : Nat → Nat) : Prop := ∀ b n, n < 7 → an b / 2 ^ n % 2 = 1 → b ≤ sp n
def in_d (dn up : Nat → Bool) : Prop := ∀ j, dn j = !up j
def in_all (bg : Nat) (df iq up fr dn : Nat → Bool) (op ov sp sv qb qi qj qv ql so ba an pk kv vo kn : Nat → Nat) (srt num : Nat → Int32) : Prop :=
  bg ≤ 12 ∧ in_s df iq srt num ∧ in_b bg df so ba ∧ in_p pk fr ∧ in_v bg pk sv kv ∧ in_c vo kn an ∧ in_q bg up pk sp qb qi qj qv ql ∧ in_o op ov sp sv qb qj qv ql ∧ in_a an sp ∧ in_d dn up
def i_Rel (k : Nat) (u : SX) (v : SY) : Prop := ∃ (bg : Nat) (df iq tb up fa co fr dn : Nat → Bool) (op ov sp sv qb qi qj qv ql so ba an pk kv vo kn : Nat → Nat) (srt num : Nat → Int32), u = (nI bg, ar_b df, ar_b iq, ar_b tb, ar_b up, ar_n op, ar_n ov, ar_n sp, ar_n sv, ar_n qb, ar_n qi, ar_n qv, ar_n ql, ar_n so, ar_b fa, ar_n ba, ar_n an, ar_b co, pc_x pk, ar_b fr, ar_n kv, ar_n vo, ar_n kn) ∧ v = (nI bg, srt, num, ar_n so, ar_n ba, ar_n an, pc_y pk, ar_n kv, ar_b fa, ar_b co, ar_b fr, ar_b dn, ar_n sp, ar_n sv, ar_n ql, ar_n qb, ar_n qj, ar_n qv, ar_n vo, ar_n kn) ∧ in_all bg df iq up fr dn op ov sp sv qb qi qj qv ql so ba an pk kv vo kn srt num
theorem i_up {k : Nat} {u : SX} {v : SY} (h : i_Rel k u v) : i_Rel (k + 7) u v := h
theorem iz_A {b : Nat} {x : Int32} (hb : b + 1 < 2 ^ 31) {A B : Prop} : ((x < nI 0 → A) ∧ (¬ x < nI 0 → ((nI (b + 1) ≤ x → A) ∧ (¬ nI (b + 1) ≤ x → B)))) ↔ ((iz 0 b x = false → A) ∧ (iz 0 b x = true → B)) := by
  unfold iz
  simp only [Int32.lt_iff_toInt_lt, Int32.le_iff_toInt_le, nI_toInt hb, nI_toInt (show 0 < 2 ^ 31 by decide), decide_eq_true_eq, decide_eq_false_iff_not]
  constructor
  · rintro ⟨h1, h2⟩
    refine ⟨fun h => ?_, fun h => ?_⟩
    · by_cases z : x.toInt < ((0 : Nat) : Int)
      · exact h1 z
      · exact (h2 z).1 (by omega)
    · exact (h2 (by omega)).2 (by omega)
  · rintro ⟨h1, h2⟩
    exact ⟨fun h => h1 (by omega), fun h => ⟨fun h' => h1 (by omega), fun h' => h2 (by omega)⟩⟩
theorem iz_B {b : Nat} {x : Int32} (hb : b + 1 < 2 ^ 31) {A B : Prop} : ((x < nI 0 → A) ∧ (¬ x < nI 0 → ((x < nI (b + 1) → B) ∧ (¬ x < nI (b + 1) → A)))) ↔ ((iz 0 b x = false → A) ∧ (iz 0 b x = true → B)) := by
  unfold iz
  simp only [Int32.lt_iff_toInt_lt, nI_toInt hb, nI_toInt (show 0 < 2 ^ 31 by decide), decide_eq_true_eq, decide_eq_false_iff_not]
  constructor
  · rintro ⟨h1, h2⟩
    refine ⟨fun h => ?_, fun h => ?_⟩
    · by_cases z : x.toInt < ((0 : Nat) : Int)
      · exact h1 z
      · exact (h2 z).2 (by omega)
    · exact (h2 (by omega)).1 (by omega)
  · rintro ⟨h1, h2⟩
    exact ⟨fun h => h1 (by omega), fun h => ⟨fun h' => h2 (by omega), fun h' => h1 (by omega)⟩⟩
theorem iz_C {b : Nat} {x : Int32} (hb : b < 2 ^ 31) {A B : Prop} : ((x < nI 0 → A) ∧ (¬ x < nI 0 → ((nI b < x → A) ∧ (¬ nI b < x → B)))) ↔ ((iz 0 b x = false → A) ∧ (iz 0 b x = true → B)) := by
  unfold iz
  simp only [Int32.lt_iff_toInt_lt, nI_toInt hb, nI_toInt (show 0 < 2 ^ 31 by decide), decide_eq_true_eq, decide_eq_false_iff_not]
  constructor
  · rintro ⟨h1, h2⟩
    refine ⟨fun h => ?_, fun h => ?_⟩
    · by_cases z : x.toInt < ((0 : Nat) : Int)
      · exact h1 z
      · exact (h2 z).1 (by omega)
    · exact (h2 (by omega)).2 (by omega)
  · rintro ⟨h1, h2⟩
    exact ⟨fun h => h1 (by omega), fun h => ⟨fun h' => h1 (by omega), fun h' => h2 (by omega)⟩⟩
theorem rg_pos {so a b c d : Int32} (h : rg_ so a b c d) : ¬ so < nI 0 := by
  rcases h with ⟨rfl, _⟩ | ⟨rfl, _⟩ | ⟨rfl, _⟩ | ⟨rfl, _⟩ <;> decide
section
variable {bg : Nat} {df iq tb up fa co fr dn : Nat → Bool} {op ov sp sv qb qi qj qv ql so ba an pk kv vo kn : Nat → Nat} {srt num : Nat → Int32}
variable {post : Int32 → Prop} {x : Int32} {s k t m n i : Nat}
theorem yc_q (H : in_s df iq srt num) (hs : s < 4) (hd : df s = true) (hk : k < 3) (ht : t < 128) : wpY_isQuorum post (nI bg, srt, num, ar_n so, ar_n ba, ar_n an, pc_y pk, ar_n kv, ar_b fa, ar_b co, ar_b fr, ar_b dn, ar_n sp, ar_n sv, ar_n ql, ar_n qb, ar_n qj, ar_n qv, ar_n vo, ar_n kn) (nI s) (nI k) (nI t) ↔ post (bo_i (iq (s * 384 + k * 128 + t))) := by
  rcases H s hs with ⟨h, _⟩ | ⟨_, hr, hq⟩
  · rw [hd] at h; exact nomatch h
  · rw [hq k t hk ht]
    exact yc_isQuorum hs hk ht hr
theorem xc_isSystem : wpX_isSystem post (nI bg, ar_b df, ar_b iq, ar_b tb, ar_b up, ar_n op, ar_n ov, ar_n sp, ar_n sv, ar_n qb, ar_n qi, ar_n qv, ar_n ql, ar_n so, ar_b fa, ar_n ba, ar_n an, ar_b co, pc_x pk, ar_b fr, ar_n kv, ar_n vo, ar_n kn) x ↔ post (bo_i (iz 0 3 x && df (cl_ x))) := by
  simp only [wpX_isSystem]
  refine (iz_A (b := 3) (by decide)).trans ?_
  rcases iz_c 0 3 x with h | ⟨j, h1, h2, h3, rfl, h⟩
  · simp only [h, Bool.false_and]
    simp (disch := first | omega | assumption) only [li_0, li_1, li_2, li_3, li_4, li_6, li_7, li_8, li_9, li_10, li_12, li_21, li_24, li_31, li_60, li_63, li_127, li_128, li_256, li_312, li_384, nI_add, nu_mul, nu_sub, nu_div, nu_and, nu_or, nu_shr, nu_bit, nu_diff, bi_2, nI_leI, nI_ltI, nI_eq, vp_in_nI, nI_clamp, ar_na, ar_ba, bo_0, bo_1, bo_it, bo_if, bo_w, bo_w0, bo_w1, bo_nar, bo_n1, bo_nn0, st_bu, st_bu1, st_bu0, st_nu, forall_eq, true_implies, false_implies, forall_const, not_true_eq_false, not_false_eq_true, and_true, true_and, implies_true, and_self, Bool.false_eq_true, Bool.true_eq_false, reduceCtorEq, ite_true, ite_false, if_true, if_false, eq_self, Nat.zero_add, Nat.add_zero, Nat.le_refl, Nat.lt_irrefl, Nat.reduceEqDiff, Nat.reduceLeDiff, Nat.reduceLT, Nat.reduceAdd, Nat.reduceMul, Nat.reduceSub]
  · simp only [h, Bool.true_and, cl_n h3]
    cases z : df j
    · simp (disch := first | omega | assumption) only [li_0, li_1, li_2, li_3, li_4, li_6, li_7, li_8, li_9, li_10, li_12, li_21, li_24, li_31, li_60, li_63, li_127, li_128, li_256, li_312, li_384, nI_add, nu_mul, nu_sub, nu_div, nu_and, nu_or, nu_shr, nu_bit, nu_diff, bi_2, nI_leI, nI_ltI, nI_eq, vp_in_nI, nI_clamp, ar_na, ar_ba, bo_0, bo_1, bo_it, bo_if, bo_w, bo_w0, bo_w1, bo_nar, bo_n1, bo_nn0, st_bu, st_bu1, st_bu0, st_nu, forall_eq, true_implies, false_implies, forall_const, not_true_eq_false, not_false_eq_true, and_true, true_and, implies_true, and_self, Bool.false_eq_true, Bool.true_eq_false, reduceCtorEq, ite_true, ite_false, if_true, if_false, eq_self, Nat.zero_add, Nat.add_zero, Nat.le_refl, Nat.lt_irrefl, Nat.reduceEqDiff, Nat.reduceLeDiff, Nat.reduceLT, Nat.reduceAdd, Nat.reduceMul, Nat.reduceSub, z]
    · simp (disch := first | omega | assumption) only [li_0, li_1, li_2, li_3, li_4, li_6, li_7, li_8, li_9, li_10, li_12, li_21, li_24, li_31, li_60, li_63, li_127, li_128, li_256, li_312, li_384, nI_add, nu_mul, nu_sub, nu_div, nu_and, nu_or, nu_shr, nu_bit, nu_diff, bi_2, nI_leI, nI_ltI, nI_eq, vp_in_nI, nI_clamp, ar_na, ar_ba, bo_0, bo_1, bo_it, bo_if, bo_w, bo_w0, bo_w1, bo_nar, bo_n1, bo_nn0, st_bu, st_bu1, st_bu0, st_nu, forall_eq, true_implies, false_implies, forall_const, not_true_eq_false, not_false_eq_true, and_true, true_and, implies_true, and_self, Bool.false_eq_true, Bool.true_eq_false, reduceCtorEq, ite_true, ite_false, if_true, if_false, eq_self, Nat.zero_add, Nat.add_zero, Nat.le_refl, Nat.lt_irrefl, Nat.reduceEqDiff, Nat.reduceLeDiff, Nat.reduceLT, Nat.reduceAdd, Nat.reduceMul, Nat.reduceSub, z]
theorem yc_isSystem (H : in_s df iq srt num) : wpY_isSystem post (nI bg, srt, num, ar_n so, ar_n ba, ar_n an, pc_y pk, ar_n kv, ar_b fa, ar_b co, ar_b fr, ar_b dn, ar_n sp, ar_n sv, ar_n ql, ar_n qb, ar_n qj, ar_n qv, ar_n vo, ar_n kn) x ↔ post (bo_i (iz 0 3 x && df (cl_ x))) := by
  rcases iz_c 0 3 x with h | ⟨j, h1, h2, h3, rfl, h⟩
  · simp (disch := first | omega | assumption) only [li_0, li_1, li_2, li_3, li_4, li_6, li_7, li_8, li_9, li_10, li_12, li_21, li_24, li_31, li_60, li_63, li_127, li_128, li_256, li_312, li_384, nI_add, nu_mul, nu_sub, nu_div, nu_and, nu_or, nu_shr, nu_bit, nu_diff, bi_2, nI_leI, nI_ltI, nI_eq, vp_in_nI, nI_clamp, ar_na, ar_ba, bo_0, bo_1, bo_it, bo_if, bo_w, bo_w0, bo_w1, bo_nar, bo_n1, bo_nn0, st_bu, st_bu1, st_bu0, st_nu, forall_eq, true_implies, false_implies, forall_const, not_true_eq_false, not_false_eq_true, and_true, true_and, implies_true, and_self, Bool.false_eq_true, Bool.true_eq_false, reduceCtorEq, ite_true, ite_false, if_true, if_false, eq_self, Nat.zero_add, Nat.add_zero, Nat.le_refl, Nat.lt_irrefl, Nat.reduceEqDiff, Nat.reduceLeDiff, Nat.reduceLT, Nat.reduceAdd, Nat.reduceMul, Nat.reduceSub, wpY_isSystem, yc_in, h, Bool.false_and]
  · simp only [cl_n h3]
    rcases H j (by omega) with ⟨hd, hq⟩ | ⟨hd, hr, hq⟩
    · simp (disch := first | omega | assumption) only [li_0, li_1, li_2, li_3, li_4, li_6, li_7, li_8, li_9, li_10, li_12, li_21, li_24, li_31, li_60, li_63, li_127, li_128, li_256, li_312, li_384, nI_add, nu_mul, nu_sub, nu_div, nu_and, nu_or, nu_shr, nu_bit, nu_diff, bi_2, nI_leI, nI_ltI, nI_eq, vp_in_nI, nI_clamp, ar_na, ar_ba, bo_0, bo_1, bo_it, bo_if, bo_w, bo_w0, bo_w1, bo_nar, bo_n1, bo_nn0, st_bu, st_bu1, st_bu0, st_nu, forall_eq, true_implies, false_implies, forall_const, not_true_eq_false, not_false_eq_true, and_true, true_and, implies_true, and_self, Bool.false_eq_true, Bool.true_eq_false, reduceCtorEq, ite_true, ite_false, if_true, if_false, eq_self, Nat.zero_add, Nat.add_zero, Nat.le_refl, Nat.lt_irrefl, Nat.reduceEqDiff, Nat.reduceLeDiff, Nat.reduceLT, Nat.reduceAdd, Nat.reduceMul, Nat.reduceSub, wpY_isSystem, yc_in, h, hd, hq, Bool.and_false, show -nI 1 < nI 0 from by decide]
    · simp (disch := first | omega | assumption) only [li_0, li_1, li_2, li_3, li_4, li_6, li_7, li_8, li_9, li_10, li_12, li_21, li_24, li_31, li_60, li_63, li_127, li_128, li_256, li_312, li_384, nI_add, nu_mul, nu_sub, nu_div, nu_and, nu_or, nu_shr, nu_bit, nu_diff, bi_2, nI_leI, nI_ltI, nI_eq, vp_in_nI, nI_clamp, ar_na, ar_ba, bo_0, bo_1, bo_it, bo_if, bo_w, bo_w0, bo_w1, bo_nar, bo_n1, bo_nn0, st_bu, st_bu1, st_bu0, st_nu, forall_eq, true_implies, false_implies, forall_const, not_true_eq_false, not_false_eq_true, and_true, true_and, implies_true, and_self, Bool.false_eq_true, Bool.true_eq_false, reduceCtorEq, ite_true, ite_false, if_true, if_false, eq_self, Nat.zero_add, Nat.add_zero, Nat.le_refl, Nat.lt_irrefl, Nat.reduceEqDiff, Nat.reduceLeDiff, Nat.reduceLT, Nat.reduceAdd, Nat.reduceMul, Nat.reduceSub, wpY_isSystem, yc_in, h, hd, rg_pos hr, Bool.and_self]
/-- how both answer quorum -/
def va_quorum (df iq : Nat → Bool) (x y z : Int32) : Int32 := if (iz 0 3 x && df (cl_ x) && iz 0 2 y && iz 0 127 z) = true then bo_i (iq (cl_ x * 384 + cl_ y * 128 + cl_ z)) else -nI 1
theorem bo_pq {b : Bool} {P : Int32 → Prop} : ((b = false → P (nI 0)) ∧ (¬ b = false → P (nI 1))) ↔ P (bo_i b) := by
  cases b <;> simp <;> exact Iff.rfl
theorem xc_quorum {y z : Int32} : wpX_quorum post (nI bg, ar_b df, ar_b iq, ar_b tb, ar_b up, ar_n op, ar_n ov, ar_n sp, ar_n sv, ar_n qb, ar_n qi, ar_n qv, ar_n ql, ar_n so, ar_b fa, ar_n ba, ar_n an, ar_b co, pc_x pk, ar_b fr, ar_n kv, ar_n vo, ar_n kn) x y z ↔ post (va_quorum df iq x y z) := by
  unfold va_quorum
  simp (disch := first | omega | assumption) only [li_0, li_1, li_2, li_3, li_4, li_6, li_7, li_8, li_9, li_10, li_12, li_21, li_24, li_31, li_60, li_63, li_127, li_128, li_256, li_312, li_384, nI_add, nu_mul, nu_sub, nu_div, nu_and, nu_or, nu_shr, nu_bit, nu_diff, bi_2, nI_leI, nI_ltI, nI_eq, vp_in_nI, nI_clamp, ar_na, ar_ba, bo_0, bo_1, bo_it, bo_if, bo_w, bo_w0, bo_w1, bo_nar, bo_n1, bo_nn0, st_bu, st_bu1, st_bu0, st_nu, forall_eq, true_implies, false_implies, forall_const, not_true_eq_false, not_false_eq_true, and_true, true_and, implies_true, and_self, Bool.false_eq_true, Bool.true_eq_false, reduceCtorEq, ite_true, ite_false, if_true, if_false, eq_self, Nat.zero_add, Nat.add_zero, Nat.le_refl, Nat.lt_irrefl, Nat.reduceEqDiff, Nat.reduceLeDiff, Nat.reduceLT, Nat.reduceAdd, Nat.reduceMul, Nat.reduceSub, wpX_quorum, xc_isSystem, xc_isKind]
  rcases iz_c 0 3 x with h | ⟨j, h1, h2, h3, rfl, h⟩
  · simp [h]
  · cases hd : df (cl_ (nI j))
    · simp [h]
    · rcases iz_c 0 2 y with g | ⟨k, g1, g2, g3, rfl, g⟩
      · simp [h, g]
      · simp only [h, g, Bool.and_self, Bool.true_and, Bool.true_eq_false, not_false_eq_true, false_implies, true_implies, true_and]
        refine (iz_B (b := 127) (by decide)).trans ?_
        rcases iz_c 0 127 z with e | ⟨t, e1, e2, e3, rfl, e⟩
        · simp [e]
        · simp (disch := first | omega | assumption) only [li_0, li_1, li_2, li_3, li_4, li_6, li_7, li_8, li_9, li_10, li_12, li_21, li_24, li_31, li_60, li_63, li_127, li_128, li_256, li_312, li_384, nI_add, nu_mul, nu_sub, nu_div, nu_and, nu_or, nu_shr, nu_bit, nu_diff, bi_2, nI_leI, nI_ltI, nI_eq, vp_in_nI, nI_clamp, ar_na, ar_ba, bo_0, bo_1, bo_it, bo_if, bo_w, bo_w0, bo_w1, bo_nar, bo_n1, bo_nn0, st_bu, st_bu1, st_bu0, st_nu, forall_eq, true_implies, false_implies, forall_const, not_true_eq_false, not_false_eq_true, and_true, true_and, implies_true, and_self, Bool.false_eq_true, Bool.true_eq_false, reduceCtorEq, ite_true, ite_false, if_true, if_false, eq_self, Nat.zero_add, Nat.add_zero, Nat.le_refl, Nat.lt_irrefl, Nat.reduceEqDiff, Nat.reduceLeDiff, Nat.reduceLT, Nat.reduceAdd, Nat.reduceMul, Nat.reduceSub, e, xc_holds, cl_n, bo_pq]
theorem yc_quorum {y z : Int32} (H : in_s df iq srt num) : wpY_quorum post (nI bg, srt, num, ar_n so, ar_n ba, ar_n an, pc_y pk, ar_n kv, ar_b fa, ar_b co, ar_b fr, ar_b dn, ar_n sp, ar_n sv, ar_n ql, ar_n qb, ar_n qj, ar_n qv, ar_n vo, ar_n kn) x y z ↔ post (va_quorum df iq x y z) := by
  unfold va_quorum
  rcases iz_c 0 3 x with h | ⟨j, h1, h2, h3, rfl, h⟩
  · simp (disch := first | omega | assumption) only [li_0, li_1, li_2, li_3, li_4, li_6, li_7, li_8, li_9, li_10, li_12, li_21, li_24, li_31, li_60, li_63, li_127, li_128, li_256, li_312, li_384, nI_add, nu_mul, nu_sub, nu_div, nu_and, nu_or, nu_shr, nu_bit, nu_diff, bi_2, nI_leI, nI_ltI, nI_eq, vp_in_nI, nI_clamp, ar_na, ar_ba, bo_0, bo_1, bo_it, bo_if, bo_w, bo_w0, bo_w1, bo_nar, bo_n1, bo_nn0, st_bu, st_bu1, st_bu0, st_nu, forall_eq, true_implies, false_implies, forall_const, not_true_eq_false, not_false_eq_true, and_true, true_and, implies_true, and_self, Bool.false_eq_true, Bool.true_eq_false, reduceCtorEq, ite_true, ite_false, if_true, if_false, eq_self, Nat.zero_add, Nat.add_zero, Nat.le_refl, Nat.lt_irrefl, Nat.reduceEqDiff, Nat.reduceLeDiff, Nat.reduceLT, Nat.reduceAdd, Nat.reduceMul, Nat.reduceSub, wpY_quorum, yc_isSystem H, yc_in, h, Bool.false_and]
  · cases hd : df (cl_ (nI j))
    · simp (disch := first | omega | assumption) only [li_0, li_1, li_2, li_3, li_4, li_6, li_7, li_8, li_9, li_10, li_12, li_21, li_24, li_31, li_60, li_63, li_127, li_128, li_256, li_312, li_384, nI_add, nu_mul, nu_sub, nu_div, nu_and, nu_or, nu_shr, nu_bit, nu_diff, bi_2, nI_leI, nI_ltI, nI_eq, vp_in_nI, nI_clamp, ar_na, ar_ba, bo_0, bo_1, bo_it, bo_if, bo_w, bo_w0, bo_w1, bo_nar, bo_n1, bo_nn0, st_bu, st_bu1, st_bu0, st_nu, forall_eq, true_implies, false_implies, forall_const, not_true_eq_false, not_false_eq_true, and_true, true_and, implies_true, and_self, Bool.false_eq_true, Bool.true_eq_false, reduceCtorEq, ite_true, ite_false, if_true, if_false, eq_self, Nat.zero_add, Nat.add_zero, Nat.le_refl, Nat.lt_irrefl, Nat.reduceEqDiff, Nat.reduceLeDiff, Nat.reduceLT, Nat.reduceAdd, Nat.reduceMul, Nat.reduceSub, wpY_quorum, yc_isSystem H, yc_in, h, hd, Bool.and_false, Bool.false_and]
    · have hd' : df j = true := by rw [cl_n h3] at hd; exact hd
      rcases iz_c 0 2 y with g | ⟨k, g1, g2, g3, rfl, g⟩
      · simp (disch := first | omega | assumption) only [li_0, li_1, li_2, li_3, li_4, li_6, li_7, li_8, li_9, li_10, li_12, li_21, li_24, li_31, li_60, li_63, li_127, li_128, li_256, li_312, li_384, nI_add, nu_mul, nu_sub, nu_div, nu_and, nu_or, nu_shr, nu_bit, nu_diff, bi_2, nI_leI, nI_ltI, nI_eq, vp_in_nI, nI_clamp, ar_na, ar_ba, bo_0, bo_1, bo_it, bo_if, bo_w, bo_w0, bo_w1, bo_nar, bo_n1, bo_nn0, st_bu, st_bu1, st_bu0, st_nu, forall_eq, true_implies, false_implies, forall_const, not_true_eq_false, not_false_eq_true, and_true, true_and, implies_true, and_self, Bool.false_eq_true, Bool.true_eq_false, reduceCtorEq, ite_true, ite_false, if_true, if_false, eq_self, Nat.zero_add, Nat.add_zero, Nat.le_refl, Nat.lt_irrefl, Nat.reduceEqDiff, Nat.reduceLeDiff, Nat.reduceLT, Nat.reduceAdd, Nat.reduceMul, Nat.reduceSub, wpY_quorum, yc_isSystem H, yc_in, h, hd, g, Bool.and_false, Bool.false_and, Bool.and_self]
      · rcases iz_c 0 127 z with e | ⟨t, e1, e2, e3, rfl, e⟩
        · simp (disch := first | omega | assumption) only [li_0, li_1, li_2, li_3, li_4, li_6, li_7, li_8, li_9, li_10, li_12, li_21, li_24, li_31, li_60, li_63, li_127, li_128, li_256, li_312, li_384, nI_add, nu_mul, nu_sub, nu_div, nu_and, nu_or, nu_shr, nu_bit, nu_diff, bi_2, nI_leI, nI_ltI, nI_eq, vp_in_nI, nI_clamp, ar_na, ar_ba, bo_0, bo_1, bo_it, bo_if, bo_w, bo_w0, bo_w1, bo_nar, bo_n1, bo_nn0, st_bu, st_bu1, st_bu0, st_nu, forall_eq, true_implies, false_implies, forall_const, not_true_eq_false, not_false_eq_true, and_true, true_and, implies_true, and_self, Bool.false_eq_true, Bool.true_eq_false, reduceCtorEq, ite_true, ite_false, if_true, if_false, eq_self, Nat.zero_add, Nat.add_zero, Nat.le_refl, Nat.lt_irrefl, Nat.reduceEqDiff, Nat.reduceLeDiff, Nat.reduceLT, Nat.reduceAdd, Nat.reduceMul, Nat.reduceSub, wpY_quorum, yc_isSystem H, yc_in, h, hd, g, e, Bool.and_false, Bool.false_and, Bool.and_self]
        · simp (disch := first | omega | assumption) only [li_0, li_1, li_2, li_3, li_4, li_6, li_7, li_8, li_9, li_10, li_12, li_21, li_24, li_31, li_60, li_63, li_127, li_128, li_256, li_312, li_384, nI_add, nu_mul, nu_sub, nu_div, nu_and, nu_or, nu_shr, nu_bit, nu_diff, bi_2, nI_leI, nI_ltI, nI_eq, vp_in_nI, nI_clamp, ar_na, ar_ba, bo_0, bo_1, bo_it, bo_if, bo_w, bo_w0, bo_w1, bo_nar, bo_n1, bo_nn0, st_bu, st_bu1, st_bu0, st_nu, forall_eq, true_implies, false_implies, forall_const, not_true_eq_false, not_false_eq_true, and_true, true_and, implies_true, and_self, Bool.false_eq_true, Bool.true_eq_false, reduceCtorEq, ite_true, ite_false, if_true, if_false, eq_self, Nat.zero_add, Nat.add_zero, Nat.le_refl, Nat.lt_irrefl, Nat.reduceEqDiff, Nat.reduceLeDiff, Nat.reduceLT, Nat.reduceAdd, Nat.reduceMul, Nat.reduceSub, wpY_quorum, yc_isSystem H, yc_in, h, hd, hd', g, e, Bool.and_self, yc_q H, cl_n, bo_pq]
end
theorem i_vc_quorum {k : Nat} {u : SX} {v : SY} (I : i_Rel k u v) (hk : k + 7 ≤ 3584) (v1 : Int32) (v2 : Int32) (v3 : Int32) : wpX_quorum (fun r => wpY_quorum (fun r' => r' = r ∧ i_Rel (k + 7) u v) v v1 v2 v3) u v1 v2 v3 := by
  have I' : i_Rel (k + 7) u v := I
  obtain ⟨bg, df, iq, tb, up, fa, co, fr, dn, op, ov, sp, sv, qb, qi, qj, qv, ql, so, ba, an, pk, kv, vo, kn, srt, num, rfl, rfl, H⟩ := I
  exact xc_quorum.mpr ((yc_quorum H.2.1).mpr ⟨rfl, I'⟩)
end
section
/-! system, common -/
theorem bo_pr {b : Bool} {P : Int32 → Prop} : ((b = true → P (nI 1)) ∧ (b = false → P (nI 0))) ↔ P (bo_i b) := by
  cases b <;> simp <;> exact Iff.rfl
/-- the least size: among all of a family, or among its least sets, once there are any -/
theorem mi_top {Q : Nat → Bool} (h : Q 127 = true) : lo_f (fun r a => if Q r = true then min a (sz_ r) else a) 128 0 8 = lo_f (fun r a => if ls_ Q r = true then min a (sz_ r) else a) 128 0 7 := by
  rw [mi_ls]
  obtain ⟨t, ht, hl, _⟩ := ls_ex 127 (by decide) h
  apply mi_eq
  intro z
  rw [mi_, mi_]
  constructor
  · rintro ⟨_, h2⟩
    exact ⟨Nat.le_trans (h2 t (Nat.zero_le _) (by omega) hl) (sz_7 t), h2⟩
  · rintro ⟨h1, h2⟩
    exact ⟨by omega, h2⟩
theorem mi_none {Q : Nat → Bool} (h : ∀ r, r < 128 → Q r = false) : lo_f (fun r a => if Q r = true then min a (sz_ r) else a) 128 0 8 = 8 := by
  apply mi_eq
  intro z
  rw [mi_]
  exact ⟨fun h => h.1, fun h1 => ⟨h1, fun r _ hr hq => by rw [h r (by omega)] at hq; exact nomatch hq⟩⟩
theorem mi_le {Q : Nat → Bool} {g : Nat → Nat} {a : Nat} : lo_f (fun r a => if Q r = true then min a (g r) else a) 128 0 a ≤ a := ((mi_ 128 0 a _).mp (Nat.le_refl _)).1
section
variable {bg : Nat} {df iq tb up fa co fr dn : Nat → Bool} {op ov sp sv qb qi qj qv ql so ba an pk kv vo kn : Nat → Nat} {srt num : Nat → Int32}
variable {post : Int32 → Prop} {x : Int32} {s k t m n i a : Nat}
theorem xc_leastQuorum (hs : s < 4) (hk : k < 3) : wpX_leastQuorum post (nI bg, ar_b df, ar_b iq, ar_b tb, ar_b up, ar_n op, ar_n ov, ar_n sp, ar_n sv, ar_n qb, ar_n qi, ar_n qv, ar_n ql, ar_n so, ar_b fa, ar_n ba, ar_n an, ar_b co, pc_x pk, ar_b fr, ar_n kv, ar_n vo, ar_n kn) (nI s) (nI k) ↔ post (mn_ (lo_f (fun r a => if iq (s * 384 + k * 128 + r) = true then min a (sz_ r) else a) 128 0 8)) := by
  simp only [wpX_leastQuorum]
  refine lo_fold (W := fun n i a => wX_leastQuorum_6 post (nI s) (nI k) (nI bg) (ar_b df) (ar_b iq) (ar_b tb) (ar_b up) (ar_n op) (ar_n ov) (ar_n sp) (ar_n sv) (ar_n qb) (ar_n qi) (ar_n qv) (ar_n ql) (ar_n so) (ar_b fa) (ar_n ba) (ar_n an) (ar_b co) (pc_x pk) (ar_b fr) (ar_n kv) (ar_n vo) (ar_n kn) n (mn_ a) (nI i)) (fin := fun a => post (mn_ a)) (I := fun _ a => a ≤ 8) (e := 128) (fun r a => if iq (s * 384 + k * 128 + r) = true then min a (sz_ r) else a) (fun _ _ h => h) ?_ ?_ ?_ 128 0 8 rfl (Nat.le_refl _)
  · intro i a _ h
    split <;> omega
  · intro n a _
    simp (disch := first | omega | assumption) only [li_0, li_1, li_2, li_3, li_4, li_6, li_7, li_8, li_9, li_10, li_12, li_21, li_24, li_31, li_60, li_63, li_127, li_128, li_256, li_312, li_384, nI_add, nu_mul, nu_sub, nu_div, nu_and, nu_or, nu_shr, nu_bit, nu_diff, bi_2, nI_leI, nI_ltI, nI_eq, vp_in_nI, nI_clamp, ar_na, ar_ba, bo_0, bo_1, bo_it, bo_if, bo_w, bo_w0, bo_w1, bo_nar, bo_n1, bo_nn0, st_bu, st_bu1, st_bu0, st_nu, forall_eq, true_implies, false_implies, forall_const, not_true_eq_false, not_false_eq_true, and_true, true_and, implies_true, and_self, Bool.false_eq_true, Bool.true_eq_false, reduceCtorEq, ite_true, ite_false, if_true, if_false, eq_self, Nat.zero_add, Nat.add_zero, Nat.le_refl, Nat.lt_irrefl, Nat.reduceEqDiff, Nat.reduceLeDiff, Nat.reduceLT, Nat.reduceAdd, Nat.reduceMul, Nat.reduceSub, wX_leastQuorum_6]
  · intro n i a hi ha
    have := sz_7 i
    cases h : iq (s * 384 + k * 128 + i)
    · simp (disch := first | omega | assumption) only [li_0, li_1, li_2, li_3, li_4, li_6, li_7, li_8, li_9, li_10, li_12, li_21, li_24, li_31, li_60, li_63, li_127, li_128, li_256, li_312, li_384, nI_add, nu_mul, nu_sub, nu_div, nu_and, nu_or, nu_shr, nu_bit, nu_diff, bi_2, nI_leI, nI_ltI, nI_eq, vp_in_nI, nI_clamp, ar_na, ar_ba, bo_0, bo_1, bo_it, bo_if, bo_w, bo_w0, bo_w1, bo_nar, bo_n1, bo_nn0, st_bu, st_bu1, st_bu0, st_nu, forall_eq, true_implies, false_implies, forall_const, not_true_eq_false, not_false_eq_true, and_true, true_and, implies_true, and_self, Bool.false_eq_true, Bool.true_eq_false, reduceCtorEq, ite_true, ite_false, if_true, if_false, eq_self, Nat.zero_add, Nat.add_zero, Nat.le_refl, Nat.lt_irrefl, Nat.reduceEqDiff, Nat.reduceLeDiff, Nat.reduceLT, Nat.reduceAdd, Nat.reduceMul, Nat.reduceSub, wX_leastQuorum_6, Nat.not_le.mpr hi, xc_holds, h]
    · simp (disch := first | omega | assumption) only [li_0, li_1, li_2, li_3, li_4, li_6, li_7, li_8, li_9, li_10, li_12, li_21, li_24, li_31, li_60, li_63, li_127, li_128, li_256, li_312, li_384, nI_add, nu_mul, nu_sub, nu_div, nu_and, nu_or, nu_shr, nu_bit, nu_diff, bi_2, nI_leI, nI_ltI, nI_eq, vp_in_nI, nI_clamp, ar_na, ar_ba, bo_0, bo_1, bo_it, bo_if, bo_w, bo_w0, bo_w1, bo_nar, bo_n1, bo_nn0, st_bu, st_bu1, st_bu0, st_nu, forall_eq, true_implies, false_implies, forall_const, not_true_eq_false, not_false_eq_true, and_true, true_and, implies_true, and_self, Bool.false_eq_true, Bool.true_eq_false, reduceCtorEq, ite_true, ite_false, if_true, if_false, eq_self, Nat.zero_add, Nat.add_zero, Nat.le_refl, Nat.lt_irrefl, Nat.reduceEqDiff, Nat.reduceLeDiff, Nat.reduceLT, Nat.reduceAdd, Nat.reduceMul, Nat.reduceSub, wX_leastQuorum_6, Nat.not_le.mpr hi, xc_holds, h, xc_sizeOf, xc_lesser]
theorem ml_lt {a r : Nat} (ha : a ≤ 8) (hr : r ≤ 7) : (nI a - nI 1 < nI r) ↔ a ≤ r := by
  rw [Int32.lt_iff_toInt_lt, nI_toInt (by omega)]
  have : (nI a - nI 1).toInt = (a : Int) - 1 := by
    rw [Int32.toInt_sub, nI_toInt (by omega), nI_toInt (by omega)]
    exact Int.bmod_eq_of_le (by omega) (by omega)
  rw [this]; omega
def sp_ (Q : Nat → Bool) : Nat := lo_f (fun r a => if (!Q (127 &&& (r ^^^ 127))) = true then min a (sz_ r) else a) 128 0 8
theorem xc_mostLosses (hs : s < 4) (hk : k < 3) : wpX_mostLosses post (nI bg, ar_b df, ar_b iq, ar_b tb, ar_b up, ar_n op, ar_n ov, ar_n sp, ar_n sv, ar_n qb, ar_n qi, ar_n qv, ar_n ql, ar_n so, ar_b fa, ar_n ba, ar_n an, ar_b co, pc_x pk, ar_b fr, ar_n kv, ar_n vo, ar_n kn) (nI s) (nI k) ↔ post (if iq (s * 384 + k * 128 + 127) = true then nI (sp_ (fun r => iq (s * 384 + k * 128 + r))) - nI 1 else -nI 3) := by
  cases h : iq (s * 384 + k * 128 + 127)
  · simp (disch := first | omega | assumption) only [li_0, li_1, li_2, li_3, li_4, li_6, li_7, li_8, li_9, li_10, li_12, li_21, li_24, li_31, li_60, li_63, li_127, li_128, li_256, li_312, li_384, nI_add, nu_mul, nu_sub, nu_div, nu_and, nu_or, nu_shr, nu_bit, nu_diff, bi_2, nI_leI, nI_ltI, nI_eq, vp_in_nI, nI_clamp, ar_na, ar_ba, bo_0, bo_1, bo_it, bo_if, bo_w, bo_w0, bo_w1, bo_nar, bo_n1, bo_nn0, st_bu, st_bu1, st_bu0, st_nu, forall_eq, true_implies, false_implies, forall_const, not_true_eq_false, not_false_eq_true, and_true, true_and, implies_true, and_self, Bool.false_eq_true, Bool.true_eq_false, reduceCtorEq, ite_true, ite_false, if_true, if_false, eq_self, Nat.zero_add, Nat.add_zero, Nat.le_refl, Nat.lt_irrefl, Nat.reduceEqDiff, Nat.reduceLeDiff, Nat.reduceLT, Nat.reduceAdd, Nat.reduceMul, Nat.reduceSub, wpX_mostLosses, xc_holds, h]
  · simp (disch := first | omega | assumption) only [wpX_mostLosses, li_127, li_0, xc_holds, h, bo_0, Bool.true_eq_false, not_false_eq_true, false_implies, true_implies, true_and, if_true]
    rw [show (7 : Int32) = nI 8 - nI 1 from by decide]
    refine lo_fold (W := fun n i a => wX_mostLosses_20 post (nI s) (nI k) (nI bg) (ar_b df) (ar_b iq) (ar_b tb) (ar_b up) (ar_n op) (ar_n ov) (ar_n sp) (ar_n sv) (ar_n qb) (ar_n qi) (ar_n qv) (ar_n ql) (ar_n so) (ar_b fa) (ar_n ba) (ar_n an) (ar_b co) (pc_x pk) (ar_b fr) (ar_n kv) (ar_n vo) (ar_n kn) n (nI a - nI 1) (nI i)) (fin := fun a => post (nI a - nI 1)) (I := fun _ a => a ≤ 8) (e := 128) (fun r a => if (!iq (s * 384 + k * 128 + (127 &&& (r ^^^ 127)))) = true then min a (sz_ r) else a) (fun _ _ h => h) ?_ ?_ ?_ 128 0 8 rfl (Nat.le_refl _)
    · intro i a _ h
      split <;> omega
    · intro n a _
      simp (disch := omega) only [wX_mostLosses_20, li_128, nI_leI, Nat.le_refl, true_implies, not_true_eq_false, false_implies, and_true]
    · intro n i a hi ha
      have hz := sz_7 i
      have hq : 127 &&& (i ^^^ 127) < 128 := nu_and7 (by decide)
      cases h : iq (s * 384 + k * 128 + (127 &&& (i ^^^ 127)))
      · by_cases z : a ≤ sz_ i
        · simp (disch := omega) only [wX_mostLosses_20, li_128, li_127, li_1, li_0, nu_diff, nI_leI, nI_add, Nat.not_le.mpr hi, true_implies, not_false_eq_true, false_implies, true_and, and_true, not_true_eq_false, xc_holds, h, bo_0, xc_sizeOf, ml_lt, z, forall_eq, Nat.min_eq_left z, Bool.not_false, if_true]
        · simp (disch := omega) only [wX_mostLosses_20, li_128, li_127, li_1, li_0, nu_diff, nI_leI, nI_add, Nat.not_le.mpr hi, true_implies, not_false_eq_true, false_implies, true_and, and_true, not_true_eq_false, xc_holds, h, bo_0, xc_sizeOf, ml_lt, z, forall_eq, Nat.min_eq_right (show sz_ i ≤ a by omega), Bool.not_false, if_true]
      · simp (disch := omega) only [wX_mostLosses_20, li_128, li_127, li_1, li_0, nu_diff, nI_leI, nI_add, Nat.not_le.mpr hi, true_implies, not_false_eq_true, false_implies, true_and, and_true, not_true_eq_false, xc_holds, h, bo_0, forall_eq, Bool.not_true, if_false, Bool.true_eq_false, Bool.false_eq_true]
theorem xc_isTight (hs : s < 4) (hk : k < 3) (ht : t < 128) : wpX_isTight post (nI bg, ar_b df, ar_b iq, ar_b tb, ar_b up, ar_n op, ar_n ov, ar_n sp, ar_n sv, ar_n qb, ar_n qi, ar_n qv, ar_n ql, ar_n so, ar_b fa, ar_n ba, ar_n an, ar_b co, pc_x pk, ar_b fr, ar_n kv, ar_n vo, ar_n kn) (nI s) (nI k) (nI t) ↔ post (bo_i (lo_a (fun n => !(t / 2 ^ n % 2 == 1 && iq (s * 384 + k * 128 + (t &&& (2 ^ n ^^^ 127))))) 7 0)) := by
  simp only [wpX_isTight]
  refine (lo_all (W := fun n i => wX_isTight_3 post (nI s) (nI k) (nI t) (nI bg) (ar_b df) (ar_b iq) (ar_b tb) (ar_b up) (ar_n op) (ar_n ov) (ar_n sp) (ar_n sv) (ar_n qb) (ar_n qi) (ar_n qv) (ar_n ql) (ar_n so) (ar_b fa) (ar_n ba) (ar_n an) (ar_b co) (pc_x pk) (ar_b fr) (ar_n kv) (ar_n vo) (ar_n kn) n (nI i)) (A := post (nI 0)) (B := post (nI 1)) (e := 7) _ (fun _ h => h) ?_ ?_ ?_ 7 0 rfl).trans bo_pr
  · intro n
    simp (disch := first | omega | assumption) only [li_0, li_1, li_2, li_3, li_4, li_6, li_7, li_8, li_9, li_10, li_12, li_21, li_24, li_31, li_60, li_63, li_127, li_128, li_256, li_312, li_384, nI_add, nu_mul, nu_sub, nu_div, nu_and, nu_or, nu_shr, nu_bit, nu_diff, bi_2, nI_leI, nI_ltI, nI_eq, vp_in_nI, nI_clamp, ar_na, ar_ba, bo_0, bo_1, bo_it, bo_if, bo_w, bo_w0, bo_w1, bo_nar, bo_n1, bo_nn0, st_bu, st_bu1, st_bu0, st_nu, forall_eq, true_implies, false_implies, forall_const, not_true_eq_false, not_false_eq_true, and_true, true_and, implies_true, and_self, Bool.false_eq_true, Bool.true_eq_false, reduceCtorEq, ite_true, ite_false, if_true, if_false, eq_self, Nat.zero_add, Nat.add_zero, Nat.le_refl, Nat.lt_irrefl, Nat.reduceEqDiff, Nat.reduceLeDiff, Nat.reduceLT, Nat.reduceAdd, Nat.reduceMul, Nat.reduceSub, wX_isTight_3]
  · intro n i hi h
    have hq : t &&& (2 ^ i ^^^ 127) < 128 := nu_and7 ht
    have hb : t / 2 ^ i % 2 < 2 := Nat.mod_lt _ (by decide)
    simp at h
    simp (disch := first | omega | assumption) only [li_0, li_1, li_2, li_3, li_4, li_6, li_7, li_8, li_9, li_10, li_12, li_21, li_24, li_31, li_60, li_63, li_127, li_128, li_256, li_312, li_384, nI_add, nu_mul, nu_sub, nu_div, nu_and, nu_or, nu_shr, nu_bit, nu_diff, bi_2, nI_leI, nI_ltI, nI_eq, vp_in_nI, nI_clamp, ar_na, ar_ba, bo_0, bo_1, bo_it, bo_if, bo_w, bo_w0, bo_w1, bo_nar, bo_n1, bo_nn0, st_bu, st_bu1, st_bu0, st_nu, forall_eq, true_implies, false_implies, forall_const, not_true_eq_false, not_false_eq_true, and_true, true_and, implies_true, and_self, Bool.false_eq_true, Bool.true_eq_false, reduceCtorEq, ite_true, ite_false, if_true, if_false, eq_self, Nat.zero_add, Nat.add_zero, Nat.le_refl, Nat.lt_irrefl, Nat.reduceEqDiff, Nat.reduceLeDiff, Nat.reduceLT, Nat.reduceAdd, Nat.reduceMul, Nat.reduceSub, wX_isTight_3, Nat.not_le.mpr hi, h.1, h.2, xc_holds]
  · intro n i hi h
    have hq : t &&& (2 ^ i ^^^ 127) < 128 := nu_and7 ht
    have hb : t / 2 ^ i % 2 < 2 := Nat.mod_lt _ (by decide)
    simp at h
    by_cases z : t / 2 ^ i % 2 = 1
    · have h' := h.resolve_left (by omega)
      simp (disch := first | omega | assumption) only [li_0, li_1, li_2, li_3, li_4, li_6, li_7, li_8, li_9, li_10, li_12, li_21, li_24, li_31, li_60, li_63, li_127, li_128, li_256, li_312, li_384, nI_add, nu_mul, nu_sub, nu_div, nu_and, nu_or, nu_shr, nu_bit, nu_diff, bi_2, nI_leI, nI_ltI, nI_eq, vp_in_nI, nI_clamp, ar_na, ar_ba, bo_0, bo_1, bo_it, bo_if, bo_w, bo_w0, bo_w1, bo_nar, bo_n1, bo_nn0, st_bu, st_bu1, st_bu0, st_nu, forall_eq, true_implies, false_implies, forall_const, not_true_eq_false, not_false_eq_true, and_true, true_and, implies_true, and_self, Bool.false_eq_true, Bool.true_eq_false, reduceCtorEq, ite_true, ite_false, if_true, if_false, eq_self, Nat.zero_add, Nat.add_zero, Nat.le_refl, Nat.lt_irrefl, Nat.reduceEqDiff, Nat.reduceLeDiff, Nat.reduceLT, Nat.reduceAdd, Nat.reduceMul, Nat.reduceSub, wX_isTight_3, Nat.not_le.mpr hi, z, h', xc_holds]
    · simp (disch := first | omega | assumption) only [li_0, li_1, li_2, li_3, li_4, li_6, li_7, li_8, li_9, li_10, li_12, li_21, li_24, li_31, li_60, li_63, li_127, li_128, li_256, li_312, li_384, nI_add, nu_mul, nu_sub, nu_div, nu_and, nu_or, nu_shr, nu_bit, nu_diff, bi_2, nI_leI, nI_ltI, nI_eq, vp_in_nI, nI_clamp, ar_na, ar_ba, bo_0, bo_1, bo_it, bo_if, bo_w, bo_w0, bo_w1, bo_nar, bo_n1, bo_nn0, st_bu, st_bu1, st_bu0, st_nu, forall_eq, true_implies, false_implies, forall_const, not_true_eq_false, not_false_eq_true, and_true, true_and, implies_true, and_self, Bool.false_eq_true, Bool.true_eq_false, reduceCtorEq, ite_true, ite_false, if_true, if_false, eq_self, Nat.zero_add, Nat.add_zero, Nat.le_refl, Nat.lt_irrefl, Nat.reduceEqDiff, Nat.reduceLeDiff, Nat.reduceLT, Nat.reduceAdd, Nat.reduceMul, Nat.reduceSub, wX_isTight_3, Nat.not_le.mpr hi, z]
theorem xc_tightQuorums (hs : s < 4) (hk : k < 3) : wpX_tightQuorums post (nI bg, ar_b df, ar_b iq, ar_b tb, ar_b up, ar_n op, ar_n ov, ar_n sp, ar_n sv, ar_n qb, ar_n qi, ar_n qv, ar_n ql, ar_n so, ar_b fa, ar_n ba, ar_n an, ar_b co, pc_x pk, ar_b fr, ar_n kv, ar_n vo, ar_n kn) (nI s) (nI k) ↔ post (nI (lo_f (fun t a => if ls_ (fun r => iq (s * 384 + k * 128 + r)) t = true then a + 1 else a) 128 0 0)) := by
  simp only [wpX_tightQuorums]
  refine lo_fold (W := fun n i a => wX_tightQuorums_5 post (nI s) (nI k) (nI bg) (ar_b df) (ar_b iq) (ar_b tb) (ar_b up) (ar_n op) (ar_n ov) (ar_n sp) (ar_n sv) (ar_n qb) (ar_n qi) (ar_n qv) (ar_n ql) (ar_n so) (ar_b fa) (ar_n ba) (ar_n an) (ar_b co) (pc_x pk) (ar_b fr) (ar_n kv) (ar_n vo) (ar_n kn) n (nI a) (nI i)) (fin := fun a => post (nI a)) (I := fun i a => a ≤ i) (e := 128) _ (fun _ _ h => h) ?_ ?_ ?_ 128 0 0 rfl (Nat.le_refl _)
  · intro i a _ h
    split <;> omega
  · intro n a _
    simp (disch := first | omega | assumption) only [li_0, li_1, li_2, li_3, li_4, li_6, li_7, li_8, li_9, li_10, li_12, li_21, li_24, li_31, li_60, li_63, li_127, li_128, li_256, li_312, li_384, nI_add, nu_mul, nu_sub, nu_div, nu_and, nu_or, nu_shr, nu_bit, nu_diff, bi_2, nI_leI, nI_ltI, nI_eq, vp_in_nI, nI_clamp, ar_na, ar_ba, bo_0, bo_1, bo_it, bo_if, bo_w, bo_w0, bo_w1, bo_nar, bo_n1, bo_nn0, st_bu, st_bu1, st_bu0, st_nu, forall_eq, true_implies, false_implies, forall_const, not_true_eq_false, not_false_eq_true, and_true, true_and, implies_true, and_self, Bool.false_eq_true, Bool.true_eq_false, reduceCtorEq, ite_true, ite_false, if_true, if_false, eq_self, Nat.zero_add, Nat.add_zero, Nat.le_refl, Nat.lt_irrefl, Nat.reduceEqDiff, Nat.reduceLeDiff, Nat.reduceLT, Nat.reduceAdd, Nat.reduceMul, Nat.reduceSub, wX_tightQuorums_5]
  · intro n i a hi ha
    cases h : iq (s * 384 + k * 128 + i)
    · have e : ls_ (fun r => iq (s * 384 + k * 128 + r)) i = false := by unfold ls_; dsimp only; rw [h]; rfl
      simp (disch := first | omega | assumption) only [li_0, li_1, li_2, li_3, li_4, li_6, li_7, li_8, li_9, li_10, li_12, li_21, li_24, li_31, li_60, li_63, li_127, li_128, li_256, li_312, li_384, nI_add, nu_mul, nu_sub, nu_div, nu_and, nu_or, nu_shr, nu_bit, nu_diff, bi_2, nI_leI, nI_ltI, nI_eq, vp_in_nI, nI_clamp, ar_na, ar_ba, bo_0, bo_1, bo_it, bo_if, bo_w, bo_w0, bo_w1, bo_nar, bo_n1, bo_nn0, st_bu, st_bu1, st_bu0, st_nu, forall_eq, true_implies, false_implies, forall_const, not_true_eq_false, not_false_eq_true, and_true, true_and, implies_true, and_self, Bool.false_eq_true, Bool.true_eq_false, reduceCtorEq, ite_true, ite_false, if_true, if_false, eq_self, Nat.zero_add, Nat.add_zero, Nat.le_refl, Nat.lt_irrefl, Nat.reduceEqDiff, Nat.reduceLeDiff, Nat.reduceLT, Nat.reduceAdd, Nat.reduceMul, Nat.reduceSub, wX_tightQuorums_5, Nat.not_le.mpr hi, xc_holds, h, e]
    · have e : ls_ (fun r => iq (s * 384 + k * 128 + r)) i = lo_a (fun n => !(i / 2 ^ n % 2 == 1 && iq (s * 384 + k * 128 + (i &&& (2 ^ n ^^^ 127))))) 7 0 := by unfold ls_; dsimp only; rw [h]; rfl
      rw [e]
      cases g : lo_a (fun n => !(i / 2 ^ n % 2 == 1 && iq (s * 384 + k * 128 + (i &&& (2 ^ n ^^^ 127))))) 7 0
      · simp (disch := first | omega | assumption) only [li_0, li_1, li_2, li_3, li_4, li_6, li_7, li_8, li_9, li_10, li_12, li_21, li_24, li_31, li_60, li_63, li_127, li_128, li_256, li_312, li_384, nI_add, nu_mul, nu_sub, nu_div, nu_and, nu_or, nu_shr, nu_bit, nu_diff, bi_2, nI_leI, nI_ltI, nI_eq, vp_in_nI, nI_clamp, ar_na, ar_ba, bo_0, bo_1, bo_it, bo_if, bo_w, bo_w0, bo_w1, bo_nar, bo_n1, bo_nn0, st_bu, st_bu1, st_bu0, st_nu, forall_eq, true_implies, false_implies, forall_const, not_true_eq_false, not_false_eq_true, and_true, true_and, implies_true, and_self, Bool.false_eq_true, Bool.true_eq_false, reduceCtorEq, ite_true, ite_false, if_true, if_false, eq_self, Nat.zero_add, Nat.add_zero, Nat.le_refl, Nat.lt_irrefl, Nat.reduceEqDiff, Nat.reduceLeDiff, Nat.reduceLT, Nat.reduceAdd, Nat.reduceMul, Nat.reduceSub, wX_tightQuorums_5, Nat.not_le.mpr hi, xc_holds, h, xc_isTight, g]
      · simp (disch := first | omega | assumption) only [li_0, li_1, li_2, li_3, li_4, li_6, li_7, li_8, li_9, li_10, li_12, li_21, li_24, li_31, li_60, li_63, li_127, li_128, li_256, li_312, li_384, nI_add, nu_mul, nu_sub, nu_div, nu_and, nu_or, nu_shr, nu_bit, nu_diff, bi_2, nI_leI, nI_ltI, nI_eq, vp_in_nI, nI_clamp, ar_na, ar_ba, bo_0, bo_1, bo_it, bo_if, bo_w, bo_w0, bo_w1, bo_nar, bo_n1, bo_nn0, st_bu, st_bu1, st_bu0, st_nu, forall_eq, true_implies, false_implies, forall_const, not_true_eq_false, not_false_eq_true, and_true, true_and, implies_true, and_self, Bool.false_eq_true, Bool.true_eq_false, reduceCtorEq, ite_true, ite_false, if_true, if_false, eq_self, Nat.zero_add, Nat.add_zero, Nat.le_refl, Nat.lt_irrefl, Nat.reduceEqDiff, Nat.reduceLeDiff, Nat.reduceLT, Nat.reduceAdd, Nat.reduceMul, Nat.reduceSub, wX_tightQuorums_5, Nat.not_le.mpr hi, xc_holds, h, xc_isTight, g]
theorem yc_spare (H : in_s df iq srt num) (hs : s < 4) (hd : df s = true) (hk : k < 3) : wpY_spare post (nI bg, srt, num, ar_n so, ar_n ba, ar_n an, pc_y pk, ar_n kv, ar_b fa, ar_b co, ar_b fr, ar_b dn, ar_n sp, ar_n sv, ar_n ql, ar_n qb, ar_n qj, ar_n qv, ar_n vo, ar_n kn) (nI s) (nI k) ↔ post (nI (sp_ (fun r => iq (s * 384 + k * 128 + r))) - nI 1) := by
  simp only [wpY_spare]
  refine lo_fold (W := fun n i a => wY_spare_6 post (nI s) (nI k) (nI bg) srt num (ar_n so) (ar_n ba) (ar_n an) (pc_y pk) (ar_n kv) (ar_b fa) (ar_b co) (ar_b fr) (ar_b dn) (ar_n sp) (ar_n sv) (ar_n ql) (ar_n qb) (ar_n qj) (ar_n qv) (ar_n vo) (ar_n kn) n (nI a) (nI i)) (fin := fun a => post (nI a - nI 1)) (I := fun _ a => a ≤ 8) (e := 128) (fun r a => if (!iq (s * 384 + k * 128 + (127 &&& (r ^^^ 127)))) = true then min a (sz_ r) else a) (fun _ _ h => h) ?_ ?_ ?_ 128 0 8 rfl (Nat.le_refl _)
  · intro i a _ h
    split <;> omega
  · intro n a _
    simp (disch := omega) only [wY_spare_6, li_127, li_1, nI_ltI, Nat.reduceLT, true_implies, not_true_eq_false, false_implies, and_true]
  · intro n i a hi ha
    have hz := sz_7 i
    have hq : 127 &&& (i ^^^ 127) < 128 := nu_and7 (by decide)
    have hi' : ¬ 127 < i := by omega
    cases h : iq (s * 384 + k * 128 + (127 &&& (i ^^^ 127)))
    · by_cases z : a ≤ sz_ i
      · simp (disch := first | omega | assumption) only [li_0, li_1, li_2, li_3, li_4, li_6, li_7, li_8, li_9, li_10, li_12, li_21, li_24, li_31, li_60, li_63, li_127, li_128, li_256, li_312, li_384, nI_add, nu_mul, nu_sub, nu_div, nu_and, nu_or, nu_shr, nu_bit, nu_diff, bi_2, nI_leI, nI_ltI, nI_eq, vp_in_nI, nI_clamp, ar_na, ar_ba, bo_0, bo_1, bo_it, bo_if, bo_w, bo_w0, bo_w1, bo_nar, bo_n1, bo_nn0, st_bu, st_bu1, st_bu0, st_nu, forall_eq, true_implies, false_implies, forall_const, not_true_eq_false, not_false_eq_true, and_true, true_and, implies_true, and_self, Bool.false_eq_true, Bool.true_eq_false, reduceCtorEq, ite_true, ite_false, if_true, if_false, eq_self, Nat.zero_add, Nat.add_zero, Nat.le_refl, Nat.lt_irrefl, Nat.reduceEqDiff, Nat.reduceLeDiff, Nat.reduceLT, Nat.reduceAdd, Nat.reduceMul, Nat.reduceSub, wY_spare_6, hi', yc_size, z, Nat.min_eq_left z, Bool.not_false]
      · simp (disch := first | omega | assumption) only [li_0, li_1, li_2, li_3, li_4, li_6, li_7, li_8, li_9, li_10, li_12, li_21, li_24, li_31, li_60, li_63, li_127, li_128, li_256, li_312, li_384, nI_add, nu_mul, nu_sub, nu_div, nu_and, nu_or, nu_shr, nu_bit, nu_diff, bi_2, nI_leI, nI_ltI, nI_eq, vp_in_nI, nI_clamp, ar_na, ar_ba, bo_0, bo_1, bo_it, bo_if, bo_w, bo_w0, bo_w1, bo_nar, bo_n1, bo_nn0, st_bu, st_bu1, st_bu0, st_nu, forall_eq, true_implies, false_implies, forall_const, not_true_eq_false, not_false_eq_true, and_true, true_and, implies_true, and_self, Bool.false_eq_true, Bool.true_eq_false, reduceCtorEq, ite_true, ite_false, if_true, if_false, eq_self, Nat.zero_add, Nat.add_zero, Nat.le_refl, Nat.lt_irrefl, Nat.reduceEqDiff, Nat.reduceLeDiff, Nat.reduceLT, Nat.reduceAdd, Nat.reduceMul, Nat.reduceSub, wY_spare_6, hi', yc_size, z, yc_q H, h, Nat.min_eq_right (show sz_ i ≤ a by omega), Bool.not_false]
    · by_cases z : a ≤ sz_ i
      · simp (disch := first | omega | assumption) only [li_0, li_1, li_2, li_3, li_4, li_6, li_7, li_8, li_9, li_10, li_12, li_21, li_24, li_31, li_60, li_63, li_127, li_128, li_256, li_312, li_384, nI_add, nu_mul, nu_sub, nu_div, nu_and, nu_or, nu_shr, nu_bit, nu_diff, bi_2, nI_leI, nI_ltI, nI_eq, vp_in_nI, nI_clamp, ar_na, ar_ba, bo_0, bo_1, bo_it, bo_if, bo_w, bo_w0, bo_w1, bo_nar, bo_n1, bo_nn0, st_bu, st_bu1, st_bu0, st_nu, forall_eq, true_implies, false_implies, forall_const, not_true_eq_false, not_false_eq_true, and_true, true_and, implies_true, and_self, Bool.false_eq_true, Bool.true_eq_false, reduceCtorEq, ite_true, ite_false, if_true, if_false, eq_self, Nat.zero_add, Nat.add_zero, Nat.le_refl, Nat.lt_irrefl, Nat.reduceEqDiff, Nat.reduceLeDiff, Nat.reduceLT, Nat.reduceAdd, Nat.reduceMul, Nat.reduceSub, wY_spare_6, hi', yc_size, z, Bool.not_true]
      · simp (disch := first | omega | assumption) only [li_0, li_1, li_2, li_3, li_4, li_6, li_7, li_8, li_9, li_10, li_12, li_21, li_24, li_31, li_60, li_63, li_127, li_128, li_256, li_312, li_384, nI_add, nu_mul, nu_sub, nu_div, nu_and, nu_or, nu_shr, nu_bit, nu_diff, bi_2, nI_leI, nI_ltI, nI_eq, vp_in_nI, nI_clamp, ar_na, ar_ba, bo_0, bo_1, bo_it, bo_if, bo_w, bo_w0, bo_w1, bo_nar, bo_n1, bo_nn0, st_bu, st_bu1, st_bu0, st_nu, forall_eq, true_implies, false_implies, forall_const, not_true_eq_false, not_false_eq_true, and_true, true_and, implies_true, and_self, Bool.false_eq_true, Bool.true_eq_false, reduceCtorEq, ite_true, ite_false, if_true, if_false, eq_self, Nat.zero_add, Nat.add_zero, Nat.le_refl, Nat.lt_irrefl, Nat.reduceEqDiff, Nat.reduceLeDiff, Nat.reduceLT, Nat.reduceAdd, Nat.reduceMul, Nat.reduceSub, wY_spare_6, hi', yc_size, z, yc_q H, h, Bool.not_true]
theorem yc_isLeast (H : in_s df iq srt num) (hs : s < 4) (hd : df s = true) (hk : k < 3) (ht : t < 128) : wpY_isLeast post (nI bg, srt, num, ar_n so, ar_n ba, ar_n an, pc_y pk, ar_n kv, ar_b fa, ar_b co, ar_b fr, ar_b dn, ar_n sp, ar_n sv, ar_n ql, ar_n qb, ar_n qj, ar_n qv, ar_n vo, ar_n kn) (nI s) (nI k) (nI t) ↔ post (bo_i (ls_ (fun r => iq (s * 384 + k * 128 + r)) t)) := by
  cases h : iq (s * 384 + k * 128 + t)
  · have e : ls_ (fun r => iq (s * 384 + k * 128 + r)) t = false := by unfold ls_; dsimp only; rw [h]; rfl
    rw [e]
    simp (disch := first | omega | assumption) only [li_0, li_1, li_2, li_3, li_4, li_6, li_7, li_8, li_9, li_10, li_12, li_21, li_24, li_31, li_60, li_63, li_127, li_128, li_256, li_312, li_384, nI_add, nu_mul, nu_sub, nu_div, nu_and, nu_or, nu_shr, nu_bit, nu_diff, bi_2, nI_leI, nI_ltI, nI_eq, vp_in_nI, nI_clamp, ar_na, ar_ba, bo_0, bo_1, bo_it, bo_if, bo_w, bo_w0, bo_w1, bo_nar, bo_n1, bo_nn0, st_bu, st_bu1, st_bu0, st_nu, forall_eq, true_implies, false_implies, forall_const, not_true_eq_false, not_false_eq_true, and_true, true_and, implies_true, and_self, Bool.false_eq_true, Bool.true_eq_false, reduceCtorEq, ite_true, ite_false, if_true, if_false, eq_self, Nat.zero_add, Nat.add_zero, Nat.le_refl, Nat.lt_irrefl, Nat.reduceEqDiff, Nat.reduceLeDiff, Nat.reduceLT, Nat.reduceAdd, Nat.reduceMul, Nat.reduceSub, wpY_isLeast, yc_q H, h]
  · have e : ls_ (fun r => iq (s * 384 + k * 128 + r)) t = lo_a (fun n => !(t / 2 ^ n % 2 == 1 && iq (s * 384 + k * 128 + (t &&& (2 ^ n ^^^ 127))))) 7 0 := by unfold ls_; dsimp only; rw [h]; rfl
    rw [e]
    simp (disch := first | omega | assumption) only [wpY_isLeast, yc_q H, h, li_0, bo_0, Bool.true_eq_false, not_false_eq_true, false_implies, true_implies, true_and]
    refine (lo_all (W := fun n i => wY_isLeast_15 post (nI s) (nI k) (nI t) (nI bg) srt num (ar_n so) (ar_n ba) (ar_n an) (pc_y pk) (ar_n kv) (ar_b fa) (ar_b co) (ar_b fr) (ar_b dn) (ar_n sp) (ar_n sv) (ar_n ql) (ar_n qb) (ar_n qj) (ar_n qv) (ar_n vo) (ar_n kn) n (nI i)) (A := post (nI 0)) (B := post (nI 1)) (e := 7) _ (fun _ h => h) ?_ ?_ ?_ 7 0 rfl).trans bo_pr
    · intro n
      simp (disch := first | omega | assumption) only [li_0, li_1, li_2, li_3, li_4, li_6, li_7, li_8, li_9, li_10, li_12, li_21, li_24, li_31, li_60, li_63, li_127, li_128, li_256, li_312, li_384, nI_add, nu_mul, nu_sub, nu_div, nu_and, nu_or, nu_shr, nu_bit, nu_diff, bi_2, nI_leI, nI_ltI, nI_eq, vp_in_nI, nI_clamp, ar_na, ar_ba, bo_0, bo_1, bo_it, bo_if, bo_w, bo_w0, bo_w1, bo_nar, bo_n1, bo_nn0, st_bu, st_bu1, st_bu0, st_nu, forall_eq, true_implies, false_implies, forall_const, not_true_eq_false, not_false_eq_true, and_true, true_and, implies_true, and_self, Bool.false_eq_true, Bool.true_eq_false, reduceCtorEq, ite_true, ite_false, if_true, if_false, eq_self, Nat.zero_add, Nat.add_zero, Nat.le_refl, Nat.lt_irrefl, Nat.reduceEqDiff, Nat.reduceLeDiff, Nat.reduceLT, Nat.reduceAdd, Nat.reduceMul, Nat.reduceSub, wY_isLeast_15]
    · intro n i hi h
      have hq : t &&& (2 ^ i ^^^ 127) < 128 := nu_and7 ht
      have hb : t / 2 ^ i % 2 < 2 := Nat.mod_lt _ (by decide)
      simp at h
      simp (disch := first | omega | assumption) only [li_0, li_1, li_2, li_3, li_4, li_6, li_7, li_8, li_9, li_10, li_12, li_21, li_24, li_31, li_60, li_63, li_127, li_128, li_256, li_312, li_384, nI_add, nu_mul, nu_sub, nu_div, nu_and, nu_or, nu_shr, nu_bit, nu_diff, bi_2, nI_leI, nI_ltI, nI_eq, vp_in_nI, nI_clamp, ar_na, ar_ba, bo_0, bo_1, bo_it, bo_if, bo_w, bo_w0, bo_w1, bo_nar, bo_n1, bo_nn0, st_bu, st_bu1, st_bu0, st_nu, forall_eq, true_implies, false_implies, forall_const, not_true_eq_false, not_false_eq_true, and_true, true_and, implies_true, and_self, Bool.false_eq_true, Bool.true_eq_false, reduceCtorEq, ite_true, ite_false, if_true, if_false, eq_self, Nat.zero_add, Nat.add_zero, Nat.le_refl, Nat.lt_irrefl, Nat.reduceEqDiff, Nat.reduceLeDiff, Nat.reduceLT, Nat.reduceAdd, Nat.reduceMul, Nat.reduceSub, wY_isLeast_15, Nat.not_le.mpr hi, h.1, h.2, yc_q H]
    · intro n i hi h
      have hq : t &&& (2 ^ i ^^^ 127) < 128 := nu_and7 ht
      have hb : t / 2 ^ i % 2 < 2 := Nat.mod_lt _ (by decide)
      simp at h
      by_cases z : t / 2 ^ i % 2 = 1
      · have h' := h.resolve_left (by omega)
        simp (disch := first | omega | assumption) only [li_0, li_1, li_2, li_3, li_4, li_6, li_7, li_8, li_9, li_10, li_12, li_21, li_24, li_31, li_60, li_63, li_127, li_128, li_256, li_312, li_384, nI_add, nu_mul, nu_sub, nu_div, nu_and, nu_or, nu_shr, nu_bit, nu_diff, bi_2, nI_leI, nI_ltI, nI_eq, vp_in_nI, nI_clamp, ar_na, ar_ba, bo_0, bo_1, bo_it, bo_if, bo_w, bo_w0, bo_w1, bo_nar, bo_n1, bo_nn0, st_bu, st_bu1, st_bu0, st_nu, forall_eq, true_implies, false_implies, forall_const, not_true_eq_false, not_false_eq_true, and_true, true_and, implies_true, and_self, Bool.false_eq_true, Bool.true_eq_false, reduceCtorEq, ite_true, ite_false, if_true, if_false, eq_self, Nat.zero_add, Nat.add_zero, Nat.le_refl, Nat.lt_irrefl, Nat.reduceEqDiff, Nat.reduceLeDiff, Nat.reduceLT, Nat.reduceAdd, Nat.reduceMul, Nat.reduceSub, wY_isLeast_15, Nat.not_le.mpr hi, z, h', yc_q H]
      · simp (disch := first | omega | assumption) only [li_0, li_1, li_2, li_3, li_4, li_6, li_7, li_8, li_9, li_10, li_12, li_21, li_24, li_31, li_60, li_63, li_127, li_128, li_256, li_312, li_384, nI_add, nu_mul, nu_sub, nu_div, nu_and, nu_or, nu_shr, nu_bit, nu_diff, bi_2, nI_leI, nI_ltI, nI_eq, vp_in_nI, nI_clamp, ar_na, ar_ba, bo_0, bo_1, bo_it, bo_if, bo_w, bo_w0, bo_w1, bo_nar, bo_n1, bo_nn0, st_bu, st_bu1, st_bu0, st_nu, forall_eq, true_implies, false_implies, forall_const, not_true_eq_false, not_false_eq_true, and_true, true_and, implies_true, and_self, Bool.false_eq_true, Bool.true_eq_false, reduceCtorEq, ite_true, ite_false, if_true, if_false, eq_self, Nat.zero_add, Nat.add_zero, Nat.le_refl, Nat.lt_irrefl, Nat.reduceEqDiff, Nat.reduceLeDiff, Nat.reduceLT, Nat.reduceAdd, Nat.reduceMul, Nat.reduceSub, wY_isLeast_15, Nat.not_le.mpr hi, z]
def sy_ (Q : Nat → Bool) : Nat × Nat := lo_f (fun t (p : Nat × Nat) => if ls_ Q t = true then (min p.1 (sz_ t), p.2 + 1) else p) 128 0 (7, 0)
theorem sy_g {Q : Nat → Bool} : ∀ d i (p : Nat × Nat), lo_f (fun t (p : Nat × Nat) => if ls_ Q t = true then (min p.1 (sz_ t), p.2 + 1) else p) d i p = (lo_f (fun r a => if ls_ Q r = true then min a (sz_ r) else a) d i p.1, lo_f (fun t a => if ls_ Q t = true then a + 1 else a) d i p.2)
  | 0, _, _ => rfl
  | d + 1, i, p => by
    unfold lo_f
    rw [sy_g d (i + 1)]
    cases ls_ Q i <;> rfl
theorem yc_system69 (H : in_s df iq srt num) (hs : s < 4) (hd : df s = true) (hk : k < 3) (hm : m < 3) : (∃ n, wY_system_69 post (nI s) (nI k) (nI m) (nI bg) srt num (ar_n so) (ar_n ba) (ar_n an) (pc_y pk) (ar_n kv) (ar_b fa) (ar_b co) (ar_b fr) (ar_b dn) (ar_n sp) (ar_n sv) (ar_n ql) (ar_n qb) (ar_n qj) (ar_n qv) (ar_n vo) (ar_n kn) n (nI 7) (nI 0) (nI 0)) ↔ post (nI (if m = 0 then (sy_ (fun r => iq (s * 384 + k * 128 + r))).1 else (sy_ (fun r => iq (s * 384 + k * 128 + r))).2)) := by
  refine lo_fold (W := fun n i (p : Nat × Nat) => wY_system_69 post (nI s) (nI k) (nI m) (nI bg) srt num (ar_n so) (ar_n ba) (ar_n an) (pc_y pk) (ar_n kv) (ar_b fa) (ar_b co) (ar_b fr) (ar_b dn) (ar_n sp) (ar_n sv) (ar_n ql) (ar_n qb) (ar_n qj) (ar_n qv) (ar_n vo) (ar_n kn) n (nI p.1) (nI p.2) (nI i)) (fin := fun p => post (nI (if m = 0 then p.1 else p.2))) (I := fun i p => p.1 ≤ 7 ∧ p.2 ≤ i) (e := 128) _ (fun _ _ h => h) ?_ ?_ ?_ 128 0 (7, 0) rfl ⟨Nat.le_refl _, Nat.le_refl _⟩
  · intro i p _ h
    split
    · exact ⟨by show min p.1 _ ≤ 7; omega, by show p.2 + 1 ≤ _; omega⟩
    · omega
  · intro n p h
    by_cases z : m = 0
    · simp (disch := first | omega | assumption) only [li_0, li_1, li_2, li_3, li_4, li_6, li_7, li_8, li_9, li_10, li_12, li_21, li_24, li_31, li_60, li_63, li_127, li_128, li_256, li_312, li_384, nI_add, nu_mul, nu_sub, nu_div, nu_and, nu_or, nu_shr, nu_bit, nu_diff, bi_2, nI_leI, nI_ltI, nI_eq, vp_in_nI, nI_clamp, ar_na, ar_ba, bo_0, bo_1, bo_it, bo_if, bo_w, bo_w0, bo_w1, bo_nar, bo_n1, bo_nn0, st_bu, st_bu1, st_bu0, st_nu, forall_eq, true_implies, false_implies, forall_const, not_true_eq_false, not_false_eq_true, and_true, true_and, implies_true, and_self, Bool.false_eq_true, Bool.true_eq_false, reduceCtorEq, ite_true, ite_false, if_true, if_false, eq_self, Nat.zero_add, Nat.add_zero, Nat.le_refl, Nat.lt_irrefl, Nat.reduceEqDiff, Nat.reduceLeDiff, Nat.reduceLT, Nat.reduceAdd, Nat.reduceMul, Nat.reduceSub, wY_system_69, z]
    · simp (disch := first | omega | assumption) only [li_0, li_1, li_2, li_3, li_4, li_6, li_7, li_8, li_9, li_10, li_12, li_21, li_24, li_31, li_60, li_63, li_127, li_128, li_256, li_312, li_384, nI_add, nu_mul, nu_sub, nu_div, nu_and, nu_or, nu_shr, nu_bit, nu_diff, bi_2, nI_leI, nI_ltI, nI_eq, vp_in_nI, nI_clamp, ar_na, ar_ba, bo_0, bo_1, bo_it, bo_if, bo_w, bo_w0, bo_w1, bo_nar, bo_n1, bo_nn0, st_bu, st_bu1, st_bu0, st_nu, forall_eq, true_implies, false_implies, forall_const, not_true_eq_false, not_false_eq_true, and_true, true_and, implies_true, and_self, Bool.false_eq_true, Bool.true_eq_false, reduceCtorEq, ite_true, ite_false, if_true, if_false, eq_self, Nat.zero_add, Nat.add_zero, Nat.le_refl, Nat.lt_irrefl, Nat.reduceEqDiff, Nat.reduceLeDiff, Nat.reduceLT, Nat.reduceAdd, Nat.reduceMul, Nat.reduceSub, wY_system_69, z]
  · intro n i p hi h
    obtain ⟨a, b⟩ := p
    obtain ⟨h1, h2⟩ := h
    dsimp only at h1 h2 ⊢
    have hz := sz_7 i
    have hi' : ¬ 127 < i := by omega
    cases e : ls_ (fun r => iq (s * 384 + k * 128 + r)) i
    · simp (disch := first | omega | assumption) only [li_0, li_1, li_2, li_3, li_4, li_6, li_7, li_8, li_9, li_10, li_12, li_21, li_24, li_31, li_60, li_63, li_127, li_128, li_256, li_312, li_384, nI_add, nu_mul, nu_sub, nu_div, nu_and, nu_or, nu_shr, nu_bit, nu_diff, bi_2, nI_leI, nI_ltI, nI_eq, vp_in_nI, nI_clamp, ar_na, ar_ba, bo_0, bo_1, bo_it, bo_if, bo_w, bo_w0, bo_w1, bo_nar, bo_n1, bo_nn0, st_bu, st_bu1, st_bu0, st_nu, forall_eq, true_implies, false_implies, forall_const, not_true_eq_false, not_false_eq_true, and_true, true_and, implies_true, and_self, Bool.false_eq_true, Bool.true_eq_false, reduceCtorEq, ite_true, ite_false, if_true, if_false, eq_self, Nat.zero_add, Nat.add_zero, Nat.le_refl, Nat.lt_irrefl, Nat.reduceEqDiff, Nat.reduceLeDiff, Nat.reduceLT, Nat.reduceAdd, Nat.reduceMul, Nat.reduceSub, wY_system_69, hi', yc_isLeast H, e]
    · by_cases z : a ≤ sz_ i
      · simp (disch := first | omega | assumption) only [li_0, li_1, li_2, li_3, li_4, li_6, li_7, li_8, li_9, li_10, li_12, li_21, li_24, li_31, li_60, li_63, li_127, li_128, li_256, li_312, li_384, nI_add, nu_mul, nu_sub, nu_div, nu_and, nu_or, nu_shr, nu_bit, nu_diff, bi_2, nI_leI, nI_ltI, nI_eq, vp_in_nI, nI_clamp, ar_na, ar_ba, bo_0, bo_1, bo_it, bo_if, bo_w, bo_w0, bo_w1, bo_nar, bo_n1, bo_nn0, st_bu, st_bu1, st_bu0, st_nu, forall_eq, true_implies, false_implies, forall_const, not_true_eq_false, not_false_eq_true, and_true, true_and, implies_true, and_self, Bool.false_eq_true, Bool.true_eq_false, reduceCtorEq, ite_true, ite_false, if_true, if_false, eq_self, Nat.zero_add, Nat.add_zero, Nat.le_refl, Nat.lt_irrefl, Nat.reduceEqDiff, Nat.reduceLeDiff, Nat.reduceLT, Nat.reduceAdd, Nat.reduceMul, Nat.reduceSub, wY_system_69, hi', yc_isLeast H, e, yc_size, z, Nat.min_eq_left z]
      · simp (disch := first | omega | assumption) only [li_0, li_1, li_2, li_3, li_4, li_6, li_7, li_8, li_9, li_10, li_12, li_21, li_24, li_31, li_60, li_63, li_127, li_128, li_256, li_312, li_384, nI_add, nu_mul, nu_sub, nu_div, nu_and, nu_or, nu_shr, nu_bit, nu_diff, bi_2, nI_leI, nI_ltI, nI_eq, vp_in_nI, nI_clamp, ar_na, ar_ba, bo_0, bo_1, bo_it, bo_if, bo_w, bo_w0, bo_w1, bo_nar, bo_n1, bo_nn0, st_bu, st_bu1, st_bu0, st_nu, forall_eq, true_implies, false_implies, forall_const, not_true_eq_false, not_false_eq_true, and_true, true_and, implies_true, and_self, Bool.false_eq_true, Bool.true_eq_false, reduceCtorEq, ite_true, ite_false, if_true, if_false, eq_self, Nat.zero_add, Nat.add_zero, Nat.le_refl, Nat.lt_irrefl, Nat.reduceEqDiff, Nat.reduceLeDiff, Nat.reduceLT, Nat.reduceAdd, Nat.reduceMul, Nat.reduceSub, wY_system_69, hi', yc_isLeast H, e, yc_size, z, Nat.min_eq_right (show sz_ i ≤ a by omega)]
def va_sys (Q : Nat → Bool) (m : Nat) : Int32 :=
  if m = 0 then (if Q 127 = true then nI (lo_f (fun r a => if ls_ Q r = true then min a (sz_ r) else a) 128 0 7) else -nI 3)
  else if m = 1 then (if Q 127 = true then nI (sp_ Q) - nI 1 else -nI 3)
  else nI (lo_f (fun t a => if ls_ Q t = true then a + 1 else a) 128 0 0)
def va_system (df iq : Nat → Bool) (x y z : Int32) : Int32 := if (iz 0 3 x && df (cl_ x) && iz 0 2 y && iz 0 2 z) = true then va_sys (fun r => iq (cl_ x * 384 + cl_ y * 128 + r)) (cl_ z) else -nI 1
theorem in_top (H : in_s df iq srt num) (hs : s < 4) (hd : df s = true) (hk : k < 3) (ht : t < 128) (h : iq (s * 384 + k * 128 + t) = true) : iq (s * 384 + k * 128 + 127) = true := by
  rcases H s hs with ⟨g, _⟩ | ⟨_, hr, hq⟩
  · rw [hd] at g; exact nomatch g
  · rw [hq k 127 hk (by decide)]
    rw [hq k t hk ht] at h
    exact qf_top hr hk ht h
theorem xc_least (H : in_s df iq srt num) (hs : s < 4) (hd : df s = true) (hk : k < 3) : wpX_leastQuorum post (nI bg, ar_b df, ar_b iq, ar_b tb, ar_b up, ar_n op, ar_n ov, ar_n sp, ar_n sv, ar_n qb, ar_n qi, ar_n qv, ar_n ql, ar_n so, ar_b fa, ar_n ba, ar_n an, ar_b co, pc_x pk, ar_b fr, ar_n kv, ar_n vo, ar_n kn) (nI s) (nI k) ↔ post (va_sys (fun r => iq (s * 384 + k * 128 + r)) 0) := by
  rw [xc_leastQuorum hs hk]
  show _ ↔ post (if iq (s * 384 + k * 128 + 127) = true then _ else _)
  cases h : iq (s * 384 + k * 128 + 127)
  · rw [mi_none (Q := fun r => iq (s * 384 + k * 128 + r)) (fun r hr => by
      cases e : iq (s * 384 + k * 128 + r)
      · rfl
      · rw [in_top H hs hd hk hr e] at h; exact nomatch h)]
    simp only [mn_8, Bool.false_eq_true, if_false]
  · rw [mi_top (Q := fun r => iq (s * 384 + k * 128 + r)) h, mn_lt (Nat.lt_of_le_of_lt mi_le (by decide))]
    simp only [if_true]
theorem xc_system {y z : Int32} (H : in_s df iq srt num) : wpX_system post (nI bg, ar_b df, ar_b iq, ar_b tb, ar_b up, ar_n op, ar_n ov, ar_n sp, ar_n sv, ar_n qb, ar_n qi, ar_n qv, ar_n ql, ar_n so, ar_b fa, ar_n ba, ar_n an, ar_b co, pc_x pk, ar_b fr, ar_n kv, ar_n vo, ar_n kn) x y z ↔ post (va_system df iq x y z) := by
  unfold va_system
  simp (disch := first | omega | assumption) only [li_0, li_1, li_2, li_3, li_4, li_6, li_7, li_8, li_9, li_10, li_12, li_21, li_24, li_31, li_60, li_63, li_127, li_128, li_256, li_312, li_384, nI_add, nu_mul, nu_sub, nu_div, nu_and, nu_or, nu_shr, nu_bit, nu_diff, bi_2, nI_leI, nI_ltI, nI_eq, vp_in_nI, nI_clamp, ar_na, ar_ba, bo_0, bo_1, bo_it, bo_if, bo_w, bo_w0, bo_w1, bo_nar, bo_n1, bo_nn0, st_bu, st_bu1, st_bu0, st_nu, forall_eq, true_implies, false_implies, forall_const, not_true_eq_false, not_false_eq_true, and_true, true_and, implies_true, and_self, Bool.false_eq_true, Bool.true_eq_false, reduceCtorEq, ite_true, ite_false, if_true, if_false, eq_self, Nat.zero_add, Nat.add_zero, Nat.le_refl, Nat.lt_irrefl, Nat.reduceEqDiff, Nat.reduceLeDiff, Nat.reduceLT, Nat.reduceAdd, Nat.reduceMul, Nat.reduceSub, wpX_system, xc_isSystem, xc_isKind]
  rcases iz_c 0 3 x with h | ⟨j, h1, h2, h3, rfl, h⟩
  · simp [h]
  · rw [cl_n h3]
    cases hd : df j
    · simp [h]
    · rcases iz_c 0 2 y with g | ⟨k, g1, g2, g3, rfl, g⟩
      · simp [h, g]
      · simp only [h, g, Bool.and_self, Bool.true_and, Bool.true_eq_false, not_false_eq_true, false_implies, true_implies, true_and]
        refine (iz_C (b := 2) (by decide)).trans ?_
        rcases iz_c 0 2 z with e | ⟨t, e1, e2, e3, rfl, e⟩
        · simp [e]
        · rcases (by omega : t = 0 ∨ t = 1 ∨ t = 2) with rfl | rfl | rfl
          · simp (disch := first | omega | assumption) only [li_0, li_1, li_2, li_3, li_4, li_6, li_7, li_8, li_9, li_10, li_12, li_21, li_24, li_31, li_60, li_63, li_127, li_128, li_256, li_312, li_384, nI_add, nu_mul, nu_sub, nu_div, nu_and, nu_or, nu_shr, nu_bit, nu_diff, bi_2, nI_leI, nI_ltI, nI_eq, vp_in_nI, nI_clamp, ar_na, ar_ba, bo_0, bo_1, bo_it, bo_if, bo_w, bo_w0, bo_w1, bo_nar, bo_n1, bo_nn0, st_bu, st_bu1, st_bu0, st_nu, forall_eq, true_implies, false_implies, forall_const, not_true_eq_false, not_false_eq_true, and_true, true_and, implies_true, and_self, Bool.false_eq_true, Bool.true_eq_false, reduceCtorEq, ite_true, ite_false, if_true, if_false, eq_self, Nat.zero_add, Nat.add_zero, Nat.le_refl, Nat.lt_irrefl, Nat.reduceEqDiff, Nat.reduceLeDiff, Nat.reduceLT, Nat.reduceAdd, Nat.reduceMul, Nat.reduceSub, e, xc_least H, cl_n]
          · simp (disch := first | omega | assumption) only [li_0, li_1, li_2, li_3, li_4, li_6, li_7, li_8, li_9, li_10, li_12, li_21, li_24, li_31, li_60, li_63, li_127, li_128, li_256, li_312, li_384, nI_add, nu_mul, nu_sub, nu_div, nu_and, nu_or, nu_shr, nu_bit, nu_diff, bi_2, nI_leI, nI_ltI, nI_eq, vp_in_nI, nI_clamp, ar_na, ar_ba, bo_0, bo_1, bo_it, bo_if, bo_w, bo_w0, bo_w1, bo_nar, bo_n1, bo_nn0, st_bu, st_bu1, st_bu0, st_nu, forall_eq, true_implies, false_implies, forall_const, not_true_eq_false, not_false_eq_true, and_true, true_and, implies_true, and_self, Bool.false_eq_true, Bool.true_eq_false, reduceCtorEq, ite_true, ite_false, if_true, if_false, eq_self, Nat.zero_add, Nat.add_zero, Nat.le_refl, Nat.lt_irrefl, Nat.reduceEqDiff, Nat.reduceLeDiff, Nat.reduceLT, Nat.reduceAdd, Nat.reduceMul, Nat.reduceSub, e, xc_mostLosses, cl_n]
            exact Iff.rfl
          · simp (disch := first | omega | assumption) only [li_0, li_1, li_2, li_3, li_4, li_6, li_7, li_8, li_9, li_10, li_12, li_21, li_24, li_31, li_60, li_63, li_127, li_128, li_256, li_312, li_384, nI_add, nu_mul, nu_sub, nu_div, nu_and, nu_or, nu_shr, nu_bit, nu_diff, bi_2, nI_leI, nI_ltI, nI_eq, vp_in_nI, nI_clamp, ar_na, ar_ba, bo_0, bo_1, bo_it, bo_if, bo_w, bo_w0, bo_w1, bo_nar, bo_n1, bo_nn0, st_bu, st_bu1, st_bu0, st_nu, forall_eq, true_implies, false_implies, forall_const, not_true_eq_false, not_false_eq_true, and_true, true_and, implies_true, and_self, Bool.false_eq_true, Bool.true_eq_false, reduceCtorEq, ite_true, ite_false, if_true, if_false, eq_self, Nat.zero_add, Nat.add_zero, Nat.le_refl, Nat.lt_irrefl, Nat.reduceEqDiff, Nat.reduceLeDiff, Nat.reduceLT, Nat.reduceAdd, Nat.reduceMul, Nat.reduceSub, e, xc_tightQuorums, cl_n]
            exact Iff.rfl
theorem yc_system {y z : Int32} (H : in_s df iq srt num) : wpY_system post (nI bg, srt, num, ar_n so, ar_n ba, ar_n an, pc_y pk, ar_n kv, ar_b fa, ar_b co, ar_b fr, ar_b dn, ar_n sp, ar_n sv, ar_n ql, ar_n qb, ar_n qj, ar_n qv, ar_n vo, ar_n kn) x y z ↔ post (va_system df iq x y z) := by
  unfold va_system
  rcases iz_c 0 3 x with h | ⟨j, h1, h2, h3, rfl, h⟩
  · simp (disch := first | omega | assumption) only [li_0, li_1, li_2, li_3, li_4, li_6, li_7, li_8, li_9, li_10, li_12, li_21, li_24, li_31, li_60, li_63, li_127, li_128, li_256, li_312, li_384, nI_add, nu_mul, nu_sub, nu_div, nu_and, nu_or, nu_shr, nu_bit, nu_diff, bi_2, nI_leI, nI_ltI, nI_eq, vp_in_nI, nI_clamp, ar_na, ar_ba, bo_0, bo_1, bo_it, bo_if, bo_w, bo_w0, bo_w1, bo_nar, bo_n1, bo_nn0, st_bu, st_bu1, st_bu0, st_nu, forall_eq, true_implies, false_implies, forall_const, not_true_eq_false, not_false_eq_true, and_true, true_and, implies_true, and_self, Bool.false_eq_true, Bool.true_eq_false, reduceCtorEq, ite_true, ite_false, if_true, if_false, eq_self, Nat.zero_add, Nat.add_zero, Nat.le_refl, Nat.lt_irrefl, Nat.reduceEqDiff, Nat.reduceLeDiff, Nat.reduceLT, Nat.reduceAdd, Nat.reduceMul, Nat.reduceSub, wpY_system, yc_isSystem H, yc_in, h, Bool.false_and]
  · rw [cl_n h3]
    cases hd : df j
    · simp (disch := first | omega | assumption) only [li_0, li_1, li_2, li_3, li_4, li_6, li_7, li_8, li_9, li_10, li_12, li_21, li_24, li_31, li_60, li_63, li_127, li_128, li_256, li_312, li_384, nI_add, nu_mul, nu_sub, nu_div, nu_and, nu_or, nu_shr, nu_bit, nu_diff, bi_2, nI_leI, nI_ltI, nI_eq, vp_in_nI, nI_clamp, ar_na, ar_ba, bo_0, bo_1, bo_it, bo_if, bo_w, bo_w0, bo_w1, bo_nar, bo_n1, bo_nn0, st_bu, st_bu1, st_bu0, st_nu, forall_eq, true_implies, false_implies, forall_const, not_true_eq_false, not_false_eq_true, and_true, true_and, implies_true, and_self, Bool.false_eq_true, Bool.true_eq_false, reduceCtorEq, ite_true, ite_false, if_true, if_false, eq_self, Nat.zero_add, Nat.add_zero, Nat.le_refl, Nat.lt_irrefl, Nat.reduceEqDiff, Nat.reduceLeDiff, Nat.reduceLT, Nat.reduceAdd, Nat.reduceMul, Nat.reduceSub, wpY_system, yc_isSystem H, yc_in, h, hd, cl_n, Bool.and_false, Bool.false_and]
    · rcases iz_c 0 2 y with g | ⟨k, g1, g2, g3, rfl, g⟩
      · simp (disch := first | omega | assumption) only [li_0, li_1, li_2, li_3, li_4, li_6, li_7, li_8, li_9, li_10, li_12, li_21, li_24, li_31, li_60, li_63, li_127, li_128, li_256, li_312, li_384, nI_add, nu_mul, nu_sub, nu_div, nu_and, nu_or, nu_shr, nu_bit, nu_diff, bi_2, nI_leI, nI_ltI, nI_eq, vp_in_nI, nI_clamp, ar_na, ar_ba, bo_0, bo_1, bo_it, bo_if, bo_w, bo_w0, bo_w1, bo_nar, bo_n1, bo_nn0, st_bu, st_bu1, st_bu0, st_nu, forall_eq, true_implies, false_implies, forall_const, not_true_eq_false, not_false_eq_true, and_true, true_and, implies_true, and_self, Bool.false_eq_true, Bool.true_eq_false, reduceCtorEq, ite_true, ite_false, if_true, if_false, eq_self, Nat.zero_add, Nat.add_zero, Nat.le_refl, Nat.lt_irrefl, Nat.reduceEqDiff, Nat.reduceLeDiff, Nat.reduceLT, Nat.reduceAdd, Nat.reduceMul, Nat.reduceSub, wpY_system, yc_isSystem H, yc_in, h, hd, g, cl_n, Bool.and_false, Bool.false_and, Bool.and_self]
      · rcases iz_c 0 2 z with e | ⟨t, e1, e2, e3, rfl, e⟩
        · simp (disch := first | omega | assumption) only [li_0, li_1, li_2, li_3, li_4, li_6, li_7, li_8, li_9, li_10, li_12, li_21, li_24, li_31, li_60, li_63, li_127, li_128, li_256, li_312, li_384, nI_add, nu_mul, nu_sub, nu_div, nu_and, nu_or, nu_shr, nu_bit, nu_diff, bi_2, nI_leI, nI_ltI, nI_eq, vp_in_nI, nI_clamp, ar_na, ar_ba, bo_0, bo_1, bo_it, bo_if, bo_w, bo_w0, bo_w1, bo_nar, bo_n1, bo_nn0, st_bu, st_bu1, st_bu0, st_nu, forall_eq, true_implies, false_implies, forall_const, not_true_eq_false, not_false_eq_true, and_true, true_and, implies_true, and_self, Bool.false_eq_true, Bool.true_eq_false, reduceCtorEq, ite_true, ite_false, if_true, if_false, eq_self, Nat.zero_add, Nat.add_zero, Nat.le_refl, Nat.lt_irrefl, Nat.reduceEqDiff, Nat.reduceLeDiff, Nat.reduceLT, Nat.reduceAdd, Nat.reduceMul, Nat.reduceSub, wpY_system, yc_isSystem H, yc_in, h, hd, g, e, cl_n, Bool.and_false, Bool.false_and, Bool.and_self]
        · have key := yc_system69 (post := post) (fa := fa) (co := co) (fr := fr) (dn := dn) (sp := sp) (sv := sv) (qb := qb) (qj := qj) (qv := qv) (ql := ql) (so := so) (ba := ba) (an := an) (pk := pk) (kv := kv) (vo := vo) (kn := kn) (bg := bg) H (show j < 4 by omega) hd (show k < 3 by omega) (show t < 3 by omega)
          rw [sy_, sy_g] at key
          rcases (by omega : t = 0 ∨ t = 1 ∨ t = 2) with rfl | rfl | rfl
          · cases q : iq (j * 384 + k * 128 + 127)
            · simp (disch := first | omega | assumption) only [li_0, li_1, li_2, li_3, li_4, li_6, li_7, li_8, li_9, li_10, li_12, li_21, li_24, li_31, li_60, li_63, li_127, li_128, li_256, li_312, li_384, nI_add, nu_mul, nu_sub, nu_div, nu_and, nu_or, nu_shr, nu_bit, nu_diff, bi_2, nI_leI, nI_ltI, nI_eq, vp_in_nI, nI_clamp, ar_na, ar_ba, bo_0, bo_1, bo_it, bo_if, bo_w, bo_w0, bo_w1, bo_nar, bo_n1, bo_nn0, st_bu, st_bu1, st_bu0, st_nu, forall_eq, true_implies, false_implies, forall_const, not_true_eq_false, not_false_eq_true, and_true, true_and, implies_true, and_self, Bool.false_eq_true, Bool.true_eq_false, reduceCtorEq, ite_true, ite_false, if_true, if_false, eq_self, Nat.zero_add, Nat.add_zero, Nat.le_refl, Nat.lt_irrefl, Nat.reduceEqDiff, Nat.reduceLeDiff, Nat.reduceLT, Nat.reduceAdd, Nat.reduceMul, Nat.reduceSub, wpY_system, yc_isSystem H, yc_in, h, hd, g, e, cl_n, Bool.and_self, yc_q H, q, va_sys]
            · simp (disch := first | omega | assumption) only [li_0, li_1, li_2, li_3, li_4, li_6, li_7, li_8, li_9, li_10, li_12, li_21, li_24, li_31, li_60, li_63, li_127, li_128, li_256, li_312, li_384, nI_add, nu_mul, nu_sub, nu_div, nu_and, nu_or, nu_shr, nu_bit, nu_diff, bi_2, nI_leI, nI_ltI, nI_eq, vp_in_nI, nI_clamp, ar_na, ar_ba, bo_0, bo_1, bo_it, bo_if, bo_w, bo_w0, bo_w1, bo_nar, bo_n1, bo_nn0, st_bu, st_bu1, st_bu0, st_nu, forall_eq, true_implies, false_implies, forall_const, not_true_eq_false, not_false_eq_true, and_true, true_and, implies_true, and_self, Bool.false_eq_true, Bool.true_eq_false, reduceCtorEq, ite_true, ite_false, if_true, if_false, eq_self, Nat.zero_add, Nat.add_zero, Nat.le_refl, Nat.lt_irrefl, Nat.reduceEqDiff, Nat.reduceLeDiff, Nat.reduceLT, Nat.reduceAdd, Nat.reduceMul, Nat.reduceSub, wpY_system, wY_system_47, yc_isSystem H, yc_in, h, hd, g, e, cl_n, Bool.and_self, yc_q H, q, va_sys]
              exact key
          · cases q : iq (j * 384 + k * 128 + 127)
            · simp (disch := first | omega | assumption) only [li_0, li_1, li_2, li_3, li_4, li_6, li_7, li_8, li_9, li_10, li_12, li_21, li_24, li_31, li_60, li_63, li_127, li_128, li_256, li_312, li_384, nI_add, nu_mul, nu_sub, nu_div, nu_and, nu_or, nu_shr, nu_bit, nu_diff, bi_2, nI_leI, nI_ltI, nI_eq, vp_in_nI, nI_clamp, ar_na, ar_ba, bo_0, bo_1, bo_it, bo_if, bo_w, bo_w0, bo_w1, bo_nar, bo_n1, bo_nn0, st_bu, st_bu1, st_bu0, st_nu, forall_eq, true_implies, false_implies, forall_const, not_true_eq_false, not_false_eq_true, and_true, true_and, implies_true, and_self, Bool.false_eq_true, Bool.true_eq_false, reduceCtorEq, ite_true, ite_false, if_true, if_false, eq_self, Nat.zero_add, Nat.add_zero, Nat.le_refl, Nat.lt_irrefl, Nat.reduceEqDiff, Nat.reduceLeDiff, Nat.reduceLT, Nat.reduceAdd, Nat.reduceMul, Nat.reduceSub, wpY_system, yc_isSystem H, yc_in, h, hd, g, e, cl_n, Bool.and_self, yc_q H, q, va_sys]
            · simp (disch := first | omega | assumption) only [li_0, li_1, li_2, li_3, li_4, li_6, li_7, li_8, li_9, li_10, li_12, li_21, li_24, li_31, li_60, li_63, li_127, li_128, li_256, li_312, li_384, nI_add, nu_mul, nu_sub, nu_div, nu_and, nu_or, nu_shr, nu_bit, nu_diff, bi_2, nI_leI, nI_ltI, nI_eq, vp_in_nI, nI_clamp, ar_na, ar_ba, bo_0, bo_1, bo_it, bo_if, bo_w, bo_w0, bo_w1, bo_nar, bo_n1, bo_nn0, st_bu, st_bu1, st_bu0, st_nu, forall_eq, true_implies, false_implies, forall_const, not_true_eq_false, not_false_eq_true, and_true, true_and, implies_true, and_self, Bool.false_eq_true, Bool.true_eq_false, reduceCtorEq, ite_true, ite_false, if_true, if_false, eq_self, Nat.zero_add, Nat.add_zero, Nat.le_refl, Nat.lt_irrefl, Nat.reduceEqDiff, Nat.reduceLeDiff, Nat.reduceLT, Nat.reduceAdd, Nat.reduceMul, Nat.reduceSub, wpY_system, wY_system_47, yc_isSystem H, yc_in, h, hd, g, e, cl_n, Bool.and_self, yc_q H, q, va_sys, yc_spare H]
          · simp (disch := first | omega | assumption) only [li_0, li_1, li_2, li_3, li_4, li_6, li_7, li_8, li_9, li_10, li_12, li_21, li_24, li_31, li_60, li_63, li_127, li_128, li_256, li_312, li_384, nI_add, nu_mul, nu_sub, nu_div, nu_and, nu_or, nu_shr, nu_bit, nu_diff, bi_2, nI_leI, nI_ltI, nI_eq, vp_in_nI, nI_clamp, ar_na, ar_ba, bo_0, bo_1, bo_it, bo_if, bo_w, bo_w0, bo_w1, bo_nar, bo_n1, bo_nn0, st_bu, st_bu1, st_bu0, st_nu, forall_eq, true_implies, false_implies, forall_const, not_true_eq_false, not_false_eq_true, and_true, true_and, implies_true, and_self, Bool.false_eq_true, Bool.true_eq_false, reduceCtorEq, ite_true, ite_false, if_true, if_false, eq_self, Nat.zero_add, Nat.add_zero, Nat.le_refl, Nat.lt_irrefl, Nat.reduceEqDiff, Nat.reduceLeDiff, Nat.reduceLT, Nat.reduceAdd, Nat.reduceMul, Nat.reduceSub, wpY_system, wY_system_47, yc_isSystem H, yc_in, h, hd, g, e, cl_n, Bool.and_self, va_sys]
            exact key
end
theorem i_vc_system {k : Nat} {u : SX} {v : SY} (I : i_Rel k u v) (hk : k + 7 ≤ 3584) (v1 : Int32) (v2 : Int32) (v3 : Int32) : wpX_system (fun r => wpY_system (fun r' => r' = r ∧ i_Rel (k + 7) u v) v v1 v2 v3) u v1 v2 v3 := by
  have I' : i_Rel (k + 7) u v := I
  obtain ⟨bg, df, iq, tb, up, fa, co, fr, dn, op, ov, sp, sv, qb, qi, qj, qv, ql, so, ba, an, pk, kv, vo, kn, srt, num, rfl, rfl, H⟩ := I
  exact (xc_system H.2.1).mpr ((yc_system H.2.1).mpr ⟨rfl, I'⟩)
end
section
/-! common, begin -/
section
variable {bg : Nat} {df iq tb up fa co fr dn : Nat → Bool} {op ov sp sv qb qi qj qv ql so ba an pk kv vo kn : Nat → Nat} {srt num : Nat → Int32}
variable {post : Int32 → Prop} {x : Int32} {s k t m n i a q s' k' : Nat}
theorem xc_common65 {J : Int32 → Int32 → Prop} (hs : s' < 4) (hk : k' < 3) (hq : q < 128) (ha : a ≤ 8) : (∃ n, wX_common_65 post J (nI s) (nI k) (nI s') (nI k') (nI q) (nI bg) (ar_b df) (ar_b iq) (ar_b tb) (ar_b up) (ar_n op) (ar_n ov) (ar_n sp) (ar_n sv) (ar_n qb) (ar_n qi) (ar_n qv) (ar_n ql) (ar_n so) (ar_b fa) (ar_n ba) (ar_n an) (ar_b co) (pc_x pk) (ar_b fr) (ar_n kv) (ar_n vo) (ar_n kn) n (mn_ a) (nI 0)) ↔ J (mn_ (lo_f (fun r a => if iq (s' * 384 + k' * 128 + r) = true then min a (sz_ (q &&& r)) else a) 128 0 a)) (nI (q + 1)) := by
  refine lo_fold (W := fun n i a => wX_common_65 post J (nI s) (nI k) (nI s') (nI k') (nI q) (nI bg) (ar_b df) (ar_b iq) (ar_b tb) (ar_b up) (ar_n op) (ar_n ov) (ar_n sp) (ar_n sv) (ar_n qb) (ar_n qi) (ar_n qv) (ar_n ql) (ar_n so) (ar_b fa) (ar_n ba) (ar_n an) (ar_b co) (pc_x pk) (ar_b fr) (ar_n kv) (ar_n vo) (ar_n kn) n (mn_ a) (nI i)) (fin := fun a => J (mn_ a) (nI (q + 1))) (I := fun _ a => a ≤ 8) (e := 128) (fun r a => if iq (s' * 384 + k' * 128 + r) = true then min a (sz_ (q &&& r)) else a) (fun _ _ h => h) ?_ ?_ ?_ 128 0 a rfl ha
  · intro i a _ h
    split <;> omega
  · intro n a _
    simp (disch := first | omega | assumption) only [li_0, li_1, li_2, li_3, li_4, li_6, li_7, li_8, li_9, li_10, li_12, li_21, li_24, li_31, li_60, li_63, li_127, li_128, li_256, li_312, li_384, nI_add, nu_mul, nu_sub, nu_div, nu_and, nu_or, nu_shr, nu_bit, nu_diff, bi_2, nI_leI, nI_ltI, nI_eq, vp_in_nI, nI_clamp, ar_na, ar_ba, bo_0, bo_1, bo_it, bo_if, bo_w, bo_w0, bo_w1, bo_nar, bo_n1, bo_nn0, st_bu, st_bu1, st_bu0, st_nu, forall_eq, true_implies, false_implies, forall_const, not_true_eq_false, not_false_eq_true, and_true, true_and, implies_true, and_self, Bool.false_eq_true, Bool.true_eq_false, reduceCtorEq, ite_true, ite_false, if_true, if_false, eq_self, Nat.zero_add, Nat.add_zero, Nat.le_refl, Nat.lt_irrefl, Nat.reduceEqDiff, Nat.reduceLeDiff, Nat.reduceLT, Nat.reduceAdd, Nat.reduceMul, Nat.reduceSub, wX_common_65]
  · intro n i a hi ha
    have hz := sz_7 (q &&& i)
    have hqi : q &&& i < 128 := nu_and7 hq
    cases h : iq (s' * 384 + k' * 128 + i)
    · simp (disch := first | omega | assumption) only [li_0, li_1, li_2, li_3, li_4, li_6, li_7, li_8, li_9, li_10, li_12, li_21, li_24, li_31, li_60, li_63, li_127, li_128, li_256, li_312, li_384, nI_add, nu_mul, nu_sub, nu_div, nu_and, nu_or, nu_shr, nu_bit, nu_diff, bi_2, nI_leI, nI_ltI, nI_eq, vp_in_nI, nI_clamp, ar_na, ar_ba, bo_0, bo_1, bo_it, bo_if, bo_w, bo_w0, bo_w1, bo_nar, bo_n1, bo_nn0, st_bu, st_bu1, st_bu0, st_nu, forall_eq, true_implies, false_implies, forall_const, not_true_eq_false, not_false_eq_true, and_true, true_and, implies_true, and_self, Bool.false_eq_true, Bool.true_eq_false, reduceCtorEq, ite_true, ite_false, if_true, if_false, eq_self, Nat.zero_add, Nat.add_zero, Nat.le_refl, Nat.lt_irrefl, Nat.reduceEqDiff, Nat.reduceLeDiff, Nat.reduceLT, Nat.reduceAdd, Nat.reduceMul, Nat.reduceSub, wX_common_65, Nat.not_le.mpr hi, xc_holds, h]
    · simp (disch := first | omega | assumption) only [li_0, li_1, li_2, li_3, li_4, li_6, li_7, li_8, li_9, li_10, li_12, li_21, li_24, li_31, li_60, li_63, li_127, li_128, li_256, li_312, li_384, nI_add, nu_mul, nu_sub, nu_div, nu_and, nu_or, nu_shr, nu_bit, nu_diff, bi_2, nI_leI, nI_ltI, nI_eq, vp_in_nI, nI_clamp, ar_na, ar_ba, bo_0, bo_1, bo_it, bo_if, bo_w, bo_w0, bo_w1, bo_nar, bo_n1, bo_nn0, st_bu, st_bu1, st_bu0, st_nu, forall_eq, true_implies, false_implies, forall_const, not_true_eq_false, not_false_eq_true, and_true, true_and, implies_true, and_self, Bool.false_eq_true, Bool.true_eq_false, reduceCtorEq, ite_true, ite_false, if_true, if_false, eq_self, Nat.zero_add, Nat.add_zero, Nat.le_refl, Nat.lt_irrefl, Nat.reduceEqDiff, Nat.reduceLeDiff, Nat.reduceLT, Nat.reduceAdd, Nat.reduceMul, Nat.reduceSub, wX_common_65, Nat.not_le.mpr hi, xc_holds, h, xc_sizeOf, xc_lesser]
theorem xc_common40 (hs : s < 4) (hk : k < 3) (hs' : s' < 4) (hk' : k' < 3) : (∃ n, wX_common_40 post (nI s) (nI k) (nI s') (nI k') (nI bg) (ar_b df) (ar_b iq) (ar_b tb) (ar_b up) (ar_n op) (ar_n ov) (ar_n sp) (ar_n sv) (ar_n qb) (ar_n qi) (ar_n qv) (ar_n ql) (ar_n so) (ar_b fa) (ar_n ba) (ar_n an) (ar_b co) (pc_x pk) (ar_b fr) (ar_n kv) (ar_n vo) (ar_n kn) n (mn_ 8) (nI 0)) ↔ post (mn_ (mc_ (fun r => iq (s * 384 + k * 128 + r)) (fun r => iq (s' * 384 + k' * 128 + r)) 8)) := by
  refine lo_fold (W := fun n i a => wX_common_40 post (nI s) (nI k) (nI s') (nI k') (nI bg) (ar_b df) (ar_b iq) (ar_b tb) (ar_b up) (ar_n op) (ar_n ov) (ar_n sp) (ar_n sv) (ar_n qb) (ar_n qi) (ar_n qv) (ar_n ql) (ar_n so) (ar_b fa) (ar_n ba) (ar_n an) (ar_b co) (pc_x pk) (ar_b fr) (ar_n kv) (ar_n vo) (ar_n kn) n (mn_ a) (nI i)) (fin := fun a => post (mn_ a)) (I := fun _ a => a ≤ 8) (e := 128) _ (fun _ _ h => h) ?_ ?_ ?_ 128 0 8 rfl (Nat.le_refl _)
  · intro i a _ h
    split
    · exact Nat.le_trans mi_le h
    · exact h
  · intro n a _
    simp (disch := first | omega | assumption) only [li_0, li_1, li_2, li_3, li_4, li_6, li_7, li_8, li_9, li_10, li_12, li_21, li_24, li_31, li_60, li_63, li_127, li_128, li_256, li_312, li_384, nI_add, nu_mul, nu_sub, nu_div, nu_and, nu_or, nu_shr, nu_bit, nu_diff, bi_2, nI_leI, nI_ltI, nI_eq, vp_in_nI, nI_clamp, ar_na, ar_ba, bo_0, bo_1, bo_it, bo_if, bo_w, bo_w0, bo_w1, bo_nar, bo_n1, bo_nn0, st_bu, st_bu1, st_bu0, st_nu, forall_eq, true_implies, false_implies, forall_const, not_true_eq_false, not_false_eq_true, and_true, true_and, implies_true, and_self, Bool.false_eq_true, Bool.true_eq_false, reduceCtorEq, ite_true, ite_false, if_true, if_false, eq_self, Nat.zero_add, Nat.add_zero, Nat.le_refl, Nat.lt_irrefl, Nat.reduceEqDiff, Nat.reduceLeDiff, Nat.reduceLT, Nat.reduceAdd, Nat.reduceMul, Nat.reduceSub, wX_common_40]
  · intro n i a hi ha
    have key := xc_common65 (post := post) (s := s) (k := k) (df := df) (iq := iq) (tb := tb) (up := up) (fa := fa) (co := co) (fr := fr) (op := op) (ov := ov) (sp := sp) (sv := sv) (qb := qb) (qi := qi) (qv := qv) (ql := ql) (so := so) (ba := ba) (an := an) (pk := pk) (kv := kv) (vo := vo) (kn := kn) (bg := bg) (J := wX_common_40 post (nI s) (nI k) (nI s') (nI k') (nI bg) (ar_b df) (ar_b iq) (ar_b tb) (ar_b up) (ar_n op) (ar_n ov) (ar_n sp) (ar_n sv) (ar_n qb) (ar_n qi) (ar_n qv) (ar_n ql) (ar_n so) (ar_b fa) (ar_n ba) (ar_n an) (ar_b co) (pc_x pk) (ar_b fr) (ar_n kv) (ar_n vo) (ar_n kn) n) hs' hk' hi ha
    cases h : iq (s * 384 + k * 128 + i)
    · simp (disch := first | omega | assumption) only [li_0, li_1, li_2, li_3, li_4, li_6, li_7, li_8, li_9, li_10, li_12, li_21, li_24, li_31, li_60, li_63, li_127, li_128, li_256, li_312, li_384, nI_add, nu_mul, nu_sub, nu_div, nu_and, nu_or, nu_shr, nu_bit, nu_diff, bi_2, nI_leI, nI_ltI, nI_eq, vp_in_nI, nI_clamp, ar_na, ar_ba, bo_0, bo_1, bo_it, bo_if, bo_w, bo_w0, bo_w1, bo_nar, bo_n1, bo_nn0, st_bu, st_bu1, st_bu0, st_nu, forall_eq, true_implies, false_implies, forall_const, not_true_eq_false, not_false_eq_true, and_true, true_and, implies_true, and_self, Bool.false_eq_true, Bool.true_eq_false, reduceCtorEq, ite_true, ite_false, if_true, if_false, eq_self, Nat.zero_add, Nat.add_zero, Nat.le_refl, Nat.lt_irrefl, Nat.reduceEqDiff, Nat.reduceLeDiff, Nat.reduceLT, Nat.reduceAdd, Nat.reduceMul, Nat.reduceSub, wX_common_40, Nat.not_le.mpr hi, xc_holds, h]
    · simp (disch := first | omega | assumption) only [li_0, li_1, li_2, li_3, li_4, li_6, li_7, li_8, li_9, li_10, li_12, li_21, li_24, li_31, li_60, li_63, li_127, li_128, li_256, li_312, li_384, nI_add, nu_mul, nu_sub, nu_div, nu_and, nu_or, nu_shr, nu_bit, nu_diff, bi_2, nI_leI, nI_ltI, nI_eq, vp_in_nI, nI_clamp, ar_na, ar_ba, bo_0, bo_1, bo_it, bo_if, bo_w, bo_w0, bo_w1, bo_nar, bo_n1, bo_nn0, st_bu, st_bu1, st_bu0, st_nu, forall_eq, true_implies, false_implies, forall_const, not_true_eq_false, not_false_eq_true, and_true, true_and, implies_true, and_self, Bool.false_eq_true, Bool.true_eq_false, reduceCtorEq, ite_true, ite_false, if_true, if_false, eq_self, Nat.zero_add, Nat.add_zero, Nat.le_refl, Nat.lt_irrefl, Nat.reduceEqDiff, Nat.reduceLeDiff, Nat.reduceLT, Nat.reduceAdd, Nat.reduceMul, Nat.reduceSub, wX_common_40, Nat.not_le.mpr hi, xc_holds, h]
      exact key
theorem yc_common68 {J : Int32 → Int32 → Prop} (H : in_s df iq srt num) (hd : df s' = true) (hs : s' < 4) (hk : k' < 3) (hq : q < 128) (ha : a ≤ 8) : (∃ n, wY_common_68 post J (nI s) (nI k) (nI s') (nI k') (nI q) (nI bg) srt num (ar_n so) (ar_n ba) (ar_n an) (pc_y pk) (ar_n kv) (ar_b fa) (ar_b co) (ar_b fr) (ar_b dn) (ar_n sp) (ar_n sv) (ar_n ql) (ar_n qb) (ar_n qj) (ar_n qv) (ar_n vo) (ar_n kn) n (mn_ a) (nI 0)) ↔ J (mn_ (lo_f (fun r a => if iq (s' * 384 + k' * 128 + r) = true then min a (sz_ (q &&& r)) else a) 128 0 a)) (nI (q + 1)) := by
  refine lo_fold (W := fun n i a => wY_common_68 post J (nI s) (nI k) (nI s') (nI k') (nI q) (nI bg) srt num (ar_n so) (ar_n ba) (ar_n an) (pc_y pk) (ar_n kv) (ar_b fa) (ar_b co) (ar_b fr) (ar_b dn) (ar_n sp) (ar_n sv) (ar_n ql) (ar_n qb) (ar_n qj) (ar_n qv) (ar_n vo) (ar_n kn) n (mn_ a) (nI i)) (fin := fun a => J (mn_ a) (nI (q + 1))) (I := fun _ a => a ≤ 8) (e := 128) (fun r a => if iq (s' * 384 + k' * 128 + r) = true then min a (sz_ (q &&& r)) else a) (fun _ _ h => h) ?_ ?_ ?_ 128 0 a rfl ha
  · intro i a _ h
    split <;> omega
  · intro n a _
    simp (disch := first | omega | assumption) only [li_0, li_1, li_2, li_3, li_4, li_6, li_7, li_8, li_9, li_10, li_12, li_21, li_24, li_31, li_60, li_63, li_127, li_128, li_256, li_312, li_384, nI_add, nu_mul, nu_sub, nu_div, nu_and, nu_or, nu_shr, nu_bit, nu_diff, bi_2, nI_leI, nI_ltI, nI_eq, vp_in_nI, nI_clamp, ar_na, ar_ba, bo_0, bo_1, bo_it, bo_if, bo_w, bo_w0, bo_w1, bo_nar, bo_n1, bo_nn0, st_bu, st_bu1, st_bu0, st_nu, forall_eq, true_implies, false_implies, forall_const, not_true_eq_false, not_false_eq_true, and_true, true_and, implies_true, and_self, Bool.false_eq_true, Bool.true_eq_false, reduceCtorEq, ite_true, ite_false, if_true, if_false, eq_self, Nat.zero_add, Nat.add_zero, Nat.le_refl, Nat.lt_irrefl, Nat.reduceEqDiff, Nat.reduceLeDiff, Nat.reduceLT, Nat.reduceAdd, Nat.reduceMul, Nat.reduceSub, wY_common_68]
  · intro n i a hi ha
    have hz := sz_7 (q &&& i)
    have hqi : q &&& i < 128 := nu_and7 hq
    have hi' : ¬ 127 < i := by omega
    rcases Nat.lt_or_ge a 8 with h8 | h8
    · by_cases z : a ≤ sz_ (q &&& i)
      · have e : (if iq (s' * 384 + k' * 128 + i) = true then min a (sz_ (q &&& i)) else a) = a := by rw [Nat.min_eq_left z]; split <;> rfl
        rw [e]
        simp (disch := first | omega | assumption) only [li_0, li_1, li_2, li_3, li_4, li_6, li_7, li_8, li_9, li_10, li_12, li_21, li_24, li_31, li_60, li_63, li_127, li_128, li_256, li_312, li_384, nI_add, nu_mul, nu_sub, nu_div, nu_and, nu_or, nu_shr, nu_bit, nu_diff, bi_2, nI_leI, nI_ltI, nI_eq, vp_in_nI, nI_clamp, ar_na, ar_ba, bo_0, bo_1, bo_it, bo_if, bo_w, bo_w0, bo_w1, bo_nar, bo_n1, bo_nn0, st_bu, st_bu1, st_bu0, st_nu, forall_eq, true_implies, false_implies, forall_const, not_true_eq_false, not_false_eq_true, and_true, true_and, implies_true, and_self, Bool.false_eq_true, Bool.true_eq_false, reduceCtorEq, ite_true, ite_false, if_true, if_false, eq_self, Nat.zero_add, Nat.add_zero, Nat.le_refl, Nat.lt_irrefl, Nat.reduceEqDiff, Nat.reduceLeDiff, Nat.reduceLT, Nat.reduceAdd, Nat.reduceMul, Nat.reduceSub, wY_common_68, hi', yc_size, mn_lt h8, ng_3, z]
      · have e : min a (sz_ (q &&& i)) = sz_ (q &&& i) := Nat.min_eq_right (by omega)
        cases h : iq (s' * 384 + k' * 128 + i)
        · simp (disch := first | omega | assumption) only [li_0, li_1, li_2, li_3, li_4, li_6, li_7, li_8, li_9, li_10, li_12, li_21, li_24, li_31, li_60, li_63, li_127, li_128, li_256, li_312, li_384, nI_add, nu_mul, nu_sub, nu_div, nu_and, nu_or, nu_shr, nu_bit, nu_diff, bi_2, nI_leI, nI_ltI, nI_eq, vp_in_nI, nI_clamp, ar_na, ar_ba, bo_0, bo_1, bo_it, bo_if, bo_w, bo_w0, bo_w1, bo_nar, bo_n1, bo_nn0, st_bu, st_bu1, st_bu0, st_nu, forall_eq, true_implies, false_implies, forall_const, not_true_eq_false, not_false_eq_true, and_true, true_and, implies_true, and_self, Bool.false_eq_true, Bool.true_eq_false, reduceCtorEq, ite_true, ite_false, if_true, if_false, eq_self, Nat.zero_add, Nat.add_zero, Nat.le_refl, Nat.lt_irrefl, Nat.reduceEqDiff, Nat.reduceLeDiff, Nat.reduceLT, Nat.reduceAdd, Nat.reduceMul, Nat.reduceSub, wY_common_68, wY_common_99, hi', yc_size, mn_lt h8, ng_3, z, yc_q H, h]
        · rw [e]
          simp (disch := first | omega | assumption) only [li_0, li_1, li_2, li_3, li_4, li_6, li_7, li_8, li_9, li_10, li_12, li_21, li_24, li_31, li_60, li_63, li_127, li_128, li_256, li_312, li_384, nI_add, nu_mul, nu_sub, nu_div, nu_and, nu_or, nu_shr, nu_bit, nu_diff, bi_2, nI_leI, nI_ltI, nI_eq, vp_in_nI, nI_clamp, ar_na, ar_ba, bo_0, bo_1, bo_it, bo_if, bo_w, bo_w0, bo_w1, bo_nar, bo_n1, bo_nn0, st_bu, st_bu1, st_bu0, st_nu, forall_eq, true_implies, false_implies, forall_const, not_true_eq_false, not_false_eq_true, and_true, true_and, implies_true, and_self, Bool.false_eq_true, Bool.true_eq_false, reduceCtorEq, ite_true, ite_false, if_true, if_false, eq_self, Nat.zero_add, Nat.add_zero, Nat.le_refl, Nat.lt_irrefl, Nat.reduceEqDiff, Nat.reduceLeDiff, Nat.reduceLT, Nat.reduceAdd, Nat.reduceMul, Nat.reduceSub, wY_common_68, wY_common_99, hi', yc_size, mn_lt h8, mn_lt (show sz_ (q &&& i) < 8 by omega), ng_3, z, yc_q H, h]
    · obtain rfl : a = 8 := by omega
      have e : min 8 (sz_ (q &&& i)) = sz_ (q &&& i) := Nat.min_eq_right (by omega)
      cases h : iq (s' * 384 + k' * 128 + i)
      · simp (disch := first | omega | assumption) only [li_0, li_1, li_2, li_3, li_4, li_6, li_7, li_8, li_9, li_10, li_12, li_21, li_24, li_31, li_60, li_63, li_127, li_128, li_256, li_312, li_384, nI_add, nu_mul, nu_sub, nu_div, nu_and, nu_or, nu_shr, nu_bit, nu_diff, bi_2, nI_leI, nI_ltI, nI_eq, vp_in_nI, nI_clamp, ar_na, ar_ba, bo_0, bo_1, bo_it, bo_if, bo_w, bo_w0, bo_w1, bo_nar, bo_n1, bo_nn0, st_bu, st_bu1, st_bu0, st_nu, forall_eq, true_implies, false_implies, forall_const, not_true_eq_false, not_false_eq_true, and_true, true_and, implies_true, and_self, Bool.false_eq_true, Bool.true_eq_false, reduceCtorEq, ite_true, ite_false, if_true, if_false, eq_self, Nat.zero_add, Nat.add_zero, Nat.le_refl, Nat.lt_irrefl, Nat.reduceEqDiff, Nat.reduceLeDiff, Nat.reduceLT, Nat.reduceAdd, Nat.reduceMul, Nat.reduceSub, wY_common_68, wY_common_99, hi', yc_size, mn_8, yc_q H, h]
      · rw [e]
        simp (disch := first | omega | assumption) only [li_0, li_1, li_2, li_3, li_4, li_6, li_7, li_8, li_9, li_10, li_12, li_21, li_24, li_31, li_60, li_63, li_127, li_128, li_256, li_312, li_384, nI_add, nu_mul, nu_sub, nu_div, nu_and, nu_or, nu_shr, nu_bit, nu_diff, bi_2, nI_leI, nI_ltI, nI_eq, vp_in_nI, nI_clamp, ar_na, ar_ba, bo_0, bo_1, bo_it, bo_if, bo_w, bo_w0, bo_w1, bo_nar, bo_n1, bo_nn0, st_bu, st_bu1, st_bu0, st_nu, forall_eq, true_implies, false_implies, forall_const, not_true_eq_false, not_false_eq_true, and_true, true_and, implies_true, and_self, Bool.false_eq_true, Bool.true_eq_false, reduceCtorEq, ite_true, ite_false, if_true, if_false, eq_self, Nat.zero_add, Nat.add_zero, Nat.le_refl, Nat.lt_irrefl, Nat.reduceEqDiff, Nat.reduceLeDiff, Nat.reduceLT, Nat.reduceAdd, Nat.reduceMul, Nat.reduceSub, wY_common_68, wY_common_99, hi', yc_size, mn_8, mn_lt (show sz_ (q &&& i) < 8 by omega), yc_q H, h]
theorem yc_common44 (H : in_s df iq srt num) (hd : df s = true) (hd' : df s' = true) (hs : s < 4) (hk : k < 3) (hs' : s' < 4) (hk' : k' < 3) : (∃ n, wY_common_44 post (nI s) (nI k) (nI s') (nI k') (nI bg) srt num (ar_n so) (ar_n ba) (ar_n an) (pc_y pk) (ar_n kv) (ar_b fa) (ar_b co) (ar_b fr) (ar_b dn) (ar_n sp) (ar_n sv) (ar_n ql) (ar_n qb) (ar_n qj) (ar_n qv) (ar_n vo) (ar_n kn) n (mn_ 8) (nI 0)) ↔ post (mn_ (mc_ (ls_ (fun r => iq (s * 384 + k * 128 + r))) (fun r => iq (s' * 384 + k' * 128 + r)) 8)) := by
  refine lo_fold (W := fun n i a => wY_common_44 post (nI s) (nI k) (nI s') (nI k') (nI bg) srt num (ar_n so) (ar_n ba) (ar_n an) (pc_y pk) (ar_n kv) (ar_b fa) (ar_b co) (ar_b fr) (ar_b dn) (ar_n sp) (ar_n sv) (ar_n ql) (ar_n qb) (ar_n qj) (ar_n qv) (ar_n vo) (ar_n kn) n (mn_ a) (nI i)) (fin := fun a => post (mn_ a)) (I := fun _ a => a ≤ 8) (e := 128) _ (fun _ _ h => h) ?_ ?_ ?_ 128 0 8 rfl (Nat.le_refl _)
  · intro i a _ h
    split
    · exact Nat.le_trans mi_le h
    · exact h
  · intro n a _
    simp (disch := first | omega | assumption) only [li_0, li_1, li_2, li_3, li_4, li_6, li_7, li_8, li_9, li_10, li_12, li_21, li_24, li_31, li_60, li_63, li_127, li_128, li_256, li_312, li_384, nI_add, nu_mul, nu_sub, nu_div, nu_and, nu_or, nu_shr, nu_bit, nu_diff, bi_2, nI_leI, nI_ltI, nI_eq, vp_in_nI, nI_clamp, ar_na, ar_ba, bo_0, bo_1, bo_it, bo_if, bo_w, bo_w0, bo_w1, bo_nar, bo_n1, bo_nn0, st_bu, st_bu1, st_bu0, st_nu, forall_eq, true_implies, false_implies, forall_const, not_true_eq_false, not_false_eq_true, and_true, true_and, implies_true, and_self, Bool.false_eq_true, Bool.true_eq_false, reduceCtorEq, ite_true, ite_false, if_true, if_false, eq_self, Nat.zero_add, Nat.add_zero, Nat.le_refl, Nat.lt_irrefl, Nat.reduceEqDiff, Nat.reduceLeDiff, Nat.reduceLT, Nat.reduceAdd, Nat.reduceMul, Nat.reduceSub, wY_common_44]
  · intro n i a hi ha
    have hi' : ¬ 127 < i := by omega
    have key := yc_common68 (post := post) (s := s) (k := k) (J := wY_common_44 post (nI s) (nI k) (nI s') (nI k') (nI bg) srt num (ar_n so) (ar_n ba) (ar_n an) (pc_y pk) (ar_n kv) (ar_b fa) (ar_b co) (ar_b fr) (ar_b dn) (ar_n sp) (ar_n sv) (ar_n ql) (ar_n qb) (ar_n qj) (ar_n qv) (ar_n vo) (ar_n kn) n) (fa := fa) (co := co) (fr := fr) (dn := dn) (sp := sp) (sv := sv) (qb := qb) (qj := qj) (qv := qv) (ql := ql) (so := so) (ba := ba) (an := an) (pk := pk) (kv := kv) (vo := vo) (kn := kn) (bg := bg) H hd' hs' hk' hi ha
    cases h : ls_ (fun r => iq (s * 384 + k * 128 + r)) i
    · simp (disch := first | omega | assumption) only [li_0, li_1, li_2, li_3, li_4, li_6, li_7, li_8, li_9, li_10, li_12, li_21, li_24, li_31, li_60, li_63, li_127, li_128, li_256, li_312, li_384, nI_add, nu_mul, nu_sub, nu_div, nu_and, nu_or, nu_shr, nu_bit, nu_diff, bi_2, nI_leI, nI_ltI, nI_eq, vp_in_nI, nI_clamp, ar_na, ar_ba, bo_0, bo_1, bo_it, bo_if, bo_w, bo_w0, bo_w1, bo_nar, bo_n1, bo_nn0, st_bu, st_bu1, st_bu0, st_nu, forall_eq, true_implies, false_implies, forall_const, not_true_eq_false, not_false_eq_true, and_true, true_and, implies_true, and_self, Bool.false_eq_true, Bool.true_eq_false, reduceCtorEq, ite_true, ite_false, if_true, if_false, eq_self, Nat.zero_add, Nat.add_zero, Nat.le_refl, Nat.lt_irrefl, Nat.reduceEqDiff, Nat.reduceLeDiff, Nat.reduceLT, Nat.reduceAdd, Nat.reduceMul, Nat.reduceSub, wY_common_44, hi', yc_isLeast H, h]
    · simp (disch := first | omega | assumption) only [li_0, li_1, li_2, li_3, li_4, li_6, li_7, li_8, li_9, li_10, li_12, li_21, li_24, li_31, li_60, li_63, li_127, li_128, li_256, li_312, li_384, nI_add, nu_mul, nu_sub, nu_div, nu_and, nu_or, nu_shr, nu_bit, nu_diff, bi_2, nI_leI, nI_ltI, nI_eq, vp_in_nI, nI_clamp, ar_na, ar_ba, bo_0, bo_1, bo_it, bo_if, bo_w, bo_w0, bo_w1, bo_nar, bo_n1, bo_nn0, st_bu, st_bu1, st_bu0, st_nu, forall_eq, true_implies, false_implies, forall_const, not_true_eq_false, not_false_eq_true, and_true, true_and, implies_true, and_self, Bool.false_eq_true, Bool.true_eq_false, reduceCtorEq, ite_true, ite_false, if_true, if_false, eq_self, Nat.zero_add, Nat.add_zero, Nat.le_refl, Nat.lt_irrefl, Nat.reduceEqDiff, Nat.reduceLeDiff, Nat.reduceLT, Nat.reduceAdd, Nat.reduceMul, Nat.reduceSub, wY_common_44, hi', yc_isLeast H, h]
      exact key
def va_common (df iq : Nat → Bool) (x y z w : Int32) : Int32 := if (iz 0 3 x && df (cl_ x) && iz 0 2 y && (iz 0 3 z && df (cl_ z)) && iz 0 2 w) = true then mn_ (mc_ (ls_ (fun r => iq (cl_ x * 384 + cl_ y * 128 + r))) (fun r => iq (cl_ z * 384 + cl_ w * 128 + r)) 8) else -nI 1
theorem xc_common {y z w : Int32} : wpX_common post (nI bg, ar_b df, ar_b iq, ar_b tb, ar_b up, ar_n op, ar_n ov, ar_n sp, ar_n sv, ar_n qb, ar_n qi, ar_n qv, ar_n ql, ar_n so, ar_b fa, ar_n ba, ar_n an, ar_b co, pc_x pk, ar_b fr, ar_n kv, ar_n vo, ar_n kn) x y z w ↔ post (va_common df iq x y z w) := by
  unfold va_common
  rcases iz_c 0 3 x with h | ⟨j, h1, h2, h3, rfl, h⟩
  · simp (disch := first | omega | assumption) only [li_0, li_1, li_2, li_3, li_4, li_6, li_7, li_8, li_9, li_10, li_12, li_21, li_24, li_31, li_60, li_63, li_127, li_128, li_256, li_312, li_384, nI_add, nu_mul, nu_sub, nu_div, nu_and, nu_or, nu_shr, nu_bit, nu_diff, bi_2, nI_leI, nI_ltI, nI_eq, vp_in_nI, nI_clamp, ar_na, ar_ba, bo_0, bo_1, bo_it, bo_if, bo_w, bo_w0, bo_w1, bo_nar, bo_n1, bo_nn0, st_bu, st_bu1, st_bu0, st_nu, forall_eq, true_implies, false_implies, forall_const, not_true_eq_false, not_false_eq_true, and_true, true_and, implies_true, and_self, Bool.false_eq_true, Bool.true_eq_false, reduceCtorEq, ite_true, ite_false, if_true, if_false, eq_self, Nat.zero_add, Nat.add_zero, Nat.le_refl, Nat.lt_irrefl, Nat.reduceEqDiff, Nat.reduceLeDiff, Nat.reduceLT, Nat.reduceAdd, Nat.reduceMul, Nat.reduceSub, wpX_common, xc_isSystem, xc_isKind, h, Bool.false_and]
  · rw [cl_n h3]
    cases hd : df j
    · simp (disch := first | omega | assumption) only [li_0, li_1, li_2, li_3, li_4, li_6, li_7, li_8, li_9, li_10, li_12, li_21, li_24, li_31, li_60, li_63, li_127, li_128, li_256, li_312, li_384, nI_add, nu_mul, nu_sub, nu_div, nu_and, nu_or, nu_shr, nu_bit, nu_diff, bi_2, nI_leI, nI_ltI, nI_eq, vp_in_nI, nI_clamp, ar_na, ar_ba, bo_0, bo_1, bo_it, bo_if, bo_w, bo_w0, bo_w1, bo_nar, bo_n1, bo_nn0, st_bu, st_bu1, st_bu0, st_nu, forall_eq, true_implies, false_implies, forall_const, not_true_eq_false, not_false_eq_true, and_true, true_and, implies_true, and_self, Bool.false_eq_true, Bool.true_eq_false, reduceCtorEq, ite_true, ite_false, if_true, if_false, eq_self, Nat.zero_add, Nat.add_zero, Nat.le_refl, Nat.lt_irrefl, Nat.reduceEqDiff, Nat.reduceLeDiff, Nat.reduceLT, Nat.reduceAdd, Nat.reduceMul, Nat.reduceSub, wpX_common, xc_isSystem, xc_isKind, h, hd, cl_n, Bool.and_false, Bool.false_and]
    · rcases iz_c 0 2 y with g | ⟨k, g1, g2, g3, rfl, g⟩
      · simp (disch := first | omega | assumption) only [li_0, li_1, li_2, li_3, li_4, li_6, li_7, li_8, li_9, li_10, li_12, li_21, li_24, li_31, li_60, li_63, li_127, li_128, li_256, li_312, li_384, nI_add, nu_mul, nu_sub, nu_div, nu_and, nu_or, nu_shr, nu_bit, nu_diff, bi_2, nI_leI, nI_ltI, nI_eq, vp_in_nI, nI_clamp, ar_na, ar_ba, bo_0, bo_1, bo_it, bo_if, bo_w, bo_w0, bo_w1, bo_nar, bo_n1, bo_nn0, st_bu, st_bu1, st_bu0, st_nu, forall_eq, true_implies, false_implies, forall_const, not_true_eq_false, not_false_eq_true, and_true, true_and, implies_true, and_self, Bool.false_eq_true, Bool.true_eq_false, reduceCtorEq, ite_true, ite_false, if_true, if_false, eq_self, Nat.zero_add, Nat.add_zero, Nat.le_refl, Nat.lt_irrefl, Nat.reduceEqDiff, Nat.reduceLeDiff, Nat.reduceLT, Nat.reduceAdd, Nat.reduceMul, Nat.reduceSub, wpX_common, xc_isSystem, xc_isKind, h, hd, g, cl_n, Bool.and_false, Bool.false_and, Bool.and_self]
      · rcases iz_c 0 3 z with f | ⟨j', f1, f2, f3, rfl, f⟩
        · simp (disch := first | omega | assumption) only [li_0, li_1, li_2, li_3, li_4, li_6, li_7, li_8, li_9, li_10, li_12, li_21, li_24, li_31, li_60, li_63, li_127, li_128, li_256, li_312, li_384, nI_add, nu_mul, nu_sub, nu_div, nu_and, nu_or, nu_shr, nu_bit, nu_diff, bi_2, nI_leI, nI_ltI, nI_eq, vp_in_nI, nI_clamp, ar_na, ar_ba, bo_0, bo_1, bo_it, bo_if, bo_w, bo_w0, bo_w1, bo_nar, bo_n1, bo_nn0, st_bu, st_bu1, st_bu0, st_nu, forall_eq, true_implies, false_implies, forall_const, not_true_eq_false, not_false_eq_true, and_true, true_and, implies_true, and_self, Bool.false_eq_true, Bool.true_eq_false, reduceCtorEq, ite_true, ite_false, if_true, if_false, eq_self, Nat.zero_add, Nat.add_zero, Nat.le_refl, Nat.lt_irrefl, Nat.reduceEqDiff, Nat.reduceLeDiff, Nat.reduceLT, Nat.reduceAdd, Nat.reduceMul, Nat.reduceSub, wpX_common, xc_isSystem, xc_isKind, h, hd, g, f, cl_n, Bool.and_false, Bool.false_and, Bool.and_self]
        · rw [cl_n f3]
          cases hd' : df j'
          · simp (disch := first | omega | assumption) only [li_0, li_1, li_2, li_3, li_4, li_6, li_7, li_8, li_9, li_10, li_12, li_21, li_24, li_31, li_60, li_63, li_127, li_128, li_256, li_312, li_384, nI_add, nu_mul, nu_sub, nu_div, nu_and, nu_or, nu_shr, nu_bit, nu_diff, bi_2, nI_leI, nI_ltI, nI_eq, vp_in_nI, nI_clamp, ar_na, ar_ba, bo_0, bo_1, bo_it, bo_if, bo_w, bo_w0, bo_w1, bo_nar, bo_n1, bo_nn0, st_bu, st_bu1, st_bu0, st_nu, forall_eq, true_implies, false_implies, forall_const, not_true_eq_false, not_false_eq_true, and_true, true_and, implies_true, and_self, Bool.false_eq_true, Bool.true_eq_false, reduceCtorEq, ite_true, ite_false, if_true, if_false, eq_self, Nat.zero_add, Nat.add_zero, Nat.le_refl, Nat.lt_irrefl, Nat.reduceEqDiff, Nat.reduceLeDiff, Nat.reduceLT, Nat.reduceAdd, Nat.reduceMul, Nat.reduceSub, wpX_common, xc_isSystem, xc_isKind, h, hd, hd', g, f, cl_n, Bool.and_false, Bool.false_and, Bool.and_self]
          · rcases iz_c 0 2 w with e | ⟨k', e1, e2, e3, rfl, e⟩
            · simp (disch := first | omega | assumption) only [li_0, li_1, li_2, li_3, li_4, li_6, li_7, li_8, li_9, li_10, li_12, li_21, li_24, li_31, li_60, li_63, li_127, li_128, li_256, li_312, li_384, nI_add, nu_mul, nu_sub, nu_div, nu_and, nu_or, nu_shr, nu_bit, nu_diff, bi_2, nI_leI, nI_ltI, nI_eq, vp_in_nI, nI_clamp, ar_na, ar_ba, bo_0, bo_1, bo_it, bo_if, bo_w, bo_w0, bo_w1, bo_nar, bo_n1, bo_nn0, st_bu, st_bu1, st_bu0, st_nu, forall_eq, true_implies, false_implies, forall_const, not_true_eq_false, not_false_eq_true, and_true, true_and, implies_true, and_self, Bool.false_eq_true, Bool.true_eq_false, reduceCtorEq, ite_true, ite_false, if_true, if_false, eq_self, Nat.zero_add, Nat.add_zero, Nat.le_refl, Nat.lt_irrefl, Nat.reduceEqDiff, Nat.reduceLeDiff, Nat.reduceLT, Nat.reduceAdd, Nat.reduceMul, Nat.reduceSub, wpX_common, xc_isSystem, xc_isKind, h, hd, hd', g, f, e, cl_n, Bool.and_false, Bool.false_and, Bool.and_self]
            · simp (disch := first | omega | assumption) only [li_0, li_1, li_2, li_3, li_4, li_6, li_7, li_8, li_9, li_10, li_12, li_21, li_24, li_31, li_60, li_63, li_127, li_128, li_256, li_312, li_384, nI_add, nu_mul, nu_sub, nu_div, nu_and, nu_or, nu_shr, nu_bit, nu_diff, bi_2, nI_leI, nI_ltI, nI_eq, vp_in_nI, nI_clamp, ar_na, ar_ba, bo_0, bo_1, bo_it, bo_if, bo_w, bo_w0, bo_w1, bo_nar, bo_n1, bo_nn0, st_bu, st_bu1, st_bu0, st_nu, forall_eq, true_implies, false_implies, forall_const, not_true_eq_false, not_false_eq_true, and_true, true_and, implies_true, and_self, Bool.false_eq_true, Bool.true_eq_false, reduceCtorEq, ite_true, ite_false, if_true, if_false, eq_self, Nat.zero_add, Nat.add_zero, Nat.le_refl, Nat.lt_irrefl, Nat.reduceEqDiff, Nat.reduceLeDiff, Nat.reduceLT, Nat.reduceAdd, Nat.reduceMul, Nat.reduceSub, wpX_common, xc_isSystem, xc_isKind, h, hd, hd', g, f, e, cl_n, Bool.and_self]
              rw [← mc_ls]
              exact xc_common40 (by omega) (by omega) (by omega) (by omega)
theorem yc_common {y z w : Int32} (H : in_s df iq srt num) : wpY_common post (nI bg, srt, num, ar_n so, ar_n ba, ar_n an, pc_y pk, ar_n kv, ar_b fa, ar_b co, ar_b fr, ar_b dn, ar_n sp, ar_n sv, ar_n ql, ar_n qb, ar_n qj, ar_n qv, ar_n vo, ar_n kn) x y z w ↔ post (va_common df iq x y z w) := by
  unfold va_common
  rcases iz_c 0 3 x with h | ⟨j, h1, h2, h3, rfl, h⟩
  · simp (disch := first | omega | assumption) only [li_0, li_1, li_2, li_3, li_4, li_6, li_7, li_8, li_9, li_10, li_12, li_21, li_24, li_31, li_60, li_63, li_127, li_128, li_256, li_312, li_384, nI_add, nu_mul, nu_sub, nu_div, nu_and, nu_or, nu_shr, nu_bit, nu_diff, bi_2, nI_leI, nI_ltI, nI_eq, vp_in_nI, nI_clamp, ar_na, ar_ba, bo_0, bo_1, bo_it, bo_if, bo_w, bo_w0, bo_w1, bo_nar, bo_n1, bo_nn0, st_bu, st_bu1, st_bu0, st_nu, forall_eq, true_implies, false_implies, forall_const, not_true_eq_false, not_false_eq_true, and_true, true_and, implies_true, and_self, Bool.false_eq_true, Bool.true_eq_false, reduceCtorEq, ite_true, ite_false, if_true, if_false, eq_self, Nat.zero_add, Nat.add_zero, Nat.le_refl, Nat.lt_irrefl, Nat.reduceEqDiff, Nat.reduceLeDiff, Nat.reduceLT, Nat.reduceAdd, Nat.reduceMul, Nat.reduceSub, wpY_common, yc_isSystem H, yc_in, h, Bool.false_and]
  · rw [cl_n h3]
    cases hd : df j
    · simp (disch := first | omega | assumption) only [li_0, li_1, li_2, li_3, li_4, li_6, li_7, li_8, li_9, li_10, li_12, li_21, li_24, li_31, li_60, li_63, li_127, li_128, li_256, li_312, li_384, nI_add, nu_mul, nu_sub, nu_div, nu_and, nu_or, nu_shr, nu_bit, nu_diff, bi_2, nI_leI, nI_ltI, nI_eq, vp_in_nI, nI_clamp, ar_na, ar_ba, bo_0, bo_1, bo_it, bo_if, bo_w, bo_w0, bo_w1, bo_nar, bo_n1, bo_nn0, st_bu, st_bu1, st_bu0, st_nu, forall_eq, true_implies, false_implies, forall_const, not_true_eq_false, not_false_eq_true, and_true, true_and, implies_true, and_self, Bool.false_eq_true, Bool.true_eq_false, reduceCtorEq, ite_true, ite_false, if_true, if_false, eq_self, Nat.zero_add, Nat.add_zero, Nat.le_refl, Nat.lt_irrefl, Nat.reduceEqDiff, Nat.reduceLeDiff, Nat.reduceLT, Nat.reduceAdd, Nat.reduceMul, Nat.reduceSub, wpY_common, yc_isSystem H, yc_in, h, hd, cl_n, Bool.and_false, Bool.false_and]
    · rcases iz_c 0 3 z with f | ⟨j', f1, f2, f3, rfl, f⟩
      · simp (disch := first | omega | assumption) only [li_0, li_1, li_2, li_3, li_4, li_6, li_7, li_8, li_9, li_10, li_12, li_21, li_24, li_31, li_60, li_63, li_127, li_128, li_256, li_312, li_384, nI_add, nu_mul, nu_sub, nu_div, nu_and, nu_or, nu_shr, nu_bit, nu_diff, bi_2, nI_leI, nI_ltI, nI_eq, vp_in_nI, nI_clamp, ar_na, ar_ba, bo_0, bo_1, bo_it, bo_if, bo_w, bo_w0, bo_w1, bo_nar, bo_n1, bo_nn0, st_bu, st_bu1, st_bu0, st_nu, forall_eq, true_implies, false_implies, forall_const, not_true_eq_false, not_false_eq_true, and_true, true_and, implies_true, and_self, Bool.false_eq_true, Bool.true_eq_false, reduceCtorEq, ite_true, ite_false, if_true, if_false, eq_self, Nat.zero_add, Nat.add_zero, Nat.le_refl, Nat.lt_irrefl, Nat.reduceEqDiff, Nat.reduceLeDiff, Nat.reduceLT, Nat.reduceAdd, Nat.reduceMul, Nat.reduceSub, wpY_common, yc_isSystem H, yc_in, h, hd, f, cl_n, Bool.and_false, Bool.false_and, Bool.and_self]
      · rw [cl_n f3]
        cases hd' : df j'
        · simp (disch := first | omega | assumption) only [li_0, li_1, li_2, li_3, li_4, li_6, li_7, li_8, li_9, li_10, li_12, li_21, li_24, li_31, li_60, li_63, li_127, li_128, li_256, li_312, li_384, nI_add, nu_mul, nu_sub, nu_div, nu_and, nu_or, nu_shr, nu_bit, nu_diff, bi_2, nI_leI, nI_ltI, nI_eq, vp_in_nI, nI_clamp, ar_na, ar_ba, bo_0, bo_1, bo_it, bo_if, bo_w, bo_w0, bo_w1, bo_nar, bo_n1, bo_nn0, st_bu, st_bu1, st_bu0, st_nu, forall_eq, true_implies, false_implies, forall_const, not_true_eq_false, not_false_eq_true, and_true, true_and, implies_true, and_self, Bool.false_eq_true, Bool.true_eq_false, reduceCtorEq, ite_true, ite_false, if_true, if_false, eq_self, Nat.zero_add, Nat.add_zero, Nat.le_refl, Nat.lt_irrefl, Nat.reduceEqDiff, Nat.reduceLeDiff, Nat.reduceLT, Nat.reduceAdd, Nat.reduceMul, Nat.reduceSub, wpY_common, yc_isSystem H, yc_in, h, hd, hd', f, cl_n, Bool.and_false, Bool.false_and, Bool.and_self]
        · rcases iz_c 0 2 y with g | ⟨k, g1, g2, g3, rfl, g⟩
          · simp (disch := first | omega | assumption) only [li_0, li_1, li_2, li_3, li_4, li_6, li_7, li_8, li_9, li_10, li_12, li_21, li_24, li_31, li_60, li_63, li_127, li_128, li_256, li_312, li_384, nI_add, nu_mul, nu_sub, nu_div, nu_and, nu_or, nu_shr, nu_bit, nu_diff, bi_2, nI_leI, nI_ltI, nI_eq, vp_in_nI, nI_clamp, ar_na, ar_ba, bo_0, bo_1, bo_it, bo_if, bo_w, bo_w0, bo_w1, bo_nar, bo_n1, bo_nn0, st_bu, st_bu1, st_bu0, st_nu, forall_eq, true_implies, false_implies, forall_const, not_true_eq_false, not_false_eq_true, and_true, true_and, implies_true, and_self, Bool.false_eq_true, Bool.true_eq_false, reduceCtorEq, ite_true, ite_false, if_true, if_false, eq_self, Nat.zero_add, Nat.add_zero, Nat.le_refl, Nat.lt_irrefl, Nat.reduceEqDiff, Nat.reduceLeDiff, Nat.reduceLT, Nat.reduceAdd, Nat.reduceMul, Nat.reduceSub, wpY_common, yc_isSystem H, yc_in, h, hd, hd', g, f, cl_n, Bool.and_false, Bool.false_and, Bool.and_self]
          · rcases iz_c 0 2 w with e | ⟨k', e1, e2, e3, rfl, e⟩
            · simp (disch := first | omega | assumption) only [li_0, li_1, li_2, li_3, li_4, li_6, li_7, li_8, li_9, li_10, li_12, li_21, li_24, li_31, li_60, li_63, li_127, li_128, li_256, li_312, li_384, nI_add, nu_mul, nu_sub, nu_div, nu_and, nu_or, nu_shr, nu_bit, nu_diff, bi_2, nI_leI, nI_ltI, nI_eq, vp_in_nI, nI_clamp, ar_na, ar_ba, bo_0, bo_1, bo_it, bo_if, bo_w, bo_w0, bo_w1, bo_nar, bo_n1, bo_nn0, st_bu, st_bu1, st_bu0, st_nu, forall_eq, true_implies, false_implies, forall_const, not_true_eq_false, not_false_eq_true, and_true, true_and, implies_true, and_self, Bool.false_eq_true, Bool.true_eq_false, reduceCtorEq, ite_true, ite_false, if_true, if_false, eq_self, Nat.zero_add, Nat.add_zero, Nat.le_refl, Nat.lt_irrefl, Nat.reduceEqDiff, Nat.reduceLeDiff, Nat.reduceLT, Nat.reduceAdd, Nat.reduceMul, Nat.reduceSub, wpY_common, yc_isSystem H, yc_in, h, hd, hd', g, f, e, cl_n, Bool.and_false, Bool.false_and, Bool.and_self]
            · simp (disch := first | omega | assumption) only [li_0, li_1, li_2, li_3, li_4, li_6, li_7, li_8, li_9, li_10, li_12, li_21, li_24, li_31, li_60, li_63, li_127, li_128, li_256, li_312, li_384, nI_add, nu_mul, nu_sub, nu_div, nu_and, nu_or, nu_shr, nu_bit, nu_diff, bi_2, nI_leI, nI_ltI, nI_eq, vp_in_nI, nI_clamp, ar_na, ar_ba, bo_0, bo_1, bo_it, bo_if, bo_w, bo_w0, bo_w1, bo_nar, bo_n1, bo_nn0, st_bu, st_bu1, st_bu0, st_nu, forall_eq, true_implies, false_implies, forall_const, not_true_eq_false, not_false_eq_true, and_true, true_and, implies_true, and_self, Bool.false_eq_true, Bool.true_eq_false, reduceCtorEq, ite_true, ite_false, if_true, if_false, eq_self, Nat.zero_add, Nat.add_zero, Nat.le_refl, Nat.lt_irrefl, Nat.reduceEqDiff, Nat.reduceLeDiff, Nat.reduceLT, Nat.reduceAdd, Nat.reduceMul, Nat.reduceSub, wpY_common, yc_isSystem H, yc_in, h, hd, hd', g, f, e, cl_n, Bool.and_self]
              exact yc_common44 H hd hd' (by omega) (by omega) (by omega) (by omega)
def gc_ (bg : Nat) (co : Nat → Bool) : Nat := lo_f (fun b a => if co b = true then b else a) bg 1 0
theorem gc_le : gc_ bg co ≤ bg := by
  have h := lo_fI (f := fun b a => if co b = true then b else a) (I := fun i a => a < i) bg 1 0 (by intro j a _ _ h; split <;> omega) (by decide)
  have h : gc_ bg co < 1 + bg := h
  omega
theorem xc_greatest (hb : bg ≤ 12) : wpX_greatestCompleted post (nI bg, ar_b df, ar_b iq, ar_b tb, ar_b up, ar_n op, ar_n ov, ar_n sp, ar_n sv, ar_n qb, ar_n qi, ar_n qv, ar_n ql, ar_n so, ar_b fa, ar_n ba, ar_n an, ar_b co, pc_x pk, ar_b fr, ar_n kv, ar_n vo, ar_n kn) ↔ post (nI (gc_ bg co)) := by
  simp only [wpX_greatestCompleted]
  refine lo_fold (W := fun n i a => wX_greatestCompleted_4 post (nI bg) (ar_b df) (ar_b iq) (ar_b tb) (ar_b up) (ar_n op) (ar_n ov) (ar_n sp) (ar_n sv) (ar_n qb) (ar_n qi) (ar_n qv) (ar_n ql) (ar_n so) (ar_b fa) (ar_n ba) (ar_n an) (ar_b co) (pc_x pk) (ar_b fr) (ar_n kv) (ar_n vo) (ar_n kn) n (nI a) (nI i)) (fin := fun a => post (nI a)) (I := fun i a => a < i) (e := bg + 1) (fun b a => if co b = true then b else a) (fun _ _ h => h) ?_ ?_ ?_ bg 1 0 (by omega) (by decide)
  · intro i a _ h
    split <;> omega
  · intro n a ha
    simp (disch := first | omega | assumption) only [li_0, li_1, li_2, li_3, li_4, li_6, li_7, li_8, li_9, li_10, li_12, li_21, li_24, li_31, li_60, li_63, li_127, li_128, li_256, li_312, li_384, nI_add, nu_mul, nu_sub, nu_div, nu_and, nu_or, nu_shr, nu_bit, nu_diff, bi_2, nI_leI, nI_ltI, nI_eq, vp_in_nI, nI_clamp, ar_na, ar_ba, bo_0, bo_1, bo_it, bo_if, bo_w, bo_w0, bo_w1, bo_nar, bo_n1, bo_nn0, st_bu, st_bu1, st_bu0, st_nu, forall_eq, true_implies, false_implies, forall_const, not_true_eq_false, not_false_eq_true, and_true, true_and, implies_true, and_self, Bool.false_eq_true, Bool.true_eq_false, reduceCtorEq, ite_true, ite_false, if_true, if_false, eq_self, Nat.zero_add, Nat.add_zero, Nat.le_refl, Nat.lt_irrefl, Nat.reduceEqDiff, Nat.reduceLeDiff, Nat.reduceLT, Nat.reduceAdd, Nat.reduceMul, Nat.reduceSub, wX_greatestCompleted_4, show bg < bg + 1 by omega]
  · intro n i a hi ha
    have hi' : ¬ bg < i := by omega
    cases h : co i
    · simp (disch := first | omega | assumption) only [li_0, li_1, li_2, li_3, li_4, li_6, li_7, li_8, li_9, li_10, li_12, li_21, li_24, li_31, li_60, li_63, li_127, li_128, li_256, li_312, li_384, nI_add, nu_mul, nu_sub, nu_div, nu_and, nu_or, nu_shr, nu_bit, nu_diff, bi_2, nI_leI, nI_ltI, nI_eq, vp_in_nI, nI_clamp, ar_na, ar_ba, bo_0, bo_1, bo_it, bo_if, bo_w, bo_w0, bo_w1, bo_nar, bo_n1, bo_nn0, st_bu, st_bu1, st_bu0, st_nu, forall_eq, true_implies, false_implies, forall_const, not_true_eq_false, not_false_eq_true, and_true, true_and, implies_true, and_self, Bool.false_eq_true, Bool.true_eq_false, reduceCtorEq, ite_true, ite_false, if_true, if_false, eq_self, Nat.zero_add, Nat.add_zero, Nat.le_refl, Nat.lt_irrefl, Nat.reduceEqDiff, Nat.reduceLeDiff, Nat.reduceLT, Nat.reduceAdd, Nat.reduceMul, Nat.reduceSub, wX_greatestCompleted_4, hi', h]
    · simp (disch := first | omega | assumption) only [li_0, li_1, li_2, li_3, li_4, li_6, li_7, li_8, li_9, li_10, li_12, li_21, li_24, li_31, li_60, li_63, li_127, li_128, li_256, li_312, li_384, nI_add, nu_mul, nu_sub, nu_div, nu_and, nu_or, nu_shr, nu_bit, nu_diff, bi_2, nI_leI, nI_ltI, nI_eq, vp_in_nI, nI_clamp, ar_na, ar_ba, bo_0, bo_1, bo_it, bo_if, bo_w, bo_w0, bo_w1, bo_nar, bo_n1, bo_nn0, st_bu, st_bu1, st_bu0, st_nu, forall_eq, true_implies, false_implies, forall_const, not_true_eq_false, not_false_eq_true, and_true, true_and, implies_true, and_self, Bool.false_eq_true, Bool.true_eq_false, reduceCtorEq, ite_true, ite_false, if_true, if_false, eq_self, Nat.zero_add, Nat.add_zero, Nat.le_refl, Nat.lt_irrefl, Nat.reduceEqDiff, Nat.reduceLeDiff, Nat.reduceLT, Nat.reduceAdd, Nat.reduceMul, Nat.reduceSub, wX_greatestCompleted_4, hi', h]
theorem xc_begin {post : Int32 → SX → Prop} {f : Bool} (hb : bg ≤ 12) : wpX_begin post (nI bg, ar_b df, ar_b iq, ar_b tb, ar_b up, ar_n op, ar_n ov, ar_n sp, ar_n sv, ar_n qb, ar_n qi, ar_n qv, ar_n ql, ar_n so, ar_b fa, ar_n ba, ar_n an, ar_b co, pc_x pk, ar_b fr, ar_n kv, ar_n vo, ar_n kn) x (bo_i f) ↔
    (((iz 0 3 x && df (cl_ x) && (!f || iq (cl_ x * 384 + 2 * 128 + 127))) = false → post (-nI 1) (nI bg, ar_b df, ar_b iq, ar_b tb, ar_b up, ar_n op, ar_n ov, ar_n sp, ar_n sv, ar_n qb, ar_n qi, ar_n qv, ar_n ql, ar_n so, ar_b fa, ar_n ba, ar_n an, ar_b co, pc_x pk, ar_b fr, ar_n kv, ar_n vo, ar_n kn)) ∧ ((iz 0 3 x && df (cl_ x) && (!f || iq (cl_ x * 384 + 2 * 128 + 127))) = true → (bg = 12 → post (-nI 2) (nI bg, ar_b df, ar_b iq, ar_b tb, ar_b up, ar_n op, ar_n ov, ar_n sp, ar_n sv, ar_n qb, ar_n qi, ar_n qv, ar_n ql, ar_n so, ar_b fa, ar_n ba, ar_n an, ar_b co, pc_x pk, ar_b fr, ar_n kv, ar_n vo, ar_n kn)) ∧ (¬ bg = 12 → post (nI (bg + 1)) (nI (bg + 1), ar_b df, ar_b iq, ar_b tb, ar_b up, ar_n op, ar_n ov, ar_n sp, ar_n sv, ar_n qb, ar_n qi, ar_n qv, ar_n ql, ar_n (st_n so (bg + 1) (cl_ x)), ar_b (st_b fa (bg + 1) f), ar_n (st_n ba (bg + 1) (gc_ bg co)), ar_n an, ar_b co, pc_x pk, ar_b fr, ar_n kv, ar_n vo, ar_n kn)))) := by
  rcases iz_c 0 3 x with h | ⟨j, h1, h2, h3, rfl, h⟩
  · simp (disch := first | omega | assumption) only [li_0, li_1, li_2, li_3, li_4, li_6, li_7, li_8, li_9, li_10, li_12, li_21, li_24, li_31, li_60, li_63, li_127, li_128, li_256, li_312, li_384, nI_add, nu_mul, nu_sub, nu_div, nu_and, nu_or, nu_shr, nu_bit, nu_diff, bi_2, nI_leI, nI_ltI, nI_eq, vp_in_nI, nI_clamp, ar_na, ar_ba, bo_0, bo_1, bo_it, bo_if, bo_w, bo_w0, bo_w1, bo_nar, bo_n1, bo_nn0, st_bu, st_bu1, st_bu0, st_nu, forall_eq, true_implies, false_implies, forall_const, not_true_eq_false, not_false_eq_true, and_true, true_and, implies_true, and_self, Bool.false_eq_true, Bool.true_eq_false, reduceCtorEq, ite_true, ite_false, if_true, if_false, eq_self, Nat.zero_add, Nat.add_zero, Nat.le_refl, Nat.lt_irrefl, Nat.reduceEqDiff, Nat.reduceLeDiff, Nat.reduceLT, Nat.reduceAdd, Nat.reduceMul, Nat.reduceSub, wpX_begin, xc_isSystem, h, Bool.false_and]
  · rw [cl_n h3]
    cases hd : df j
    · simp (disch := first | omega | assumption) only [li_0, li_1, li_2, li_3, li_4, li_6, li_7, li_8, li_9, li_10, li_12, li_21, li_24, li_31, li_60, li_63, li_127, li_128, li_256, li_312, li_384, nI_add, nu_mul, nu_sub, nu_div, nu_and, nu_or, nu_shr, nu_bit, nu_diff, bi_2, nI_leI, nI_ltI, nI_eq, vp_in_nI, nI_clamp, ar_na, ar_ba, bo_0, bo_1, bo_it, bo_if, bo_w, bo_w0, bo_w1, bo_nar, bo_n1, bo_nn0, st_bu, st_bu1, st_bu0, st_nu, forall_eq, true_implies, false_implies, forall_const, not_true_eq_false, not_false_eq_true, and_true, true_and, implies_true, and_self, Bool.false_eq_true, Bool.true_eq_false, reduceCtorEq, ite_true, ite_false, if_true, if_false, eq_self, Nat.zero_add, Nat.add_zero, Nat.le_refl, Nat.lt_irrefl, Nat.reduceEqDiff, Nat.reduceLeDiff, Nat.reduceLT, Nat.reduceAdd, Nat.reduceMul, Nat.reduceSub, wpX_begin, xc_isSystem, h, hd, cl_n, Bool.and_false, Bool.false_and]
    · by_cases z : bg = 12
      · subst z
        cases f
        · simp (disch := first | omega | assumption) only [li_0, li_1, li_2, li_3, li_4, li_6, li_7, li_8, li_9, li_10, li_12, li_21, li_24, li_31, li_60, li_63, li_127, li_128, li_256, li_312, li_384, nI_add, nu_mul, nu_sub, nu_div, nu_and, nu_or, nu_shr, nu_bit, nu_diff, bi_2, nI_leI, nI_ltI, nI_eq, vp_in_nI, nI_clamp, ar_na, ar_ba, bo_0, bo_1, bo_it, bo_if, bo_w, bo_w0, bo_w1, bo_nar, bo_n1, bo_nn0, st_bu, st_bu1, st_bu0, st_nu, forall_eq, true_implies, false_implies, forall_const, not_true_eq_false, not_false_eq_true, and_true, true_and, implies_true, and_self, Bool.false_eq_true, Bool.true_eq_false, reduceCtorEq, ite_true, ite_false, if_true, if_false, eq_self, Nat.zero_add, Nat.add_zero, Nat.le_refl, Nat.lt_irrefl, Nat.reduceEqDiff, Nat.reduceLeDiff, Nat.reduceLT, Nat.reduceAdd, Nat.reduceMul, Nat.reduceSub, wpX_begin, wX_begin_25, xc_isSystem, h, hd, cl_n, Bool.and_self, Bool.not_false, Bool.true_or]
        · cases q : iq (j * 384 + 2 * 128 + 127)
          · simp (disch := first | omega | assumption) only [li_0, li_1, li_2, li_3, li_4, li_6, li_7, li_8, li_9, li_10, li_12, li_21, li_24, li_31, li_60, li_63, li_127, li_128, li_256, li_312, li_384, nI_add, nu_mul, nu_sub, nu_div, nu_and, nu_or, nu_shr, nu_bit, nu_diff, bi_2, nI_leI, nI_ltI, nI_eq, vp_in_nI, nI_clamp, ar_na, ar_ba, bo_0, bo_1, bo_it, bo_if, bo_w, bo_w0, bo_w1, bo_nar, bo_n1, bo_nn0, st_bu, st_bu1, st_bu0, st_nu, forall_eq, true_implies, false_implies, forall_const, not_true_eq_false, not_false_eq_true, and_true, true_and, implies_true, and_self, Bool.false_eq_true, Bool.true_eq_false, reduceCtorEq, ite_true, ite_false, if_true, if_false, eq_self, Nat.zero_add, Nat.add_zero, Nat.le_refl, Nat.lt_irrefl, Nat.reduceEqDiff, Nat.reduceLeDiff, Nat.reduceLT, Nat.reduceAdd, Nat.reduceMul, Nat.reduceSub, wpX_begin, wX_begin_25, xc_isSystem, h, hd, cl_n, Bool.and_self, Bool.not_true, Bool.false_or, xc_holds, q, Bool.and_false]
          · simp (disch := first | omega | assumption) only [li_0, li_1, li_2, li_3, li_4, li_6, li_7, li_8, li_9, li_10, li_12, li_21, li_24, li_31, li_60, li_63, li_127, li_128, li_256, li_312, li_384, nI_add, nu_mul, nu_sub, nu_div, nu_and, nu_or, nu_shr, nu_bit, nu_diff, bi_2, nI_leI, nI_ltI, nI_eq, vp_in_nI, nI_clamp, ar_na, ar_ba, bo_0, bo_1, bo_it, bo_if, bo_w, bo_w0, bo_w1, bo_nar, bo_n1, bo_nn0, st_bu, st_bu1, st_bu0, st_nu, forall_eq, true_implies, false_implies, forall_const, not_true_eq_false, not_false_eq_true, and_true, true_and, implies_true, and_self, Bool.false_eq_true, Bool.true_eq_false, reduceCtorEq, ite_true, ite_false, if_true, if_false, eq_self, Nat.zero_add, Nat.add_zero, Nat.le_refl, Nat.lt_irrefl, Nat.reduceEqDiff, Nat.reduceLeDiff, Nat.reduceLT, Nat.reduceAdd, Nat.reduceMul, Nat.reduceSub, wpX_begin, wX_begin_25, xc_isSystem, h, hd, cl_n, Bool.and_self, Bool.not_true, Bool.false_or, xc_holds, q]
      · cases f
        · simp (disch := first | omega | assumption) only [li_0, li_1, li_2, li_3, li_4, li_6, li_7, li_8, li_9, li_10, li_12, li_21, li_24, li_31, li_60, li_63, li_127, li_128, li_256, li_312, li_384, nI_add, nu_mul, nu_sub, nu_div, nu_and, nu_or, nu_shr, nu_bit, nu_diff, bi_2, nI_leI, nI_ltI, nI_eq, vp_in_nI, nI_clamp, ar_na, ar_ba, bo_0, bo_1, bo_it, bo_if, bo_w, bo_w0, bo_w1, bo_nar, bo_n1, bo_nn0, st_bu, st_bu1, st_bu0, st_nu, forall_eq, true_implies, false_implies, forall_const, not_true_eq_false, not_false_eq_true, and_true, true_and, implies_true, and_self, Bool.false_eq_true, Bool.true_eq_false, reduceCtorEq, ite_true, ite_false, if_true, if_false, eq_self, Nat.zero_add, Nat.add_zero, Nat.le_refl, Nat.lt_irrefl, Nat.reduceEqDiff, Nat.reduceLeDiff, Nat.reduceLT, Nat.reduceAdd, Nat.reduceMul, Nat.reduceSub, wpX_begin, wX_begin_25, xc_isSystem, h, hd, cl_n, Bool.and_self, Bool.not_false, Bool.true_or, z, xc_greatest]
        · cases q : iq (j * 384 + 2 * 128 + 127)
          · simp (disch := first | omega | assumption) only [li_0, li_1, li_2, li_3, li_4, li_6, li_7, li_8, li_9, li_10, li_12, li_21, li_24, li_31, li_60, li_63, li_127, li_128, li_256, li_312, li_384, nI_add, nu_mul, nu_sub, nu_div, nu_and, nu_or, nu_shr, nu_bit, nu_diff, bi_2, nI_leI, nI_ltI, nI_eq, vp_in_nI, nI_clamp, ar_na, ar_ba, bo_0, bo_1, bo_it, bo_if, bo_w, bo_w0, bo_w1, bo_nar, bo_n1, bo_nn0, st_bu, st_bu1, st_bu0, st_nu, forall_eq, true_implies, false_implies, forall_const, not_true_eq_false, not_false_eq_true, and_true, true_and, implies_true, and_self, Bool.false_eq_true, Bool.true_eq_false, reduceCtorEq, ite_true, ite_false, if_true, if_false, eq_self, Nat.zero_add, Nat.add_zero, Nat.le_refl, Nat.lt_irrefl, Nat.reduceEqDiff, Nat.reduceLeDiff, Nat.reduceLT, Nat.reduceAdd, Nat.reduceMul, Nat.reduceSub, wpX_begin, wX_begin_25, xc_isSystem, h, hd, cl_n, Bool.and_self, Bool.not_true, Bool.false_or, xc_holds, q, Bool.and_false]
          · simp (disch := first | omega | assumption) only [li_0, li_1, li_2, li_3, li_4, li_6, li_7, li_8, li_9, li_10, li_12, li_21, li_24, li_31, li_60, li_63, li_127, li_128, li_256, li_312, li_384, nI_add, nu_mul, nu_sub, nu_div, nu_and, nu_or, nu_shr, nu_bit, nu_diff, bi_2, nI_leI, nI_ltI, nI_eq, vp_in_nI, nI_clamp, ar_na, ar_ba, bo_0, bo_1, bo_it, bo_if, bo_w, bo_w0, bo_w1, bo_nar, bo_n1, bo_nn0, st_bu, st_bu1, st_bu0, st_nu, forall_eq, true_implies, false_implies, forall_const, not_true_eq_false, not_false_eq_true, and_true, true_and, implies_true, and_self, Bool.false_eq_true, Bool.true_eq_false, reduceCtorEq, ite_true, ite_false, if_true, if_false, eq_self, Nat.zero_add, Nat.add_zero, Nat.le_refl, Nat.lt_irrefl, Nat.reduceEqDiff, Nat.reduceLeDiff, Nat.reduceLT, Nat.reduceAdd, Nat.reduceMul, Nat.reduceSub, wpX_begin, wX_begin_25, xc_isSystem, h, hd, cl_n, Bool.and_self, Bool.not_true, Bool.false_or, xc_holds, q, z, xc_greatest]
theorem yc_begin42 {post : Int32 → SY → Prop} {f : Bool} (hb : bg < 12) : (∃ n, wY_begin_42 post (nI s) (bo_i f) (nI bg) srt num (ar_n so) (ar_n ba) (ar_n an) (pc_y pk) (ar_n kv) (ar_b fa) (ar_b co) (ar_b fr) (ar_b dn) (ar_n sp) (ar_n sv) (ar_n ql) (ar_n qb) (ar_n qj) (ar_n qv) (ar_n vo) (ar_n kn) n (nI 0) (nI 1)) ↔ post (nI (bg + 1)) (nI (bg + 1), srt, num, ar_n (st_n so (bg + 1) s), ar_n (st_n ba (bg + 1) (gc_ bg co)), ar_n an, pc_y pk, ar_n kv, ar_b (st_b fa (bg + 1) f), ar_b co, ar_b fr, ar_b dn, ar_n sp, ar_n sv, ar_n ql, ar_n qb, ar_n qj, ar_n qv, ar_n vo, ar_n kn) := by
  refine lo_fold (W := fun n i a => wY_begin_42 post (nI s) (bo_i f) (nI bg) srt num (ar_n so) (ar_n ba) (ar_n an) (pc_y pk) (ar_n kv) (ar_b fa) (ar_b co) (ar_b fr) (ar_b dn) (ar_n sp) (ar_n sv) (ar_n ql) (ar_n qb) (ar_n qj) (ar_n qv) (ar_n vo) (ar_n kn) n (nI a) (nI i)) (fin := fun a => post (nI (bg + 1)) (nI (bg + 1), srt, num, ar_n (st_n so (bg + 1) s), ar_n (st_n ba (bg + 1) a), ar_n an, pc_y pk, ar_n kv, ar_b (st_b fa (bg + 1) f), ar_b co, ar_b fr, ar_b dn, ar_n sp, ar_n sv, ar_n ql, ar_n qb, ar_n qj, ar_n qv, ar_n vo, ar_n kn)) (I := fun i a => a < i) (e := bg + 1) (fun b a => if co b = true then b else a) (fun _ _ h => h) ?_ ?_ ?_ bg 1 0 (by omega) (by decide)
  · intro i a _ h
    split <;> omega
  · intro n a ha
    simp (disch := first | omega | assumption) only [li_0, li_1, li_2, li_3, li_4, li_6, li_7, li_8, li_9, li_10, li_12, li_21, li_24, li_31, li_60, li_63, li_127, li_128, li_256, li_312, li_384, nI_add, nu_mul, nu_sub, nu_div, nu_and, nu_or, nu_shr, nu_bit, nu_diff, bi_2, nI_leI, nI_ltI, nI_eq, vp_in_nI, nI_clamp, ar_na, ar_ba, bo_0, bo_1, bo_it, bo_if, bo_w, bo_w0, bo_w1, bo_nar, bo_n1, bo_nn0, st_bu, st_bu1, st_bu0, st_nu, forall_eq, true_implies, false_implies, forall_const, not_true_eq_false, not_false_eq_true, and_true, true_and, implies_true, and_self, Bool.false_eq_true, Bool.true_eq_false, reduceCtorEq, ite_true, ite_false, if_true, if_false, eq_self, Nat.zero_add, Nat.add_zero, Nat.le_refl, Nat.lt_irrefl, Nat.reduceEqDiff, Nat.reduceLeDiff, Nat.reduceLT, Nat.reduceAdd, Nat.reduceMul, Nat.reduceSub, wY_begin_42, show bg < bg + 1 by omega]
  · intro n i a hi ha
    have hi' : ¬ bg < i := by omega
    cases h : co i
    · simp (disch := first | omega | assumption) only [li_0, li_1, li_2, li_3, li_4, li_6, li_7, li_8, li_9, li_10, li_12, li_21, li_24, li_31, li_60, li_63, li_127, li_128, li_256, li_312, li_384, nI_add, nu_mul, nu_sub, nu_div, nu_and, nu_or, nu_shr, nu_bit, nu_diff, bi_2, nI_leI, nI_ltI, nI_eq, vp_in_nI, nI_clamp, ar_na, ar_ba, bo_0, bo_1, bo_it, bo_if, bo_w, bo_w0, bo_w1, bo_nar, bo_n1, bo_nn0, st_bu, st_bu1, st_bu0, st_nu, forall_eq, true_implies, false_implies, forall_const, not_true_eq_false, not_false_eq_true, and_true, true_and, implies_true, and_self, Bool.false_eq_true, Bool.true_eq_false, reduceCtorEq, ite_true, ite_false, if_true, if_false, eq_self, Nat.zero_add, Nat.add_zero, Nat.le_refl, Nat.lt_irrefl, Nat.reduceEqDiff, Nat.reduceLeDiff, Nat.reduceLT, Nat.reduceAdd, Nat.reduceMul, Nat.reduceSub, wY_begin_42, hi', h]
    · simp (disch := first | omega | assumption) only [li_0, li_1, li_2, li_3, li_4, li_6, li_7, li_8, li_9, li_10, li_12, li_21, li_24, li_31, li_60, li_63, li_127, li_128, li_256, li_312, li_384, nI_add, nu_mul, nu_sub, nu_div, nu_and, nu_or, nu_shr, nu_bit, nu_diff, bi_2, nI_leI, nI_ltI, nI_eq, vp_in_nI, nI_clamp, ar_na, ar_ba, bo_0, bo_1, bo_it, bo_if, bo_w, bo_w0, bo_w1, bo_nar, bo_n1, bo_nn0, st_bu, st_bu1, st_bu0, st_nu, forall_eq, true_implies, false_implies, forall_const, not_true_eq_false, not_false_eq_true, and_true, true_and, implies_true, and_self, Bool.false_eq_true, Bool.true_eq_false, reduceCtorEq, ite_true, ite_false, if_true, if_false, eq_self, Nat.zero_add, Nat.add_zero, Nat.le_refl, Nat.lt_irrefl, Nat.reduceEqDiff, Nat.reduceLeDiff, Nat.reduceLT, Nat.reduceAdd, Nat.reduceMul, Nat.reduceSub, wY_begin_42, hi', h]
theorem yc_begin {post : Int32 → SY → Prop} {f : Bool} (H : in_s df iq srt num) (hb : bg ≤ 12) : wpY_begin post (nI bg, srt, num, ar_n so, ar_n ba, ar_n an, pc_y pk, ar_n kv, ar_b fa, ar_b co, ar_b fr, ar_b dn, ar_n sp, ar_n sv, ar_n ql, ar_n qb, ar_n qj, ar_n qv, ar_n vo, ar_n kn) x (bo_i f) ↔
    (((iz 0 3 x && df (cl_ x) && (!f || iq (cl_ x * 384 + 2 * 128 + 127))) = false → post (-nI 1) (nI bg, srt, num, ar_n so, ar_n ba, ar_n an, pc_y pk, ar_n kv, ar_b fa, ar_b co, ar_b fr, ar_b dn, ar_n sp, ar_n sv, ar_n ql, ar_n qb, ar_n qj, ar_n qv, ar_n vo, ar_n kn)) ∧ ((iz 0 3 x && df (cl_ x) && (!f || iq (cl_ x * 384 + 2 * 128 + 127))) = true → (bg = 12 → post (-nI 2) (nI bg, srt, num, ar_n so, ar_n ba, ar_n an, pc_y pk, ar_n kv, ar_b fa, ar_b co, ar_b fr, ar_b dn, ar_n sp, ar_n sv, ar_n ql, ar_n qb, ar_n qj, ar_n qv, ar_n vo, ar_n kn)) ∧ (¬ bg = 12 → post (nI (bg + 1)) (nI (bg + 1), srt, num, ar_n (st_n so (bg + 1) (cl_ x)), ar_n (st_n ba (bg + 1) (gc_ bg co)), ar_n an, pc_y pk, ar_n kv, ar_b (st_b fa (bg + 1) f), ar_b co, ar_b fr, ar_b dn, ar_n sp, ar_n sv, ar_n ql, ar_n qb, ar_n qj, ar_n qv, ar_n vo, ar_n kn)))) := by
  rcases iz_c 0 3 x with h | ⟨j, h1, h2, h3, rfl, h⟩
  · simp (disch := first | omega | assumption) only [li_0, li_1, li_2, li_3, li_4, li_6, li_7, li_8, li_9, li_10, li_12, li_21, li_24, li_31, li_60, li_63, li_127, li_128, li_256, li_312, li_384, nI_add, nu_mul, nu_sub, nu_div, nu_and, nu_or, nu_shr, nu_bit, nu_diff, bi_2, nI_leI, nI_ltI, nI_eq, vp_in_nI, nI_clamp, ar_na, ar_ba, bo_0, bo_1, bo_it, bo_if, bo_w, bo_w0, bo_w1, bo_nar, bo_n1, bo_nn0, st_bu, st_bu1, st_bu0, st_nu, forall_eq, true_implies, false_implies, forall_const, not_true_eq_false, not_false_eq_true, and_true, true_and, implies_true, and_self, Bool.false_eq_true, Bool.true_eq_false, reduceCtorEq, ite_true, ite_false, if_true, if_false, eq_self, Nat.zero_add, Nat.add_zero, Nat.le_refl, Nat.lt_irrefl, Nat.reduceEqDiff, Nat.reduceLeDiff, Nat.reduceLT, Nat.reduceAdd, Nat.reduceMul, Nat.reduceSub, wpY_begin, yc_isSystem H, h, Bool.false_and]
  · rw [cl_n h3]
    cases hd : df j
    · simp (disch := first | omega | assumption) only [li_0, li_1, li_2, li_3, li_4, li_6, li_7, li_8, li_9, li_10, li_12, li_21, li_24, li_31, li_60, li_63, li_127, li_128, li_256, li_312, li_384, nI_add, nu_mul, nu_sub, nu_div, nu_and, nu_or, nu_shr, nu_bit, nu_diff, bi_2, nI_leI, nI_ltI, nI_eq, vp_in_nI, nI_clamp, ar_na, ar_ba, bo_0, bo_1, bo_it, bo_if, bo_w, bo_w0, bo_w1, bo_nar, bo_n1, bo_nn0, st_bu, st_bu1, st_bu0, st_nu, forall_eq, true_implies, false_implies, forall_const, not_true_eq_false, not_false_eq_true, and_true, true_and, implies_true, and_self, Bool.false_eq_true, Bool.true_eq_false, reduceCtorEq, ite_true, ite_false, if_true, if_false, eq_self, Nat.zero_add, Nat.add_zero, Nat.le_refl, Nat.lt_irrefl, Nat.reduceEqDiff, Nat.reduceLeDiff, Nat.reduceLT, Nat.reduceAdd, Nat.reduceMul, Nat.reduceSub, wpY_begin, yc_isSystem H, h, hd, cl_n, Bool.and_false, Bool.false_and]
    · by_cases z : bg = 12
      · subst z
        cases f
        · simp (disch := first | omega | assumption) only [li_0, li_1, li_2, li_3, li_4, li_6, li_7, li_8, li_9, li_10, li_12, li_21, li_24, li_31, li_60, li_63, li_127, li_128, li_256, li_312, li_384, nI_add, nu_mul, nu_sub, nu_div, nu_and, nu_or, nu_shr, nu_bit, nu_diff, bi_2, nI_leI, nI_ltI, nI_eq, vp_in_nI, nI_clamp, ar_na, ar_ba, bo_0, bo_1, bo_it, bo_if, bo_w, bo_w0, bo_w1, bo_nar, bo_n1, bo_nn0, st_bu, st_bu1, st_bu0, st_nu, forall_eq, true_implies, false_implies, forall_const, not_true_eq_false, not_false_eq_true, and_true, true_and, implies_true, and_self, Bool.false_eq_true, Bool.true_eq_false, reduceCtorEq, ite_true, ite_false, if_true, if_false, eq_self, Nat.zero_add, Nat.add_zero, Nat.le_refl, Nat.lt_irrefl, Nat.reduceEqDiff, Nat.reduceLeDiff, Nat.reduceLT, Nat.reduceAdd, Nat.reduceMul, Nat.reduceSub, wpY_begin, wY_begin_25, yc_isSystem H, h, hd, cl_n, Bool.and_self, Bool.not_false, Bool.true_or]
        · cases q : iq (j * 384 + 2 * 128 + 127)
          · simp (disch := first | omega | assumption) only [li_0, li_1, li_2, li_3, li_4, li_6, li_7, li_8, li_9, li_10, li_12, li_21, li_24, li_31, li_60, li_63, li_127, li_128, li_256, li_312, li_384, nI_add, nu_mul, nu_sub, nu_div, nu_and, nu_or, nu_shr, nu_bit, nu_diff, bi_2, nI_leI, nI_ltI, nI_eq, vp_in_nI, nI_clamp, ar_na, ar_ba, bo_0, bo_1, bo_it, bo_if, bo_w, bo_w0, bo_w1, bo_nar, bo_n1, bo_nn0, st_bu, st_bu1, st_bu0, st_nu, forall_eq, true_implies, false_implies, forall_const, not_true_eq_false, not_false_eq_true, and_true, true_and, implies_true, and_self, Bool.false_eq_true, Bool.true_eq_false, reduceCtorEq, ite_true, ite_false, if_true, if_false, eq_self, Nat.zero_add, Nat.add_zero, Nat.le_refl, Nat.lt_irrefl, Nat.reduceEqDiff, Nat.reduceLeDiff, Nat.reduceLT, Nat.reduceAdd, Nat.reduceMul, Nat.reduceSub, wpY_begin, wY_begin_25, yc_isSystem H, h, hd, cl_n, Bool.and_self, Bool.not_true, Bool.false_or, yc_q H, q, Bool.and_false]
          · simp (disch := first | omega | assumption) only [li_0, li_1, li_2, li_3, li_4, li_6, li_7, li_8, li_9, li_10, li_12, li_21, li_24, li_31, li_60, li_63, li_127, li_128, li_256, li_312, li_384, nI_add, nu_mul, nu_sub, nu_div, nu_and, nu_or, nu_shr, nu_bit, nu_diff, bi_2, nI_leI, nI_ltI, nI_eq, vp_in_nI, nI_clamp, ar_na, ar_ba, bo_0, bo_1, bo_it, bo_if, bo_w, bo_w0, bo_w1, bo_nar, bo_n1, bo_nn0, st_bu, st_bu1, st_bu0, st_nu, forall_eq, true_implies, false_implies, forall_const, not_true_eq_false, not_false_eq_true, and_true, true_and, implies_true, and_self, Bool.false_eq_true, Bool.true_eq_false, reduceCtorEq, ite_true, ite_false, if_true, if_false, eq_self, Nat.zero_add, Nat.add_zero, Nat.le_refl, Nat.lt_irrefl, Nat.reduceEqDiff, Nat.reduceLeDiff, Nat.reduceLT, Nat.reduceAdd, Nat.reduceMul, Nat.reduceSub, wpY_begin, wY_begin_25, yc_isSystem H, h, hd, cl_n, Bool.and_self, Bool.not_true, Bool.false_or, yc_q H, q]
      · cases f
        · simp (disch := first | omega | assumption) only [li_0, li_1, li_2, li_3, li_4, li_6, li_7, li_8, li_9, li_10, li_12, li_21, li_24, li_31, li_60, li_63, li_127, li_128, li_256, li_312, li_384, nI_add, nu_mul, nu_sub, nu_div, nu_and, nu_or, nu_shr, nu_bit, nu_diff, bi_2, nI_leI, nI_ltI, nI_eq, vp_in_nI, nI_clamp, ar_na, ar_ba, bo_0, bo_1, bo_it, bo_if, bo_w, bo_w0, bo_w1, bo_nar, bo_n1, bo_nn0, st_bu, st_bu1, st_bu0, st_nu, forall_eq, true_implies, false_implies, forall_const, not_true_eq_false, not_false_eq_true, and_true, true_and, implies_true, and_self, Bool.false_eq_true, Bool.true_eq_false, reduceCtorEq, ite_true, ite_false, if_true, if_false, eq_self, Nat.zero_add, Nat.add_zero, Nat.le_refl, Nat.lt_irrefl, Nat.reduceEqDiff, Nat.reduceLeDiff, Nat.reduceLT, Nat.reduceAdd, Nat.reduceMul, Nat.reduceSub, wpY_begin, wY_begin_25, yc_isSystem H, h, hd, cl_n, Bool.and_self, Bool.not_false, Bool.true_or, z]
          exact yc_begin42 (f := false) (by omega)
        · cases q : iq (j * 384 + 2 * 128 + 127)
          · simp (disch := first | omega | assumption) only [li_0, li_1, li_2, li_3, li_4, li_6, li_7, li_8, li_9, li_10, li_12, li_21, li_24, li_31, li_60, li_63, li_127, li_128, li_256, li_312, li_384, nI_add, nu_mul, nu_sub, nu_div, nu_and, nu_or, nu_shr, nu_bit, nu_diff, bi_2, nI_leI, nI_ltI, nI_eq, vp_in_nI, nI_clamp, ar_na, ar_ba, bo_0, bo_1, bo_it, bo_if, bo_w, bo_w0, bo_w1, bo_nar, bo_n1, bo_nn0, st_bu, st_bu1, st_bu0, st_nu, forall_eq, true_implies, false_implies, forall_const, not_true_eq_false, not_false_eq_true, and_true, true_and, implies_true, and_self, Bool.false_eq_true, Bool.true_eq_false, reduceCtorEq, ite_true, ite_false, if_true, if_false, eq_self, Nat.zero_add, Nat.add_zero, Nat.le_refl, Nat.lt_irrefl, Nat.reduceEqDiff, Nat.reduceLeDiff, Nat.reduceLT, Nat.reduceAdd, Nat.reduceMul, Nat.reduceSub, wpY_begin, wY_begin_25, yc_isSystem H, h, hd, cl_n, Bool.and_self, Bool.not_true, Bool.false_or, yc_q H, q, Bool.and_false]
          · simp (disch := first | omega | assumption) only [li_0, li_1, li_2, li_3, li_4, li_6, li_7, li_8, li_9, li_10, li_12, li_21, li_24, li_31, li_60, li_63, li_127, li_128, li_256, li_312, li_384, nI_add, nu_mul, nu_sub, nu_div, nu_and, nu_or, nu_shr, nu_bit, nu_diff, bi_2, nI_leI, nI_ltI, nI_eq, vp_in_nI, nI_clamp, ar_na, ar_ba, bo_0, bo_1, bo_it, bo_if, bo_w, bo_w0, bo_w1, bo_nar, bo_n1, bo_nn0, st_bu, st_bu1, st_bu0, st_nu, forall_eq, true_implies, false_implies, forall_const, not_true_eq_false, not_false_eq_true, and_true, true_and, implies_true, and_self, Bool.false_eq_true, Bool.true_eq_false, reduceCtorEq, ite_true, ite_false, if_true, if_false, eq_self, Nat.zero_add, Nat.add_zero, Nat.le_refl, Nat.lt_irrefl, Nat.reduceEqDiff, Nat.reduceLeDiff, Nat.reduceLT, Nat.reduceAdd, Nat.reduceMul, Nat.reduceSub, wpY_begin, wY_begin_25, yc_isSystem H, h, hd, cl_n, Bool.and_self, Bool.not_true, Bool.false_or, yc_q H, q, z]
            exact yc_begin42 (f := true) (by omega)
theorem vo_up {bg bg' : Nat} {pk pk' : Nat → Nat} {i x : Nat} (hb : bg ≤ bg') (hp : ∀ j, pk j ≠ 0 → pk' j ≠ 0) (h : vo_ bg pk i x) : vo_ bg' pk' i x := by
  rcases h with h | ⟨h1, h2, h3, h4⟩
  · exact Or.inl h
  · exact Or.inr ⟨h1, Nat.le_trans h2 hb, h3, hp _ h4⟩
theorem rc_up {bg bg' : Nat} {pk pk' : Nat → Nat} {b i j v : Nat} (hb : bg ≤ bg') (hp : ∀ j, pk j ≠ 0 → pk' j ≠ 0) (h : rc_ bg pk b i j v) : rc_ bg' pk' b i j v := by
  obtain ⟨h1, h2, h3⟩ := h
  refine ⟨h1, Nat.le_trans h2 hb, ?_⟩
  rcases h3 with h | ⟨a, b, c, d, e⟩
  · exact Or.inl h
  · exact Or.inr ⟨a, b, c, d, hp _ e⟩
theorem in_vu {bg' : Nat} {pk' : Nat → Nat} (hb : bg ≤ bg') (hp : ∀ j, pk j ≠ 0 → pk' j ≠ 0) (h : in_v bg pk sv kv) : in_v bg' pk' sv kv :=
  ⟨fun n i a b => vo_up hb hp (h.1 n i a b), fun b n i c d e => vo_up hb hp (h.2 b n i c d e)⟩
theorem in_qu {bg' : Nat} {pk' : Nat → Nat} (hb : bg ≤ bg') (hp : ∀ j, pk j ≠ 0 → pk' j ≠ 0) (h : in_q bg up pk sp qb qi qj qv ql) : in_q bg' up pk' sp qb qi qj qv ql := by
  intro n hn
  obtain ⟨h1, h2, h3, h4⟩ := h n hn
  refine ⟨h1, Nat.le_trans h2 hb, h3, fun p hp' => ?_⟩
  obtain ⟨a, b, c⟩ := h4 p hp'
  exact ⟨rc_up hb hp a, b, c⟩
end
theorem i_vc_common {k : Nat} {u : SX} {v : SY} (I : i_Rel k u v) (hk : k + 7 ≤ 3584) (v1 : Int32) (v2 : Int32) (v3 : Int32) (v4 : Int32) : wpX_common (fun r => wpY_common (fun r' => r' = r ∧ i_Rel (k + 7) u v) v v1 v2 v3 v4) u v1 v2 v3 v4 := by
  have I' : i_Rel (k + 7) u v := I
  obtain ⟨bg, df, iq, tb, up, fa, co, fr, dn, op, ov, sp, sv, qb, qi, qj, qv, ql, so, ba, an, pk, kv, vo, kn, srt, num, rfl, rfl, H⟩ := I
  exact xc_common.mpr ((yc_common H.2.1).mpr ⟨rfl, I'⟩)
theorem i_vc_begin {k : Nat} {u : SX} {v : SY} (I : i_Rel k u v) (hk : k + 7 ≤ 3584) (v1 : Int32) (v2 : Int32) : wpX_begin (fun r u' => wpY_begin (fun r' v' => r' = r ∧ i_Rel (k + 7) u' v') v v1 (lw_bz v2)) u v1 (lw_bz v2) := by
  have I' : i_Rel (k + 7) u v := I
  obtain ⟨bg, df, iq, tb, up, fa, co, fr, dn, op, ov, sp, sv, qb, qi, qj, qv, ql, so, ba, an, pk, kv, vo, kn, srt, num, rfl, rfl, H⟩ := I
  obtain ⟨f, hf⟩ : ∃ f, lw_bz v2 = bo_i f := by
    rcases lw_bz_01 v2 with h | h
    · exact ⟨false, h⟩
    · exact ⟨true, h⟩
  rw [hf]
  obtain ⟨hb, hs, hbb, hp, hv, hc, hq, ho, ha, hd⟩ := H
  refine (xc_begin hb).mpr ⟨fun h => (yc_begin hs hb).mpr ⟨fun _ => ⟨rfl, I'⟩, fun h' => absurd (h.symm.trans h') (by decide)⟩, fun h => ⟨fun z => (yc_begin hs hb).mpr ⟨fun h' => absurd (h.symm.trans h') (by decide), fun _ => ⟨fun _ => ⟨rfl, I'⟩, fun z' => absurd z z'⟩⟩, fun z => (yc_begin hs hb).mpr ⟨fun h' => absurd (h.symm.trans h') (by decide), fun _ => ⟨fun z' => absurd z' z, fun _ => ⟨rfl, ?_⟩⟩⟩⟩⟩
  refine ⟨_, _, _, _, _, _, _, _, _, _, _, _, _, _, _, _, _, _, _, _, _, _, _, _, _, _, _, rfl, rfl, by omega, hs, ?_, hp, in_vu (by omega) (fun _ h => h) hv, hc, in_qu (by omega) (fun _ h => h) hq, ho, ha, hd⟩
  rw [Bool.and_eq_true, Bool.and_eq_true] at h
  obtain ⟨⟨h1, h2⟩, _⟩ := h
  intro b hb1 hb2
  by_cases e : b = bg + 1
  · subst e
    rw [st_eq, st_eq]
    have := @gc_le bg co
    refine ⟨?_, h2, by omega⟩
    rcases iz_c 0 3 v1 with g | ⟨j, _, g2, g3, rfl, _⟩
    · rw [g] at h1; exact nomatch h1
    · rw [cl_n g3]; omega
  · rw [st_ne e, st_ne e]
    exact hbb b hb1 (by omega)
end
section
/-! define -/
theorem li_W : (9999999 : Int32) = nI 9999999 := rfl
theorem li_L : (268435455 : Int32) = nI 268435455 := rfl
def ir_ (so a b c d : Int32) : Bool :=
  if so = nI 0 then iz 1 127 a && iz 1 7 b && iz 1 7 c && iz 0 7 d
  else if so = nI 1 then iz 1 7 a && iz 1 7 b && !decide (nI 7 < a * b)
  else if so = nI 2 then iz 0 9999999 a && iz 1 63 b && iz 1 63 c && iz 0 63 d
  else if so = nI 3 then iz 0 268435455 a && iz 0 268435455 b && iz 0 268435455 c
  else false
theorem iz_no {a b : Nat} {x : Int32} (h : iz a b x = false) {j : Nat} (h1 : a ≤ j) (h2 : j ≤ b) (h3 : b < 2 ^ 31) : ¬ x = nI j := by
  rintro rfl
  rw [iz_n (by omega), decide_eq_false_iff_not] at h
  exact h ⟨h1, h2⟩
theorem ir_rg {so a b c d : Int32} (h : ir_ so a b c d = true) : rg_ so a b c d := by
  unfold ir_ at h
  by_cases e0 : so = nI 0
  · rw [if_pos e0] at h
    simp only [Bool.and_eq_true] at h
    obtain ⟨⟨⟨ha, hb⟩, hc⟩, hd⟩ := h
    rcases iz_c 1 127 a with z | ⟨a', a1, a2, a3, rfl, _⟩
    · rw [z] at ha; exact nomatch ha
    rcases iz_c 1 7 b with z | ⟨b', b1, b2, b3, rfl, _⟩
    · rw [z] at hb; exact nomatch hb
    rcases iz_c 1 7 c with z | ⟨c', c1, c2, c3, rfl, _⟩
    · rw [z] at hc; exact nomatch hc
    rcases iz_c 0 7 d with z | ⟨d', d1, d2, d3, rfl, _⟩
    · rw [z] at hd; exact nomatch hd
    exact Or.inl ⟨e0, a', b', c', d', rfl, rfl, rfl, rfl, a1, a2, b1, b2, c1, c2, d2⟩
  rw [if_neg e0] at h
  by_cases e1 : so = nI 1
  · rw [if_pos e1] at h
    simp only [Bool.and_eq_true] at h
    obtain ⟨⟨ha, hb⟩, hc⟩ := h
    rcases iz_c 1 7 a with z | ⟨a', a1, a2, a3, rfl, _⟩
    · rw [z] at ha; exact nomatch ha
    rcases iz_c 1 7 b with z | ⟨b', b1, b2, b3, rfl, _⟩
    · rw [z] at hb; exact nomatch hb
    have hm : a' * b' ≤ 7 * 7 := Nat.mul_le_mul a2 b2
    refine Or.inr (Or.inl ⟨e1, a', b', rfl, rfl, a1, a2, b1, b2, ?_⟩)
    simp only [nu_mul, nI_ltI (show 7 < 2 ^ 31 by decide) (show a' * b' < 2 ^ 31 by omega)] at hc
    simpa using hc
  rw [if_neg e1] at h
  by_cases e2 : so = nI 2
  · rw [if_pos e2] at h
    simp only [Bool.and_eq_true] at h
    obtain ⟨⟨⟨ha, hb⟩, hc⟩, hd⟩ := h
    rcases iz_c 0 9999999 a with z | ⟨a', a1, a2, a3, rfl, _⟩
    · rw [z] at ha; exact nomatch ha
    rcases iz_c 1 63 b with z | ⟨b', b1, b2, b3, rfl, _⟩
    · rw [z] at hb; exact nomatch hb
    rcases iz_c 1 63 c with z | ⟨c', c1, c2, c3, rfl, _⟩
    · rw [z] at hc; exact nomatch hc
    rcases iz_c 0 63 d with z | ⟨d', d1, d2, d3, rfl, _⟩
    · rw [z] at hd; exact nomatch hd
    exact Or.inr (Or.inr (Or.inl ⟨e2, a', b', c', d', rfl, rfl, rfl, rfl, a2, b1, b2, c1, c2, d2⟩))
  rw [if_neg e2] at h
  by_cases e3 : so = nI 3
  · rw [if_pos e3] at h
    simp only [Bool.and_eq_true] at h
    obtain ⟨⟨ha, hb⟩, hc⟩ := h
    rcases iz_c 0 268435455 a with z | ⟨a', a1, a2, a3, rfl, _⟩
    · rw [z] at ha; exact nomatch ha
    rcases iz_c 0 268435455 b with z | ⟨b', b1, b2, b3, rfl, _⟩
    · rw [z] at hb; exact nomatch hb
    rcases iz_c 0 268435455 c with z | ⟨c', c1, c2, c3, rfl, _⟩
    · rw [z] at hc; exact nomatch hc
    exact Or.inr (Or.inr (Or.inr ⟨e3, a', b', c', rfl, rfl, rfl, a2, b2, c2⟩))
  · rw [if_neg e3] at h; exact nomatch h
theorem xc_inRange {post : Int32 → Prop} {so a b c d : Int32} : wpX_inRange post so a b c d ↔ post (bo_i (ir_ so a b c d)) := by
  simp only [wpX_inRange]
  refine (iz_C (b := 3) (by decide)).trans ?_
  unfold ir_
  rcases iz_c 0 3 so with h | ⟨j, h1, h2, h3, rfl, h⟩
  · have n0 := iz_no h (j := 0) (by decide) (by decide) (by decide)
    have n1 := iz_no h (j := 1) (by decide) (by decide) (by decide)
    have n2 := iz_no h (j := 2) (by decide) (by decide) (by decide)
    have n3 := iz_no h (j := 3) (by decide) (by decide) (by decide)
    simp only [h, n0, n1, n2, n3, if_false, Bool.false_eq_true, false_implies, and_true, true_implies, bo_if, li_0]
  · rcases (by omega : j = 0 ∨ j = 1 ∨ j = 2 ∨ j = 3) with rfl | rfl | rfl | rfl
    · simp (disch := first | omega | assumption) only [li_0, li_1, li_2, li_3, li_4, li_6, li_7, li_8, li_9, li_10, li_12, li_21, li_24, li_31, li_60, li_63, li_127, li_128, li_256, li_312, li_384, nI_add, nu_mul, nu_sub, nu_div, nu_and, nu_or, nu_shr, nu_bit, nu_diff, bi_2, nI_leI, nI_ltI, nI_eq, vp_in_nI, nI_clamp, ar_na, ar_ba, bo_0, bo_1, bo_it, bo_if, bo_w, bo_w0, bo_w1, bo_nar, bo_n1, bo_nn0, st_bu, st_bu1, st_bu0, st_nu, forall_eq, true_implies, false_implies, forall_const, not_true_eq_false, not_false_eq_true, and_true, true_and, implies_true, and_self, Bool.false_eq_true, Bool.true_eq_false, reduceCtorEq, ite_true, ite_false, if_true, if_false, eq_self, Nat.zero_add, Nat.add_zero, Nat.le_refl, Nat.lt_irrefl, Nat.reduceEqDiff, Nat.reduceLeDiff, Nat.reduceLT, Nat.reduceAdd, Nat.reduceMul, Nat.reduceSub, h, xc_within]
      cases iz 1 127 a <;> cases iz 1 7 b <;> cases iz 1 7 c <;> cases iz 0 7 d <;> simp (disch := first | omega | assumption) only [li_0, li_1, li_2, li_3, li_4, li_6, li_7, li_8, li_9, li_10, li_12, li_21, li_24, li_31, li_60, li_63, li_127, li_128, li_256, li_312, li_384, nI_add, nu_mul, nu_sub, nu_div, nu_and, nu_or, nu_shr, nu_bit, nu_diff, bi_2, nI_leI, nI_ltI, nI_eq, vp_in_nI, nI_clamp, ar_na, ar_ba, bo_0, bo_1, bo_it, bo_if, bo_w, bo_w0, bo_w1, bo_nar, bo_n1, bo_nn0, st_bu, st_bu1, st_bu0, st_nu, forall_eq, true_implies, false_implies, forall_const, not_true_eq_false, not_false_eq_true, and_true, true_and, implies_true, and_self, Bool.false_eq_true, Bool.true_eq_false, reduceCtorEq, ite_true, ite_false, if_true, if_false, eq_self, Nat.zero_add, Nat.add_zero, Nat.le_refl, Nat.lt_irrefl, Nat.reduceEqDiff, Nat.reduceLeDiff, Nat.reduceLT, Nat.reduceAdd, Nat.reduceMul, Nat.reduceSub, Bool.and_self, Bool.and_false, Bool.false_and]
    · simp (disch := first | omega | assumption) only [li_0, li_1, li_2, li_3, li_4, li_6, li_7, li_8, li_9, li_10, li_12, li_21, li_24, li_31, li_60, li_63, li_127, li_128, li_256, li_312, li_384, nI_add, nu_mul, nu_sub, nu_div, nu_and, nu_or, nu_shr, nu_bit, nu_diff, bi_2, nI_leI, nI_ltI, nI_eq, vp_in_nI, nI_clamp, ar_na, ar_ba, bo_0, bo_1, bo_it, bo_if, bo_w, bo_w0, bo_w1, bo_nar, bo_n1, bo_nn0, st_bu, st_bu1, st_bu0, st_nu, forall_eq, true_implies, false_implies, forall_const, not_true_eq_false, not_false_eq_true, and_true, true_and, implies_true, and_self, Bool.false_eq_true, Bool.true_eq_false, reduceCtorEq, ite_true, ite_false, if_true, if_false, eq_self, Nat.zero_add, Nat.add_zero, Nat.le_refl, Nat.lt_irrefl, Nat.reduceEqDiff, Nat.reduceLeDiff, Nat.reduceLT, Nat.reduceAdd, Nat.reduceMul, Nat.reduceSub, h, xc_within]
      by_cases z : nI 7 < a * b
      · cases iz 1 7 a <;> cases iz 1 7 b <;> simp (disch := first | omega | assumption) only [li_0, li_1, li_2, li_3, li_4, li_6, li_7, li_8, li_9, li_10, li_12, li_21, li_24, li_31, li_60, li_63, li_127, li_128, li_256, li_312, li_384, nI_add, nu_mul, nu_sub, nu_div, nu_and, nu_or, nu_shr, nu_bit, nu_diff, bi_2, nI_leI, nI_ltI, nI_eq, vp_in_nI, nI_clamp, ar_na, ar_ba, bo_0, bo_1, bo_it, bo_if, bo_w, bo_w0, bo_w1, bo_nar, bo_n1, bo_nn0, st_bu, st_bu1, st_bu0, st_nu, forall_eq, true_implies, false_implies, forall_const, not_true_eq_false, not_false_eq_true, and_true, true_and, implies_true, and_self, Bool.false_eq_true, Bool.true_eq_false, reduceCtorEq, ite_true, ite_false, if_true, if_false, eq_self, Nat.zero_add, Nat.add_zero, Nat.le_refl, Nat.lt_irrefl, Nat.reduceEqDiff, Nat.reduceLeDiff, Nat.reduceLT, Nat.reduceAdd, Nat.reduceMul, Nat.reduceSub, z, Bool.and_self, Bool.and_false, Bool.false_and, decide_true, Bool.not_true]
      · cases iz 1 7 a <;> cases iz 1 7 b <;> simp (disch := first | omega | assumption) only [li_0, li_1, li_2, li_3, li_4, li_6, li_7, li_8, li_9, li_10, li_12, li_21, li_24, li_31, li_60, li_63, li_127, li_128, li_256, li_312, li_384, nI_add, nu_mul, nu_sub, nu_div, nu_and, nu_or, nu_shr, nu_bit, nu_diff, bi_2, nI_leI, nI_ltI, nI_eq, vp_in_nI, nI_clamp, ar_na, ar_ba, bo_0, bo_1, bo_it, bo_if, bo_w, bo_w0, bo_w1, bo_nar, bo_n1, bo_nn0, st_bu, st_bu1, st_bu0, st_nu, forall_eq, true_implies, false_implies, forall_const, not_true_eq_false, not_false_eq_true, and_true, true_and, implies_true, and_self, Bool.false_eq_true, Bool.true_eq_false, reduceCtorEq, ite_true, ite_false, if_true, if_false, eq_self, Nat.zero_add, Nat.add_zero, Nat.le_refl, Nat.lt_irrefl, Nat.reduceEqDiff, Nat.reduceLeDiff, Nat.reduceLT, Nat.reduceAdd, Nat.reduceMul, Nat.reduceSub, z, Bool.and_self, Bool.and_false, Bool.false_and, decide_false, Bool.not_false]
    · simp (disch := first | omega | assumption) only [li_0, li_1, li_2, li_3, li_4, li_6, li_7, li_8, li_9, li_10, li_12, li_21, li_24, li_31, li_60, li_63, li_127, li_128, li_256, li_312, li_384, nI_add, nu_mul, nu_sub, nu_div, nu_and, nu_or, nu_shr, nu_bit, nu_diff, bi_2, nI_leI, nI_ltI, nI_eq, vp_in_nI, nI_clamp, ar_na, ar_ba, bo_0, bo_1, bo_it, bo_if, bo_w, bo_w0, bo_w1, bo_nar, bo_n1, bo_nn0, st_bu, st_bu1, st_bu0, st_nu, forall_eq, true_implies, false_implies, forall_const, not_true_eq_false, not_false_eq_true, and_true, true_and, implies_true, and_self, Bool.false_eq_true, Bool.true_eq_false, reduceCtorEq, ite_true, ite_false, if_true, if_false, eq_self, Nat.zero_add, Nat.add_zero, Nat.le_refl, Nat.lt_irrefl, Nat.reduceEqDiff, Nat.reduceLeDiff, Nat.reduceLT, Nat.reduceAdd, Nat.reduceMul, Nat.reduceSub, h, xc_within, li_W]
      cases iz 0 9999999 a <;> cases iz 1 63 b <;> cases iz 1 63 c <;> cases iz 0 63 d <;> simp (disch := first | omega | assumption) only [li_0, li_1, li_2, li_3, li_4, li_6, li_7, li_8, li_9, li_10, li_12, li_21, li_24, li_31, li_60, li_63, li_127, li_128, li_256, li_312, li_384, nI_add, nu_mul, nu_sub, nu_div, nu_and, nu_or, nu_shr, nu_bit, nu_diff, bi_2, nI_leI, nI_ltI, nI_eq, vp_in_nI, nI_clamp, ar_na, ar_ba, bo_0, bo_1, bo_it, bo_if, bo_w, bo_w0, bo_w1, bo_nar, bo_n1, bo_nn0, st_bu, st_bu1, st_bu0, st_nu, forall_eq, true_implies, false_implies, forall_const, not_true_eq_false, not_false_eq_true, and_true, true_and, implies_true, and_self, Bool.false_eq_true, Bool.true_eq_false, reduceCtorEq, ite_true, ite_false, if_true, if_false, eq_self, Nat.zero_add, Nat.add_zero, Nat.le_refl, Nat.lt_irrefl, Nat.reduceEqDiff, Nat.reduceLeDiff, Nat.reduceLT, Nat.reduceAdd, Nat.reduceMul, Nat.reduceSub, Bool.and_self, Bool.and_false, Bool.false_and]
    · simp (disch := first | omega | assumption) only [li_0, li_1, li_2, li_3, li_4, li_6, li_7, li_8, li_9, li_10, li_12, li_21, li_24, li_31, li_60, li_63, li_127, li_128, li_256, li_312, li_384, nI_add, nu_mul, nu_sub, nu_div, nu_and, nu_or, nu_shr, nu_bit, nu_diff, bi_2, nI_leI, nI_ltI, nI_eq, vp_in_nI, nI_clamp, ar_na, ar_ba, bo_0, bo_1, bo_it, bo_if, bo_w, bo_w0, bo_w1, bo_nar, bo_n1, bo_nn0, st_bu, st_bu1, st_bu0, st_nu, forall_eq, true_implies, false_implies, forall_const, not_true_eq_false, not_false_eq_true, and_true, true_and, implies_true, and_self, Bool.false_eq_true, Bool.true_eq_false, reduceCtorEq, ite_true, ite_false, if_true, if_false, eq_self, Nat.zero_add, Nat.add_zero, Nat.le_refl, Nat.lt_irrefl, Nat.reduceEqDiff, Nat.reduceLeDiff, Nat.reduceLT, Nat.reduceAdd, Nat.reduceMul, Nat.reduceSub, h, xc_within, li_L]
      cases iz 0 268435455 a <;> cases iz 0 268435455 b <;> cases iz 0 268435455 c <;> simp (disch := first | omega | assumption) only [li_0, li_1, li_2, li_3, li_4, li_6, li_7, li_8, li_9, li_10, li_12, li_21, li_24, li_31, li_60, li_63, li_127, li_128, li_256, li_312, li_384, nI_add, nu_mul, nu_sub, nu_div, nu_and, nu_or, nu_shr, nu_bit, nu_diff, bi_2, nI_leI, nI_ltI, nI_eq, vp_in_nI, nI_clamp, ar_na, ar_ba, bo_0, bo_1, bo_it, bo_if, bo_w, bo_w0, bo_w1, bo_nar, bo_n1, bo_nn0, st_bu, st_bu1, st_bu0, st_nu, forall_eq, true_implies, false_implies, forall_const, not_true_eq_false, not_false_eq_true, and_true, true_and, implies_true, and_self, Bool.false_eq_true, Bool.true_eq_false, reduceCtorEq, ite_true, ite_false, if_true, if_false, eq_self, Nat.zero_add, Nat.add_zero, Nat.le_refl, Nat.lt_irrefl, Nat.reduceEqDiff, Nat.reduceLeDiff, Nat.reduceLT, Nat.reduceAdd, Nat.reduceMul, Nat.reduceSub, Bool.and_self, Bool.and_false, Bool.false_and]
theorem yc_inRange {post : Int32 → Prop} {so a b c d : Int32} : wpY_inRange post so a b c d ↔ post (bo_i (ir_ so a b c d)) := by
  exact xc_inRange
section
variable {bg : Nat} {df iq tb up fa co fr dn : Nat → Bool} {op ov sp sv qb qi qj qv ql so ba an pk kv vo kn : Nat → Nat} {srt num : Nat → Int32}
variable {x : Int32} {s k t m n i a q : Nat}
def hb_ (bg : Nat) (so : Nat → Nat) (s : Nat) : Bool := lo_a (fun b => decide (so b ≠ s)) bg 1
theorem bo_ps {b : Bool} {P : Int32 → Prop} : ((b = true → P (nI 0)) ∧ (b = false → P (nI 1))) ↔ P (bo_i (!b)) := by
  cases b <;> simp <;> exact Iff.rfl
theorem xc_hasBallot {post : Int32 → Prop} (hb : bg ≤ 12) (hbb : in_b bg df so ba) (hs : s < 4) : wpX_hasBallot post (nI bg, ar_b df, ar_b iq, ar_b tb, ar_b up, ar_n op, ar_n ov, ar_n sp, ar_n sv, ar_n qb, ar_n qi, ar_n qv, ar_n ql, ar_n so, ar_b fa, ar_n ba, ar_n an, ar_b co, pc_x pk, ar_b fr, ar_n kv, ar_n vo, ar_n kn) (nI s) ↔ post (bo_i (!hb_ bg so s)) := by
  simp only [wpX_hasBallot]
  refine (lo_allL (W := fun n i => wX_hasBallot_2 post (nI s) (nI bg) (ar_b df) (ar_b iq) (ar_b tb) (ar_b up) (ar_n op) (ar_n ov) (ar_n sp) (ar_n sv) (ar_n qb) (ar_n qi) (ar_n qv) (ar_n ql) (ar_n so) (ar_b fa) (ar_n ba) (ar_n an) (ar_b co) (pc_x pk) (ar_b fr) (ar_n kv) (ar_n vo) (ar_n kn) n (nI i)) (A := post (nI 1)) (B := post (nI 0)) (e := bg + 1) (lo := 1) (fun b => decide (so b ≠ s)) (fun _ h => h) ?_ ?_ ?_ bg 1 (Nat.le_refl _) (by omega)).trans bo_ps
  · intro n
    simp (disch := first | omega | assumption) only [li_0, li_1, li_2, li_3, li_4, li_6, li_7, li_8, li_9, li_10, li_12, li_21, li_24, li_31, li_60, li_63, li_127, li_128, li_256, li_312, li_384, nI_add, nu_mul, nu_sub, nu_div, nu_and, nu_or, nu_shr, nu_bit, nu_diff, bi_2, nI_leI, nI_ltI, nI_eq, vp_in_nI, nI_clamp, ar_na, ar_ba, bo_0, bo_1, bo_it, bo_if, bo_w, bo_w0, bo_w1, bo_nar, bo_n1, bo_nn0, st_bu, st_bu1, st_bu0, st_nu, forall_eq, true_implies, false_implies, forall_const, not_true_eq_false, not_false_eq_true, and_true, true_and, implies_true, and_self, Bool.false_eq_true, Bool.true_eq_false, reduceCtorEq, ite_true, ite_false, if_true, if_false, eq_self, Nat.zero_add, Nat.add_zero, Nat.le_refl, Nat.lt_irrefl, Nat.reduceEqDiff, Nat.reduceLeDiff, Nat.reduceLT, Nat.reduceAdd, Nat.reduceMul, Nat.reduceSub, wX_hasBallot_2, show bg < bg + 1 by omega]
  · intro n i hl hi h
    simp at h
    have := (hbb i (by omega) (by omega)).1
    simp (disch := first | omega | assumption) only [li_0, li_1, li_2, li_3, li_4, li_6, li_7, li_8, li_9, li_10, li_12, li_21, li_24, li_31, li_60, li_63, li_127, li_128, li_256, li_312, li_384, nI_add, nu_mul, nu_sub, nu_div, nu_and, nu_or, nu_shr, nu_bit, nu_diff, bi_2, nI_leI, nI_ltI, nI_eq, vp_in_nI, nI_clamp, ar_na, ar_ba, bo_0, bo_1, bo_it, bo_if, bo_w, bo_w0, bo_w1, bo_nar, bo_n1, bo_nn0, st_bu, st_bu1, st_bu0, st_nu, forall_eq, true_implies, false_implies, forall_const, not_true_eq_false, not_false_eq_true, and_true, true_and, implies_true, and_self, Bool.false_eq_true, Bool.true_eq_false, reduceCtorEq, ite_true, ite_false, if_true, if_false, eq_self, Nat.zero_add, Nat.add_zero, Nat.le_refl, Nat.lt_irrefl, Nat.reduceEqDiff, Nat.reduceLeDiff, Nat.reduceLT, Nat.reduceAdd, Nat.reduceMul, Nat.reduceSub, wX_hasBallot_2, show ¬ bg < i by omega, h]
  · intro n i hl hi h
    simp at h
    have := (hbb i (by omega) (by omega)).1
    simp (disch := first | omega | assumption) only [li_0, li_1, li_2, li_3, li_4, li_6, li_7, li_8, li_9, li_10, li_12, li_21, li_24, li_31, li_60, li_63, li_127, li_128, li_256, li_312, li_384, nI_add, nu_mul, nu_sub, nu_div, nu_and, nu_or, nu_shr, nu_bit, nu_diff, bi_2, nI_leI, nI_ltI, nI_eq, vp_in_nI, nI_clamp, ar_na, ar_ba, bo_0, bo_1, bo_it, bo_if, bo_w, bo_w0, bo_w1, bo_nar, bo_n1, bo_nn0, st_bu, st_bu1, st_bu0, st_nu, forall_eq, true_implies, false_implies, forall_const, not_true_eq_false, not_false_eq_true, and_true, true_and, implies_true, and_self, Bool.false_eq_true, Bool.true_eq_false, reduceCtorEq, ite_true, ite_false, if_true, if_false, eq_self, Nat.zero_add, Nat.add_zero, Nat.le_refl, Nat.lt_irrefl, Nat.reduceEqDiff, Nat.reduceLeDiff, Nat.reduceLT, Nat.reduceAdd, Nat.reduceMul, Nat.reduceSub, wX_hasBallot_2, show ¬ bg < i by omega, h]
theorem yc_define28 {post : Int32 → SY → Prop} {x2 x3 x4 x5 x6 : Int32} (hb : bg ≤ 12) (hbb : in_b bg df so ba) (hs : s < 4) : (∃ n, wY_define_28 post (nI s) x2 x3 x4 x5 x6 (nI bg) srt num (ar_n so) (ar_n ba) (ar_n an) (pc_y pk) (ar_n kv) (ar_b fa) (ar_b co) (ar_b fr) (ar_b dn) (ar_n sp) (ar_n sv) (ar_n ql) (ar_n qb) (ar_n qj) (ar_n qv) (ar_n vo) (ar_n kn) n (nI 1)) ↔ ((hb_ bg so s = true → wpY_set (fun v => wpY_isSound (fun r => (r = 0 → wpY_set (fun v => post 0 v) v (nI s) (srt s) (num (4 * s)) (num (4 * s + 1)) (num (4 * s + 2)) (num (4 * s + 3))) ∧ (¬ r = 0 → post 1 v)) v (nI s)) (nI bg, srt, num, ar_n so, ar_n ba, ar_n an, pc_y pk, ar_n kv, ar_b fa, ar_b co, ar_b fr, ar_b dn, ar_n sp, ar_n sv, ar_n ql, ar_n qb, ar_n qj, ar_n qv, ar_n vo, ar_n kn) (nI s) x2 x3 x4 x5 x6) ∧ (hb_ bg so s = false → post (nI 0) (nI bg, srt, num, ar_n so, ar_n ba, ar_n an, pc_y pk, ar_n kv, ar_b fa, ar_b co, ar_b fr, ar_b dn, ar_n sp, ar_n sv, ar_n ql, ar_n qb, ar_n qj, ar_n qv, ar_n vo, ar_n kn))) := by
  refine lo_allL (W := fun n i => wY_define_28 post (nI s) x2 x3 x4 x5 x6 (nI bg) srt num (ar_n so) (ar_n ba) (ar_n an) (pc_y pk) (ar_n kv) (ar_b fa) (ar_b co) (ar_b fr) (ar_b dn) (ar_n sp) (ar_n sv) (ar_n ql) (ar_n qb) (ar_n qj) (ar_n qv) (ar_n vo) (ar_n kn) n (nI i)) (A := post (nI 0) (nI bg, srt, num, ar_n so, ar_n ba, ar_n an, pc_y pk, ar_n kv, ar_b fa, ar_b co, ar_b fr, ar_b dn, ar_n sp, ar_n sv, ar_n ql, ar_n qb, ar_n qj, ar_n qv, ar_n vo, ar_n kn)) (e := bg + 1) (lo := 1) (fun b => decide (so b ≠ s)) (fun _ h => h) ?_ ?_ ?_ bg 1 (Nat.le_refl _) (by omega)
  · intro n
    simp (disch := first | omega | assumption) only [li_0, li_1, li_2, li_3, li_4, li_6, li_7, li_8, li_9, li_10, li_12, li_21, li_24, li_31, li_60, li_63, li_127, li_128, li_256, li_312, li_384, nI_add, nu_mul, nu_sub, nu_div, nu_and, nu_or, nu_shr, nu_bit, nu_diff, bi_2, nI_leI, nI_ltI, nI_eq, vp_in_nI, nI_clamp, ar_na, ar_ba, bo_0, bo_1, bo_it, bo_if, bo_w, bo_w0, bo_w1, bo_nar, bo_n1, bo_nn0, st_bu, st_bu1, st_bu0, st_nu, forall_eq, true_implies, false_implies, forall_const, not_true_eq_false, not_false_eq_true, and_true, true_and, implies_true, and_self, Bool.false_eq_true, Bool.true_eq_false, reduceCtorEq, ite_true, ite_false, if_true, if_false, eq_self, Nat.zero_add, Nat.add_zero, Nat.le_refl, Nat.lt_irrefl, Nat.reduceEqDiff, Nat.reduceLeDiff, Nat.reduceLT, Nat.reduceAdd, Nat.reduceMul, Nat.reduceSub, wY_define_28, show bg < bg + 1 by omega]
  · intro n i hl hi h
    simp at h
    have := (hbb i (by omega) (by omega)).1
    simp (disch := first | omega | assumption) only [li_0, li_1, li_2, li_3, li_4, li_6, li_7, li_8, li_9, li_10, li_12, li_21, li_24, li_31, li_60, li_63, li_127, li_128, li_256, li_312, li_384, nI_add, nu_mul, nu_sub, nu_div, nu_and, nu_or, nu_shr, nu_bit, nu_diff, bi_2, nI_leI, nI_ltI, nI_eq, vp_in_nI, nI_clamp, ar_na, ar_ba, bo_0, bo_1, bo_it, bo_if, bo_w, bo_w0, bo_w1, bo_nar, bo_n1, bo_nn0, st_bu, st_bu1, st_bu0, st_nu, forall_eq, true_implies, false_implies, forall_const, not_true_eq_false, not_false_eq_true, and_true, true_and, implies_true, and_self, Bool.false_eq_true, Bool.true_eq_false, reduceCtorEq, ite_true, ite_false, if_true, if_false, eq_self, Nat.zero_add, Nat.add_zero, Nat.le_refl, Nat.lt_irrefl, Nat.reduceEqDiff, Nat.reduceLeDiff, Nat.reduceLT, Nat.reduceAdd, Nat.reduceMul, Nat.reduceSub, wY_define_28, show ¬ bg < i by omega, h]
  · intro n i hl hi h
    simp at h
    have := (hbb i (by omega) (by omega)).1
    simp (disch := first | omega | assumption) only [li_0, li_1, li_2, li_3, li_4, li_6, li_7, li_8, li_9, li_10, li_12, li_21, li_24, li_31, li_60, li_63, li_127, li_128, li_256, li_312, li_384, nI_add, nu_mul, nu_sub, nu_div, nu_and, nu_or, nu_shr, nu_bit, nu_diff, bi_2, nI_leI, nI_ltI, nI_eq, vp_in_nI, nI_clamp, ar_na, ar_ba, bo_0, bo_1, bo_it, bo_if, bo_w, bo_w0, bo_w1, bo_nar, bo_n1, bo_nn0, st_bu, st_bu1, st_bu0, st_nu, forall_eq, true_implies, false_implies, forall_const, not_true_eq_false, not_false_eq_true, and_true, true_and, implies_true, and_self, Bool.false_eq_true, Bool.true_eq_false, reduceCtorEq, ite_true, ite_false, if_true, if_false, eq_self, Nat.zero_add, Nat.add_zero, Nat.le_refl, Nat.lt_irrefl, Nat.reduceEqDiff, Nat.reduceLeDiff, Nat.reduceLT, Nat.reduceAdd, Nat.reduceMul, Nat.reduceSub, wY_define_28, show ¬ bg < i by omega, h]
def sr_ (Q : Nat → Nat → Bool) (r : Nat) : Bool := lo_a (fun f => !(Q 2 f && Q 2 (127 &&& ((r &&& f) ^^^ 127)))) 128 0
def sn_ (Q : Nat → Nat → Bool) : Bool := Q 0 127 && (Q 1 127 && lo_a (fun r => !Q 0 r || (!Q 1 (127 &&& (r ^^^ 127)) && sr_ Q r)) 128 0)
theorem xc_trialRead {post : Int32 → Prop} {Q : Nat → Nat → Bool} (hQ : ∀ k t, k < 3 → t < 128 → tb (k * 128 + t) = Q k t) (ht : t < 128) : wpX_trialReadIsSound post (nI bg, ar_b df, ar_b iq, ar_b tb, ar_b up, ar_n op, ar_n ov, ar_n sp, ar_n sv, ar_n qb, ar_n qi, ar_n qv, ar_n ql, ar_n so, ar_b fa, ar_n ba, ar_n an, ar_b co, pc_x pk, ar_b fr, ar_n kv, ar_n vo, ar_n kn) (nI t) ↔ post (bo_i (!Q 1 (127 &&& (t ^^^ 127)) && sr_ Q t)) := by
  have hc : 127 &&& (t ^^^ 127) < 128 := nu_and7 (by decide)
  have h1 : tb (128 + (127 &&& (t ^^^ 127))) = Q 1 (127 &&& (t ^^^ 127)) := by
    have := hQ 1 _ (by decide) hc
    rwa [Nat.one_mul] at this
  cases h : Q 1 (127 &&& (t ^^^ 127))
  · rw [h] at h1
    simp (disch := first | omega | assumption) only [li_0, li_1, li_2, li_3, li_4, li_6, li_7, li_8, li_9, li_10, li_12, li_21, li_24, li_31, li_60, li_63, li_127, li_128, li_256, li_312, li_384, nI_add, nu_mul, nu_sub, nu_div, nu_and, nu_or, nu_shr, nu_bit, nu_diff, bi_2, nI_leI, nI_ltI, nI_eq, vp_in_nI, nI_clamp, ar_na, ar_ba, bo_0, bo_1, bo_it, bo_if, bo_w, bo_w0, bo_w1, bo_nar, bo_n1, bo_nn0, st_bu, st_bu1, st_bu0, st_nu, forall_eq, true_implies, false_implies, forall_const, not_true_eq_false, not_false_eq_true, and_true, true_and, implies_true, and_self, Bool.false_eq_true, Bool.true_eq_false, reduceCtorEq, ite_true, ite_false, if_true, if_false, eq_self, Nat.zero_add, Nat.add_zero, Nat.le_refl, Nat.lt_irrefl, Nat.reduceEqDiff, Nat.reduceLeDiff, Nat.reduceLT, Nat.reduceAdd, Nat.reduceMul, Nat.reduceSub, wpX_trialReadIsSound, h1, Bool.not_false, Bool.true_and]
    refine (lo_all (W := fun n i => wX_trialReadIsSound_22 post (nI t) (nI bg) (ar_b df) (ar_b iq) (ar_b tb) (ar_b up) (ar_n op) (ar_n ov) (ar_n sp) (ar_n sv) (ar_n qb) (ar_n qi) (ar_n qv) (ar_n ql) (ar_n so) (ar_b fa) (ar_n ba) (ar_n an) (ar_b co) (pc_x pk) (ar_b fr) (ar_n kv) (ar_n vo) (ar_n kn) n (nI i)) (A := post (nI 0)) (B := post (nI 1)) (e := 128) _ (fun _ h => h) ?_ ?_ ?_ 128 0 rfl).trans bo_pr
    · intro n
      simp (disch := first | omega | assumption) only [li_0, li_1, li_2, li_3, li_4, li_6, li_7, li_8, li_9, li_10, li_12, li_21, li_24, li_31, li_60, li_63, li_127, li_128, li_256, li_312, li_384, nI_add, nu_mul, nu_sub, nu_div, nu_and, nu_or, nu_shr, nu_bit, nu_diff, bi_2, nI_leI, nI_ltI, nI_eq, vp_in_nI, nI_clamp, ar_na, ar_ba, bo_0, bo_1, bo_it, bo_if, bo_w, bo_w0, bo_w1, bo_nar, bo_n1, bo_nn0, st_bu, st_bu1, st_bu0, st_nu, forall_eq, true_implies, false_implies, forall_const, not_true_eq_false, not_false_eq_true, and_true, true_and, implies_true, and_self, Bool.false_eq_true, Bool.true_eq_false, reduceCtorEq, ite_true, ite_false, if_true, if_false, eq_self, Nat.zero_add, Nat.add_zero, Nat.le_refl, Nat.lt_irrefl, Nat.reduceEqDiff, Nat.reduceLeDiff, Nat.reduceLT, Nat.reduceAdd, Nat.reduceMul, Nat.reduceSub, wX_trialReadIsSound_22]
    · intro n i hi h
      have hd : 127 &&& ((t &&& i) ^^^ 127) < 128 := nu_and7 (by decide)
      have h2 := hQ 2 i (by decide) hi
      have h3 := hQ 2 _ (by decide) hd
      simp at h
      rw [h.1] at h2
      rw [h.2] at h3
      simp (disch := first | omega | assumption) only [li_0, li_1, li_2, li_3, li_4, li_6, li_7, li_8, li_9, li_10, li_12, li_21, li_24, li_31, li_60, li_63, li_127, li_128, li_256, li_312, li_384, nI_add, nu_mul, nu_sub, nu_div, nu_and, nu_or, nu_shr, nu_bit, nu_diff, bi_2, nI_leI, nI_ltI, nI_eq, vp_in_nI, nI_clamp, ar_na, ar_ba, bo_0, bo_1, bo_it, bo_if, bo_w, bo_w0, bo_w1, bo_nar, bo_n1, bo_nn0, st_bu, st_bu1, st_bu0, st_nu, forall_eq, true_implies, false_implies, forall_const, not_true_eq_false, not_false_eq_true, and_true, true_and, implies_true, and_self, Bool.false_eq_true, Bool.true_eq_false, reduceCtorEq, ite_true, ite_false, if_true, if_false, eq_self, Nat.zero_add, Nat.add_zero, Nat.le_refl, Nat.lt_irrefl, Nat.reduceEqDiff, Nat.reduceLeDiff, Nat.reduceLT, Nat.reduceAdd, Nat.reduceMul, Nat.reduceSub, wX_trialReadIsSound_22, Nat.not_le.mpr hi, h2, h3]
    · intro n i hi h
      have hd : 127 &&& ((t &&& i) ^^^ 127) < 128 := nu_and7 (by decide)
      have h2 := hQ 2 i (by decide) hi
      have h3 := hQ 2 _ (by decide) hd
      simp at h
      cases z : Q 2 i
      · rw [z] at h2
        simp (disch := first | omega | assumption) only [li_0, li_1, li_2, li_3, li_4, li_6, li_7, li_8, li_9, li_10, li_12, li_21, li_24, li_31, li_60, li_63, li_127, li_128, li_256, li_312, li_384, nI_add, nu_mul, nu_sub, nu_div, nu_and, nu_or, nu_shr, nu_bit, nu_diff, bi_2, nI_leI, nI_ltI, nI_eq, vp_in_nI, nI_clamp, ar_na, ar_ba, bo_0, bo_1, bo_it, bo_if, bo_w, bo_w0, bo_w1, bo_nar, bo_n1, bo_nn0, st_bu, st_bu1, st_bu0, st_nu, forall_eq, true_implies, false_implies, forall_const, not_true_eq_false, not_false_eq_true, and_true, true_and, implies_true, and_self, Bool.false_eq_true, Bool.true_eq_false, reduceCtorEq, ite_true, ite_false, if_true, if_false, eq_self, Nat.zero_add, Nat.add_zero, Nat.le_refl, Nat.lt_irrefl, Nat.reduceEqDiff, Nat.reduceLeDiff, Nat.reduceLT, Nat.reduceAdd, Nat.reduceMul, Nat.reduceSub, wX_trialReadIsSound_22, Nat.not_le.mpr hi, h2]
      · rw [z] at h2
        have h' : Q 2 (127 &&& ((t &&& i) ^^^ 127)) = false := by
          rcases h with h | h
          · rw [z] at h; exact nomatch h
          · exact h
        rw [h'] at h3
        simp (disch := first | omega | assumption) only [li_0, li_1, li_2, li_3, li_4, li_6, li_7, li_8, li_9, li_10, li_12, li_21, li_24, li_31, li_60, li_63, li_127, li_128, li_256, li_312, li_384, nI_add, nu_mul, nu_sub, nu_div, nu_and, nu_or, nu_shr, nu_bit, nu_diff, bi_2, nI_leI, nI_ltI, nI_eq, vp_in_nI, nI_clamp, ar_na, ar_ba, bo_0, bo_1, bo_it, bo_if, bo_w, bo_w0, bo_w1, bo_nar, bo_n1, bo_nn0, st_bu, st_bu1, st_bu0, st_nu, forall_eq, true_implies, false_implies, forall_const, not_true_eq_false, not_false_eq_true, and_true, true_and, implies_true, and_self, Bool.false_eq_true, Bool.true_eq_false, reduceCtorEq, ite_true, ite_false, if_true, if_false, eq_self, Nat.zero_add, Nat.add_zero, Nat.le_refl, Nat.lt_irrefl, Nat.reduceEqDiff, Nat.reduceLeDiff, Nat.reduceLT, Nat.reduceAdd, Nat.reduceMul, Nat.reduceSub, wX_trialReadIsSound_22, Nat.not_le.mpr hi, h2, h3]
  · rw [h] at h1
    simp (disch := first | omega | assumption) only [li_0, li_1, li_2, li_3, li_4, li_6, li_7, li_8, li_9, li_10, li_12, li_21, li_24, li_31, li_60, li_63, li_127, li_128, li_256, li_312, li_384, nI_add, nu_mul, nu_sub, nu_div, nu_and, nu_or, nu_shr, nu_bit, nu_diff, bi_2, nI_leI, nI_ltI, nI_eq, vp_in_nI, nI_clamp, ar_na, ar_ba, bo_0, bo_1, bo_it, bo_if, bo_w, bo_w0, bo_w1, bo_nar, bo_n1, bo_nn0, st_bu, st_bu1, st_bu0, st_nu, forall_eq, true_implies, false_implies, forall_const, not_true_eq_false, not_false_eq_true, and_true, true_and, implies_true, and_self, Bool.false_eq_true, Bool.true_eq_false, reduceCtorEq, ite_true, ite_false, if_true, if_false, eq_self, Nat.zero_add, Nat.add_zero, Nat.le_refl, Nat.lt_irrefl, Nat.reduceEqDiff, Nat.reduceLeDiff, Nat.reduceLT, Nat.reduceAdd, Nat.reduceMul, Nat.reduceSub, wpX_trialReadIsSound, h1, Bool.not_true, Bool.false_and]
theorem xc_sound {post : Int32 → Prop} {Q : Nat → Nat → Bool} (hQ : ∀ k t, k < 3 → t < 128 → tb (k * 128 + t) = Q k t) : wpX_trialIsSound post (nI bg, ar_b df, ar_b iq, ar_b tb, ar_b up, ar_n op, ar_n ov, ar_n sp, ar_n sv, ar_n qb, ar_n qi, ar_n qv, ar_n ql, ar_n so, ar_b fa, ar_n ba, ar_n an, ar_b co, pc_x pk, ar_b fr, ar_n kv, ar_n vo, ar_n kn) ↔ post (bo_i (sn_ Q)) := by
  have h0 : tb 127 = Q 0 127 := hQ 0 127 (by decide) (by decide)
  have h1 : tb 255 = Q 1 127 := hQ 1 127 (by decide) (by decide)
  unfold sn_
  cases e0 : Q 0 127
  · rw [e0] at h0
    simp (disch := first | omega | assumption) only [li_0, li_1, li_2, li_3, li_4, li_6, li_7, li_8, li_9, li_10, li_12, li_21, li_24, li_31, li_60, li_63, li_127, li_128, li_256, li_312, li_384, nI_add, nu_mul, nu_sub, nu_div, nu_and, nu_or, nu_shr, nu_bit, nu_diff, bi_2, nI_leI, nI_ltI, nI_eq, vp_in_nI, nI_clamp, ar_na, ar_ba, bo_0, bo_1, bo_it, bo_if, bo_w, bo_w0, bo_w1, bo_nar, bo_n1, bo_nn0, st_bu, st_bu1, st_bu0, st_nu, forall_eq, true_implies, false_implies, forall_const, not_true_eq_false, not_false_eq_true, and_true, true_and, implies_true, and_self, Bool.false_eq_true, Bool.true_eq_false, reduceCtorEq, ite_true, ite_false, if_true, if_false, eq_self, Nat.zero_add, Nat.add_zero, Nat.le_refl, Nat.lt_irrefl, Nat.reduceEqDiff, Nat.reduceLeDiff, Nat.reduceLT, Nat.reduceAdd, Nat.reduceMul, Nat.reduceSub, wpX_trialIsSound, h0, Bool.false_and]
  · rw [e0] at h0
    cases e1 : Q 1 127
    · rw [e1] at h1
      simp (disch := first | omega | assumption) only [li_0, li_1, li_2, li_3, li_4, li_6, li_7, li_8, li_9, li_10, li_12, li_21, li_24, li_31, li_60, li_63, li_127, li_128, li_256, li_312, li_384, nI_add, nu_mul, nu_sub, nu_div, nu_and, nu_or, nu_shr, nu_bit, nu_diff, bi_2, nI_leI, nI_ltI, nI_eq, vp_in_nI, nI_clamp, ar_na, ar_ba, bo_0, bo_1, bo_it, bo_if, bo_w, bo_w0, bo_w1, bo_nar, bo_n1, bo_nn0, st_bu, st_bu1, st_bu0, st_nu, forall_eq, true_implies, false_implies, forall_const, not_true_eq_false, not_false_eq_true, and_true, true_and, implies_true, and_self, Bool.false_eq_true, Bool.true_eq_false, reduceCtorEq, ite_true, ite_false, if_true, if_false, eq_self, Nat.zero_add, Nat.add_zero, Nat.le_refl, Nat.lt_irrefl, Nat.reduceEqDiff, Nat.reduceLeDiff, Nat.reduceLT, Nat.reduceAdd, Nat.reduceMul, Nat.reduceSub, wpX_trialIsSound, h0, h1, Bool.false_and, Bool.and_false]
    · rw [e1] at h1
      simp (disch := first | omega | assumption) only [li_0, li_1, li_2, li_3, li_4, li_6, li_7, li_8, li_9, li_10, li_12, li_21, li_24, li_31, li_60, li_63, li_127, li_128, li_256, li_312, li_384, nI_add, nu_mul, nu_sub, nu_div, nu_and, nu_or, nu_shr, nu_bit, nu_diff, bi_2, nI_leI, nI_ltI, nI_eq, vp_in_nI, nI_clamp, ar_na, ar_ba, bo_0, bo_1, bo_it, bo_if, bo_w, bo_w0, bo_w1, bo_nar, bo_n1, bo_nn0, st_bu, st_bu1, st_bu0, st_nu, forall_eq, true_implies, false_implies, forall_const, not_true_eq_false, not_false_eq_true, and_true, true_and, implies_true, and_self, Bool.false_eq_true, Bool.true_eq_false, reduceCtorEq, ite_true, ite_false, if_true, if_false, eq_self, Nat.zero_add, Nat.add_zero, Nat.le_refl, Nat.lt_irrefl, Nat.reduceEqDiff, Nat.reduceLeDiff, Nat.reduceLT, Nat.reduceAdd, Nat.reduceMul, Nat.reduceSub, wpX_trialIsSound, h0, h1, Bool.true_and]
      refine (lo_all (W := fun n i => wX_trialIsSound_25 post (nI bg) (ar_b df) (ar_b iq) (ar_b tb) (ar_b up) (ar_n op) (ar_n ov) (ar_n sp) (ar_n sv) (ar_n qb) (ar_n qi) (ar_n qv) (ar_n ql) (ar_n so) (ar_b fa) (ar_n ba) (ar_n an) (ar_b co) (pc_x pk) (ar_b fr) (ar_n kv) (ar_n vo) (ar_n kn) n (nI i)) (A := post (nI 0)) (B := post (nI 1)) (e := 128) _ (fun _ h => h) ?_ ?_ ?_ 128 0 rfl).trans bo_pr
      · intro n
        simp (disch := first | omega | assumption) only [li_0, li_1, li_2, li_3, li_4, li_6, li_7, li_8, li_9, li_10, li_12, li_21, li_24, li_31, li_60, li_63, li_127, li_128, li_256, li_312, li_384, nI_add, nu_mul, nu_sub, nu_div, nu_and, nu_or, nu_shr, nu_bit, nu_diff, bi_2, nI_leI, nI_ltI, nI_eq, vp_in_nI, nI_clamp, ar_na, ar_ba, bo_0, bo_1, bo_it, bo_if, bo_w, bo_w0, bo_w1, bo_nar, bo_n1, bo_nn0, st_bu, st_bu1, st_bu0, st_nu, forall_eq, true_implies, false_implies, forall_const, not_true_eq_false, not_false_eq_true, and_true, true_and, implies_true, and_self, Bool.false_eq_true, Bool.true_eq_false, reduceCtorEq, ite_true, ite_false, if_true, if_false, eq_self, Nat.zero_add, Nat.add_zero, Nat.le_refl, Nat.lt_irrefl, Nat.reduceEqDiff, Nat.reduceLeDiff, Nat.reduceLT, Nat.reduceAdd, Nat.reduceMul, Nat.reduceSub, wX_trialIsSound_25]
      · intro n i hi h
        have h2 := hQ 0 i (by decide) hi
        rw [Nat.zero_mul, Nat.zero_add] at h2
        rw [Bool.or_eq_false_iff, Bool.not_eq_false'] at h
        rw [h.1] at h2
        simp (disch := first | omega | assumption) only [li_0, li_1, li_2, li_3, li_4, li_6, li_7, li_8, li_9, li_10, li_12, li_21, li_24, li_31, li_60, li_63, li_127, li_128, li_256, li_312, li_384, nI_add, nu_mul, nu_sub, nu_div, nu_and, nu_or, nu_shr, nu_bit, nu_diff, bi_2, nI_leI, nI_ltI, nI_eq, vp_in_nI, nI_clamp, ar_na, ar_ba, bo_0, bo_1, bo_it, bo_if, bo_w, bo_w0, bo_w1, bo_nar, bo_n1, bo_nn0, st_bu, st_bu1, st_bu0, st_nu, forall_eq, true_implies, false_implies, forall_const, not_true_eq_false, not_false_eq_true, and_true, true_and, implies_true, and_self, Bool.false_eq_true, Bool.true_eq_false, reduceCtorEq, ite_true, ite_false, if_true, if_false, eq_self, Nat.zero_add, Nat.add_zero, Nat.le_refl, Nat.lt_irrefl, Nat.reduceEqDiff, Nat.reduceLeDiff, Nat.reduceLT, Nat.reduceAdd, Nat.reduceMul, Nat.reduceSub, wX_trialIsSound_25, Nat.not_le.mpr hi, h2, xc_trialRead hQ, h.2]
      · intro n i hi h
        have h2 := hQ 0 i (by decide) hi
        rw [Nat.zero_mul, Nat.zero_add] at h2
        rw [Bool.or_eq_true, Bool.not_eq_true'] at h
        cases z : Q 0 i
        · rw [z] at h2
          simp (disch := first | omega | assumption) only [li_0, li_1, li_2, li_3, li_4, li_6, li_7, li_8, li_9, li_10, li_12, li_21, li_24, li_31, li_60, li_63, li_127, li_128, li_256, li_312, li_384, nI_add, nu_mul, nu_sub, nu_div, nu_and, nu_or, nu_shr, nu_bit, nu_diff, bi_2, nI_leI, nI_ltI, nI_eq, vp_in_nI, nI_clamp, ar_na, ar_ba, bo_0, bo_1, bo_it, bo_if, bo_w, bo_w0, bo_w1, bo_nar, bo_n1, bo_nn0, st_bu, st_bu1, st_bu0, st_nu, forall_eq, true_implies, false_implies, forall_const, not_true_eq_false, not_false_eq_true, and_true, true_and, implies_true, and_self, Bool.false_eq_true, Bool.true_eq_false, reduceCtorEq, ite_true, ite_false, if_true, if_false, eq_self, Nat.zero_add, Nat.add_zero, Nat.le_refl, Nat.lt_irrefl, Nat.reduceEqDiff, Nat.reduceLeDiff, Nat.reduceLT, Nat.reduceAdd, Nat.reduceMul, Nat.reduceSub, wX_trialIsSound_25, Nat.not_le.mpr hi, h2]
        · rw [z] at h2 h
          have h' := h.resolve_left (by decide)
          simp (disch := first | omega | assumption) only [li_0, li_1, li_2, li_3, li_4, li_6, li_7, li_8, li_9, li_10, li_12, li_21, li_24, li_31, li_60, li_63, li_127, li_128, li_256, li_312, li_384, nI_add, nu_mul, nu_sub, nu_div, nu_and, nu_or, nu_shr, nu_bit, nu_diff, bi_2, nI_leI, nI_ltI, nI_eq, vp_in_nI, nI_clamp, ar_na, ar_ba, bo_0, bo_1, bo_it, bo_if, bo_w, bo_w0, bo_w1, bo_nar, bo_n1, bo_nn0, st_bu, st_bu1, st_bu0, st_nu, forall_eq, true_implies, false_implies, forall_const, not_true_eq_false, not_false_eq_true, and_true, true_and, implies_true, and_self, Bool.false_eq_true, Bool.true_eq_false, reduceCtorEq, ite_true, ite_false, if_true, if_false, eq_self, Nat.zero_add, Nat.add_zero, Nat.le_refl, Nat.lt_irrefl, Nat.reduceEqDiff, Nat.reduceLeDiff, Nat.reduceLT, Nat.reduceAdd, Nat.reduceMul, Nat.reduceSub, wX_trialIsSound_25, Nat.not_le.mpr hi, h2, xc_trialRead hQ, h']
theorem yc_sound {post : Int32 → Prop} (hs : s < 4) (hr : rg_ (srt s) (num (4 * s)) (num (4 * s + 1)) (num (4 * s + 2)) (num (4 * s + 3))) : wpY_isSound post (nI bg, srt, num, ar_n so, ar_n ba, ar_n an, pc_y pk, ar_n kv, ar_b fa, ar_b co, ar_b fr, ar_b dn, ar_n sp, ar_n sv, ar_n ql, ar_n qb, ar_n qj, ar_n qv, ar_n vo, ar_n kn) (nI s) ↔ post (bo_i (sn_ (qf_ (srt s) (num (4 * s)) (num (4 * s + 1)) (num (4 * s + 2)) (num (4 * s + 3))))) := by
  have yq : ∀ {post : Int32 → Prop} {k t : Nat}, k < 3 → t < 128 → (wpY_isQuorum post (nI bg, srt, num, ar_n so, ar_n ba, ar_n an, pc_y pk, ar_n kv, ar_b fa, ar_b co, ar_b fr, ar_b dn, ar_n sp, ar_n sv, ar_n ql, ar_n qb, ar_n qj, ar_n qv, ar_n vo, ar_n kn) (nI s) (nI k) (nI t) ↔ post (bo_i (qf_ (srt s) (num (4 * s)) (num (4 * s + 1)) (num (4 * s + 2)) (num (4 * s + 3)) k t))) := fun a b => yc_isQuorum hs a b hr
  generalize qf_ (srt s) (num (4 * s)) (num (4 * s + 1)) (num (4 * s + 2)) (num (4 * s + 3)) = Q at *
  unfold sn_
  cases e0 : Q 0 127
  · simp (disch := first | omega | assumption) only [li_0, li_1, li_2, li_3, li_4, li_6, li_7, li_8, li_9, li_10, li_12, li_21, li_24, li_31, li_60, li_63, li_127, li_128, li_256, li_312, li_384, nI_add, nu_mul, nu_sub, nu_div, nu_and, nu_or, nu_shr, nu_bit, nu_diff, bi_2, nI_leI, nI_ltI, nI_eq, vp_in_nI, nI_clamp, ar_na, ar_ba, bo_0, bo_1, bo_it, bo_if, bo_w, bo_w0, bo_w1, bo_nar, bo_n1, bo_nn0, st_bu, st_bu1, st_bu0, st_nu, forall_eq, true_implies, false_implies, forall_const, not_true_eq_false, not_false_eq_true, and_true, true_and, implies_true, and_self, Bool.false_eq_true, Bool.true_eq_false, reduceCtorEq, ite_true, ite_false, if_true, if_false, eq_self, Nat.zero_add, Nat.add_zero, Nat.le_refl, Nat.lt_irrefl, Nat.reduceEqDiff, Nat.reduceLeDiff, Nat.reduceLT, Nat.reduceAdd, Nat.reduceMul, Nat.reduceSub, wpY_isSound, yq, e0, Bool.false_and]
  · cases e1 : Q 1 127
    · simp (disch := first | omega | assumption) only [li_0, li_1, li_2, li_3, li_4, li_6, li_7, li_8, li_9, li_10, li_12, li_21, li_24, li_31, li_60, li_63, li_127, li_128, li_256, li_312, li_384, nI_add, nu_mul, nu_sub, nu_div, nu_and, nu_or, nu_shr, nu_bit, nu_diff, bi_2, nI_leI, nI_ltI, nI_eq, vp_in_nI, nI_clamp, ar_na, ar_ba, bo_0, bo_1, bo_it, bo_if, bo_w, bo_w0, bo_w1, bo_nar, bo_n1, bo_nn0, st_bu, st_bu1, st_bu0, st_nu, forall_eq, true_implies, false_implies, forall_const, not_true_eq_false, not_false_eq_true, and_true, true_and, implies_true, and_self, Bool.false_eq_true, Bool.true_eq_false, reduceCtorEq, ite_true, ite_false, if_true, if_false, eq_self, Nat.zero_add, Nat.add_zero, Nat.le_refl, Nat.lt_irrefl, Nat.reduceEqDiff, Nat.reduceLeDiff, Nat.reduceLT, Nat.reduceAdd, Nat.reduceMul, Nat.reduceSub, wpY_isSound, yq, e0, e1, Bool.false_and, Bool.and_false]
    · simp (disch := first | omega | assumption) only [li_0, li_1, li_2, li_3, li_4, li_6, li_7, li_8, li_9, li_10, li_12, li_21, li_24, li_31, li_60, li_63, li_127, li_128, li_256, li_312, li_384, nI_add, nu_mul, nu_sub, nu_div, nu_and, nu_or, nu_shr, nu_bit, nu_diff, bi_2, nI_leI, nI_ltI, nI_eq, vp_in_nI, nI_clamp, ar_na, ar_ba, bo_0, bo_1, bo_it, bo_if, bo_w, bo_w0, bo_w1, bo_nar, bo_n1, bo_nn0, st_bu, st_bu1, st_bu0, st_nu, forall_eq, true_implies, false_implies, forall_const, not_true_eq_false, not_false_eq_true, and_true, true_and, implies_true, and_self, Bool.false_eq_true, Bool.true_eq_false, reduceCtorEq, ite_true, ite_false, if_true, if_false, eq_self, Nat.zero_add, Nat.add_zero, Nat.le_refl, Nat.lt_irrefl, Nat.reduceEqDiff, Nat.reduceLeDiff, Nat.reduceLT, Nat.reduceAdd, Nat.reduceMul, Nat.reduceSub, wpY_isSound, yq, e0, e1, Bool.true_and]
      refine (lo_all (W := fun n i => wY_isSound_26 post (nI s) (nI bg) srt num (ar_n so) (ar_n ba) (ar_n an) (pc_y pk) (ar_n kv) (ar_b fa) (ar_b co) (ar_b fr) (ar_b dn) (ar_n sp) (ar_n sv) (ar_n ql) (ar_n qb) (ar_n qj) (ar_n qv) (ar_n vo) (ar_n kn) n (nI i)) (A := post (nI 0)) (B := post (nI 1)) (e := 128) _ (fun _ h => h) ?_ ?_ ?_ 128 0 rfl).trans bo_pr
      · intro n
        simp (disch := first | omega | assumption) only [li_0, li_1, li_2, li_3, li_4, li_6, li_7, li_8, li_9, li_10, li_12, li_21, li_24, li_31, li_60, li_63, li_127, li_128, li_256, li_312, li_384, nI_add, nu_mul, nu_sub, nu_div, nu_and, nu_or, nu_shr, nu_bit, nu_diff, bi_2, nI_leI, nI_ltI, nI_eq, vp_in_nI, nI_clamp, ar_na, ar_ba, bo_0, bo_1, bo_it, bo_if, bo_w, bo_w0, bo_w1, bo_nar, bo_n1, bo_nn0, st_bu, st_bu1, st_bu0, st_nu, forall_eq, true_implies, false_implies, forall_const, not_true_eq_false, not_false_eq_true, and_true, true_and, implies_true, and_self, Bool.false_eq_true, Bool.true_eq_false, reduceCtorEq, ite_true, ite_false, if_true, if_false, eq_self, Nat.zero_add, Nat.add_zero, Nat.le_refl, Nat.lt_irrefl, Nat.reduceEqDiff, Nat.reduceLeDiff, Nat.reduceLT, Nat.reduceAdd, Nat.reduceMul, Nat.reduceSub, wY_isSound_26]
      all_goals
        intro n i hi h
        have hi' : ¬ 127 < i := by omega
        have hc : 127 &&& (i ^^^ 127) < 128 := nu_and7 (by decide)
        have inner : (∃ m, wY_isSound_64 post (wY_isSound_26 post (nI s) (nI bg) srt num (ar_n so) (ar_n ba) (ar_n an) (pc_y pk) (ar_n kv) (ar_b fa) (ar_b co) (ar_b fr) (ar_b dn) (ar_n sp) (ar_n sv) (ar_n ql) (ar_n qb) (ar_n qj) (ar_n qv) (ar_n vo) (ar_n kn) n) (nI s) (nI i) (nI bg) srt num (ar_n so) (ar_n ba) (ar_n an) (pc_y pk) (ar_n kv) (ar_b fa) (ar_b co) (ar_b fr) (ar_b dn) (ar_n sp) (ar_n sv) (ar_n ql) (ar_n qb) (ar_n qj) (ar_n qv) (ar_n vo) (ar_n kn) m (nI 0)) ↔ ((sr_ Q i = true → wY_isSound_26 post (nI s) (nI bg) srt num (ar_n so) (ar_n ba) (ar_n an) (pc_y pk) (ar_n kv) (ar_b fa) (ar_b co) (ar_b fr) (ar_b dn) (ar_n sp) (ar_n sv) (ar_n ql) (ar_n qb) (ar_n qj) (ar_n qv) (ar_n vo) (ar_n kn) n (nI (i + 1))) ∧ (sr_ Q i = false → post (nI 0))) := by
          refine lo_all (W := fun m j => wY_isSound_64 post (wY_isSound_26 post (nI s) (nI bg) srt num (ar_n so) (ar_n ba) (ar_n an) (pc_y pk) (ar_n kv) (ar_b fa) (ar_b co) (ar_b fr) (ar_b dn) (ar_n sp) (ar_n sv) (ar_n ql) (ar_n qb) (ar_n qj) (ar_n qv) (ar_n vo) (ar_n kn) n) (nI s) (nI i) (nI bg) srt num (ar_n so) (ar_n ba) (ar_n an) (pc_y pk) (ar_n kv) (ar_b fa) (ar_b co) (ar_b fr) (ar_b dn) (ar_n sp) (ar_n sv) (ar_n ql) (ar_n qb) (ar_n qj) (ar_n qv) (ar_n vo) (ar_n kn) m (nI j)) (e := 128) _ (fun _ h => h) ?_ ?_ ?_ 128 0 rfl
          · intro m
            simp (disch := first | omega | assumption) only [li_0, li_1, li_2, li_3, li_4, li_6, li_7, li_8, li_9, li_10, li_12, li_21, li_24, li_31, li_60, li_63, li_127, li_128, li_256, li_312, li_384, nI_add, nu_mul, nu_sub, nu_div, nu_and, nu_or, nu_shr, nu_bit, nu_diff, bi_2, nI_leI, nI_ltI, nI_eq, vp_in_nI, nI_clamp, ar_na, ar_ba, bo_0, bo_1, bo_it, bo_if, bo_w, bo_w0, bo_w1, bo_nar, bo_n1, bo_nn0, st_bu, st_bu1, st_bu0, st_nu, forall_eq, true_implies, false_implies, forall_const, not_true_eq_false, not_false_eq_true, and_true, true_and, implies_true, and_self, Bool.false_eq_true, Bool.true_eq_false, reduceCtorEq, ite_true, ite_false, if_true, if_false, eq_self, Nat.zero_add, Nat.add_zero, Nat.le_refl, Nat.lt_irrefl, Nat.reduceEqDiff, Nat.reduceLeDiff, Nat.reduceLT, Nat.reduceAdd, Nat.reduceMul, Nat.reduceSub, wY_isSound_64]
          · intro m j hj h
            have hd : 127 &&& ((i &&& j) ^^^ 127) < 128 := nu_and7 (by decide)
            have hj' : ¬ 127 < j := by omega
            simp at h
            simp (disch := first | omega | assumption) only [li_0, li_1, li_2, li_3, li_4, li_6, li_7, li_8, li_9, li_10, li_12, li_21, li_24, li_31, li_60, li_63, li_127, li_128, li_256, li_312, li_384, nI_add, nu_mul, nu_sub, nu_div, nu_and, nu_or, nu_shr, nu_bit, nu_diff, bi_2, nI_leI, nI_ltI, nI_eq, vp_in_nI, nI_clamp, ar_na, ar_ba, bo_0, bo_1, bo_it, bo_if, bo_w, bo_w0, bo_w1, bo_nar, bo_n1, bo_nn0, st_bu, st_bu1, st_bu0, st_nu, forall_eq, true_implies, false_implies, forall_const, not_true_eq_false, not_false_eq_true, and_true, true_and, implies_true, and_self, Bool.false_eq_true, Bool.true_eq_false, reduceCtorEq, ite_true, ite_false, if_true, if_false, eq_self, Nat.zero_add, Nat.add_zero, Nat.le_refl, Nat.lt_irrefl, Nat.reduceEqDiff, Nat.reduceLeDiff, Nat.reduceLT, Nat.reduceAdd, Nat.reduceMul, Nat.reduceSub, wY_isSound_64, hj', yq, h.1, h.2]
          · intro m j hj h
            have hd : 127 &&& ((i &&& j) ^^^ 127) < 128 := nu_and7 (by decide)
            have hj' : ¬ 127 < j := by omega
            simp at h
            cases z : Q 2 j
            · simp (disch := first | omega | assumption) only [li_0, li_1, li_2, li_3, li_4, li_6, li_7, li_8, li_9, li_10, li_12, li_21, li_24, li_31, li_60, li_63, li_127, li_128, li_256, li_312, li_384, nI_add, nu_mul, nu_sub, nu_div, nu_and, nu_or, nu_shr, nu_bit, nu_diff, bi_2, nI_leI, nI_ltI, nI_eq, vp_in_nI, nI_clamp, ar_na, ar_ba, bo_0, bo_1, bo_it, bo_if, bo_w, bo_w0, bo_w1, bo_nar, bo_n1, bo_nn0, st_bu, st_bu1, st_bu0, st_nu, forall_eq, true_implies, false_implies, forall_const, not_true_eq_false, not_false_eq_true, and_true, true_and, implies_true, and_self, Bool.false_eq_true, Bool.true_eq_false, reduceCtorEq, ite_true, ite_false, if_true, if_false, eq_self, Nat.zero_add, Nat.add_zero, Nat.le_refl, Nat.lt_irrefl, Nat.reduceEqDiff, Nat.reduceLeDiff, Nat.reduceLT, Nat.reduceAdd, Nat.reduceMul, Nat.reduceSub, wY_isSound_64, hj', yq, z]
            · have h' : Q 2 (127 &&& ((i &&& j) ^^^ 127)) = false := by
                rcases h with h | h
                · rw [z] at h; exact nomatch h
                · exact h
              simp (disch := first | omega | assumption) only [li_0, li_1, li_2, li_3, li_4, li_6, li_7, li_8, li_9, li_10, li_12, li_21, li_24, li_31, li_60, li_63, li_127, li_128, li_256, li_312, li_384, nI_add, nu_mul, nu_sub, nu_div, nu_and, nu_or, nu_shr, nu_bit, nu_diff, bi_2, nI_leI, nI_ltI, nI_eq, vp_in_nI, nI_clamp, ar_na, ar_ba, bo_0, bo_1, bo_it, bo_if, bo_w, bo_w0, bo_w1, bo_nar, bo_n1, bo_nn0, st_bu, st_bu1, st_bu0, st_nu, forall_eq, true_implies, false_implies, forall_const, not_true_eq_false, not_false_eq_true, and_true, true_and, implies_true, and_self, Bool.false_eq_true, Bool.true_eq_false, reduceCtorEq, ite_true, ite_false, if_true, if_false, eq_self, Nat.zero_add, Nat.add_zero, Nat.le_refl, Nat.lt_irrefl, Nat.reduceEqDiff, Nat.reduceLeDiff, Nat.reduceLT, Nat.reduceAdd, Nat.reduceMul, Nat.reduceSub, wY_isSound_64, hj', yq, z, h']
        cases z0 : Q 0 i
        · rw [z0] at h
          first
            | (simp at h; done)
            | simp (disch := first | omega | assumption) only [li_0, li_1, li_2, li_3, li_4, li_6, li_7, li_8, li_9, li_10, li_12, li_21, li_24, li_31, li_60, li_63, li_127, li_128, li_256, li_312, li_384, nI_add, nu_mul, nu_sub, nu_div, nu_and, nu_or, nu_shr, nu_bit, nu_diff, bi_2, nI_leI, nI_ltI, nI_eq, vp_in_nI, nI_clamp, ar_na, ar_ba, bo_0, bo_1, bo_it, bo_if, bo_w, bo_w0, bo_w1, bo_nar, bo_n1, bo_nn0, st_bu, st_bu1, st_bu0, st_nu, forall_eq, true_implies, false_implies, forall_const, not_true_eq_false, not_false_eq_true, and_true, true_and, implies_true, and_self, Bool.false_eq_true, Bool.true_eq_false, reduceCtorEq, ite_true, ite_false, if_true, if_false, eq_self, Nat.zero_add, Nat.add_zero, Nat.le_refl, Nat.lt_irrefl, Nat.reduceEqDiff, Nat.reduceLeDiff, Nat.reduceLT, Nat.reduceAdd, Nat.reduceMul, Nat.reduceSub, wY_isSound_26, hi', yq, z0]
        · rw [z0, Bool.not_true, Bool.false_or] at h
          cases z1 : Q 1 (127 &&& (i ^^^ 127))
          · rw [z1, Bool.not_false, Bool.true_and] at h
            simp (disch := first | omega | assumption) only [li_0, li_1, li_2, li_3, li_4, li_6, li_7, li_8, li_9, li_10, li_12, li_21, li_24, li_31, li_60, li_63, li_127, li_128, li_256, li_312, li_384, nI_add, nu_mul, nu_sub, nu_div, nu_and, nu_or, nu_shr, nu_bit, nu_diff, bi_2, nI_leI, nI_ltI, nI_eq, vp_in_nI, nI_clamp, ar_na, ar_ba, bo_0, bo_1, bo_it, bo_if, bo_w, bo_w0, bo_w1, bo_nar, bo_n1, bo_nn0, st_bu, st_bu1, st_bu0, st_nu, forall_eq, true_implies, false_implies, forall_const, not_true_eq_false, not_false_eq_true, and_true, true_and, implies_true, and_self, Bool.false_eq_true, Bool.true_eq_false, reduceCtorEq, ite_true, ite_false, if_true, if_false, eq_self, Nat.zero_add, Nat.add_zero, Nat.le_refl, Nat.lt_irrefl, Nat.reduceEqDiff, Nat.reduceLeDiff, Nat.reduceLT, Nat.reduceAdd, Nat.reduceMul, Nat.reduceSub, wY_isSound_26, hi', yq, z0, z1]
            rw [inner, h]
            simp
          · rw [z1] at h
            first
              | (simp at h; done)
              | simp (disch := first | omega | assumption) only [li_0, li_1, li_2, li_3, li_4, li_6, li_7, li_8, li_9, li_10, li_12, li_21, li_24, li_31, li_60, li_63, li_127, li_128, li_256, li_312, li_384, nI_add, nu_mul, nu_sub, nu_div, nu_and, nu_or, nu_shr, nu_bit, nu_diff, bi_2, nI_leI, nI_ltI, nI_eq, vp_in_nI, nI_clamp, ar_na, ar_ba, bo_0, bo_1, bo_it, bo_if, bo_w, bo_w0, bo_w1, bo_nar, bo_n1, bo_nn0, st_bu, st_bu1, st_bu0, st_nu, forall_eq, true_implies, false_implies, forall_const, not_true_eq_false, not_false_eq_true, and_true, true_and, implies_true, and_self, Bool.false_eq_true, Bool.true_eq_false, reduceCtorEq, ite_true, ite_false, if_true, if_false, eq_self, Nat.zero_add, Nat.add_zero, Nat.le_refl, Nat.lt_irrefl, Nat.reduceEqDiff, Nat.reduceLeDiff, Nat.reduceLT, Nat.reduceAdd, Nat.reduceMul, Nat.reduceSub, wY_isSound_26, hi', yq, z0, z1]
theorem xc_layOut {sx a b c d : Int32} (hr : rg_ sx a b c d) : ∃ tb', (∀ k t, k < 3 → t < 128 → tb' (k * 128 + t) = qf_ sx a b c d k t) ∧ ∀ post, (wpX_layOut post (nI bg, ar_b df, ar_b iq, ar_b tb, ar_b up, ar_n op, ar_n ov, ar_n sp, ar_n sv, ar_n qb, ar_n qi, ar_n qv, ar_n ql, ar_n so, ar_b fa, ar_n ba, ar_n an, ar_b co, pc_x pk, ar_b fr, ar_n kv, ar_n vo, ar_n kn) sx a b c d ↔ post (nI bg, ar_b df, ar_b iq, ar_b tb', ar_b up, ar_n op, ar_n ov, ar_n sp, ar_n sv, ar_n qb, ar_n qi, ar_n qv, ar_n ql, ar_n so, ar_b fa, ar_n ba, ar_n an, ar_b co, pc_x pk, ar_b fr, ar_n kv, ar_n vo, ar_n kn)) := by
  rcases hr with ⟨rfl, a, b, c, d, rfl, rfl, rfl, rfl, h⟩ | ⟨rfl, a, b, rfl, rfl, h⟩ | ⟨rfl, a, b, c, d, rfl, rfl, rfl, rfl, h⟩ | ⟨rfl, a, b, c, rfl, rfl, rfl, h⟩
  · obtain ⟨h1, h2, h3, h4, h5, h6, h7⟩ := h
    refine ⟨tz_ 2 (fun t => decide (0 < d) && decide (d ≤ sz_ (t &&& a))) (tz_ 1 (fun t => decide (0 < c) && decide (c ≤ sz_ (t &&& a))) (tz_ 0 (fun t => decide (0 < b) && decide (b ≤ sz_ (t &&& a))) tb)), ?_, ?_⟩
    · intro k t hk ht
      rw [tz_3 hk ht, qf_0 (by omega) (by omega) (by omega) (by omega) (by omega) (by omega) hk]
      rcases (by omega : k = 0 ∨ k = 1 ∨ k = 2) with rfl | rfl | rfl <;> rfl
    · intro post
      simp (disch := first | omega | assumption) only [li_0, li_1, li_2, li_3, li_4, li_6, li_7, li_8, li_9, li_10, li_12, li_21, li_24, li_31, li_60, li_63, li_127, li_128, li_256, li_312, li_384, nI_add, nu_mul, nu_sub, nu_div, nu_and, nu_or, nu_shr, nu_bit, nu_diff, bi_2, nI_leI, nI_ltI, nI_eq, vp_in_nI, nI_clamp, ar_na, ar_ba, bo_0, bo_1, bo_it, bo_if, bo_w, bo_w0, bo_w1, bo_nar, bo_n1, bo_nn0, st_bu, st_bu1, st_bu0, st_nu, forall_eq, true_implies, false_implies, forall_const, not_true_eq_false, not_false_eq_true, and_true, true_and, implies_true, and_self, Bool.false_eq_true, Bool.true_eq_false, reduceCtorEq, ite_true, ite_false, if_true, if_false, eq_self, Nat.zero_add, Nat.add_zero, Nat.le_refl, Nat.lt_irrefl, Nat.reduceEqDiff, Nat.reduceLeDiff, Nat.reduceLT, Nat.reduceAdd, Nat.reduceMul, Nat.reduceSub, wpX_layOut, xc_layOutCount]
  · obtain ⟨h1, h2, h3, h4, h5⟩ := h
    by_cases z : d = nI 0
    · refine ⟨tz_ 2 (fun t => (fun _ => false) (gr_col a b t)) (tz_ 1 (fun t => decide (1 ≤ gr_col a b t)) (tz_ 0 (gr_row a b) tb)), ?_, ?_⟩
      · intro k t hk ht
        obtain ⟨g1, g2, -, -⟩ := gr_all h1 h3 h5 ht
        rw [tz_3 hk ht, qf_1 (by omega) (by omega), g1, g2]
        rcases (by omega : k = 0 ∨ k = 1 ∨ k = 2) with rfl | rfl | rfl
        · simp
        · simp
        · simp [z]
      · intro post
        simp (disch := first | omega | assumption) only [li_0, li_1, li_2, li_3, li_4, li_6, li_7, li_8, li_9, li_10, li_12, li_21, li_24, li_31, li_60, li_63, li_127, li_128, li_256, li_312, li_384, nI_add, nu_mul, nu_sub, nu_div, nu_and, nu_or, nu_shr, nu_bit, nu_diff, bi_2, nI_leI, nI_ltI, nI_eq, vp_in_nI, nI_clamp, ar_na, ar_ba, bo_0, bo_1, bo_it, bo_if, bo_w, bo_w0, bo_w1, bo_nar, bo_n1, bo_nn0, st_bu, st_bu1, st_bu0, st_nu, forall_eq, true_implies, false_implies, forall_const, not_true_eq_false, not_false_eq_true, and_true, true_and, implies_true, and_self, Bool.false_eq_true, Bool.true_eq_false, reduceCtorEq, ite_true, ite_false, if_true, if_false, eq_self, Nat.zero_add, Nat.add_zero, Nat.le_refl, Nat.lt_irrefl, Nat.reduceEqDiff, Nat.reduceLeDiff, Nat.reduceLT, Nat.reduceAdd, Nat.reduceMul, Nat.reduceSub, wpX_layOut, wX_layOut_85, z, xc_layOutRows, xc_layOutColumns (L := nI 1) (lb := fun x => decide (1 ≤ x)) (Or.inr ⟨1, by decide, rfl, fun _ => rfl⟩), xc_layOutColumns (L := -nI 3) (lb := fun _ => false) (Or.inl ⟨rfl, fun _ => rfl⟩)]
    · refine ⟨tz_ 2 (fun t => decide (b - 1 ≤ gr_col a b t)) (tz_ 1 (fun t => decide (1 ≤ gr_col a b t)) (tz_ 0 (gr_row a b) tb)), ?_, ?_⟩
      · intro k t hk ht
        obtain ⟨g1, g2, -, -⟩ := gr_all h1 h3 h5 ht
        rw [tz_3 hk ht, qf_1 (by omega) (by omega), g1, g2]
        rcases (by omega : k = 0 ∨ k = 1 ∨ k = 2) with rfl | rfl | rfl
        · simp
        · simp
        · simp [z]
      · intro post
        simp (disch := first | omega | assumption) only [li_0, li_1, li_2, li_3, li_4, li_6, li_7, li_8, li_9, li_10, li_12, li_21, li_24, li_31, li_60, li_63, li_127, li_128, li_256, li_312, li_384, nI_add, nu_mul, nu_sub, nu_div, nu_and, nu_or, nu_shr, nu_bit, nu_diff, bi_2, nI_leI, nI_ltI, nI_eq, vp_in_nI, nI_clamp, ar_na, ar_ba, bo_0, bo_1, bo_it, bo_if, bo_w, bo_w0, bo_w1, bo_nar, bo_n1, bo_nn0, st_bu, st_bu1, st_bu0, st_nu, forall_eq, true_implies, false_implies, forall_const, not_true_eq_false, not_false_eq_true, and_true, true_and, implies_true, and_self, Bool.false_eq_true, Bool.true_eq_false, reduceCtorEq, ite_true, ite_false, if_true, if_false, eq_self, Nat.zero_add, Nat.add_zero, Nat.le_refl, Nat.lt_irrefl, Nat.reduceEqDiff, Nat.reduceLeDiff, Nat.reduceLT, Nat.reduceAdd, Nat.reduceMul, Nat.reduceSub, wpX_layOut, wX_layOut_85, z, xc_layOutRows, xc_layOutColumns (L := nI 1) (lb := fun x => decide (1 ≤ x)) (Or.inr ⟨1, by decide, rfl, fun _ => rfl⟩), xc_layOutColumns (L := nI (b - 1)) (lb := fun x => decide (b - 1 ≤ x)) (Or.inr ⟨b - 1, by omega, rfl, fun _ => rfl⟩)]
  · obtain ⟨h1, h2, h3, h4, h5, h6⟩ := h
    refine ⟨tz_ 2 (fun t => decide (0 < d) && decide (d ≤ wt_ a t)) (tz_ 1 (fun t => decide (0 < c) && decide (c ≤ wt_ a t)) (tz_ 0 (fun t => decide (0 < b) && decide (b ≤ wt_ a t)) tb)), ?_, ?_⟩
    · intro k t hk ht
      rw [tz_3 hk ht, qf_2 (by omega) (by omega) (by omega) (by omega) (by omega) (by omega) hk]
      rcases (by omega : k = 0 ∨ k = 1 ∨ k = 2) with rfl | rfl | rfl <;> rfl
    · intro post
      simp (disch := first | omega | assumption) only [li_0, li_1, li_2, li_3, li_4, li_6, li_7, li_8, li_9, li_10, li_12, li_21, li_24, li_31, li_60, li_63, li_127, li_128, li_256, li_312, li_384, nI_add, nu_mul, nu_sub, nu_div, nu_and, nu_or, nu_shr, nu_bit, nu_diff, bi_2, nI_leI, nI_ltI, nI_eq, vp_in_nI, nI_clamp, ar_na, ar_ba, bo_0, bo_1, bo_it, bo_if, bo_w, bo_w0, bo_w1, bo_nar, bo_n1, bo_nn0, st_bu, st_bu1, st_bu0, st_nu, forall_eq, true_implies, false_implies, forall_const, not_true_eq_false, not_false_eq_true, and_true, true_and, implies_true, and_self, Bool.false_eq_true, Bool.true_eq_false, reduceCtorEq, ite_true, ite_false, if_true, if_false, eq_self, Nat.zero_add, Nat.add_zero, Nat.le_refl, Nat.lt_irrefl, Nat.reduceEqDiff, Nat.reduceLeDiff, Nat.reduceLT, Nat.reduceAdd, Nat.reduceMul, Nat.reduceSub, wpX_layOut, xc_layOutWeights]
  · obtain ⟨h1, h2, h3⟩ := h
    refine ⟨tz_ 2 (li_ c) (tz_ 1 (li_ b) (tz_ 0 (li_ a) tb)), ?_, ?_⟩
    · intro k t hk ht
      rw [tz_3 hk ht, qf_3 (by omega) (by omega) (by omega)]
      rcases (by omega : k = 0 ∨ k = 1 ∨ k = 2) with rfl | rfl | rfl <;> rfl
    · intro post
      simp (disch := first | omega | assumption) only [li_0, li_1, li_2, li_3, li_4, li_6, li_7, li_8, li_9, li_10, li_12, li_21, li_24, li_31, li_60, li_63, li_127, li_128, li_256, li_312, li_384, nI_add, nu_mul, nu_sub, nu_div, nu_and, nu_or, nu_shr, nu_bit, nu_diff, bi_2, nI_leI, nI_ltI, nI_eq, vp_in_nI, nI_clamp, ar_na, ar_ba, bo_0, bo_1, bo_it, bo_if, bo_w, bo_w0, bo_w1, bo_nar, bo_n1, bo_nn0, st_bu, st_bu1, st_bu0, st_nu, forall_eq, true_implies, false_implies, forall_const, not_true_eq_false, not_false_eq_true, and_true, true_and, implies_true, and_self, Bool.false_eq_true, Bool.true_eq_false, reduceCtorEq, ite_true, ite_false, if_true, if_false, eq_self, Nat.zero_add, Nat.add_zero, Nat.le_refl, Nat.lt_irrefl, Nat.reduceEqDiff, Nat.reduceLeDiff, Nat.reduceLT, Nat.reduceAdd, Nat.reduceMul, Nat.reduceSub, wpX_layOut, xc_layOutList]
theorem xc_define57 {post : Int32 → SX → Prop} (hs : s < 4) : (∃ n, wX_define_57 post (nI s) (nI bg) n (nI 0) (ar_b df) (ar_b iq) (ar_b tb) (ar_b up) (ar_n op) (ar_n ov) (ar_n sp) (ar_n sv) (ar_n qb) (ar_n qi) (ar_n qv) (ar_n ql) (ar_n so) (ar_b fa) (ar_n ba) (ar_n an) (ar_b co) (pc_x pk) (ar_b fr) (ar_n kv) (ar_n vo) (ar_n kn)) ↔ post (nI 1) (nI bg, ar_b (st_b df s true), ar_b (lo_f (fun t iq => st_b iq (s * 384 + t) (tb t)) 384 0 iq), ar_b tb, ar_b up, ar_n op, ar_n ov, ar_n sp, ar_n sv, ar_n qb, ar_n qi, ar_n qv, ar_n ql, ar_n so, ar_b fa, ar_n ba, ar_n an, ar_b co, pc_x pk, ar_b fr, ar_n kv, ar_n vo, ar_n kn) := by
  refine lo_fold (W := fun n i iq => wX_define_57 post (nI s) (nI bg) n (nI i) (ar_b df) (ar_b iq) (ar_b tb) (ar_b up) (ar_n op) (ar_n ov) (ar_n sp) (ar_n sv) (ar_n qb) (ar_n qi) (ar_n qv) (ar_n ql) (ar_n so) (ar_b fa) (ar_n ba) (ar_n an) (ar_b co) (pc_x pk) (ar_b fr) (ar_n kv) (ar_n vo) (ar_n kn)) (fin := fun iq => post (nI 1) (nI bg, ar_b (st_b df s true), ar_b iq, ar_b tb, ar_b up, ar_n op, ar_n ov, ar_n sp, ar_n sv, ar_n qb, ar_n qi, ar_n qv, ar_n ql, ar_n so, ar_b fa, ar_n ba, ar_n an, ar_b co, pc_x pk, ar_b fr, ar_n kv, ar_n vo, ar_n kn)) (I := fun _ _ => True) (e := 384) (fun t iq => st_b iq (s * 384 + t) (tb t)) (fun _ _ h => h) (fun _ _ _ _ => trivial) ?_ ?_ 384 0 iq rfl trivial
  · intro n iq _
    simp (disch := first | omega | assumption) only [li_0, li_1, li_2, li_3, li_4, li_6, li_7, li_8, li_9, li_10, li_12, li_21, li_24, li_31, li_60, li_63, li_127, li_128, li_256, li_312, li_384, nI_add, nu_mul, nu_sub, nu_div, nu_and, nu_or, nu_shr, nu_bit, nu_diff, bi_2, nI_leI, nI_ltI, nI_eq, vp_in_nI, nI_clamp, ar_na, ar_ba, bo_0, bo_1, bo_it, bo_if, bo_w, bo_w0, bo_w1, bo_nar, bo_n1, bo_nn0, st_bu, st_bu1, st_bu0, st_nu, forall_eq, true_implies, false_implies, forall_const, not_true_eq_false, not_false_eq_true, and_true, true_and, implies_true, and_self, Bool.false_eq_true, Bool.true_eq_false, reduceCtorEq, ite_true, ite_false, if_true, if_false, eq_self, Nat.zero_add, Nat.add_zero, Nat.le_refl, Nat.lt_irrefl, Nat.reduceEqDiff, Nat.reduceLeDiff, Nat.reduceLT, Nat.reduceAdd, Nat.reduceMul, Nat.reduceSub, wX_define_57]
  · intro n i iq hi _
    simp (disch := first | omega | assumption) only [li_0, li_1, li_2, li_3, li_4, li_6, li_7, li_8, li_9, li_10, li_12, li_21, li_24, li_31, li_60, li_63, li_127, li_128, li_256, li_312, li_384, nI_add, nu_mul, nu_sub, nu_div, nu_and, nu_or, nu_shr, nu_bit, nu_diff, bi_2, nI_leI, nI_ltI, nI_eq, vp_in_nI, nI_clamp, ar_na, ar_ba, bo_0, bo_1, bo_it, bo_if, bo_w, bo_w0, bo_w1, bo_nar, bo_n1, bo_nn0, st_bu, st_bu1, st_bu0, st_nu, forall_eq, true_implies, false_implies, forall_const, not_true_eq_false, not_false_eq_true, and_true, true_and, implies_true, and_self, Bool.false_eq_true, Bool.true_eq_false, reduceCtorEq, ite_true, ite_false, if_true, if_false, eq_self, Nat.zero_add, Nat.add_zero, Nat.le_refl, Nat.lt_irrefl, Nat.reduceEqDiff, Nat.reduceLeDiff, Nat.reduceLT, Nat.reduceAdd, Nat.reduceMul, Nat.reduceSub, wX_define_57, Nat.not_le.mpr hi]
theorem yc_set {post : SY → Prop} {x2 x3 x4 x5 x6 : Int32} (hs : s < 4) : wpY_set post (nI bg, srt, num, ar_n so, ar_n ba, ar_n an, pc_y pk, ar_n kv, ar_b fa, ar_b co, ar_b fr, ar_b dn, ar_n sp, ar_n sv, ar_n ql, ar_n qb, ar_n qj, ar_n qv, ar_n vo, ar_n kn) (nI s) x2 x3 x4 x5 x6 ↔ post (nI bg, upd srt s x2, upd (upd (upd (upd num (4 * s) x3) (4 * s + 1) x4) (4 * s + 2) x5) (4 * s + 3) x6, ar_n so, ar_n ba, ar_n an, pc_y pk, ar_n kv, ar_b fa, ar_b co, ar_b fr, ar_b dn, ar_n sp, ar_n sv, ar_n ql, ar_n qb, ar_n qj, ar_n qv, ar_n vo, ar_n kn) := by
  simp (disch := first | omega | assumption) only [li_0, li_1, li_2, li_3, li_4, li_6, li_7, li_8, li_9, li_10, li_12, li_21, li_24, li_31, li_60, li_63, li_127, li_128, li_256, li_312, li_384, nI_add, nu_mul, nu_sub, nu_div, nu_and, nu_or, nu_shr, nu_bit, nu_diff, bi_2, nI_leI, nI_ltI, nI_eq, vp_in_nI, nI_clamp, ar_na, ar_ba, bo_0, bo_1, bo_it, bo_if, bo_w, bo_w0, bo_w1, bo_nar, bo_n1, bo_nn0, st_bu, st_bu1, st_bu0, st_nu, forall_eq, true_implies, false_implies, forall_const, not_true_eq_false, not_false_eq_true, and_true, true_and, implies_true, and_self, Bool.false_eq_true, Bool.true_eq_false, reduceCtorEq, ite_true, ite_false, if_true, if_false, eq_self, Nat.zero_add, Nat.add_zero, Nat.le_refl, Nat.lt_irrefl, Nat.reduceEqDiff, Nat.reduceLeDiff, Nat.reduceLT, Nat.reduceAdd, Nat.reduceMul, Nat.reduceSub, wpY_set]
theorem nu_4 {f : Nat → Int32} {s : Nat} {a b c d : Int32} : upd (upd (upd (upd (upd (upd (upd (upd f (4 * s) a) (4 * s + 1) b) (4 * s + 2) c) (4 * s + 3) d) (4 * s) (f (4 * s))) (4 * s + 1) (f (4 * s + 1))) (4 * s + 2) (f (4 * s + 2))) (4 * s + 3) (f (4 * s + 3)) = f := by
  funext j
  rcases (by omega : j = 4 * s ∨ j = 4 * s + 1 ∨ j = 4 * s + 2 ∨ j = 4 * s + 3 ∨ (j ≠ 4 * s ∧ j ≠ 4 * s + 1 ∧ j ≠ 4 * s + 2 ∧ j ≠ 4 * s + 3)) with rfl | rfl | rfl | rfl | ⟨h1, h2, h3, h4⟩ <;> simp (disch := omega) only [up_eq, up_ne]
def dc_ (bg : Nat) (so : Nat → Nat) (x v2 v3 v4 v5 v6 : Int32) : Bool := iz 0 3 x && (hb_ bg so (cl_ x) && (ir_ v2 v3 v4 v5 v6 && sn_ (qf_ v2 v3 v4 v5 v6)))
theorem yc_define {post : Int32 → SY → Prop} {v2 v3 v4 v5 v6 : Int32} (hb : bg ≤ 12) (hbb : in_b bg df so ba) : wpY_define post (nI bg, srt, num, ar_n so, ar_n ba, ar_n an, pc_y pk, ar_n kv, ar_b fa, ar_b co, ar_b fr, ar_b dn, ar_n sp, ar_n sv, ar_n ql, ar_n qb, ar_n qj, ar_n qv, ar_n vo, ar_n kn) x v2 v3 v4 v5 v6 ↔ ((dc_ bg so x v2 v3 v4 v5 v6 = false → post (nI 0) (nI bg, srt, num, ar_n so, ar_n ba, ar_n an, pc_y pk, ar_n kv, ar_b fa, ar_b co, ar_b fr, ar_b dn, ar_n sp, ar_n sv, ar_n ql, ar_n qb, ar_n qj, ar_n qv, ar_n vo, ar_n kn)) ∧ (dc_ bg so x v2 v3 v4 v5 v6 = true → post (nI 1) (nI bg, upd srt (cl_ x) v2, upd (upd (upd (upd num (4 * cl_ x) v3) (4 * cl_ x + 1) v4) (4 * cl_ x + 2) v5) (4 * cl_ x + 3) v6, ar_n so, ar_n ba, ar_n an, pc_y pk, ar_n kv, ar_b fa, ar_b co, ar_b fr, ar_b dn, ar_n sp, ar_n sv, ar_n ql, ar_n qb, ar_n qj, ar_n qv, ar_n vo, ar_n kn))) := by
  unfold dc_
  rcases iz_c 0 3 x with h | ⟨s, h1, h2, h3, rfl, h⟩
  · simp (disch := first | omega | assumption) only [li_0, li_1, li_2, li_3, li_4, li_6, li_7, li_8, li_9, li_10, li_12, li_21, li_24, li_31, li_60, li_63, li_127, li_128, li_256, li_312, li_384, nI_add, nu_mul, nu_sub, nu_div, nu_and, nu_or, nu_shr, nu_bit, nu_diff, bi_2, nI_leI, nI_ltI, nI_eq, vp_in_nI, nI_clamp, ar_na, ar_ba, bo_0, bo_1, bo_it, bo_if, bo_w, bo_w0, bo_w1, bo_nar, bo_n1, bo_nn0, st_bu, st_bu1, st_bu0, st_nu, forall_eq, true_implies, false_implies, forall_const, not_true_eq_false, not_false_eq_true, and_true, true_and, implies_true, and_self, Bool.false_eq_true, Bool.true_eq_false, reduceCtorEq, ite_true, ite_false, if_true, if_false, eq_self, Nat.zero_add, Nat.add_zero, Nat.le_refl, Nat.lt_irrefl, Nat.reduceEqDiff, Nat.reduceLeDiff, Nat.reduceLT, Nat.reduceAdd, Nat.reduceMul, Nat.reduceSub, wpY_define, yc_in, h, Bool.false_and]
  · rw [cl_n h3]
    cases e2 : ir_ v2 v3 v4 v5 v6
    · simp (disch := first | omega | assumption) only [li_0, li_1, li_2, li_3, li_4, li_6, li_7, li_8, li_9, li_10, li_12, li_21, li_24, li_31, li_60, li_63, li_127, li_128, li_256, li_312, li_384, nI_add, nu_mul, nu_sub, nu_div, nu_and, nu_or, nu_shr, nu_bit, nu_diff, bi_2, nI_leI, nI_ltI, nI_eq, vp_in_nI, nI_clamp, ar_na, ar_ba, bo_0, bo_1, bo_it, bo_if, bo_w, bo_w0, bo_w1, bo_nar, bo_n1, bo_nn0, st_bu, st_bu1, st_bu0, st_nu, forall_eq, true_implies, false_implies, forall_const, not_true_eq_false, not_false_eq_true, and_true, true_and, implies_true, and_self, Bool.false_eq_true, Bool.true_eq_false, reduceCtorEq, ite_true, ite_false, if_true, if_false, eq_self, Nat.zero_add, Nat.add_zero, Nat.le_refl, Nat.lt_irrefl, Nat.reduceEqDiff, Nat.reduceLeDiff, Nat.reduceLT, Nat.reduceAdd, Nat.reduceMul, Nat.reduceSub, wpY_define, yc_in, h, yc_inRange, e2, Bool.false_and, Bool.and_false]
    · simp (disch := first | omega | assumption) only [li_0, li_1, li_2, li_3, li_4, li_6, li_7, li_8, li_9, li_10, li_12, li_21, li_24, li_31, li_60, li_63, li_127, li_128, li_256, li_312, li_384, nI_add, nu_mul, nu_sub, nu_div, nu_and, nu_or, nu_shr, nu_bit, nu_diff, bi_2, nI_leI, nI_ltI, nI_eq, vp_in_nI, nI_clamp, ar_na, ar_ba, bo_0, bo_1, bo_it, bo_if, bo_w, bo_w0, bo_w1, bo_nar, bo_n1, bo_nn0, st_bu, st_bu1, st_bu0, st_nu, forall_eq, true_implies, false_implies, forall_const, not_true_eq_false, not_false_eq_true, and_true, true_and, implies_true, and_self, Bool.false_eq_true, Bool.true_eq_false, reduceCtorEq, ite_true, ite_false, if_true, if_false, eq_self, Nat.zero_add, Nat.add_zero, Nat.le_refl, Nat.lt_irrefl, Nat.reduceEqDiff, Nat.reduceLeDiff, Nat.reduceLT, Nat.reduceAdd, Nat.reduceMul, Nat.reduceSub, wpY_define, yc_in, h, yc_inRange, e2, Bool.true_and]
      rw [yc_define28 hb hbb (by omega)]
      cases e1 : hb_ bg so s
      · simp only [Bool.false_eq_true, false_implies, true_and, true_implies, Bool.false_and, and_true]
      · have hr := ir_rg e2
        have n0 : upd (upd (upd (upd num (4 * s) v3) (4 * s + 1) v4) (4 * s + 2) v5) (4 * s + 3) v6 (4 * s) = v3 := by simp (disch := omega) only [up_eq, up_ne]
        have n1 : upd (upd (upd (upd num (4 * s) v3) (4 * s + 1) v4) (4 * s + 2) v5) (4 * s + 3) v6 (4 * s + 1) = v4 := by simp (disch := omega) only [up_eq, up_ne]
        have n2 : upd (upd (upd (upd num (4 * s) v3) (4 * s + 1) v4) (4 * s + 2) v5) (4 * s + 3) v6 (4 * s + 2) = v5 := by simp (disch := omega) only [up_eq, up_ne]
        have n3 : upd (upd (upd (upd num (4 * s) v3) (4 * s + 1) v4) (4 * s + 2) v5) (4 * s + 3) v6 (4 * s + 3) = v6 := by simp (disch := omega) only [up_eq, up_ne]
        have n4 : upd srt s v2 s = v2 := up_eq
        rw [yc_set (by omega), yc_sound (by omega) (by rw [n0, n1, n2, n3, n4]; exact hr), n0, n1, n2, n3, n4]
        cases e3 : sn_ (qf_ v2 v3 v4 v5 v6)
        · simp (disch := first | omega | assumption) only [li_0, li_1, li_2, li_3, li_4, li_6, li_7, li_8, li_9, li_10, li_12, li_21, li_24, li_31, li_60, li_63, li_127, li_128, li_256, li_312, li_384, nI_add, nu_mul, nu_sub, nu_div, nu_and, nu_or, nu_shr, nu_bit, nu_diff, bi_2, nI_leI, nI_ltI, nI_eq, vp_in_nI, nI_clamp, ar_na, ar_ba, bo_0, bo_1, bo_it, bo_if, bo_w, bo_w0, bo_w1, bo_nar, bo_n1, bo_nn0, st_bu, st_bu1, st_bu0, st_nu, forall_eq, true_implies, false_implies, forall_const, not_true_eq_false, not_false_eq_true, and_true, true_and, implies_true, and_self, Bool.false_eq_true, Bool.true_eq_false, reduceCtorEq, ite_true, ite_false, if_true, if_false, eq_self, Nat.zero_add, Nat.add_zero, Nat.le_refl, Nat.lt_irrefl, Nat.reduceEqDiff, Nat.reduceLeDiff, Nat.reduceLT, Nat.reduceAdd, Nat.reduceMul, Nat.reduceSub, yc_set, nu_4, up_up, up_self (f := srt) (k := s) rfl, Bool.true_and]
        · simp (disch := first | omega | assumption) only [li_0, li_1, li_2, li_3, li_4, li_6, li_7, li_8, li_9, li_10, li_12, li_21, li_24, li_31, li_60, li_63, li_127, li_128, li_256, li_312, li_384, nI_add, nu_mul, nu_sub, nu_div, nu_and, nu_or, nu_shr, nu_bit, nu_diff, bi_2, nI_leI, nI_ltI, nI_eq, vp_in_nI, nI_clamp, ar_na, ar_ba, bo_0, bo_1, bo_it, bo_if, bo_w, bo_w0, bo_w1, bo_nar, bo_n1, bo_nn0, st_bu, st_bu1, st_bu0, st_nu, forall_eq, true_implies, false_implies, forall_const, not_true_eq_false, not_false_eq_true, and_true, true_and, implies_true, and_self, Bool.false_eq_true, Bool.true_eq_false, reduceCtorEq, ite_true, ite_false, if_true, if_false, eq_self, Nat.zero_add, Nat.add_zero, Nat.le_refl, Nat.lt_irrefl, Nat.reduceEqDiff, Nat.reduceLeDiff, Nat.reduceLT, Nat.reduceAdd, Nat.reduceMul, Nat.reduceSub, Bool.and_self]
theorem xc_define {v2 v3 v4 v5 v6 : Int32} (hb : bg ≤ 12) (hbb : in_b bg df so ba) : ∃ tb', (dc_ bg so x v2 v3 v4 v5 v6 = true → ∀ k t, k < 3 → t < 128 → tb' (k * 128 + t) = qf_ v2 v3 v4 v5 v6 k t) ∧ ∀ post, (wpX_define post (nI bg, ar_b df, ar_b iq, ar_b tb, ar_b up, ar_n op, ar_n ov, ar_n sp, ar_n sv, ar_n qb, ar_n qi, ar_n qv, ar_n ql, ar_n so, ar_b fa, ar_n ba, ar_n an, ar_b co, pc_x pk, ar_b fr, ar_n kv, ar_n vo, ar_n kn) x v2 v3 v4 v5 v6 ↔ ((dc_ bg so x v2 v3 v4 v5 v6 = false → post (nI 0) (nI bg, ar_b df, ar_b iq, ar_b tb', ar_b up, ar_n op, ar_n ov, ar_n sp, ar_n sv, ar_n qb, ar_n qi, ar_n qv, ar_n ql, ar_n so, ar_b fa, ar_n ba, ar_n an, ar_b co, pc_x pk, ar_b fr, ar_n kv, ar_n vo, ar_n kn)) ∧ (dc_ bg so x v2 v3 v4 v5 v6 = true → post (nI 1) (nI bg, ar_b (st_b df (cl_ x) true), ar_b (lo_f (fun t iq => st_b iq (cl_ x * 384 + t) (tb' t)) 384 0 iq), ar_b tb', ar_b up, ar_n op, ar_n ov, ar_n sp, ar_n sv, ar_n qb, ar_n qi, ar_n qv, ar_n ql, ar_n so, ar_b fa, ar_n ba, ar_n an, ar_b co, pc_x pk, ar_b fr, ar_n kv, ar_n vo, ar_n kn)))) := by
  unfold dc_
  rcases iz_c 0 3 x with h | ⟨s, h1, h2, h3, rfl, h⟩
  · refine ⟨tb, (by rw [h, Bool.false_and]; exact fun z => nomatch z), fun post => ?_⟩
    simp only [wpX_define]
    refine (iz_A (b := 3) (by decide)).trans ?_
    simp (disch := first | omega | assumption) only [li_0, li_1, li_2, li_3, li_4, li_6, li_7, li_8, li_9, li_10, li_12, li_21, li_24, li_31, li_60, li_63, li_127, li_128, li_256, li_312, li_384, nI_add, nu_mul, nu_sub, nu_div, nu_and, nu_or, nu_shr, nu_bit, nu_diff, bi_2, nI_leI, nI_ltI, nI_eq, vp_in_nI, nI_clamp, ar_na, ar_ba, bo_0, bo_1, bo_it, bo_if, bo_w, bo_w0, bo_w1, bo_nar, bo_n1, bo_nn0, st_bu, st_bu1, st_bu0, st_nu, forall_eq, true_implies, false_implies, forall_const, not_true_eq_false, not_false_eq_true, and_true, true_and, implies_true, and_self, Bool.false_eq_true, Bool.true_eq_false, reduceCtorEq, ite_true, ite_false, if_true, if_false, eq_self, Nat.zero_add, Nat.add_zero, Nat.le_refl, Nat.lt_irrefl, Nat.reduceEqDiff, Nat.reduceLeDiff, Nat.reduceLT, Nat.reduceAdd, Nat.reduceMul, Nat.reduceSub, h, Bool.false_and]
  · rw [cl_n h3]
    cases e1 : hb_ bg so s
    · refine ⟨tb, (by rw [Bool.false_and, Bool.and_false]; exact fun z => nomatch z), fun post => ?_⟩
      simp only [wpX_define]
      refine (iz_A (b := 3) (by decide)).trans ?_
      simp (disch := first | omega | assumption) only [li_0, li_1, li_2, li_3, li_4, li_6, li_7, li_8, li_9, li_10, li_12, li_21, li_24, li_31, li_60, li_63, li_127, li_128, li_256, li_312, li_384, nI_add, nu_mul, nu_sub, nu_div, nu_and, nu_or, nu_shr, nu_bit, nu_diff, bi_2, nI_leI, nI_ltI, nI_eq, vp_in_nI, nI_clamp, ar_na, ar_ba, bo_0, bo_1, bo_it, bo_if, bo_w, bo_w0, bo_w1, bo_nar, bo_n1, bo_nn0, st_bu, st_bu1, st_bu0, st_nu, forall_eq, true_implies, false_implies, forall_const, not_true_eq_false, not_false_eq_true, and_true, true_and, implies_true, and_self, Bool.false_eq_true, Bool.true_eq_false, reduceCtorEq, ite_true, ite_false, if_true, if_false, eq_self, Nat.zero_add, Nat.add_zero, Nat.le_refl, Nat.lt_irrefl, Nat.reduceEqDiff, Nat.reduceLeDiff, Nat.reduceLT, Nat.reduceAdd, Nat.reduceMul, Nat.reduceSub, h, xc_hasBallot hb hbb, e1, Bool.false_and, Bool.and_false, Bool.not_false]
    · cases e2 : ir_ v2 v3 v4 v5 v6
      · refine ⟨tb, (by rw [Bool.false_and, Bool.and_false, Bool.and_false]; exact fun z => nomatch z), fun post => ?_⟩
        simp only [wpX_define]
        refine (iz_A (b := 3) (by decide)).trans ?_
        simp (disch := first | omega | assumption) only [li_0, li_1, li_2, li_3, li_4, li_6, li_7, li_8, li_9, li_10, li_12, li_21, li_24, li_31, li_60, li_63, li_127, li_128, li_256, li_312, li_384, nI_add, nu_mul, nu_sub, nu_div, nu_and, nu_or, nu_shr, nu_bit, nu_diff, bi_2, nI_leI, nI_ltI, nI_eq, vp_in_nI, nI_clamp, ar_na, ar_ba, bo_0, bo_1, bo_it, bo_if, bo_w, bo_w0, bo_w1, bo_nar, bo_n1, bo_nn0, st_bu, st_bu1, st_bu0, st_nu, forall_eq, true_implies, false_implies, forall_const, not_true_eq_false, not_false_eq_true, and_true, true_and, implies_true, and_self, Bool.false_eq_true, Bool.true_eq_false, reduceCtorEq, ite_true, ite_false, if_true, if_false, eq_self, Nat.zero_add, Nat.add_zero, Nat.le_refl, Nat.lt_irrefl, Nat.reduceEqDiff, Nat.reduceLeDiff, Nat.reduceLT, Nat.reduceAdd, Nat.reduceMul, Nat.reduceSub, h, xc_hasBallot hb hbb, xc_inRange, e1, e2, Bool.false_and, Bool.and_false, Bool.not_true]
      · obtain ⟨tb', ht, hw⟩ := xc_layOut (bg := bg) (df := df) (iq := iq) (tb := tb) (up := up) (fa := fa) (co := co) (fr := fr) (op := op) (ov := ov) (sp := sp) (sv := sv) (qb := qb) (qi := qi) (qv := qv) (ql := ql) (so := so) (ba := ba) (an := an) (pk := pk) (kv := kv) (vo := vo) (kn := kn) (ir_rg e2)
        refine ⟨tb', fun _ => ht, fun post => ?_⟩
        simp only [wpX_define]
        refine (iz_A (b := 3) (by decide)).trans ?_
        cases e3 : sn_ (qf_ v2 v3 v4 v5 v6)
        · simp (disch := first | omega | assumption) only [li_0, li_1, li_2, li_3, li_4, li_6, li_7, li_8, li_9, li_10, li_12, li_21, li_24, li_31, li_60, li_63, li_127, li_128, li_256, li_312, li_384, nI_add, nu_mul, nu_sub, nu_div, nu_and, nu_or, nu_shr, nu_bit, nu_diff, bi_2, nI_leI, nI_ltI, nI_eq, vp_in_nI, nI_clamp, ar_na, ar_ba, bo_0, bo_1, bo_it, bo_if, bo_w, bo_w0, bo_w1, bo_nar, bo_n1, bo_nn0, st_bu, st_bu1, st_bu0, st_nu, forall_eq, true_implies, false_implies, forall_const, not_true_eq_false, not_false_eq_true, and_true, true_and, implies_true, and_self, Bool.false_eq_true, Bool.true_eq_false, reduceCtorEq, ite_true, ite_false, if_true, if_false, eq_self, Nat.zero_add, Nat.add_zero, Nat.le_refl, Nat.lt_irrefl, Nat.reduceEqDiff, Nat.reduceLeDiff, Nat.reduceLT, Nat.reduceAdd, Nat.reduceMul, Nat.reduceSub, h, xc_hasBallot hb hbb, xc_inRange, e1, e2, hw, xc_sound ht, e3, Bool.and_false, Bool.not_true]
        · simp (disch := first | omega | assumption) only [li_0, li_1, li_2, li_3, li_4, li_6, li_7, li_8, li_9, li_10, li_12, li_21, li_24, li_31, li_60, li_63, li_127, li_128, li_256, li_312, li_384, nI_add, nu_mul, nu_sub, nu_div, nu_and, nu_or, nu_shr, nu_bit, nu_diff, bi_2, nI_leI, nI_ltI, nI_eq, vp_in_nI, nI_clamp, ar_na, ar_ba, bo_0, bo_1, bo_it, bo_if, bo_w, bo_w0, bo_w1, bo_nar, bo_n1, bo_nn0, st_bu, st_bu1, st_bu0, st_nu, forall_eq, true_implies, false_implies, forall_const, not_true_eq_false, not_false_eq_true, and_true, true_and, implies_true, and_self, Bool.false_eq_true, Bool.true_eq_false, reduceCtorEq, ite_true, ite_false, if_true, if_false, eq_self, Nat.zero_add, Nat.add_zero, Nat.le_refl, Nat.lt_irrefl, Nat.reduceEqDiff, Nat.reduceLeDiff, Nat.reduceLT, Nat.reduceAdd, Nat.reduceMul, Nat.reduceSub, h, xc_hasBallot hb hbb, xc_inRange, e1, e2, hw, xc_sound ht, e3, Bool.and_self, Bool.not_true]
          exact xc_define57 (by omega)
end
theorem i_vc_define {k : Nat} {u : SX} {v : SY} (I : i_Rel k u v) (hk : k + 7 ≤ 3584) (v1 : Int32) (v2 : Int32) (v3 : Int32) (v4 : Int32) (v5 : Int32) (v6 : Int32) : wpX_define (fun r u' => wpY_define (fun r' v' => r' = r ∧ i_Rel (k + 7) u' v') v v1 v2 v3 v4 v5 v6) u v1 v2 v3 v4 v5 v6 := by
  obtain ⟨bg, df, iq, tb, up, fa, co, fr, dn, op, ov, sp, sv, qb, qi, qj, qv, ql, so, ba, an, pk, kv, vo, kn, srt, num, rfl, rfl, H⟩ := I
  obtain ⟨hb, hs, hbb, hp, hv, hc, hq, ho, ha, hd⟩ := H
  obtain ⟨tb', ht, hw⟩ := xc_define (x := v1) (v2 := v2) (v3 := v3) (v4 := v4) (v5 := v5) (v6 := v6) (bg := bg) (df := df) (iq := iq) (tb := tb) (up := up) (fa := fa) (co := co) (fr := fr) (op := op) (ov := ov) (sp := sp) (sv := sv) (qb := qb) (qi := qi) (qv := qv) (ql := ql) (so := so) (ba := ba) (an := an) (pk := pk) (kv := kv) (vo := vo) (kn := kn) hb hbb
  refine (hw _).mpr ⟨fun z => (yc_define hb hbb).mpr ⟨fun _ => ⟨rfl, ?_⟩, fun z' => absurd (z.symm.trans z') (by decide)⟩, fun z => (yc_define hb hbb).mpr ⟨fun z' => absurd (z.symm.trans z') (by decide), fun _ => ⟨rfl, ?_⟩⟩⟩
  · exact ⟨_, _, _, _, _, _, _, _, _, _, _, _, _, _, _, _, _, _, _, _, _, _, _, _, _, _, _, rfl, rfl, hb, hs, hbb, hp, hv, hc, hq, ho, ha, hd⟩
  · refine ⟨_, _, _, _, _, _, _, _, _, _, _, _, _, _, _, _, _, _, _, _, _, _, _, _, _, _, _, rfl, rfl, hb, ?_, ?_, hp, hv, hc, hq, ho, ha, hd⟩
    · have htz := ht z
      unfold dc_ at z
      simp only [Bool.and_eq_true] at z
      obtain ⟨z1, z2, z3, z4⟩ := z
      have hr := ir_rg z3
      rcases iz_c 0 3 v1 with h | ⟨s, h1, h2, h3, rfl, h⟩
      · rw [h] at z1; exact nomatch z1
      rw [cl_n h3]
      intro s' hs'
      by_cases e : s' = s
      · subst e
        right
        have n0 : upd (upd (upd (upd num (4 * s') v3) (4 * s' + 1) v4) (4 * s' + 2) v5) (4 * s' + 3) v6 (4 * s') = v3 := by simp (disch := omega) only [up_eq, up_ne]
        have n1 : upd (upd (upd (upd num (4 * s') v3) (4 * s' + 1) v4) (4 * s' + 2) v5) (4 * s' + 3) v6 (4 * s' + 1) = v4 := by simp (disch := omega) only [up_eq, up_ne]
        have n2 : upd (upd (upd (upd num (4 * s') v3) (4 * s' + 1) v4) (4 * s' + 2) v5) (4 * s' + 3) v6 (4 * s' + 2) = v5 := by simp (disch := omega) only [up_eq, up_ne]
        have n3 : upd (upd (upd (upd num (4 * s') v3) (4 * s' + 1) v4) (4 * s' + 2) v5) (4 * s' + 3) v6 (4 * s' + 3) = v6 := by simp (disch := omega) only [up_eq, up_ne]
        have n4 : upd srt s' v2 s' = v2 := up_eq
        rw [n0, n1, n2, n3, n4]
        refine ⟨st_beq, hr, fun k t hk ht' => ?_⟩
        rw [lo_st, if_pos (by omega), ← htz k t hk ht']
        exact congrArg tb' (by omega)
      · have m0 : upd (upd (upd (upd num (4 * s) v3) (4 * s + 1) v4) (4 * s + 2) v5) (4 * s + 3) v6 (4 * s') = num (4 * s') := by simp (disch := omega) only [up_ne]
        have m1 : upd (upd (upd (upd num (4 * s) v3) (4 * s + 1) v4) (4 * s + 2) v5) (4 * s + 3) v6 (4 * s' + 1) = num (4 * s' + 1) := by simp (disch := omega) only [up_ne]
        have m2 : upd (upd (upd (upd num (4 * s) v3) (4 * s + 1) v4) (4 * s + 2) v5) (4 * s + 3) v6 (4 * s' + 2) = num (4 * s' + 2) := by simp (disch := omega) only [up_ne]
        have m3 : upd (upd (upd (upd num (4 * s) v3) (4 * s + 1) v4) (4 * s + 2) v5) (4 * s + 3) v6 (4 * s' + 3) = num (4 * s' + 3) := by simp (disch := omega) only [up_ne]
        have m4 : upd srt s v2 s' = srt s' := up_ne e
        rw [m0, m1, m2, m3, m4, st_bne e]
        rcases hs s' hs' with g | ⟨g1, g2, g3⟩
        · exact Or.inl g
        · refine Or.inr ⟨g1, g2, fun k t hk ht' => ?_⟩
          rw [lo_st, if_neg (by omega)]
          exact g3 k t hk ht'
    · intro b hb1 hb2
      obtain ⟨g1, g2, g3⟩ := hbb b hb1 hb2
      refine ⟨g1, ?_, g3⟩
      by_cases e : so b = cl_ v1
      · rw [e]; exact st_beq
      · rw [st_bne e]; exact g2
end
section
/-! what only reads: enough, ready, able, and the answers made of them -/
theorem cm_3 (m : Nat) : 3 * m = m * 3 := Nat.mul_comm _ _
theorem cm_6 (m : Nat) : 6 * m = m * 6 := Nat.mul_comm _ _
theorem cm_21 (m : Nat) : 21 * m = m * 21 := Nat.mul_comm _ _
theorem cm_24 (b i v : Nat) : 24 * b + 8 * i + v = (b * 3 + i) * 8 + v := by omega
theorem cm_312 (l b i v : Nat) : 312 * l + 24 * b + 8 * i + v = l * 312 + ((b * 3 + i) * 8 + v) := by omega
theorem ng_10 : -nI 1 < nI 0 := by decide
theorem ng_10' : -nI 1 ≤ nI 0 := by decide
theorem ng_n10 : ¬ nI 0 ≤ -nI 1 := by decide
theorem ng_n1 {a : Nat} (h : a < 2 ^ 31) : ¬ nI a < nI 0 := nI_pos h
def en_ (iq : Nat → Bool) (so pk : Nat → Nat) (b i t : Nat) : Bool := decide (pk (b * 3 + i) ≠ 0) && iq (so b * 384 + (if pk (b * 3 + i) = 1 then 2 else 1) * 128 + t)
section
variable {bg : Nat} {df iq tb up fa co fr dn : Nat → Bool} {op ov sp sv qb qi qj qv ql so ba an pk kv vo kn : Nat → Nat} {srt num : Nat → Int32}
variable {post : Int32 → Prop} {x : Int32} {s k t m n i a b v f l : Nat}
theorem xc_enough (hb : bg ≤ 12) (hbb : in_b bg df so ba) (hp : in_p pk fr) (hb1 : 1 ≤ b) (hb2 : b ≤ bg) (hi : i < 3) (ht : t < 128) : wpX_enough post (nI bg, ar_b df, ar_b iq, ar_b tb, ar_b up, ar_n op, ar_n ov, ar_n sp, ar_n sv, ar_n qb, ar_n qi, ar_n qv, ar_n ql, ar_n so, ar_b fa, ar_n ba, ar_n an, ar_b co, pc_x pk, ar_b fr, ar_n kv, ar_n vo, ar_n kn) (nI b) (nI i) (nI t) ↔ post (bo_i (en_ iq so pk b i t)) := by
  obtain ⟨g1, g2, g3⟩ := hbb b hb1 hb2
  obtain ⟨p1, p2, p3⟩ := hp (b * 3 + i)
  unfold en_
  rcases (by omega : pk (b * 3 + i) = 0 ∨ pk (b * 3 + i) = 1 ∨ 2 ≤ pk (b * 3 + i)) with z | z | z
  · simp (disch := first | omega | assumption) only [li_0, li_1, li_2, li_3, li_4, li_6, li_7, li_8, li_9, li_10, li_12, li_21, li_24, li_31, li_60, li_63, li_127, li_128, li_256, li_312, li_384, nI_add, nu_mul, nu_sub, nu_div, nu_and, nu_or, nu_shr, nu_bit, nu_diff, bi_2, nI_leI, nI_ltI, nI_eq, vp_in_nI, nI_clamp, ar_na, ar_ba, bo_0, bo_1, bo_it, bo_if, bo_w, bo_w0, bo_w1, bo_nar, bo_n1, bo_nn0, st_bu, st_bu1, st_bu0, st_nu, forall_eq, true_implies, false_implies, forall_const, not_true_eq_false, not_false_eq_true, and_true, true_and, implies_true, and_self, Bool.false_eq_true, Bool.true_eq_false, reduceCtorEq, ite_true, ite_false, if_true, if_false, eq_self, Nat.zero_add, Nat.add_zero, Nat.le_refl, Nat.lt_irrefl, Nat.reduceEqDiff, Nat.reduceLeDiff, Nat.reduceLT, Nat.reduceAdd, Nat.reduceMul, Nat.reduceSub, wpX_enough, pc_x0 z, z, ne_eq, decide_false, Bool.false_and]
  · cases q : iq (so b * 384 + 2 * 128 + t)
    · simp (disch := first | omega | assumption) only [li_0, li_1, li_2, li_3, li_4, li_6, li_7, li_8, li_9, li_10, li_12, li_21, li_24, li_31, li_60, li_63, li_127, li_128, li_256, li_312, li_384, nI_add, nu_mul, nu_sub, nu_div, nu_and, nu_or, nu_shr, nu_bit, nu_diff, bi_2, nI_leI, nI_ltI, nI_eq, vp_in_nI, nI_clamp, ar_na, ar_ba, bo_0, bo_1, bo_it, bo_if, bo_w, bo_w0, bo_w1, bo_nar, bo_n1, bo_nn0, st_bu, st_bu1, st_bu0, st_nu, forall_eq, true_implies, false_implies, forall_const, not_true_eq_false, not_false_eq_true, and_true, true_and, implies_true, and_self, Bool.false_eq_true, Bool.true_eq_false, reduceCtorEq, ite_true, ite_false, if_true, if_false, eq_self, Nat.zero_add, Nat.add_zero, Nat.le_refl, Nat.lt_irrefl, Nat.reduceEqDiff, Nat.reduceLeDiff, Nat.reduceLT, Nat.reduceAdd, Nat.reduceMul, Nat.reduceSub, wpX_enough, wX_enough_36, pc_xs (show 0 < pk (b * 3 + i) by omega), z, ng_3, xc_holds, q, ne_eq, decide_true, Bool.true_and]
    · simp (disch := first | omega | assumption) only [li_0, li_1, li_2, li_3, li_4, li_6, li_7, li_8, li_9, li_10, li_12, li_21, li_24, li_31, li_60, li_63, li_127, li_128, li_256, li_312, li_384, nI_add, nu_mul, nu_sub, nu_div, nu_and, nu_or, nu_shr, nu_bit, nu_diff, bi_2, nI_leI, nI_ltI, nI_eq, vp_in_nI, nI_clamp, ar_na, ar_ba, bo_0, bo_1, bo_it, bo_if, bo_w, bo_w0, bo_w1, bo_nar, bo_n1, bo_nn0, st_bu, st_bu1, st_bu0, st_nu, forall_eq, true_implies, false_implies, forall_const, not_true_eq_false, not_false_eq_true, and_true, true_and, implies_true, and_self, Bool.false_eq_true, Bool.true_eq_false, reduceCtorEq, ite_true, ite_false, if_true, if_false, eq_self, Nat.zero_add, Nat.add_zero, Nat.le_refl, Nat.lt_irrefl, Nat.reduceEqDiff, Nat.reduceLeDiff, Nat.reduceLT, Nat.reduceAdd, Nat.reduceMul, Nat.reduceSub, wpX_enough, wX_enough_36, pc_xs (show 0 < pk (b * 3 + i) by omega), z, ng_3, xc_holds, q, ne_eq, decide_true, Bool.true_and]
  · have z0 : ¬ pk (b * 3 + i) = 0 := by omega
    have z1 : ¬ pk (b * 3 + i) = 1 := by omega
    have z2 : ¬ pk (b * 3 + i) - 1 = 0 := by omega
    cases q : iq (so b * 384 + 1 * 128 + t)
    · simp (disch := first | omega | assumption) only [li_0, li_1, li_2, li_3, li_4, li_6, li_7, li_8, li_9, li_10, li_12, li_21, li_24, li_31, li_60, li_63, li_127, li_128, li_256, li_312, li_384, nI_add, nu_mul, nu_sub, nu_div, nu_and, nu_or, nu_shr, nu_bit, nu_diff, bi_2, nI_leI, nI_ltI, nI_eq, vp_in_nI, nI_clamp, ar_na, ar_ba, bo_0, bo_1, bo_it, bo_if, bo_w, bo_w0, bo_w1, bo_nar, bo_n1, bo_nn0, st_bu, st_bu1, st_bu0, st_nu, forall_eq, true_implies, false_implies, forall_const, not_true_eq_false, not_false_eq_true, and_true, true_and, implies_true, and_self, Bool.false_eq_true, Bool.true_eq_false, reduceCtorEq, ite_true, ite_false, if_true, if_false, eq_self, Nat.zero_add, Nat.add_zero, Nat.le_refl, Nat.lt_irrefl, Nat.reduceEqDiff, Nat.reduceLeDiff, Nat.reduceLT, Nat.reduceAdd, Nat.reduceMul, Nat.reduceSub, wpX_enough, wX_enough_36, pc_xs (show 0 < pk (b * 3 + i) by omega), z0, z1, z2, ng_3, xc_holds, q, ne_eq, decide_true, Bool.true_and]
    · simp (disch := first | omega | assumption) only [li_0, li_1, li_2, li_3, li_4, li_6, li_7, li_8, li_9, li_10, li_12, li_21, li_24, li_31, li_60, li_63, li_127, li_128, li_256, li_312, li_384, nI_add, nu_mul, nu_sub, nu_div, nu_and, nu_or, nu_shr, nu_bit, nu_diff, bi_2, nI_leI, nI_ltI, nI_eq, vp_in_nI, nI_clamp, ar_na, ar_ba, bo_0, bo_1, bo_it, bo_if, bo_w, bo_w0, bo_w1, bo_nar, bo_n1, bo_nn0, st_bu, st_bu1, st_bu0, st_nu, forall_eq, true_implies, false_implies, forall_const, not_true_eq_false, not_false_eq_true, and_true, true_and, implies_true, and_self, Bool.false_eq_true, Bool.true_eq_false, reduceCtorEq, ite_true, ite_false, if_true, if_false, eq_self, Nat.zero_add, Nat.add_zero, Nat.le_refl, Nat.lt_irrefl, Nat.reduceEqDiff, Nat.reduceLeDiff, Nat.reduceLT, Nat.reduceAdd, Nat.reduceMul, Nat.reduceSub, wpX_enough, wX_enough_36, pc_xs (show 0 < pk (b * 3 + i) by omega), z0, z1, z2, ng_3, xc_holds, q, ne_eq, decide_true, Bool.true_and]
theorem yc_isEnough (H : in_s df iq srt num) (hb : bg ≤ 12) (hbb : in_b bg df so ba) (hp : in_p pk fr) (hb1 : 1 ≤ b) (hb2 : b ≤ bg) (hi : i < 3) (ht : t < 128) : wpY_isEnough post (nI bg, srt, num, ar_n so, ar_n ba, ar_n an, pc_y pk, ar_n kv, ar_b fa, ar_b co, ar_b fr, ar_b dn, ar_n sp, ar_n sv, ar_n ql, ar_n qb, ar_n qj, ar_n qv, ar_n vo, ar_n kn) (nI b) (nI i) (nI t) ↔ post (bo_i (en_ iq so pk b i t)) := by
  obtain ⟨g1, g2, g3⟩ := hbb b hb1 hb2
  obtain ⟨p1, p2, p3⟩ := hp (b * 3 + i)
  unfold en_
  rcases (by omega : pk (b * 3 + i) = 0 ∨ pk (b * 3 + i) = 1 ∨ 2 ≤ pk (b * 3 + i)) with z | z | z
  · simp (disch := first | omega | assumption) only [li_0, li_1, li_2, li_3, li_4, li_6, li_7, li_8, li_9, li_10, li_12, li_21, li_24, li_31, li_60, li_63, li_127, li_128, li_256, li_312, li_384, nI_add, nu_mul, nu_sub, nu_div, nu_and, nu_or, nu_shr, nu_bit, nu_diff, bi_2, nI_leI, nI_ltI, nI_eq, vp_in_nI, nI_clamp, ar_na, ar_ba, bo_0, bo_1, bo_it, bo_if, bo_w, bo_w0, bo_w1, bo_nar, bo_n1, bo_nn0, st_bu, st_bu1, st_bu0, st_nu, forall_eq, true_implies, false_implies, forall_const, not_true_eq_false, not_false_eq_true, and_true, true_and, implies_true, and_self, Bool.false_eq_true, Bool.true_eq_false, reduceCtorEq, ite_true, ite_false, if_true, if_false, eq_self, Nat.zero_add, Nat.add_zero, Nat.le_refl, Nat.lt_irrefl, Nat.reduceEqDiff, Nat.reduceLeDiff, Nat.reduceLT, Nat.reduceAdd, Nat.reduceMul, Nat.reduceSub, wpY_isEnough, cm_3, pc_y0 z, z, ng_10, ne_eq, decide_false, Bool.false_and]
  · cases q : iq (so b * 384 + 2 * 128 + t)
    · simp (disch := first | omega | assumption) only [li_0, li_1, li_2, li_3, li_4, li_6, li_7, li_8, li_9, li_10, li_12, li_21, li_24, li_31, li_60, li_63, li_127, li_128, li_256, li_312, li_384, nI_add, nu_mul, nu_sub, nu_div, nu_and, nu_or, nu_shr, nu_bit, nu_diff, bi_2, nI_leI, nI_ltI, nI_eq, vp_in_nI, nI_clamp, ar_na, ar_ba, bo_0, bo_1, bo_it, bo_if, bo_w, bo_w0, bo_w1, bo_nar, bo_n1, bo_nn0, st_bu, st_bu1, st_bu0, st_nu, forall_eq, true_implies, false_implies, forall_const, not_true_eq_false, not_false_eq_true, and_true, true_and, implies_true, and_self, Bool.false_eq_true, Bool.true_eq_false, reduceCtorEq, ite_true, ite_false, if_true, if_false, eq_self, Nat.zero_add, Nat.add_zero, Nat.le_refl, Nat.lt_irrefl, Nat.reduceEqDiff, Nat.reduceLeDiff, Nat.reduceLT, Nat.reduceAdd, Nat.reduceMul, Nat.reduceSub, wpY_isEnough, wY_isEnough_38, cm_3, pc_ys (show 0 < pk (b * 3 + i) by omega), z, yc_q H, q, ne_eq, decide_true, Bool.true_and]
    · simp (disch := first | omega | assumption) only [li_0, li_1, li_2, li_3, li_4, li_6, li_7, li_8, li_9, li_10, li_12, li_21, li_24, li_31, li_60, li_63, li_127, li_128, li_256, li_312, li_384, nI_add, nu_mul, nu_sub, nu_div, nu_and, nu_or, nu_shr, nu_bit, nu_diff, bi_2, nI_leI, nI_ltI, nI_eq, vp_in_nI, nI_clamp, ar_na, ar_ba, bo_0, bo_1, bo_it, bo_if, bo_w, bo_w0, bo_w1, bo_nar, bo_n1, bo_nn0, st_bu, st_bu1, st_bu0, st_nu, forall_eq, true_implies, false_implies, forall_const, not_true_eq_false, not_false_eq_true, and_true, true_and, implies_true, and_self, Bool.false_eq_true, Bool.true_eq_false, reduceCtorEq, ite_true, ite_false, if_true, if_false, eq_self, Nat.zero_add, Nat.add_zero, Nat.le_refl, Nat.lt_irrefl, Nat.reduceEqDiff, Nat.reduceLeDiff, Nat.reduceLT, Nat.reduceAdd, Nat.reduceMul, Nat.reduceSub, wpY_isEnough, wY_isEnough_38, cm_3, pc_ys (show 0 < pk (b * 3 + i) by omega), z, yc_q H, q, ne_eq, decide_true, Bool.true_and]
  · have z0 : ¬ pk (b * 3 + i) = 0 := by omega
    have z1 : ¬ pk (b * 3 + i) = 1 := by omega
    have z2 : ¬ pk (b * 3 + i) - 1 = 0 := by omega
    have z3 : ¬ pk (b * 3 + i) - 1 < 0 := by omega
    cases q : iq (so b * 384 + 1 * 128 + t)
    · simp (disch := first | omega | assumption) only [li_0, li_1, li_2, li_3, li_4, li_6, li_7, li_8, li_9, li_10, li_12, li_21, li_24, li_31, li_60, li_63, li_127, li_128, li_256, li_312, li_384, nI_add, nu_mul, nu_sub, nu_div, nu_and, nu_or, nu_shr, nu_bit, nu_diff, bi_2, nI_leI, nI_ltI, nI_eq, vp_in_nI, nI_clamp, ar_na, ar_ba, bo_0, bo_1, bo_it, bo_if, bo_w, bo_w0, bo_w1, bo_nar, bo_n1, bo_nn0, st_bu, st_bu1, st_bu0, st_nu, forall_eq, true_implies, false_implies, forall_const, not_true_eq_false, not_false_eq_true, and_true, true_and, implies_true, and_self, Bool.false_eq_true, Bool.true_eq_false, reduceCtorEq, ite_true, ite_false, if_true, if_false, eq_self, Nat.zero_add, Nat.add_zero, Nat.le_refl, Nat.lt_irrefl, Nat.reduceEqDiff, Nat.reduceLeDiff, Nat.reduceLT, Nat.reduceAdd, Nat.reduceMul, Nat.reduceSub, wpY_isEnough, wY_isEnough_38, cm_3, pc_ys (show 0 < pk (b * 3 + i) by omega), z0, z1, z2, z3, yc_q H, q, ne_eq, decide_true, Bool.true_and]
    · simp (disch := first | omega | assumption) only [li_0, li_1, li_2, li_3, li_4, li_6, li_7, li_8, li_9, li_10, li_12, li_21, li_24, li_31, li_60, li_63, li_127, li_128, li_256, li_312, li_384, nI_add, nu_mul, nu_sub, nu_div, nu_and, nu_or, nu_shr, nu_bit, nu_diff, bi_2, nI_leI, nI_ltI, nI_eq, vp_in_nI, nI_clamp, ar_na, ar_ba, bo_0, bo_1, bo_it, bo_if, bo_w, bo_w0, bo_w1, bo_nar, bo_n1, bo_nn0, st_bu, st_bu1, st_bu0, st_nu, forall_eq, true_implies, false_implies, forall_const, not_true_eq_false, not_false_eq_true, and_true, true_and, implies_true, and_self, Bool.false_eq_true, Bool.true_eq_false, reduceCtorEq, ite_true, ite_false, if_true, if_false, eq_self, Nat.zero_add, Nat.add_zero, Nat.le_refl, Nat.lt_irrefl, Nat.reduceEqDiff, Nat.reduceLeDiff, Nat.reduceLT, Nat.reduceAdd, Nat.reduceMul, Nat.reduceSub, wpY_isEnough, wY_isEnough_38, cm_3, pc_ys (show 0 < pk (b * 3 + i) by omega), z0, z1, z2, z3, yc_q H, q, ne_eq, decide_true, Bool.true_and]
/-- the least value with enough votes in one ballot; T says which nodes -/
def le_ (bg : Nat) (iq : Nat → Bool) (so pk : Nat → Nat) (i : Nat) (T : Nat → Nat → Nat) : Nat :=
  if lo_s (fun v => !lo_a (fun b => !en_ iq so pk b i (T b v)) bg 1) 7 1 < 8 then lo_s (fun v => !lo_a (fun b => !en_ iq so pk b i (T b v)) bg 1) 7 1 else 0
theorem le_7 {T : Nat → Nat → Nat} : le_ bg iq so pk i T ≤ 7 := by
  unfold le_; split <;> omega
theorem bo_pt {r : Nat} {P : Nat → Prop} : ((r < 8 → P r) ∧ (¬ r < 8 → P 0)) ↔ P (if r < 8 then r else 0) := by
  by_cases h : r < 8 <;> simp [h]
theorem xc_leV (hb : bg ≤ 12) (hbb : in_b bg df so ba) (hp : in_p pk fr) (hc : in_c vo kn an) (hi : i < 3) : wpX_leastEnough__voted post (nI bg, ar_b df, ar_b iq, ar_b tb, ar_b up, ar_n op, ar_n ov, ar_n sp, ar_n sv, ar_n qb, ar_n qi, ar_n qv, ar_n ql, ar_n so, ar_b fa, ar_n ba, ar_n an, ar_b co, pc_x pk, ar_b fr, ar_n kv, ar_n vo, ar_n kn) (nI 0) (nI i) ↔ post (nI (le_ bg iq so pk i (fun b v => vo ((b * 3 + i) * 8 + v)))) := by
  simp only [wpX_leastEnough__voted]
  refine (lo_findL (W := fun n v => wX_leastEnough__voted_3 post (nI 0) (nI i) (nI bg) (ar_b df) (ar_b iq) (ar_b tb) (ar_b up) (ar_n op) (ar_n ov) (ar_n sp) (ar_n sv) (ar_n qb) (ar_n qi) (ar_n qv) (ar_n ql) (ar_n so) (ar_b fa) (ar_n ba) (ar_n an) (ar_b co) (pc_x pk) (ar_b fr) (ar_n kv) (ar_n vo) (ar_n kn) n (nI v)) (A := fun v => post (nI v)) (B := post (nI 0)) (e := 8) (lo := 1) (fun v => !lo_a (fun b => !en_ iq so pk b i (vo ((b * 3 + i) * 8 + v))) bg 1) (fun _ h => h) ?_ ?_ ?_ 7 1 (Nat.le_refl _) rfl).trans (bo_pt (P := fun r => post (nI r)))
  · intro n
    simp (disch := first | omega | assumption) only [li_0, li_1, li_2, li_3, li_4, li_6, li_7, li_8, li_9, li_10, li_12, li_21, li_24, li_31, li_60, li_63, li_127, li_128, li_256, li_312, li_384, nI_add, nu_mul, nu_sub, nu_div, nu_and, nu_or, nu_shr, nu_bit, nu_diff, bi_2, nI_leI, nI_ltI, nI_eq, vp_in_nI, nI_clamp, ar_na, ar_ba, bo_0, bo_1, bo_it, bo_if, bo_w, bo_w0, bo_w1, bo_nar, bo_n1, bo_nn0, st_bu, st_bu1, st_bu0, st_nu, forall_eq, true_implies, false_implies, forall_const, not_true_eq_false, not_false_eq_true, and_true, true_and, implies_true, and_self, Bool.false_eq_true, Bool.true_eq_false, reduceCtorEq, ite_true, ite_false, if_true, if_false, eq_self, Nat.zero_add, Nat.add_zero, Nat.le_refl, Nat.lt_irrefl, Nat.reduceEqDiff, Nat.reduceLeDiff, Nat.reduceLT, Nat.reduceAdd, Nat.reduceMul, Nat.reduceSub, wX_leastEnough__voted_3]
  all_goals
    intro n v hl hv h
    have inner : (∃ m, wX_leastEnough__voted_13 post (wX_leastEnough__voted_3 post (nI 0) (nI i) (nI bg) (ar_b df) (ar_b iq) (ar_b tb) (ar_b up) (ar_n op) (ar_n ov) (ar_n sp) (ar_n sv) (ar_n qb) (ar_n qi) (ar_n qv) (ar_n ql) (ar_n so) (ar_b fa) (ar_n ba) (ar_n an) (ar_b co) (pc_x pk) (ar_b fr) (ar_n kv) (ar_n vo) (ar_n kn) n) (nI 0) (nI i) (nI v) (nI bg) (ar_b df) (ar_b iq) (ar_b tb) (ar_b up) (ar_n op) (ar_n ov) (ar_n sp) (ar_n sv) (ar_n qb) (ar_n qi) (ar_n qv) (ar_n ql) (ar_n so) (ar_b fa) (ar_n ba) (ar_n an) (ar_b co) (pc_x pk) (ar_b fr) (ar_n kv) (ar_n vo) (ar_n kn) m (nI 1)) ↔ ((lo_a (fun b => !en_ iq so pk b i (vo ((b * 3 + i) * 8 + v))) bg 1 = true → wX_leastEnough__voted_3 post (nI 0) (nI i) (nI bg) (ar_b df) (ar_b iq) (ar_b tb) (ar_b up) (ar_n op) (ar_n ov) (ar_n sp) (ar_n sv) (ar_n qb) (ar_n qi) (ar_n qv) (ar_n ql) (ar_n so) (ar_b fa) (ar_n ba) (ar_n an) (ar_b co) (pc_x pk) (ar_b fr) (ar_n kv) (ar_n vo) (ar_n kn) n (nI (v + 1))) ∧ (lo_a (fun b => !en_ iq so pk b i (vo ((b * 3 + i) * 8 + v))) bg 1 = false → post (nI v))) := by
      refine lo_allL (W := fun m b => wX_leastEnough__voted_13 post (wX_leastEnough__voted_3 post (nI 0) (nI i) (nI bg) (ar_b df) (ar_b iq) (ar_b tb) (ar_b up) (ar_n op) (ar_n ov) (ar_n sp) (ar_n sv) (ar_n qb) (ar_n qi) (ar_n qv) (ar_n ql) (ar_n so) (ar_b fa) (ar_n ba) (ar_n an) (ar_b co) (pc_x pk) (ar_b fr) (ar_n kv) (ar_n vo) (ar_n kn) n) (nI 0) (nI i) (nI v) (nI bg) (ar_b df) (ar_b iq) (ar_b tb) (ar_b up) (ar_n op) (ar_n ov) (ar_n sp) (ar_n sv) (ar_n qb) (ar_n qi) (ar_n qv) (ar_n ql) (ar_n so) (ar_b fa) (ar_n ba) (ar_n an) (ar_b co) (pc_x pk) (ar_b fr) (ar_n kv) (ar_n vo) (ar_n kn) m (nI b)) (e := bg + 1) (lo := 1) (fun b => !en_ iq so pk b i (vo ((b * 3 + i) * 8 + v))) (fun _ h => h) ?_ ?_ ?_ bg 1 (Nat.le_refl _) (by omega)
      · intro m
        simp (disch := first | omega | assumption) only [li_0, li_1, li_2, li_3, li_4, li_6, li_7, li_8, li_9, li_10, li_12, li_21, li_24, li_31, li_60, li_63, li_127, li_128, li_256, li_312, li_384, nI_add, nu_mul, nu_sub, nu_div, nu_and, nu_or, nu_shr, nu_bit, nu_diff, bi_2, nI_leI, nI_ltI, nI_eq, vp_in_nI, nI_clamp, ar_na, ar_ba, bo_0, bo_1, bo_it, bo_if, bo_w, bo_w0, bo_w1, bo_nar, bo_n1, bo_nn0, st_bu, st_bu1, st_bu0, st_nu, forall_eq, true_implies, false_implies, forall_const, not_true_eq_false, not_false_eq_true, and_true, true_and, implies_true, and_self, Bool.false_eq_true, Bool.true_eq_false, reduceCtorEq, ite_true, ite_false, if_true, if_false, eq_self, Nat.zero_add, Nat.add_zero, Nat.le_refl, Nat.lt_irrefl, Nat.reduceEqDiff, Nat.reduceLeDiff, Nat.reduceLT, Nat.reduceAdd, Nat.reduceMul, Nat.reduceSub, wX_leastEnough__voted_13, show bg < bg + 1 by omega]
      · intro m b hl hb' h
        have := (hc ((b * 3 + i) * 8 + v)).1
        have hbg : ¬ bg < b := by omega
        rw [Bool.not_eq_false'] at h
        simp (disch := first | omega | assumption) only [li_0, li_1, li_2, li_3, li_4, li_6, li_7, li_8, li_9, li_10, li_12, li_21, li_24, li_31, li_60, li_63, li_127, li_128, li_256, li_312, li_384, nI_add, nu_mul, nu_sub, nu_div, nu_and, nu_or, nu_shr, nu_bit, nu_diff, bi_2, nI_leI, nI_ltI, nI_eq, vp_in_nI, nI_clamp, ar_na, ar_ba, bo_0, bo_1, bo_it, bo_if, bo_w, bo_w0, bo_w1, bo_nar, bo_n1, bo_nn0, st_bu, st_bu1, st_bu0, st_nu, forall_eq, true_implies, false_implies, forall_const, not_true_eq_false, not_false_eq_true, and_true, true_and, implies_true, and_self, Bool.false_eq_true, Bool.true_eq_false, reduceCtorEq, ite_true, ite_false, if_true, if_false, eq_self, Nat.zero_add, Nat.add_zero, Nat.le_refl, Nat.lt_irrefl, Nat.reduceEqDiff, Nat.reduceLeDiff, Nat.reduceLT, Nat.reduceAdd, Nat.reduceMul, Nat.reduceSub, wX_leastEnough__voted_13, hbg, xc_tallyCell, xc_enough hb hbb hp, h]
      · intro m b hl hb' h
        have := (hc ((b * 3 + i) * 8 + v)).1
        have hbg : ¬ bg < b := by omega
        rw [Bool.not_eq_true'] at h
        simp (disch := first | omega | assumption) only [li_0, li_1, li_2, li_3, li_4, li_6, li_7, li_8, li_9, li_10, li_12, li_21, li_24, li_31, li_60, li_63, li_127, li_128, li_256, li_312, li_384, nI_add, nu_mul, nu_sub, nu_div, nu_and, nu_or, nu_shr, nu_bit, nu_diff, bi_2, nI_leI, nI_ltI, nI_eq, vp_in_nI, nI_clamp, ar_na, ar_ba, bo_0, bo_1, bo_it, bo_if, bo_w, bo_w0, bo_w1, bo_nar, bo_n1, bo_nn0, st_bu, st_bu1, st_bu0, st_nu, forall_eq, true_implies, false_implies, forall_const, not_true_eq_false, not_false_eq_true, and_true, true_and, implies_true, and_self, Bool.false_eq_true, Bool.true_eq_false, reduceCtorEq, ite_true, ite_false, if_true, if_false, eq_self, Nat.zero_add, Nat.add_zero, Nat.le_refl, Nat.lt_irrefl, Nat.reduceEqDiff, Nat.reduceLeDiff, Nat.reduceLT, Nat.reduceAdd, Nat.reduceMul, Nat.reduceSub, wX_leastEnough__voted_13, hbg, xc_tallyCell, xc_enough hb hbb hp, h]
    have hv' : ¬ 7 < v := by omega
    simp (disch := first | omega | assumption) only [li_0, li_1, li_2, li_3, li_4, li_6, li_7, li_8, li_9, li_10, li_12, li_21, li_24, li_31, li_60, li_63, li_127, li_128, li_256, li_312, li_384, nI_add, nu_mul, nu_sub, nu_div, nu_and, nu_or, nu_shr, nu_bit, nu_diff, bi_2, nI_leI, nI_ltI, nI_eq, vp_in_nI, nI_clamp, ar_na, ar_ba, bo_0, bo_1, bo_it, bo_if, bo_w, bo_w0, bo_w1, bo_nar, bo_n1, bo_nn0, st_bu, st_bu1, st_bu0, st_nu, forall_eq, true_implies, false_implies, forall_const, not_true_eq_false, not_false_eq_true, and_true, true_and, implies_true, and_self, Bool.false_eq_true, Bool.true_eq_false, reduceCtorEq, ite_true, ite_false, if_true, if_false, eq_self, Nat.zero_add, Nat.add_zero, Nat.le_refl, Nat.lt_irrefl, Nat.reduceEqDiff, Nat.reduceLeDiff, Nat.reduceLT, Nat.reduceAdd, Nat.reduceMul, Nat.reduceSub, wX_leastEnough__voted_3, hv']
    rw [inner]
    simp at h
    simp [h]
theorem xc_leK (hb : bg ≤ 12) (hbb : in_b bg df so ba) (hp : in_p pk fr) (hc : in_c vo kn an) (hi : i < 3) (hf : f ≤ 312) : wpX_leastEnough__known post (nI bg, ar_b df, ar_b iq, ar_b tb, ar_b up, ar_n op, ar_n ov, ar_n sp, ar_n sv, ar_n qb, ar_n qi, ar_n qv, ar_n ql, ar_n so, ar_b fa, ar_n ba, ar_n an, ar_b co, pc_x pk, ar_b fr, ar_n kv, ar_n vo, ar_n kn) (nI f) (nI i) ↔ post (nI (le_ bg iq so pk i (fun b v => kn (f + ((b * 3 + i) * 8 + v))))) := by
  simp only [wpX_leastEnough__known]
  refine (lo_findL (W := fun n v => wX_leastEnough__known_3 post (nI f) (nI i) (nI bg) (ar_b df) (ar_b iq) (ar_b tb) (ar_b up) (ar_n op) (ar_n ov) (ar_n sp) (ar_n sv) (ar_n qb) (ar_n qi) (ar_n qv) (ar_n ql) (ar_n so) (ar_b fa) (ar_n ba) (ar_n an) (ar_b co) (pc_x pk) (ar_b fr) (ar_n kv) (ar_n vo) (ar_n kn) n (nI v)) (A := fun v => post (nI v)) (B := post (nI 0)) (e := 8) (lo := 1) (fun v => !lo_a (fun b => !en_ iq so pk b i (kn (f + ((b * 3 + i) * 8 + v)))) bg 1) (fun _ h => h) ?_ ?_ ?_ 7 1 (Nat.le_refl _) rfl).trans (bo_pt (P := fun r => post (nI r)))
  · intro n
    simp (disch := first | omega | assumption) only [li_0, li_1, li_2, li_3, li_4, li_6, li_7, li_8, li_9, li_10, li_12, li_21, li_24, li_31, li_60, li_63, li_127, li_128, li_256, li_312, li_384, nI_add, nu_mul, nu_sub, nu_div, nu_and, nu_or, nu_shr, nu_bit, nu_diff, bi_2, nI_leI, nI_ltI, nI_eq, vp_in_nI, nI_clamp, ar_na, ar_ba, bo_0, bo_1, bo_it, bo_if, bo_w, bo_w0, bo_w1, bo_nar, bo_n1, bo_nn0, st_bu, st_bu1, st_bu0, st_nu, forall_eq, true_implies, false_implies, forall_const, not_true_eq_false, not_false_eq_true, and_true, true_and, implies_true, and_self, Bool.false_eq_true, Bool.true_eq_false, reduceCtorEq, ite_true, ite_false, if_true, if_false, eq_self, Nat.zero_add, Nat.add_zero, Nat.le_refl, Nat.lt_irrefl, Nat.reduceEqDiff, Nat.reduceLeDiff, Nat.reduceLT, Nat.reduceAdd, Nat.reduceMul, Nat.reduceSub, wX_leastEnough__known_3]
  all_goals
    intro n v hl hv h
    have inner : (∃ m, wX_leastEnough__known_13 post (wX_leastEnough__known_3 post (nI f) (nI i) (nI bg) (ar_b df) (ar_b iq) (ar_b tb) (ar_b up) (ar_n op) (ar_n ov) (ar_n sp) (ar_n sv) (ar_n qb) (ar_n qi) (ar_n qv) (ar_n ql) (ar_n so) (ar_b fa) (ar_n ba) (ar_n an) (ar_b co) (pc_x pk) (ar_b fr) (ar_n kv) (ar_n vo) (ar_n kn) n) (nI f) (nI i) (nI v) (nI bg) (ar_b df) (ar_b iq) (ar_b tb) (ar_b up) (ar_n op) (ar_n ov) (ar_n sp) (ar_n sv) (ar_n qb) (ar_n qi) (ar_n qv) (ar_n ql) (ar_n so) (ar_b fa) (ar_n ba) (ar_n an) (ar_b co) (pc_x pk) (ar_b fr) (ar_n kv) (ar_n vo) (ar_n kn) m (nI 1)) ↔ ((lo_a (fun b => !en_ iq so pk b i (kn (f + ((b * 3 + i) * 8 + v)))) bg 1 = true → wX_leastEnough__known_3 post (nI f) (nI i) (nI bg) (ar_b df) (ar_b iq) (ar_b tb) (ar_b up) (ar_n op) (ar_n ov) (ar_n sp) (ar_n sv) (ar_n qb) (ar_n qi) (ar_n qv) (ar_n ql) (ar_n so) (ar_b fa) (ar_n ba) (ar_n an) (ar_b co) (pc_x pk) (ar_b fr) (ar_n kv) (ar_n vo) (ar_n kn) n (nI (v + 1))) ∧ (lo_a (fun b => !en_ iq so pk b i (kn (f + ((b * 3 + i) * 8 + v)))) bg 1 = false → post (nI v))) := by
      refine lo_allL (W := fun m b => wX_leastEnough__known_13 post (wX_leastEnough__known_3 post (nI f) (nI i) (nI bg) (ar_b df) (ar_b iq) (ar_b tb) (ar_b up) (ar_n op) (ar_n ov) (ar_n sp) (ar_n sv) (ar_n qb) (ar_n qi) (ar_n qv) (ar_n ql) (ar_n so) (ar_b fa) (ar_n ba) (ar_n an) (ar_b co) (pc_x pk) (ar_b fr) (ar_n kv) (ar_n vo) (ar_n kn) n) (nI f) (nI i) (nI v) (nI bg) (ar_b df) (ar_b iq) (ar_b tb) (ar_b up) (ar_n op) (ar_n ov) (ar_n sp) (ar_n sv) (ar_n qb) (ar_n qi) (ar_n qv) (ar_n ql) (ar_n so) (ar_b fa) (ar_n ba) (ar_n an) (ar_b co) (pc_x pk) (ar_b fr) (ar_n kv) (ar_n vo) (ar_n kn) m (nI b)) (e := bg + 1) (lo := 1) (fun b => !en_ iq so pk b i (kn (f + ((b * 3 + i) * 8 + v)))) (fun _ h => h) ?_ ?_ ?_ bg 1 (Nat.le_refl _) (by omega)
      · intro m
        simp (disch := first | omega | assumption) only [li_0, li_1, li_2, li_3, li_4, li_6, li_7, li_8, li_9, li_10, li_12, li_21, li_24, li_31, li_60, li_63, li_127, li_128, li_256, li_312, li_384, nI_add, nu_mul, nu_sub, nu_div, nu_and, nu_or, nu_shr, nu_bit, nu_diff, bi_2, nI_leI, nI_ltI, nI_eq, vp_in_nI, nI_clamp, ar_na, ar_ba, bo_0, bo_1, bo_it, bo_if, bo_w, bo_w0, bo_w1, bo_nar, bo_n1, bo_nn0, st_bu, st_bu1, st_bu0, st_nu, forall_eq, true_implies, false_implies, forall_const, not_true_eq_false, not_false_eq_true, and_true, true_and, implies_true, and_self, Bool.false_eq_true, Bool.true_eq_false, reduceCtorEq, ite_true, ite_false, if_true, if_false, eq_self, Nat.zero_add, Nat.add_zero, Nat.le_refl, Nat.lt_irrefl, Nat.reduceEqDiff, Nat.reduceLeDiff, Nat.reduceLT, Nat.reduceAdd, Nat.reduceMul, Nat.reduceSub, wX_leastEnough__known_13, show bg < bg + 1 by omega]
      · intro m b hl hb' h
        have := (hc (f + ((b * 3 + i) * 8 + v))).2.1
        have hbg : ¬ bg < b := by omega
        rw [Bool.not_eq_false'] at h
        simp (disch := first | omega | assumption) only [li_0, li_1, li_2, li_3, li_4, li_6, li_7, li_8, li_9, li_10, li_12, li_21, li_24, li_31, li_60, li_63, li_127, li_128, li_256, li_312, li_384, nI_add, nu_mul, nu_sub, nu_div, nu_and, nu_or, nu_shr, nu_bit, nu_diff, bi_2, nI_leI, nI_ltI, nI_eq, vp_in_nI, nI_clamp, ar_na, ar_ba, bo_0, bo_1, bo_it, bo_if, bo_w, bo_w0, bo_w1, bo_nar, bo_n1, bo_nn0, st_bu, st_bu1, st_bu0, st_nu, forall_eq, true_implies, false_implies, forall_const, not_true_eq_false, not_false_eq_true, and_true, true_and, implies_true, and_self, Bool.false_eq_true, Bool.true_eq_false, reduceCtorEq, ite_true, ite_false, if_true, if_false, eq_self, Nat.zero_add, Nat.add_zero, Nat.le_refl, Nat.lt_irrefl, Nat.reduceEqDiff, Nat.reduceLeDiff, Nat.reduceLT, Nat.reduceAdd, Nat.reduceMul, Nat.reduceSub, wX_leastEnough__known_13, hbg, xc_tallyCell, xc_enough hb hbb hp, h]
      · intro m b hl hb' h
        have := (hc (f + ((b * 3 + i) * 8 + v))).2.1
        have hbg : ¬ bg < b := by omega
        rw [Bool.not_eq_true'] at h
        simp (disch := first | omega | assumption) only [li_0, li_1, li_2, li_3, li_4, li_6, li_7, li_8, li_9, li_10, li_12, li_21, li_24, li_31, li_60, li_63, li_127, li_128, li_256, li_312, li_384, nI_add, nu_mul, nu_sub, nu_div, nu_and, nu_or, nu_shr, nu_bit, nu_diff, bi_2, nI_leI, nI_ltI, nI_eq, vp_in_nI, nI_clamp, ar_na, ar_ba, bo_0, bo_1, bo_it, bo_if, bo_w, bo_w0, bo_w1, bo_nar, bo_n1, bo_nn0, st_bu, st_bu1, st_bu0, st_nu, forall_eq, true_implies, false_implies, forall_const, not_true_eq_false, not_false_eq_true, and_true, true_and, implies_true, and_self, Bool.false_eq_true, Bool.true_eq_false, reduceCtorEq, ite_true, ite_false, if_true, if_false, eq_self, Nat.zero_add, Nat.add_zero, Nat.le_refl, Nat.lt_irrefl, Nat.reduceEqDiff, Nat.reduceLeDiff, Nat.reduceLT, Nat.reduceAdd, Nat.reduceMul, Nat.reduceSub, wX_leastEnough__known_13, hbg, xc_tallyCell, xc_enough hb hbb hp, h]
    have hv' : ¬ 7 < v := by omega
    simp (disch := first | omega | assumption) only [li_0, li_1, li_2, li_3, li_4, li_6, li_7, li_8, li_9, li_10, li_12, li_21, li_24, li_31, li_60, li_63, li_127, li_128, li_256, li_312, li_384, nI_add, nu_mul, nu_sub, nu_div, nu_and, nu_or, nu_shr, nu_bit, nu_diff, bi_2, nI_leI, nI_ltI, nI_eq, vp_in_nI, nI_clamp, ar_na, ar_ba, bo_0, bo_1, bo_it, bo_if, bo_w, bo_w0, bo_w1, bo_nar, bo_n1, bo_nn0, st_bu, st_bu1, st_bu0, st_nu, forall_eq, true_implies, false_implies, forall_const, not_true_eq_false, not_false_eq_true, and_true, true_and, implies_true, and_self, Bool.false_eq_true, Bool.true_eq_false, reduceCtorEq, ite_true, ite_false, if_true, if_false, eq_self, Nat.zero_add, Nat.add_zero, Nat.le_refl, Nat.lt_irrefl, Nat.reduceEqDiff, Nat.reduceLeDiff, Nat.reduceLT, Nat.reduceAdd, Nat.reduceMul, Nat.reduceSub, wX_leastEnough__known_3, hv']
    rw [inner]
    simp at h
    simp [h]
theorem yc_chosen13 (H : in_s df iq srt num) (hb : bg ≤ 12) (hbb : in_b bg df so ba) (hp : in_p pk fr) (hc : in_c vo kn an) (hi : i < 3) : (∃ n, wY_chosen_13 post (nI i) (nI bg) srt num (ar_n so) (ar_n ba) (ar_n an) (pc_y pk) (ar_n kv) (ar_b fa) (ar_b co) (ar_b fr) (ar_b dn) (ar_n sp) (ar_n sv) (ar_n ql) (ar_n qb) (ar_n qj) (ar_n qv) (ar_n vo) (ar_n kn) n (nI 1)) ↔ post (nI (le_ bg iq so pk i (fun b v => vo ((b * 3 + i) * 8 + v)))) := by
  refine (lo_findL (W := fun n v => wY_chosen_13 post (nI i) (nI bg) srt num (ar_n so) (ar_n ba) (ar_n an) (pc_y pk) (ar_n kv) (ar_b fa) (ar_b co) (ar_b fr) (ar_b dn) (ar_n sp) (ar_n sv) (ar_n ql) (ar_n qb) (ar_n qj) (ar_n qv) (ar_n vo) (ar_n kn) n (nI v)) (A := fun v => post (nI v)) (B := post (nI 0)) (e := 8) (lo := 1) (fun v => !lo_a (fun b => !en_ iq so pk b i (vo ((b * 3 + i) * 8 + v))) bg 1) (fun _ h => h) ?_ ?_ ?_ 7 1 (Nat.le_refl _) rfl).trans (bo_pt (P := fun r => post (nI r)))
  · intro n
    simp (disch := first | omega | assumption) only [li_0, li_1, li_2, li_3, li_4, li_6, li_7, li_8, li_9, li_10, li_12, li_21, li_24, li_31, li_60, li_63, li_127, li_128, li_256, li_312, li_384, nI_add, nu_mul, nu_sub, nu_div, nu_and, nu_or, nu_shr, nu_bit, nu_diff, bi_2, nI_leI, nI_ltI, nI_eq, vp_in_nI, nI_clamp, ar_na, ar_ba, bo_0, bo_1, bo_it, bo_if, bo_w, bo_w0, bo_w1, bo_nar, bo_n1, bo_nn0, st_bu, st_bu1, st_bu0, st_nu, forall_eq, true_implies, false_implies, forall_const, not_true_eq_false, not_false_eq_true, and_true, true_and, implies_true, and_self, Bool.false_eq_true, Bool.true_eq_false, reduceCtorEq, ite_true, ite_false, if_true, if_false, eq_self, Nat.zero_add, Nat.add_zero, Nat.le_refl, Nat.lt_irrefl, Nat.reduceEqDiff, Nat.reduceLeDiff, Nat.reduceLT, Nat.reduceAdd, Nat.reduceMul, Nat.reduceSub, wY_chosen_13]
  all_goals
    intro n v hl hv h
    have inner : (∃ m, wY_chosen_21 post (wY_chosen_13 post (nI i) (nI bg) srt num (ar_n so) (ar_n ba) (ar_n an) (pc_y pk) (ar_n kv) (ar_b fa) (ar_b co) (ar_b fr) (ar_b dn) (ar_n sp) (ar_n sv) (ar_n ql) (ar_n qb) (ar_n qj) (ar_n qv) (ar_n vo) (ar_n kn) n) (nI i) (nI v) (nI bg) srt num (ar_n so) (ar_n ba) (ar_n an) (pc_y pk) (ar_n kv) (ar_b fa) (ar_b co) (ar_b fr) (ar_b dn) (ar_n sp) (ar_n sv) (ar_n ql) (ar_n qb) (ar_n qj) (ar_n qv) (ar_n vo) (ar_n kn) m (nI 1)) ↔ ((lo_a (fun b => !en_ iq so pk b i (vo ((b * 3 + i) * 8 + v))) bg 1 = true → wY_chosen_13 post (nI i) (nI bg) srt num (ar_n so) (ar_n ba) (ar_n an) (pc_y pk) (ar_n kv) (ar_b fa) (ar_b co) (ar_b fr) (ar_b dn) (ar_n sp) (ar_n sv) (ar_n ql) (ar_n qb) (ar_n qj) (ar_n qv) (ar_n vo) (ar_n kn) n (nI (v + 1))) ∧ (lo_a (fun b => !en_ iq so pk b i (vo ((b * 3 + i) * 8 + v))) bg 1 = false → post (nI v))) := by
      refine lo_allL (W := fun m b => wY_chosen_21 post (wY_chosen_13 post (nI i) (nI bg) srt num (ar_n so) (ar_n ba) (ar_n an) (pc_y pk) (ar_n kv) (ar_b fa) (ar_b co) (ar_b fr) (ar_b dn) (ar_n sp) (ar_n sv) (ar_n ql) (ar_n qb) (ar_n qj) (ar_n qv) (ar_n vo) (ar_n kn) n) (nI i) (nI v) (nI bg) srt num (ar_n so) (ar_n ba) (ar_n an) (pc_y pk) (ar_n kv) (ar_b fa) (ar_b co) (ar_b fr) (ar_b dn) (ar_n sp) (ar_n sv) (ar_n ql) (ar_n qb) (ar_n qj) (ar_n qv) (ar_n vo) (ar_n kn) m (nI b)) (e := bg + 1) (lo := 1) (fun b => !en_ iq so pk b i (vo ((b * 3 + i) * 8 + v))) (fun _ h => h) ?_ ?_ ?_ bg 1 (Nat.le_refl _) (by omega)
      · intro m
        simp (disch := first | omega | assumption) only [li_0, li_1, li_2, li_3, li_4, li_6, li_7, li_8, li_9, li_10, li_12, li_21, li_24, li_31, li_60, li_63, li_127, li_128, li_256, li_312, li_384, nI_add, nu_mul, nu_sub, nu_div, nu_and, nu_or, nu_shr, nu_bit, nu_diff, bi_2, nI_leI, nI_ltI, nI_eq, vp_in_nI, nI_clamp, ar_na, ar_ba, bo_0, bo_1, bo_it, bo_if, bo_w, bo_w0, bo_w1, bo_nar, bo_n1, bo_nn0, st_bu, st_bu1, st_bu0, st_nu, forall_eq, true_implies, false_implies, forall_const, not_true_eq_false, not_false_eq_true, and_true, true_and, implies_true, and_self, Bool.false_eq_true, Bool.true_eq_false, reduceCtorEq, ite_true, ite_false, if_true, if_false, eq_self, Nat.zero_add, Nat.add_zero, Nat.le_refl, Nat.lt_irrefl, Nat.reduceEqDiff, Nat.reduceLeDiff, Nat.reduceLT, Nat.reduceAdd, Nat.reduceMul, Nat.reduceSub, wY_chosen_21, show bg < bg + 1 by omega]
      · intro m b hl hb' h
        have := (hc ((b * 3 + i) * 8 + v)).1
        have hbg : ¬ bg < b := by omega
        rw [Bool.not_eq_false'] at h
        simp (disch := first | omega | assumption) only [li_0, li_1, li_2, li_3, li_4, li_6, li_7, li_8, li_9, li_10, li_12, li_21, li_24, li_31, li_60, li_63, li_127, li_128, li_256, li_312, li_384, nI_add, nu_mul, nu_sub, nu_div, nu_and, nu_or, nu_shr, nu_bit, nu_diff, bi_2, nI_leI, nI_ltI, nI_eq, vp_in_nI, nI_clamp, ar_na, ar_ba, bo_0, bo_1, bo_it, bo_if, bo_w, bo_w0, bo_w1, bo_nar, bo_n1, bo_nn0, st_bu, st_bu1, st_bu0, st_nu, forall_eq, true_implies, false_implies, forall_const, not_true_eq_false, not_false_eq_true, and_true, true_and, implies_true, and_self, Bool.false_eq_true, Bool.true_eq_false, reduceCtorEq, ite_true, ite_false, if_true, if_false, eq_self, Nat.zero_add, Nat.add_zero, Nat.le_refl, Nat.lt_irrefl, Nat.reduceEqDiff, Nat.reduceLeDiff, Nat.reduceLT, Nat.reduceAdd, Nat.reduceMul, Nat.reduceSub, wY_chosen_21, hbg, cm_24, yc_isEnough H hb hbb hp, h]
      · intro m b hl hb' h
        have := (hc ((b * 3 + i) * 8 + v)).1
        have hbg : ¬ bg < b := by omega
        rw [Bool.not_eq_true'] at h
        simp (disch := first | omega | assumption) only [li_0, li_1, li_2, li_3, li_4, li_6, li_7, li_8, li_9, li_10, li_12, li_21, li_24, li_31, li_60, li_63, li_127, li_128, li_256, li_312, li_384, nI_add, nu_mul, nu_sub, nu_div, nu_and, nu_or, nu_shr, nu_bit, nu_diff, bi_2, nI_leI, nI_ltI, nI_eq, vp_in_nI, nI_clamp, ar_na, ar_ba, bo_0, bo_1, bo_it, bo_if, bo_w, bo_w0, bo_w1, bo_nar, bo_n1, bo_nn0, st_bu, st_bu1, st_bu0, st_nu, forall_eq, true_implies, false_implies, forall_const, not_true_eq_false, not_false_eq_true, and_true, true_and, implies_true, and_self, Bool.false_eq_true, Bool.true_eq_false, reduceCtorEq, ite_true, ite_false, if_true, if_false, eq_self, Nat.zero_add, Nat.add_zero, Nat.le_refl, Nat.lt_irrefl, Nat.reduceEqDiff, Nat.reduceLeDiff, Nat.reduceLT, Nat.reduceAdd, Nat.reduceMul, Nat.reduceSub, wY_chosen_21, hbg, cm_24, yc_isEnough H hb hbb hp, h]
    have hv' : ¬ 8 ≤ v := by omega
    simp (disch := first | omega | assumption) only [li_0, li_1, li_2, li_3, li_4, li_6, li_7, li_8, li_9, li_10, li_12, li_21, li_24, li_31, li_60, li_63, li_127, li_128, li_256, li_312, li_384, nI_add, nu_mul, nu_sub, nu_div, nu_and, nu_or, nu_shr, nu_bit, nu_diff, bi_2, nI_leI, nI_ltI, nI_eq, vp_in_nI, nI_clamp, ar_na, ar_ba, bo_0, bo_1, bo_it, bo_if, bo_w, bo_w0, bo_w1, bo_nar, bo_n1, bo_nn0, st_bu, st_bu1, st_bu0, st_nu, forall_eq, true_implies, false_implies, forall_const, not_true_eq_false, not_false_eq_true, and_true, true_and, implies_true, and_self, Bool.false_eq_true, Bool.true_eq_false, reduceCtorEq, ite_true, ite_false, if_true, if_false, eq_self, Nat.zero_add, Nat.add_zero, Nat.le_refl, Nat.lt_irrefl, Nat.reduceEqDiff, Nat.reduceLeDiff, Nat.reduceLT, Nat.reduceAdd, Nat.reduceMul, Nat.reduceSub, wY_chosen_13, hv']
    rw [inner]
    simp at h
    simp [h]
theorem yc_learned22 (H : in_s df iq srt num) (hb : bg ≤ 12) (hbb : in_b bg df so ba) (hp : in_p pk fr) (hc : in_c vo kn an) (hi : i < 3) (hl : l < 2) : (∃ n, wY_learned_22 post (nI l) (nI i) (nI bg) srt num (ar_n so) (ar_n ba) (ar_n an) (pc_y pk) (ar_n kv) (ar_b fa) (ar_b co) (ar_b fr) (ar_b dn) (ar_n sp) (ar_n sv) (ar_n ql) (ar_n qb) (ar_n qj) (ar_n qv) (ar_n vo) (ar_n kn) n (nI 1)) ↔ post (nI (le_ bg iq so pk i (fun b v => kn (l * 312 + ((b * 3 + i) * 8 + v))))) := by
  refine (lo_findL (W := fun n v => wY_learned_22 post (nI l) (nI i) (nI bg) srt num (ar_n so) (ar_n ba) (ar_n an) (pc_y pk) (ar_n kv) (ar_b fa) (ar_b co) (ar_b fr) (ar_b dn) (ar_n sp) (ar_n sv) (ar_n ql) (ar_n qb) (ar_n qj) (ar_n qv) (ar_n vo) (ar_n kn) n (nI v)) (A := fun v => post (nI v)) (B := post (nI 0)) (e := 8) (lo := 1) (fun v => !lo_a (fun b => !en_ iq so pk b i (kn (l * 312 + ((b * 3 + i) * 8 + v)))) bg 1) (fun _ h => h) ?_ ?_ ?_ 7 1 (Nat.le_refl _) rfl).trans (bo_pt (P := fun r => post (nI r)))
  · intro n
    simp (disch := first | omega | assumption) only [li_0, li_1, li_2, li_3, li_4, li_6, li_7, li_8, li_9, li_10, li_12, li_21, li_24, li_31, li_60, li_63, li_127, li_128, li_256, li_312, li_384, nI_add, nu_mul, nu_sub, nu_div, nu_and, nu_or, nu_shr, nu_bit, nu_diff, bi_2, nI_leI, nI_ltI, nI_eq, vp_in_nI, nI_clamp, ar_na, ar_ba, bo_0, bo_1, bo_it, bo_if, bo_w, bo_w0, bo_w1, bo_nar, bo_n1, bo_nn0, st_bu, st_bu1, st_bu0, st_nu, forall_eq, true_implies, false_implies, forall_const, not_true_eq_false, not_false_eq_true, and_true, true_and, implies_true, and_self, Bool.false_eq_true, Bool.true_eq_false, reduceCtorEq, ite_true, ite_false, if_true, if_false, eq_self, Nat.zero_add, Nat.add_zero, Nat.le_refl, Nat.lt_irrefl, Nat.reduceEqDiff, Nat.reduceLeDiff, Nat.reduceLT, Nat.reduceAdd, Nat.reduceMul, Nat.reduceSub, wY_learned_22]
  all_goals
    intro n v hl' hv h
    have inner : (∃ m, wY_learned_31 post (wY_learned_22 post (nI l) (nI i) (nI bg) srt num (ar_n so) (ar_n ba) (ar_n an) (pc_y pk) (ar_n kv) (ar_b fa) (ar_b co) (ar_b fr) (ar_b dn) (ar_n sp) (ar_n sv) (ar_n ql) (ar_n qb) (ar_n qj) (ar_n qv) (ar_n vo) (ar_n kn) n) (nI l) (nI i) (nI v) (nI bg) srt num (ar_n so) (ar_n ba) (ar_n an) (pc_y pk) (ar_n kv) (ar_b fa) (ar_b co) (ar_b fr) (ar_b dn) (ar_n sp) (ar_n sv) (ar_n ql) (ar_n qb) (ar_n qj) (ar_n qv) (ar_n vo) (ar_n kn) m (nI 1)) ↔ ((lo_a (fun b => !en_ iq so pk b i (kn (l * 312 + ((b * 3 + i) * 8 + v)))) bg 1 = true → wY_learned_22 post (nI l) (nI i) (nI bg) srt num (ar_n so) (ar_n ba) (ar_n an) (pc_y pk) (ar_n kv) (ar_b fa) (ar_b co) (ar_b fr) (ar_b dn) (ar_n sp) (ar_n sv) (ar_n ql) (ar_n qb) (ar_n qj) (ar_n qv) (ar_n vo) (ar_n kn) n (nI (v + 1))) ∧ (lo_a (fun b => !en_ iq so pk b i (kn (l * 312 + ((b * 3 + i) * 8 + v)))) bg 1 = false → post (nI v))) := by
      refine lo_allL (W := fun m b => wY_learned_31 post (wY_learned_22 post (nI l) (nI i) (nI bg) srt num (ar_n so) (ar_n ba) (ar_n an) (pc_y pk) (ar_n kv) (ar_b fa) (ar_b co) (ar_b fr) (ar_b dn) (ar_n sp) (ar_n sv) (ar_n ql) (ar_n qb) (ar_n qj) (ar_n qv) (ar_n vo) (ar_n kn) n) (nI l) (nI i) (nI v) (nI bg) srt num (ar_n so) (ar_n ba) (ar_n an) (pc_y pk) (ar_n kv) (ar_b fa) (ar_b co) (ar_b fr) (ar_b dn) (ar_n sp) (ar_n sv) (ar_n ql) (ar_n qb) (ar_n qj) (ar_n qv) (ar_n vo) (ar_n kn) m (nI b)) (e := bg + 1) (lo := 1) (fun b => !en_ iq so pk b i (kn (l * 312 + ((b * 3 + i) * 8 + v)))) (fun _ h => h) ?_ ?_ ?_ bg 1 (Nat.le_refl _) (by omega)
      · intro m
        simp (disch := first | omega | assumption) only [li_0, li_1, li_2, li_3, li_4, li_6, li_7, li_8, li_9, li_10, li_12, li_21, li_24, li_31, li_60, li_63, li_127, li_128, li_256, li_312, li_384, nI_add, nu_mul, nu_sub, nu_div, nu_and, nu_or, nu_shr, nu_bit, nu_diff, bi_2, nI_leI, nI_ltI, nI_eq, vp_in_nI, nI_clamp, ar_na, ar_ba, bo_0, bo_1, bo_it, bo_if, bo_w, bo_w0, bo_w1, bo_nar, bo_n1, bo_nn0, st_bu, st_bu1, st_bu0, st_nu, forall_eq, true_implies, false_implies, forall_const, not_true_eq_false, not_false_eq_true, and_true, true_and, implies_true, and_self, Bool.false_eq_true, Bool.true_eq_false, reduceCtorEq, ite_true, ite_false, if_true, if_false, eq_self, Nat.zero_add, Nat.add_zero, Nat.le_refl, Nat.lt_irrefl, Nat.reduceEqDiff, Nat.reduceLeDiff, Nat.reduceLT, Nat.reduceAdd, Nat.reduceMul, Nat.reduceSub, wY_learned_31, show bg < bg + 1 by omega]
      · intro m b hl'' hb' h
        have := (hc (l * 312 + ((b * 3 + i) * 8 + v))).2.1
        have hbg : ¬ bg < b := by omega
        rw [Bool.not_eq_false'] at h
        simp (disch := first | omega | assumption) only [li_0, li_1, li_2, li_3, li_4, li_6, li_7, li_8, li_9, li_10, li_12, li_21, li_24, li_31, li_60, li_63, li_127, li_128, li_256, li_312, li_384, nI_add, nu_mul, nu_sub, nu_div, nu_and, nu_or, nu_shr, nu_bit, nu_diff, bi_2, nI_leI, nI_ltI, nI_eq, vp_in_nI, nI_clamp, ar_na, ar_ba, bo_0, bo_1, bo_it, bo_if, bo_w, bo_w0, bo_w1, bo_nar, bo_n1, bo_nn0, st_bu, st_bu1, st_bu0, st_nu, forall_eq, true_implies, false_implies, forall_const, not_true_eq_false, not_false_eq_true, and_true, true_and, implies_true, and_self, Bool.false_eq_true, Bool.true_eq_false, reduceCtorEq, ite_true, ite_false, if_true, if_false, eq_self, Nat.zero_add, Nat.add_zero, Nat.le_refl, Nat.lt_irrefl, Nat.reduceEqDiff, Nat.reduceLeDiff, Nat.reduceLT, Nat.reduceAdd, Nat.reduceMul, Nat.reduceSub, wY_learned_31, hbg, cm_312, yc_isEnough H hb hbb hp, h]
      · intro m b hl'' hb' h
        have := (hc (l * 312 + ((b * 3 + i) * 8 + v))).2.1
        have hbg : ¬ bg < b := by omega
        rw [Bool.not_eq_true'] at h
        simp (disch := first | omega | assumption) only [li_0, li_1, li_2, li_3, li_4, li_6, li_7, li_8, li_9, li_10, li_12, li_21, li_24, li_31, li_60, li_63, li_127, li_128, li_256, li_312, li_384, nI_add, nu_mul, nu_sub, nu_div, nu_and, nu_or, nu_shr, nu_bit, nu_diff, bi_2, nI_leI, nI_ltI, nI_eq, vp_in_nI, nI_clamp, ar_na, ar_ba, bo_0, bo_1, bo_it, bo_if, bo_w, bo_w0, bo_w1, bo_nar, bo_n1, bo_nn0, st_bu, st_bu1, st_bu0, st_nu, forall_eq, true_implies, false_implies, forall_const, not_true_eq_false, not_false_eq_true, and_true, true_and, implies_true, and_self, Bool.false_eq_true, Bool.true_eq_false, reduceCtorEq, ite_true, ite_false, if_true, if_false, eq_self, Nat.zero_add, Nat.add_zero, Nat.le_refl, Nat.lt_irrefl, Nat.reduceEqDiff, Nat.reduceLeDiff, Nat.reduceLT, Nat.reduceAdd, Nat.reduceMul, Nat.reduceSub, wY_learned_31, hbg, cm_312, yc_isEnough H hb hbb hp, h]
    have hv' : ¬ 8 ≤ v := by omega
    simp (disch := first | omega | assumption) only [li_0, li_1, li_2, li_3, li_4, li_6, li_7, li_8, li_9, li_10, li_12, li_21, li_24, li_31, li_60, li_63, li_127, li_128, li_256, li_312, li_384, nI_add, nu_mul, nu_sub, nu_div, nu_and, nu_or, nu_shr, nu_bit, nu_diff, bi_2, nI_leI, nI_ltI, nI_eq, vp_in_nI, nI_clamp, ar_na, ar_ba, bo_0, bo_1, bo_it, bo_if, bo_w, bo_w0, bo_w1, bo_nar, bo_n1, bo_nn0, st_bu, st_bu1, st_bu0, st_nu, forall_eq, true_implies, false_implies, forall_const, not_true_eq_false, not_false_eq_true, and_true, true_and, implies_true, and_self, Bool.false_eq_true, Bool.true_eq_false, reduceCtorEq, ite_true, ite_false, if_true, if_false, eq_self, Nat.zero_add, Nat.add_zero, Nat.le_refl, Nat.lt_irrefl, Nat.reduceEqDiff, Nat.reduceLeDiff, Nat.reduceLT, Nat.reduceAdd, Nat.reduceMul, Nat.reduceSub, wY_learned_22, hv']
    rw [inner]
    simp at h
    simp [h]
theorem yc_learned (H : in_s df iq srt num) (hb : bg ≤ 12) (hbb : in_b bg df so ba) (hp : in_p pk fr) (hc : in_c vo kn an) (hi : i < 3) (hl : l < 2) : wpY_learned post (nI bg, srt, num, ar_n so, ar_n ba, ar_n an, pc_y pk, ar_n kv, ar_b fa, ar_b co, ar_b fr, ar_b dn, ar_n sp, ar_n sv, ar_n ql, ar_n qb, ar_n qj, ar_n qv, ar_n vo, ar_n kn) (nI l) (nI i) ↔ post (nI (le_ bg iq so pk i (fun b v => kn (l * 312 + ((b * 3 + i) * 8 + v))))) := by
  simp (disch := first | omega | assumption) only [li_0, li_1, li_2, li_3, li_4, li_6, li_7, li_8, li_9, li_10, li_12, li_21, li_24, li_31, li_60, li_63, li_127, li_128, li_256, li_312, li_384, nI_add, nu_mul, nu_sub, nu_div, nu_and, nu_or, nu_shr, nu_bit, nu_diff, bi_2, nI_leI, nI_ltI, nI_eq, vp_in_nI, nI_clamp, ar_na, ar_ba, bo_0, bo_1, bo_it, bo_if, bo_w, bo_w0, bo_w1, bo_nar, bo_n1, bo_nn0, st_bu, st_bu1, st_bu0, st_nu, forall_eq, true_implies, false_implies, forall_const, not_true_eq_false, not_false_eq_true, and_true, true_and, implies_true, and_self, Bool.false_eq_true, Bool.true_eq_false, reduceCtorEq, ite_true, ite_false, if_true, if_false, eq_self, Nat.zero_add, Nat.add_zero, Nat.le_refl, Nat.lt_irrefl, Nat.reduceEqDiff, Nat.reduceLeDiff, Nat.reduceLT, Nat.reduceAdd, Nat.reduceMul, Nat.reduceSub, wpY_learned, yc_in, iz_n, show l ≤ 1 by omega, show i ≤ 2 by omega, Nat.zero_le, decide_true]
  exact yc_learned22 H hb hbb hp hc hi hl
/-- who may still vote -/
def ab_ (sp sv : Nat → Nat) (b i : Nat) : Nat := lo_f (fun n a => if sp n ≤ b ∧ sv (n * 3 + i) / 8 < b then a ||| 2 ^ n else a) 7 0 0
theorem ab_lt : ab_ sp sv b i < 128 := by
  refine lo_fI (I := fun _ a => a < 128) 7 0 0 ?_ (by decide)
  intro j a _ hj h
  split
  · exact nu_or7 h (nu_lt7 j (by omega))
  · exact h
theorem yc_able (hb : b ≤ 12) (hi : i < 3) (hv : ∀ n, n < 7 → sp n ≤ 12 ∧ sv (n * 3 + i) < 128) : wpY_able post (nI bg, srt, num, ar_n so, ar_n ba, ar_n an, pc_y pk, ar_n kv, ar_b fa, ar_b co, ar_b fr, ar_b dn, ar_n sp, ar_n sv, ar_n ql, ar_n qb, ar_n qj, ar_n qv, ar_n vo, ar_n kn) (nI b) (nI i) ↔ post (nI (ab_ sp sv b i)) := by
  simp only [wpY_able]
  refine lo_fold (W := fun n j a => wY_able_5 post (nI b) (nI i) (nI bg) srt num (ar_n so) (ar_n ba) (ar_n an) (pc_y pk) (ar_n kv) (ar_b fa) (ar_b co) (ar_b fr) (ar_b dn) (ar_n sp) (ar_n sv) (ar_n ql) (ar_n qb) (ar_n qj) (ar_n qv) (ar_n vo) (ar_n kn) n (nI a) (nI j)) (fin := fun a => post (nI a)) (I := fun _ _ => True) (e := 7) _ (fun _ _ h => h) (fun _ _ _ _ => trivial) ?_ ?_ 7 0 0 rfl trivial
  · intro n a _
    simp (disch := first | omega | assumption) only [li_0, li_1, li_2, li_3, li_4, li_6, li_7, li_8, li_9, li_10, li_12, li_21, li_24, li_31, li_60, li_63, li_127, li_128, li_256, li_312, li_384, nI_add, nu_mul, nu_sub, nu_div, nu_and, nu_or, nu_shr, nu_bit, nu_diff, bi_2, nI_leI, nI_ltI, nI_eq, vp_in_nI, nI_clamp, ar_na, ar_ba, bo_0, bo_1, bo_it, bo_if, bo_w, bo_w0, bo_w1, bo_nar, bo_n1, bo_nn0, st_bu, st_bu1, st_bu0, st_nu, forall_eq, true_implies, false_implies, forall_const, not_true_eq_false, not_false_eq_true, and_true, true_and, implies_true, and_self, Bool.false_eq_true, Bool.true_eq_false, reduceCtorEq, ite_true, ite_false, if_true, if_false, eq_self, Nat.zero_add, Nat.add_zero, Nat.le_refl, Nat.lt_irrefl, Nat.reduceEqDiff, Nat.reduceLeDiff, Nat.reduceLT, Nat.reduceAdd, Nat.reduceMul, Nat.reduceSub, wY_able_5]
  · intro n j a hj _
    obtain ⟨h1, h2⟩ := hv j hj
    by_cases z1 : sp j ≤ b
    · by_cases z2 : sv (j * 3 + i) / 8 < b
      · simp (disch := first | omega | assumption) only [li_0, li_1, li_2, li_3, li_4, li_6, li_7, li_8, li_9, li_10, li_12, li_21, li_24, li_31, li_60, li_63, li_127, li_128, li_256, li_312, li_384, nI_add, nu_mul, nu_sub, nu_div, nu_and, nu_or, nu_shr, nu_bit, nu_diff, bi_2, nI_leI, nI_ltI, nI_eq, vp_in_nI, nI_clamp, ar_na, ar_ba, bo_0, bo_1, bo_it, bo_if, bo_w, bo_w0, bo_w1, bo_nar, bo_n1, bo_nn0, st_bu, st_bu1, st_bu0, st_nu, forall_eq, true_implies, false_implies, forall_const, not_true_eq_false, not_false_eq_true, and_true, true_and, implies_true, and_self, Bool.false_eq_true, Bool.true_eq_false, reduceCtorEq, ite_true, ite_false, if_true, if_false, eq_self, Nat.zero_add, Nat.add_zero, Nat.le_refl, Nat.lt_irrefl, Nat.reduceEqDiff, Nat.reduceLeDiff, Nat.reduceLT, Nat.reduceAdd, Nat.reduceMul, Nat.reduceSub, wY_able_5, Nat.not_le.mpr hj, cm_3, z1, z2, Nat.not_lt.mpr z1, Nat.not_le.mpr z2]
      · simp (disch := first | omega | assumption) only [li_0, li_1, li_2, li_3, li_4, li_6, li_7, li_8, li_9, li_10, li_12, li_21, li_24, li_31, li_60, li_63, li_127, li_128, li_256, li_312, li_384, nI_add, nu_mul, nu_sub, nu_div, nu_and, nu_or, nu_shr, nu_bit, nu_diff, bi_2, nI_leI, nI_ltI, nI_eq, vp_in_nI, nI_clamp, ar_na, ar_ba, bo_0, bo_1, bo_it, bo_if, bo_w, bo_w0, bo_w1, bo_nar, bo_n1, bo_nn0, st_bu, st_bu1, st_bu0, st_nu, forall_eq, true_implies, false_implies, forall_const, not_true_eq_false, not_false_eq_true, and_true, true_and, implies_true, and_self, Bool.false_eq_true, Bool.true_eq_false, reduceCtorEq, ite_true, ite_false, if_true, if_false, eq_self, Nat.zero_add, Nat.add_zero, Nat.le_refl, Nat.lt_irrefl, Nat.reduceEqDiff, Nat.reduceLeDiff, Nat.reduceLT, Nat.reduceAdd, Nat.reduceMul, Nat.reduceSub, wY_able_5, Nat.not_le.mpr hj, cm_3, z1, z2, Nat.not_lt.mpr z1, Nat.le_of_not_lt z2, and_false]
    · simp (disch := first | omega | assumption) only [li_0, li_1, li_2, li_3, li_4, li_6, li_7, li_8, li_9, li_10, li_12, li_21, li_24, li_31, li_60, li_63, li_127, li_128, li_256, li_312, li_384, nI_add, nu_mul, nu_sub, nu_div, nu_and, nu_or, nu_shr, nu_bit, nu_diff, bi_2, nI_leI, nI_ltI, nI_eq, vp_in_nI, nI_clamp, ar_na, ar_ba, bo_0, bo_1, bo_it, bo_if, bo_w, bo_w0, bo_w1, bo_nar, bo_n1, bo_nn0, st_bu, st_bu1, st_bu0, st_nu, forall_eq, true_implies, false_implies, forall_const, not_true_eq_false, not_false_eq_true, and_true, true_and, implies_true, and_self, Bool.false_eq_true, Bool.true_eq_false, reduceCtorEq, ite_true, ite_false, if_true, if_false, eq_self, Nat.zero_add, Nat.add_zero, Nat.le_refl, Nat.lt_irrefl, Nat.reduceEqDiff, Nat.reduceLeDiff, Nat.reduceLT, Nat.reduceAdd, Nat.reduceMul, Nat.reduceSub, wY_able_5, Nat.not_le.mpr hj, cm_3, z1, Nat.lt_of_not_le z1, false_and]
theorem xc_canVote {p q : Nat} (hp : in_p pk fr) (hb : b ≤ 12) (hi : i < 3) (h1 : p < 2 ^ 31) (h2 : q < 2 ^ 31) : wpX_canVote post (nI bg, ar_b df, ar_b iq, ar_b tb, ar_b up, ar_n op, ar_n ov, ar_n sp, ar_n sv, ar_n qb, ar_n qi, ar_n qv, ar_n ql, ar_n so, ar_b fa, ar_n ba, ar_n an, ar_b co, pc_x pk, ar_b fr, ar_n kv, ar_n vo, ar_n kn) (nI b) (nI i) (nI p) (nI q) ↔ post (bo_i (decide (pk (b * 3 + i) ≠ 0 ∧ p ≤ b ∧ q / 8 < b))) := by
  have hpk := (hp (b * 3 + i)).1
  by_cases z : pk (b * 3 + i) = 0
  · simp (disch := first | omega | assumption) only [li_0, li_1, li_2, li_3, li_4, li_6, li_7, li_8, li_9, li_10, li_12, li_21, li_24, li_31, li_60, li_63, li_127, li_128, li_256, li_312, li_384, nI_add, nu_mul, nu_sub, nu_div, nu_and, nu_or, nu_shr, nu_bit, nu_diff, bi_2, nI_leI, nI_ltI, nI_eq, vp_in_nI, nI_clamp, ar_na, ar_ba, bo_0, bo_1, bo_it, bo_if, bo_w, bo_w0, bo_w1, bo_nar, bo_n1, bo_nn0, st_bu, st_bu1, st_bu0, st_nu, forall_eq, true_implies, false_implies, forall_const, not_true_eq_false, not_false_eq_true, and_true, true_and, implies_true, and_self, Bool.false_eq_true, Bool.true_eq_false, reduceCtorEq, ite_true, ite_false, if_true, if_false, eq_self, Nat.zero_add, Nat.add_zero, Nat.le_refl, Nat.lt_irrefl, Nat.reduceEqDiff, Nat.reduceLeDiff, Nat.reduceLT, Nat.reduceAdd, Nat.reduceMul, Nat.reduceSub, wpX_canVote, pc_x0 z, z, ne_eq, false_and, decide_false]
  · have e := pc_xs (p := pk) (j := b * 3 + i) (by omega)
    by_cases z1 : p ≤ b
    · by_cases z2 : q / 8 < b
      · simp (disch := first | omega | assumption) only [li_0, li_1, li_2, li_3, li_4, li_6, li_7, li_8, li_9, li_10, li_12, li_21, li_24, li_31, li_60, li_63, li_127, li_128, li_256, li_312, li_384, nI_add, nu_mul, nu_sub, nu_div, nu_and, nu_or, nu_shr, nu_bit, nu_diff, bi_2, nI_leI, nI_ltI, nI_eq, vp_in_nI, nI_clamp, ar_na, ar_ba, bo_0, bo_1, bo_it, bo_if, bo_w, bo_w0, bo_w1, bo_nar, bo_n1, bo_nn0, st_bu, st_bu1, st_bu0, st_nu, forall_eq, true_implies, false_implies, forall_const, not_true_eq_false, not_false_eq_true, and_true, true_and, implies_true, and_self, Bool.false_eq_true, Bool.true_eq_false, reduceCtorEq, ite_true, ite_false, if_true, if_false, eq_self, Nat.zero_add, Nat.add_zero, Nat.le_refl, Nat.lt_irrefl, Nat.reduceEqDiff, Nat.reduceLeDiff, Nat.reduceLT, Nat.reduceAdd, Nat.reduceMul, Nat.reduceSub, wpX_canVote, e, ng_3, z, z1, z2, Nat.not_lt.mpr z1, Nat.not_le.mpr z2, ne_eq, decide_true]
      · simp (disch := first | omega | assumption) only [li_0, li_1, li_2, li_3, li_4, li_6, li_7, li_8, li_9, li_10, li_12, li_21, li_24, li_31, li_60, li_63, li_127, li_128, li_256, li_312, li_384, nI_add, nu_mul, nu_sub, nu_div, nu_and, nu_or, nu_shr, nu_bit, nu_diff, bi_2, nI_leI, nI_ltI, nI_eq, vp_in_nI, nI_clamp, ar_na, ar_ba, bo_0, bo_1, bo_it, bo_if, bo_w, bo_w0, bo_w1, bo_nar, bo_n1, bo_nn0, st_bu, st_bu1, st_bu0, st_nu, forall_eq, true_implies, false_implies, forall_const, not_true_eq_false, not_false_eq_true, and_true, true_and, implies_true, and_self, Bool.false_eq_true, Bool.true_eq_false, reduceCtorEq, ite_true, ite_false, if_true, if_false, eq_self, Nat.zero_add, Nat.add_zero, Nat.le_refl, Nat.lt_irrefl, Nat.reduceEqDiff, Nat.reduceLeDiff, Nat.reduceLT, Nat.reduceAdd, Nat.reduceMul, Nat.reduceSub, wpX_canVote, e, ng_3, z, z1, z2, Nat.not_lt.mpr z1, Nat.le_of_not_lt z2, ne_eq, and_false, decide_false]
    · simp (disch := first | omega | assumption) only [li_0, li_1, li_2, li_3, li_4, li_6, li_7, li_8, li_9, li_10, li_12, li_21, li_24, li_31, li_60, li_63, li_127, li_128, li_256, li_312, li_384, nI_add, nu_mul, nu_sub, nu_div, nu_and, nu_or, nu_shr, nu_bit, nu_diff, bi_2, nI_leI, nI_ltI, nI_eq, vp_in_nI, nI_clamp, ar_na, ar_ba, bo_0, bo_1, bo_it, bo_if, bo_w, bo_w0, bo_w1, bo_nar, bo_n1, bo_nn0, st_bu, st_bu1, st_bu0, st_nu, forall_eq, true_implies, false_implies, forall_const, not_true_eq_false, not_false_eq_true, and_true, true_and, implies_true, and_self, Bool.false_eq_true, Bool.true_eq_false, reduceCtorEq, ite_true, ite_false, if_true, if_false, eq_self, Nat.zero_add, Nat.add_zero, Nat.le_refl, Nat.lt_irrefl, Nat.reduceEqDiff, Nat.reduceLeDiff, Nat.reduceLT, Nat.reduceAdd, Nat.reduceMul, Nat.reduceSub, wpX_canVote, e, ng_3, z, z1, Nat.lt_of_not_le z1, ne_eq, and_false, false_and, decide_false]
theorem xc_open (hp : in_p pk fr) (hb : b ≤ 12) (hi : i < 3) (hv : ∀ n, n < 7 → sp n ≤ 12 ∧ sv (n * 3 + i) < 128) : wpX_openVoters post (nI bg, ar_b df, ar_b iq, ar_b tb, ar_b up, ar_n op, ar_n ov, ar_n sp, ar_n sv, ar_n qb, ar_n qi, ar_n qv, ar_n ql, ar_n so, ar_b fa, ar_n ba, ar_n an, ar_b co, pc_x pk, ar_b fr, ar_n kv, ar_n vo, ar_n kn) (nI b) (nI i) ↔ post (nI (if pk (b * 3 + i) = 0 then 0 else ab_ sp sv b i)) := by
  have key : wpX_openVoters post (nI bg, ar_b df, ar_b iq, ar_b tb, ar_b up, ar_n op, ar_n ov, ar_n sp, ar_n sv, ar_n qb, ar_n qi, ar_n qv, ar_n ql, ar_n so, ar_b fa, ar_n ba, ar_n an, ar_b co, pc_x pk, ar_b fr, ar_n kv, ar_n vo, ar_n kn) (nI b) (nI i) ↔ post (nI (lo_f (fun n a => if pk (b * 3 + i) ≠ 0 ∧ sp n ≤ b ∧ sv (n * 3 + i) / 8 < b then a ||| 2 ^ n else a) 7 0 0)) := by
    simp only [wpX_openVoters]
    refine lo_fold (W := fun n j a => wX_openVoters_5 post (nI b) (nI i) (nI bg) (ar_b df) (ar_b iq) (ar_b tb) (ar_b up) (ar_n op) (ar_n ov) (ar_n sp) (ar_n sv) (ar_n qb) (ar_n qi) (ar_n qv) (ar_n ql) (ar_n so) (ar_b fa) (ar_n ba) (ar_n an) (ar_b co) (pc_x pk) (ar_b fr) (ar_n kv) (ar_n vo) (ar_n kn) n (nI a) (nI j)) (fin := fun a => post (nI a)) (I := fun _ _ => True) (e := 7) _ (fun _ _ h => h) (fun _ _ _ _ => trivial) ?_ ?_ 7 0 0 rfl trivial
    · intro n a _
      simp (disch := first | omega | assumption) only [li_0, li_1, li_2, li_3, li_4, li_6, li_7, li_8, li_9, li_10, li_12, li_21, li_24, li_31, li_60, li_63, li_127, li_128, li_256, li_312, li_384, nI_add, nu_mul, nu_sub, nu_div, nu_and, nu_or, nu_shr, nu_bit, nu_diff, bi_2, nI_leI, nI_ltI, nI_eq, vp_in_nI, nI_clamp, ar_na, ar_ba, bo_0, bo_1, bo_it, bo_if, bo_w, bo_w0, bo_w1, bo_nar, bo_n1, bo_nn0, st_bu, st_bu1, st_bu0, st_nu, forall_eq, true_implies, false_implies, forall_const, not_true_eq_false, not_false_eq_true, and_true, true_and, implies_true, and_self, Bool.false_eq_true, Bool.true_eq_false, reduceCtorEq, ite_true, ite_false, if_true, if_false, eq_self, Nat.zero_add, Nat.add_zero, Nat.le_refl, Nat.lt_irrefl, Nat.reduceEqDiff, Nat.reduceLeDiff, Nat.reduceLT, Nat.reduceAdd, Nat.reduceMul, Nat.reduceSub, wX_openVoters_5]
    · intro n j a hj _
      obtain ⟨h1, h2⟩ := hv j hj
      by_cases z : pk (b * 3 + i) ≠ 0 ∧ sp j ≤ b ∧ sv (j * 3 + i) / 8 < b
      · rw [if_pos z]
        simp (disch := first | omega | assumption) only [li_0, li_1, li_2, li_3, li_4, li_6, li_7, li_8, li_9, li_10, li_12, li_21, li_24, li_31, li_60, li_63, li_127, li_128, li_256, li_312, li_384, nI_add, nu_mul, nu_sub, nu_div, nu_and, nu_or, nu_shr, nu_bit, nu_diff, bi_2, nI_leI, nI_ltI, nI_eq, vp_in_nI, nI_clamp, ar_na, ar_ba, bo_0, bo_1, bo_it, bo_if, bo_w, bo_w0, bo_w1, bo_nar, bo_n1, bo_nn0, st_bu, st_bu1, st_bu0, st_nu, forall_eq, true_implies, false_implies, forall_const, not_true_eq_false, not_false_eq_true, and_true, true_and, implies_true, and_self, Bool.false_eq_true, Bool.true_eq_false, reduceCtorEq, ite_true, ite_false, if_true, if_false, eq_self, Nat.zero_add, Nat.add_zero, Nat.le_refl, Nat.lt_irrefl, Nat.reduceEqDiff, Nat.reduceLeDiff, Nat.reduceLT, Nat.reduceAdd, Nat.reduceMul, Nat.reduceSub, wX_openVoters_5, Nat.not_le.mpr hj, xc_canVote hp, decide_eq_true z]
      · rw [if_neg z]
        simp (disch := first | omega | assumption) only [li_0, li_1, li_2, li_3, li_4, li_6, li_7, li_8, li_9, li_10, li_12, li_21, li_24, li_31, li_60, li_63, li_127, li_128, li_256, li_312, li_384, nI_add, nu_mul, nu_sub, nu_div, nu_and, nu_or, nu_shr, nu_bit, nu_diff, bi_2, nI_leI, nI_ltI, nI_eq, vp_in_nI, nI_clamp, ar_na, ar_ba, bo_0, bo_1, bo_it, bo_if, bo_w, bo_w0, bo_w1, bo_nar, bo_n1, bo_nn0, st_bu, st_bu1, st_bu0, st_nu, forall_eq, true_implies, false_implies, forall_const, not_true_eq_false, not_false_eq_true, and_true, true_and, implies_true, and_self, Bool.false_eq_true, Bool.true_eq_false, reduceCtorEq, ite_true, ite_false, if_true, if_false, eq_self, Nat.zero_add, Nat.add_zero, Nat.le_refl, Nat.lt_irrefl, Nat.reduceEqDiff, Nat.reduceLeDiff, Nat.reduceLT, Nat.reduceAdd, Nat.reduceMul, Nat.reduceSub, wX_openVoters_5, Nat.not_le.mpr hj, xc_canVote hp, decide_eq_false z]
  rw [key]
  by_cases z : pk (b * 3 + i) = 0
  · rw [if_pos z]
    simp only [z, ne_eq, not_true_eq_false, false_and, if_false]
    exact Iff.rfl
  · rw [if_neg z]
    simp only [z, ne_eq, not_false_eq_true, true_and]
    exact Iff.rfl
theorem xc_admits (hp : in_p pk fr) (hb : b ≤ 12) (hi : i < 3) (hv : 1 ≤ v) (hv7 : v ≤ 7) : wpX_admits post (nI bg, ar_b df, ar_b iq, ar_b tb, ar_b up, ar_n op, ar_n ov, ar_n sp, ar_n sv, ar_n qb, ar_n qi, ar_n qv, ar_n ql, ar_n so, ar_b fa, ar_n ba, ar_n an, ar_b co, pc_x pk, ar_b fr, ar_n kv, ar_n vo, ar_n kn) (nI b) (nI i) (nI v) ↔ post (bo_i (decide (pk (b * 3 + i) = v + 1 ∨ pk (b * 3 + i) = 1))) := by
  have hpk := (hp (b * 3 + i)).1
  by_cases z : pk (b * 3 + i) = 0
  · simp (disch := first | omega | assumption) only [li_0, li_1, li_2, li_3, li_4, li_6, li_7, li_8, li_9, li_10, li_12, li_21, li_24, li_31, li_60, li_63, li_127, li_128, li_256, li_312, li_384, nI_add, nu_mul, nu_sub, nu_div, nu_and, nu_or, nu_shr, nu_bit, nu_diff, bi_2, nI_leI, nI_ltI, nI_eq, vp_in_nI, nI_clamp, ar_na, ar_ba, bo_0, bo_1, bo_it, bo_if, bo_w, bo_w0, bo_w1, bo_nar, bo_n1, bo_nn0, st_bu, st_bu1, st_bu0, st_nu, forall_eq, true_implies, false_implies, forall_const, not_true_eq_false, not_false_eq_true, and_true, true_and, implies_true, and_self, Bool.false_eq_true, Bool.true_eq_false, reduceCtorEq, ite_true, ite_false, if_true, if_false, eq_self, Nat.zero_add, Nat.add_zero, Nat.le_refl, Nat.lt_irrefl, Nat.reduceEqDiff, Nat.reduceLeDiff, Nat.reduceLT, Nat.reduceAdd, Nat.reduceMul, Nat.reduceSub, wpX_admits, pc_x0 z, z, ng_3', show ¬ 0 = v + 1 by omega, or_self, decide_false]
  · have e := pc_xs (p := pk) (j := b * 3 + i) (by omega)
    by_cases z1 : pk (b * 3 + i) = v + 1
    · simp (disch := first | omega | assumption) only [li_0, li_1, li_2, li_3, li_4, li_6, li_7, li_8, li_9, li_10, li_12, li_21, li_24, li_31, li_60, li_63, li_127, li_128, li_256, li_312, li_384, nI_add, nu_mul, nu_sub, nu_div, nu_and, nu_or, nu_shr, nu_bit, nu_diff, bi_2, nI_leI, nI_ltI, nI_eq, vp_in_nI, nI_clamp, ar_na, ar_ba, bo_0, bo_1, bo_it, bo_if, bo_w, bo_w0, bo_w1, bo_nar, bo_n1, bo_nn0, st_bu, st_bu1, st_bu0, st_nu, forall_eq, true_implies, false_implies, forall_const, not_true_eq_false, not_false_eq_true, and_true, true_and, implies_true, and_self, Bool.false_eq_true, Bool.true_eq_false, reduceCtorEq, ite_true, ite_false, if_true, if_false, eq_self, Nat.zero_add, Nat.add_zero, Nat.le_refl, Nat.lt_irrefl, Nat.reduceEqDiff, Nat.reduceLeDiff, Nat.reduceLT, Nat.reduceAdd, Nat.reduceMul, Nat.reduceSub, wpX_admits, e, z1, show v + 1 - 1 = v by omega, true_or, decide_true]
    · by_cases z2 : pk (b * 3 + i) = 1
      · simp (disch := first | omega | assumption) only [li_0, li_1, li_2, li_3, li_4, li_6, li_7, li_8, li_9, li_10, li_12, li_21, li_24, li_31, li_60, li_63, li_127, li_128, li_256, li_312, li_384, nI_add, nu_mul, nu_sub, nu_div, nu_and, nu_or, nu_shr, nu_bit, nu_diff, bi_2, nI_leI, nI_ltI, nI_eq, vp_in_nI, nI_clamp, ar_na, ar_ba, bo_0, bo_1, bo_it, bo_if, bo_w, bo_w0, bo_w1, bo_nar, bo_n1, bo_nn0, st_bu, st_bu1, st_bu0, st_nu, forall_eq, true_implies, false_implies, forall_const, not_true_eq_false, not_false_eq_true, and_true, true_and, implies_true, and_self, Bool.false_eq_true, Bool.true_eq_false, reduceCtorEq, ite_true, ite_false, if_true, if_false, eq_self, Nat.zero_add, Nat.add_zero, Nat.le_refl, Nat.lt_irrefl, Nat.reduceEqDiff, Nat.reduceLeDiff, Nat.reduceLT, Nat.reduceAdd, Nat.reduceMul, Nat.reduceSub, wpX_admits, e, z2, show ¬ 0 = v by omega, or_true, decide_true]
      · simp (disch := first | omega | assumption) only [li_0, li_1, li_2, li_3, li_4, li_6, li_7, li_8, li_9, li_10, li_12, li_21, li_24, li_31, li_60, li_63, li_127, li_128, li_256, li_312, li_384, nI_add, nu_mul, nu_sub, nu_div, nu_and, nu_or, nu_shr, nu_bit, nu_diff, bi_2, nI_leI, nI_ltI, nI_eq, vp_in_nI, nI_clamp, ar_na, ar_ba, bo_0, bo_1, bo_it, bo_if, bo_w, bo_w0, bo_w1, bo_nar, bo_n1, bo_nn0, st_bu, st_bu1, st_bu0, st_nu, forall_eq, true_implies, false_implies, forall_const, not_true_eq_false, not_false_eq_true, and_true, true_and, implies_true, and_self, Bool.false_eq_true, Bool.true_eq_false, reduceCtorEq, ite_true, ite_false, if_true, if_false, eq_self, Nat.zero_add, Nat.add_zero, Nat.le_refl, Nat.lt_irrefl, Nat.reduceEqDiff, Nat.reduceLeDiff, Nat.reduceLT, Nat.reduceAdd, Nat.reduceMul, Nat.reduceSub, wpX_admits, e, z1, z2, show ¬ pk (b * 3 + i) - 1 = v by omega, show ¬ pk (b * 3 + i) - 1 = 0 by omega, or_self, decide_false]
def ps_ (iq : Nat → Bool) (so pk sp sv vo : Nat → Nat) (i b a : Nat) : Nat := lo_f (fun v a => if (pk (b * 3 + i) = v + 1 ∨ pk (b * 3 + i) = 1) ∧ en_ iq so pk b i (ab_ sp sv b i ||| vo ((b * 3 + i) * 8 + v)) = true then a ||| 2 ^ v else a) 7 1 a
theorem xc_possible32 {J : Int32 → Int32 → Prop} (hb : bg ≤ 12) (hbb : in_b bg df so ba) (hp : in_p pk fr) (hc : in_c vo kn an) (hi : i < 3) (hb1 : 1 ≤ b) (hb2 : b ≤ bg) : (∃ n, wX_possible_32 post J (nI i) (nI b) (nI (if pk (b * 3 + i) = 0 then 0 else ab_ sp sv b i)) (nI bg) (ar_b df) (ar_b iq) (ar_b tb) (ar_b up) (ar_n op) (ar_n ov) (ar_n sp) (ar_n sv) (ar_n qb) (ar_n qi) (ar_n qv) (ar_n ql) (ar_n so) (ar_b fa) (ar_n ba) (ar_n an) (ar_b co) (pc_x pk) (ar_b fr) (ar_n kv) (ar_n vo) (ar_n kn) n (nI a) (nI 1)) ↔ J (nI (ps_ iq so pk sp sv vo i b a)) (nI (b + 1)) := by
  refine lo_fold (W := fun n v a => wX_possible_32 post J (nI i) (nI b) (nI (if pk (b * 3 + i) = 0 then 0 else ab_ sp sv b i)) (nI bg) (ar_b df) (ar_b iq) (ar_b tb) (ar_b up) (ar_n op) (ar_n ov) (ar_n sp) (ar_n sv) (ar_n qb) (ar_n qi) (ar_n qv) (ar_n ql) (ar_n so) (ar_b fa) (ar_n ba) (ar_n an) (ar_b co) (pc_x pk) (ar_b fr) (ar_n kv) (ar_n vo) (ar_n kn) n (nI a) (nI v)) (fin := fun a => J (nI a) (nI (b + 1))) (I := fun v _ => 1 ≤ v) (e := 8) _ (fun _ _ h => h) (fun _ _ _ _ => by omega) ?_ ?_ 7 1 a rfl (Nat.le_refl _)
  · intro n a _
    simp (disch := first | omega | assumption) only [li_0, li_1, li_2, li_3, li_4, li_6, li_7, li_8, li_9, li_10, li_12, li_21, li_24, li_31, li_60, li_63, li_127, li_128, li_256, li_312, li_384, nI_add, nu_mul, nu_sub, nu_div, nu_and, nu_or, nu_shr, nu_bit, nu_diff, bi_2, nI_leI, nI_ltI, nI_eq, vp_in_nI, nI_clamp, ar_na, ar_ba, bo_0, bo_1, bo_it, bo_if, bo_w, bo_w0, bo_w1, bo_nar, bo_n1, bo_nn0, st_bu, st_bu1, st_bu0, st_nu, forall_eq, true_implies, false_implies, forall_const, not_true_eq_false, not_false_eq_true, and_true, true_and, implies_true, and_self, Bool.false_eq_true, Bool.true_eq_false, reduceCtorEq, ite_true, ite_false, if_true, if_false, eq_self, Nat.zero_add, Nat.add_zero, Nat.le_refl, Nat.lt_irrefl, Nat.reduceEqDiff, Nat.reduceLeDiff, Nat.reduceLT, Nat.reduceAdd, Nat.reduceMul, Nat.reduceSub, wX_possible_32]
  · intro n v a hv hv1
    have hv' : ¬ 7 < v := by omega
    have h1 := (hc ((b * 3 + i) * 8 + v)).1
    have hab := @ab_lt sp sv i b
    by_cases z : pk (b * 3 + i) = v + 1 ∨ pk (b * 3 + i) = 1
    · have z0 : ¬ pk (b * 3 + i) = 0 := by omega
      have hor := nu_or7 hab h1
      cases e : en_ iq so pk b i (ab_ sp sv b i ||| vo ((b * 3 + i) * 8 + v))
      · simp (disch := first | omega | assumption) only [li_0, li_1, li_2, li_3, li_4, li_6, li_7, li_8, li_9, li_10, li_12, li_21, li_24, li_31, li_60, li_63, li_127, li_128, li_256, li_312, li_384, nI_add, nu_mul, nu_sub, nu_div, nu_and, nu_or, nu_shr, nu_bit, nu_diff, bi_2, nI_leI, nI_ltI, nI_eq, vp_in_nI, nI_clamp, ar_na, ar_ba, bo_0, bo_1, bo_it, bo_if, bo_w, bo_w0, bo_w1, bo_nar, bo_n1, bo_nn0, st_bu, st_bu1, st_bu0, st_nu, forall_eq, true_implies, false_implies, forall_const, not_true_eq_false, not_false_eq_true, and_true, true_and, implies_true, and_self, Bool.false_eq_true, Bool.true_eq_false, reduceCtorEq, ite_true, ite_false, if_true, if_false, eq_self, Nat.zero_add, Nat.add_zero, Nat.le_refl, Nat.lt_irrefl, Nat.reduceEqDiff, Nat.reduceLeDiff, Nat.reduceLT, Nat.reduceAdd, Nat.reduceMul, Nat.reduceSub, wX_possible_32, hv', xc_tallyCell, xc_admits hp, z, z0, xc_enough hb hbb hp, e, decide_true, and_false]
      · simp (disch := first | omega | assumption) only [li_0, li_1, li_2, li_3, li_4, li_6, li_7, li_8, li_9, li_10, li_12, li_21, li_24, li_31, li_60, li_63, li_127, li_128, li_256, li_312, li_384, nI_add, nu_mul, nu_sub, nu_div, nu_and, nu_or, nu_shr, nu_bit, nu_diff, bi_2, nI_leI, nI_ltI, nI_eq, vp_in_nI, nI_clamp, ar_na, ar_ba, bo_0, bo_1, bo_it, bo_if, bo_w, bo_w0, bo_w1, bo_nar, bo_n1, bo_nn0, st_bu, st_bu1, st_bu0, st_nu, forall_eq, true_implies, false_implies, forall_const, not_true_eq_false, not_false_eq_true, and_true, true_and, implies_true, and_self, Bool.false_eq_true, Bool.true_eq_false, reduceCtorEq, ite_true, ite_false, if_true, if_false, eq_self, Nat.zero_add, Nat.add_zero, Nat.le_refl, Nat.lt_irrefl, Nat.reduceEqDiff, Nat.reduceLeDiff, Nat.reduceLT, Nat.reduceAdd, Nat.reduceMul, Nat.reduceSub, wX_possible_32, hv', xc_tallyCell, xc_admits hp, z, z0, xc_enough hb hbb hp, e, decide_true]
    · simp (disch := first | omega | assumption) only [li_0, li_1, li_2, li_3, li_4, li_6, li_7, li_8, li_9, li_10, li_12, li_21, li_24, li_31, li_60, li_63, li_127, li_128, li_256, li_312, li_384, nI_add, nu_mul, nu_sub, nu_div, nu_and, nu_or, nu_shr, nu_bit, nu_diff, bi_2, nI_leI, nI_ltI, nI_eq, vp_in_nI, nI_clamp, ar_na, ar_ba, bo_0, bo_1, bo_it, bo_if, bo_w, bo_w0, bo_w1, bo_nar, bo_n1, bo_nn0, st_bu, st_bu1, st_bu0, st_nu, forall_eq, true_implies, false_implies, forall_const, not_true_eq_false, not_false_eq_true, and_true, true_and, implies_true, and_self, Bool.false_eq_true, Bool.true_eq_false, reduceCtorEq, ite_true, ite_false, if_true, if_false, eq_self, Nat.zero_add, Nat.add_zero, Nat.le_refl, Nat.lt_irrefl, Nat.reduceEqDiff, Nat.reduceLeDiff, Nat.reduceLT, Nat.reduceAdd, Nat.reduceMul, Nat.reduceSub, wX_possible_32, hv', xc_tallyCell, xc_admits hp, z, decide_false, false_and]
def po_ (bg : Nat) (iq : Nat → Bool) (so pk sp sv vo : Nat → Nat) (i : Nat) : Nat := lo_f (fun b a => ps_ iq so pk sp sv vo i b a) bg 1 0
theorem xc_possible13 (hb : bg ≤ 12) (hbb : in_b bg df so ba) (hp : in_p pk fr) (hc : in_c vo kn an) (hi : i < 3) (hv : ∀ n, n < 7 → sp n ≤ 12 ∧ sv (n * 3 + i) < 128) : (∃ n, wX_possible_13 post (nI i) (nI bg) (ar_b df) (ar_b iq) (ar_b tb) (ar_b up) (ar_n op) (ar_n ov) (ar_n sp) (ar_n sv) (ar_n qb) (ar_n qi) (ar_n qv) (ar_n ql) (ar_n so) (ar_b fa) (ar_n ba) (ar_n an) (ar_b co) (pc_x pk) (ar_b fr) (ar_n kv) (ar_n vo) (ar_n kn) n (nI 0) (nI 1)) ↔ post (nI (po_ bg iq so pk sp sv vo i)) := by
  refine lo_fold (W := fun n b a => wX_possible_13 post (nI i) (nI bg) (ar_b df) (ar_b iq) (ar_b tb) (ar_b up) (ar_n op) (ar_n ov) (ar_n sp) (ar_n sv) (ar_n qb) (ar_n qi) (ar_n qv) (ar_n ql) (ar_n so) (ar_b fa) (ar_n ba) (ar_n an) (ar_b co) (pc_x pk) (ar_b fr) (ar_n kv) (ar_n vo) (ar_n kn) n (nI a) (nI b)) (fin := fun a => post (nI a)) (I := fun v _ => 1 ≤ v) (e := bg + 1) _ (fun _ _ h => h) (fun _ _ _ _ => by omega) ?_ ?_ bg 1 0 (by omega) (Nat.le_refl _)
  · intro n a _
    simp (disch := first | omega | assumption) only [li_0, li_1, li_2, li_3, li_4, li_6, li_7, li_8, li_9, li_10, li_12, li_21, li_24, li_31, li_60, li_63, li_127, li_128, li_256, li_312, li_384, nI_add, nu_mul, nu_sub, nu_div, nu_and, nu_or, nu_shr, nu_bit, nu_diff, bi_2, nI_leI, nI_ltI, nI_eq, vp_in_nI, nI_clamp, ar_na, ar_ba, bo_0, bo_1, bo_it, bo_if, bo_w, bo_w0, bo_w1, bo_nar, bo_n1, bo_nn0, st_bu, st_bu1, st_bu0, st_nu, forall_eq, true_implies, false_implies, forall_const, not_true_eq_false, not_false_eq_true, and_true, true_and, implies_true, and_self, Bool.false_eq_true, Bool.true_eq_false, reduceCtorEq, ite_true, ite_false, if_true, if_false, eq_self, Nat.zero_add, Nat.add_zero, Nat.le_refl, Nat.lt_irrefl, Nat.reduceEqDiff, Nat.reduceLeDiff, Nat.reduceLT, Nat.reduceAdd, Nat.reduceMul, Nat.reduceSub, wX_possible_13, show bg < bg + 1 by omega]
  · intro n b a hb' hb1
    have hbg : ¬ bg < b := by omega
    simp (disch := first | omega | assumption) only [li_0, li_1, li_2, li_3, li_4, li_6, li_7, li_8, li_9, li_10, li_12, li_21, li_24, li_31, li_60, li_63, li_127, li_128, li_256, li_312, li_384, nI_add, nu_mul, nu_sub, nu_div, nu_and, nu_or, nu_shr, nu_bit, nu_diff, bi_2, nI_leI, nI_ltI, nI_eq, vp_in_nI, nI_clamp, ar_na, ar_ba, bo_0, bo_1, bo_it, bo_if, bo_w, bo_w0, bo_w1, bo_nar, bo_n1, bo_nn0, st_bu, st_bu1, st_bu0, st_nu, forall_eq, true_implies, false_implies, forall_const, not_true_eq_false, not_false_eq_true, and_true, true_and, implies_true, and_self, Bool.false_eq_true, Bool.true_eq_false, reduceCtorEq, ite_true, ite_false, if_true, if_false, eq_self, Nat.zero_add, Nat.add_zero, Nat.le_refl, Nat.lt_irrefl, Nat.reduceEqDiff, Nat.reduceLeDiff, Nat.reduceLT, Nat.reduceAdd, Nat.reduceMul, Nat.reduceSub, wX_possible_13, hbg, xc_open hp]
    exact xc_possible32 hb hbb hp hc hi hb1 (by omega)
theorem yc_possible46 {J : Int32 → Int32 → Prop} (H : in_s df iq srt num) (hb : bg ≤ 12) (hbb : in_b bg df so ba) (hp : in_p pk fr) (hc : in_c vo kn an) (hi : i < 3) (hb1 : 1 ≤ b) (hb2 : b ≤ bg) : (∃ n, wY_possible_46 post J (nI i) (nI b) (nI (ab_ sp sv b i)) (pc_y pk (b * 3 + i)) (nI bg) srt num (ar_n so) (ar_n ba) (ar_n an) (pc_y pk) (ar_n kv) (ar_b fa) (ar_b co) (ar_b fr) (ar_b dn) (ar_n sp) (ar_n sv) (ar_n ql) (ar_n qb) (ar_n qj) (ar_n qv) (ar_n vo) (ar_n kn) n (nI a) (nI 1)) ↔ J (nI (ps_ iq so pk sp sv vo i b a)) (nI (b + 1)) := by
  refine lo_fold (W := fun n v a => wY_possible_46 post J (nI i) (nI b) (nI (ab_ sp sv b i)) (pc_y pk (b * 3 + i)) (nI bg) srt num (ar_n so) (ar_n ba) (ar_n an) (pc_y pk) (ar_n kv) (ar_b fa) (ar_b co) (ar_b fr) (ar_b dn) (ar_n sp) (ar_n sv) (ar_n ql) (ar_n qb) (ar_n qj) (ar_n qv) (ar_n vo) (ar_n kn) n (nI a) (nI v)) (fin := fun a => J (nI a) (nI (b + 1))) (I := fun v _ => 1 ≤ v) (e := 8) _ (fun _ _ h => h) (fun _ _ _ _ => by omega) ?_ ?_ 7 1 a rfl (Nat.le_refl _)
  · intro n a _
    simp (disch := first | omega | assumption) only [li_0, li_1, li_2, li_3, li_4, li_6, li_7, li_8, li_9, li_10, li_12, li_21, li_24, li_31, li_60, li_63, li_127, li_128, li_256, li_312, li_384, nI_add, nu_mul, nu_sub, nu_div, nu_and, nu_or, nu_shr, nu_bit, nu_diff, bi_2, nI_leI, nI_ltI, nI_eq, vp_in_nI, nI_clamp, ar_na, ar_ba, bo_0, bo_1, bo_it, bo_if, bo_w, bo_w0, bo_w1, bo_nar, bo_n1, bo_nn0, st_bu, st_bu1, st_bu0, st_nu, forall_eq, true_implies, false_implies, forall_const, not_true_eq_false, not_false_eq_true, and_true, true_and, implies_true, and_self, Bool.false_eq_true, Bool.true_eq_false, reduceCtorEq, ite_true, ite_false, if_true, if_false, eq_self, Nat.zero_add, Nat.add_zero, Nat.le_refl, Nat.lt_irrefl, Nat.reduceEqDiff, Nat.reduceLeDiff, Nat.reduceLT, Nat.reduceAdd, Nat.reduceMul, Nat.reduceSub, wY_possible_46]
  · intro n v a hv hv1
    have hv' : ¬ 8 ≤ v := by omega
    have h1 := (hc ((b * 3 + i) * 8 + v)).1
    have hab := @ab_lt sp sv i b
    have hpk := (hp (b * 3 + i)).1
    have hor := nu_or7 hab h1
    have hor' := Nat.or_comm (vo ((b * 3 + i) * 8 + v)) (ab_ sp sv b i)
    rcases (by omega : pk (b * 3 + i) = 0 ∨ pk (b * 3 + i) = 1 ∨ 2 ≤ pk (b * 3 + i)) with z | z | z
    · rw [pc_y0 z, if_neg (fun q => by omega)]
      simp (disch := first | omega | assumption) only [li_0, li_1, li_2, li_3, li_4, li_6, li_7, li_8, li_9, li_10, li_12, li_21, li_24, li_31, li_60, li_63, li_127, li_128, li_256, li_312, li_384, nI_add, nu_mul, nu_sub, nu_div, nu_and, nu_or, nu_shr, nu_bit, nu_diff, bi_2, nI_leI, nI_ltI, nI_eq, vp_in_nI, nI_clamp, ar_na, ar_ba, bo_0, bo_1, bo_it, bo_if, bo_w, bo_w0, bo_w1, bo_nar, bo_n1, bo_nn0, st_bu, st_bu1, st_bu0, st_nu, forall_eq, true_implies, false_implies, forall_const, not_true_eq_false, not_false_eq_true, and_true, true_and, implies_true, and_self, Bool.false_eq_true, Bool.true_eq_false, reduceCtorEq, ite_true, ite_false, if_true, if_false, eq_self, Nat.zero_add, Nat.add_zero, Nat.le_refl, Nat.lt_irrefl, Nat.reduceEqDiff, Nat.reduceLeDiff, Nat.reduceLT, Nat.reduceAdd, Nat.reduceMul, Nat.reduceSub, wY_possible_46, hv', ng_1']
    · rw [pc_ys (by omega), z]
      cases e : en_ iq so pk b i (ab_ sp sv b i ||| vo ((b * 3 + i) * 8 + v))
      · simp (disch := first | omega | assumption) only [li_0, li_1, li_2, li_3, li_4, li_6, li_7, li_8, li_9, li_10, li_12, li_21, li_24, li_31, li_60, li_63, li_127, li_128, li_256, li_312, li_384, nI_add, nu_mul, nu_sub, nu_div, nu_and, nu_or, nu_shr, nu_bit, nu_diff, bi_2, nI_leI, nI_ltI, nI_eq, vp_in_nI, nI_clamp, ar_na, ar_ba, bo_0, bo_1, bo_it, bo_if, bo_w, bo_w0, bo_w1, bo_nar, bo_n1, bo_nn0, st_bu, st_bu1, st_bu0, st_nu, forall_eq, true_implies, false_implies, forall_const, not_true_eq_false, not_false_eq_true, and_true, true_and, implies_true, and_self, Bool.false_eq_true, Bool.true_eq_false, reduceCtorEq, ite_true, ite_false, if_true, if_false, eq_self, Nat.zero_add, Nat.add_zero, Nat.le_refl, Nat.lt_irrefl, Nat.reduceEqDiff, Nat.reduceLeDiff, Nat.reduceLT, Nat.reduceAdd, Nat.reduceMul, Nat.reduceSub, wY_possible_46, wY_possible_65, hv', cm_24, hor', yc_isEnough H hb hbb hp, e, or_true, and_false]
      · simp (disch := first | omega | assumption) only [li_0, li_1, li_2, li_3, li_4, li_6, li_7, li_8, li_9, li_10, li_12, li_21, li_24, li_31, li_60, li_63, li_127, li_128, li_256, li_312, li_384, nI_add, nu_mul, nu_sub, nu_div, nu_and, nu_or, nu_shr, nu_bit, nu_diff, bi_2, nI_leI, nI_ltI, nI_eq, vp_in_nI, nI_clamp, ar_na, ar_ba, bo_0, bo_1, bo_it, bo_if, bo_w, bo_w0, bo_w1, bo_nar, bo_n1, bo_nn0, st_bu, st_bu1, st_bu0, st_nu, forall_eq, true_implies, false_implies, forall_const, not_true_eq_false, not_false_eq_true, and_true, true_and, implies_true, and_self, Bool.false_eq_true, Bool.true_eq_false, reduceCtorEq, ite_true, ite_false, if_true, if_false, eq_self, Nat.zero_add, Nat.add_zero, Nat.le_refl, Nat.lt_irrefl, Nat.reduceEqDiff, Nat.reduceLeDiff, Nat.reduceLT, Nat.reduceAdd, Nat.reduceMul, Nat.reduceSub, wY_possible_46, wY_possible_65, hv', cm_24, hor', yc_isEnough H hb hbb hp, e, or_true]
    · rw [pc_ys (by omega)]
      by_cases z1 : pk (b * 3 + i) = v + 1
      · have z2 : ¬ pk (b * 3 + i) - 1 = 0 := by omega
        have z3 : pk (b * 3 + i) - 1 = v := by omega
        cases e : en_ iq so pk b i (ab_ sp sv b i ||| vo ((b * 3 + i) * 8 + v))
        · rw [if_neg (fun q => nomatch q.2)]
          simp (disch := first | omega | assumption) only [li_0, li_1, li_2, li_3, li_4, li_6, li_7, li_8, li_9, li_10, li_12, li_21, li_24, li_31, li_60, li_63, li_127, li_128, li_256, li_312, li_384, nI_add, nu_mul, nu_sub, nu_div, nu_and, nu_or, nu_shr, nu_bit, nu_diff, bi_2, nI_leI, nI_ltI, nI_eq, vp_in_nI, nI_clamp, ar_na, ar_ba, bo_0, bo_1, bo_it, bo_if, bo_w, bo_w0, bo_w1, bo_nar, bo_n1, bo_nn0, st_bu, st_bu1, st_bu0, st_nu, forall_eq, true_implies, false_implies, forall_const, not_true_eq_false, not_false_eq_true, and_true, true_and, implies_true, and_self, Bool.false_eq_true, Bool.true_eq_false, reduceCtorEq, ite_true, ite_false, if_true, if_false, eq_self, Nat.zero_add, Nat.add_zero, Nat.le_refl, Nat.lt_irrefl, Nat.reduceEqDiff, Nat.reduceLeDiff, Nat.reduceLT, Nat.reduceAdd, Nat.reduceMul, Nat.reduceSub, wY_possible_46, wY_possible_65, hv', cm_24, hor', z2, z3, show ¬ v = 0 by omega, yc_isEnough H hb hbb hp, e]
        · rw [if_pos ⟨Or.inl z1, rfl⟩]
          simp (disch := first | omega | assumption) only [li_0, li_1, li_2, li_3, li_4, li_6, li_7, li_8, li_9, li_10, li_12, li_21, li_24, li_31, li_60, li_63, li_127, li_128, li_256, li_312, li_384, nI_add, nu_mul, nu_sub, nu_div, nu_and, nu_or, nu_shr, nu_bit, nu_diff, bi_2, nI_leI, nI_ltI, nI_eq, vp_in_nI, nI_clamp, ar_na, ar_ba, bo_0, bo_1, bo_it, bo_if, bo_w, bo_w0, bo_w1, bo_nar, bo_n1, bo_nn0, st_bu, st_bu1, st_bu0, st_nu, forall_eq, true_implies, false_implies, forall_const, not_true_eq_false, not_false_eq_true, and_true, true_and, implies_true, and_self, Bool.false_eq_true, Bool.true_eq_false, reduceCtorEq, ite_true, ite_false, if_true, if_false, eq_self, Nat.zero_add, Nat.add_zero, Nat.le_refl, Nat.lt_irrefl, Nat.reduceEqDiff, Nat.reduceLeDiff, Nat.reduceLT, Nat.reduceAdd, Nat.reduceMul, Nat.reduceSub, wY_possible_46, wY_possible_65, hv', cm_24, hor', z2, z3, show ¬ v = 0 by omega, yc_isEnough H hb hbb hp, e]
      · have z2 : ¬ pk (b * 3 + i) - 1 = 0 := by omega
        have z3 : ¬ pk (b * 3 + i) - 1 = v := by omega
        rw [if_neg (fun q => by omega)]
        simp (disch := first | omega | assumption) only [li_0, li_1, li_2, li_3, li_4, li_6, li_7, li_8, li_9, li_10, li_12, li_21, li_24, li_31, li_60, li_63, li_127, li_128, li_256, li_312, li_384, nI_add, nu_mul, nu_sub, nu_div, nu_and, nu_or, nu_shr, nu_bit, nu_diff, bi_2, nI_leI, nI_ltI, nI_eq, vp_in_nI, nI_clamp, ar_na, ar_ba, bo_0, bo_1, bo_it, bo_if, bo_w, bo_w0, bo_w1, bo_nar, bo_n1, bo_nn0, st_bu, st_bu1, st_bu0, st_nu, forall_eq, true_implies, false_implies, forall_const, not_true_eq_false, not_false_eq_true, and_true, true_and, implies_true, and_self, Bool.false_eq_true, Bool.true_eq_false, reduceCtorEq, ite_true, ite_false, if_true, if_false, eq_self, Nat.zero_add, Nat.add_zero, Nat.le_refl, Nat.lt_irrefl, Nat.reduceEqDiff, Nat.reduceLeDiff, Nat.reduceLT, Nat.reduceAdd, Nat.reduceMul, Nat.reduceSub, wY_possible_46, hv', z2, z3]
theorem yc_possible15 (H : in_s df iq srt num) (hb : bg ≤ 12) (hbb : in_b bg df so ba) (hp : in_p pk fr) (hc : in_c vo kn an) (hi : i < 3) (hv : ∀ n, n < 7 → sp n ≤ 12 ∧ sv (n * 3 + i) < 128) : (∃ n, wY_possible_15 post (nI i) (nI bg) srt num (ar_n so) (ar_n ba) (ar_n an) (pc_y pk) (ar_n kv) (ar_b fa) (ar_b co) (ar_b fr) (ar_b dn) (ar_n sp) (ar_n sv) (ar_n ql) (ar_n qb) (ar_n qj) (ar_n qv) (ar_n vo) (ar_n kn) n (nI 0) (nI 1)) ↔ post (nI (po_ bg iq so pk sp sv vo i)) := by
  refine lo_fold (W := fun n b a => wY_possible_15 post (nI i) (nI bg) srt num (ar_n so) (ar_n ba) (ar_n an) (pc_y pk) (ar_n kv) (ar_b fa) (ar_b co) (ar_b fr) (ar_b dn) (ar_n sp) (ar_n sv) (ar_n ql) (ar_n qb) (ar_n qj) (ar_n qv) (ar_n vo) (ar_n kn) n (nI a) (nI b)) (fin := fun a => post (nI a)) (I := fun v _ => 1 ≤ v) (e := bg + 1) _ (fun _ _ h => h) (fun _ _ _ _ => by omega) ?_ ?_ bg 1 0 (by omega) (Nat.le_refl _)
  · intro n a _
    simp (disch := first | omega | assumption) only [li_0, li_1, li_2, li_3, li_4, li_6, li_7, li_8, li_9, li_10, li_12, li_21, li_24, li_31, li_60, li_63, li_127, li_128, li_256, li_312, li_384, nI_add, nu_mul, nu_sub, nu_div, nu_and, nu_or, nu_shr, nu_bit, nu_diff, bi_2, nI_leI, nI_ltI, nI_eq, vp_in_nI, nI_clamp, ar_na, ar_ba, bo_0, bo_1, bo_it, bo_if, bo_w, bo_w0, bo_w1, bo_nar, bo_n1, bo_nn0, st_bu, st_bu1, st_bu0, st_nu, forall_eq, true_implies, false_implies, forall_const, not_true_eq_false, not_false_eq_true, and_true, true_and, implies_true, and_self, Bool.false_eq_true, Bool.true_eq_false, reduceCtorEq, ite_true, ite_false, if_true, if_false, eq_self, Nat.zero_add, Nat.add_zero, Nat.le_refl, Nat.lt_irrefl, Nat.reduceEqDiff, Nat.reduceLeDiff, Nat.reduceLT, Nat.reduceAdd, Nat.reduceMul, Nat.reduceSub, wY_possible_15, show bg < bg + 1 by omega]
  · intro n b a hb' hb1
    have hbg : ¬ bg < b := by omega
    simp (disch := first | omega | assumption) only [li_0, li_1, li_2, li_3, li_4, li_6, li_7, li_8, li_9, li_10, li_12, li_21, li_24, li_31, li_60, li_63, li_127, li_128, li_256, li_312, li_384, nI_add, nu_mul, nu_sub, nu_div, nu_and, nu_or, nu_shr, nu_bit, nu_diff, bi_2, nI_leI, nI_ltI, nI_eq, vp_in_nI, nI_clamp, ar_na, ar_ba, bo_0, bo_1, bo_it, bo_if, bo_w, bo_w0, bo_w1, bo_nar, bo_n1, bo_nn0, st_bu, st_bu1, st_bu0, st_nu, forall_eq, true_implies, false_implies, forall_const, not_true_eq_false, not_false_eq_true, and_true, true_and, implies_true, and_self, Bool.false_eq_true, Bool.true_eq_false, reduceCtorEq, ite_true, ite_false, if_true, if_false, eq_self, Nat.zero_add, Nat.add_zero, Nat.le_refl, Nat.lt_irrefl, Nat.reduceEqDiff, Nat.reduceLeDiff, Nat.reduceLT, Nat.reduceAdd, Nat.reduceMul, Nat.reduceSub, wY_possible_15, hbg, cm_3, yc_able]
    exact yc_possible46 H hb hbb hp hc hi hb1 (by omega)
end
end
section
/-! ready, answers, votes, and the owed ones that only read -/
def rd_ (iq : Nat → Bool) (so ba : Nat → Nat) (b t : Nat) : Bool := lo_a (fun c => iq (so c * 384 + t)) (b - (if ba b ≤ 1 then 1 else ba b)) (if ba b ≤ 1 then 1 else ba b)
section
variable {bg : Nat} {df iq tb up fa co fr dn : Nat → Bool} {op ov sp sv qb qi qj qv ql so ba an pk kv vo kn : Nat → Nat} {srt num : Nat → Int32}
variable {post : Int32 → Prop} {x : Int32} {s k t m n i a b v f l : Nat}
theorem xc_ready (hb : bg ≤ 12) (hbb : in_b bg df so ba) (hb1 : 1 ≤ b) (hb2 : b ≤ bg) (ht : t < 128) : wpX_readyWith post (nI bg, ar_b df, ar_b iq, ar_b tb, ar_b up, ar_n op, ar_n ov, ar_n sp, ar_n sv, ar_n qb, ar_n qi, ar_n qv, ar_n ql, ar_n so, ar_b fa, ar_n ba, ar_n an, ar_b co, pc_x pk, ar_b fr, ar_n kv, ar_n vo, ar_n kn) (nI b) (nI t) ↔ post (bo_i (rd_ iq so ba b t)) := by
  have hba := (hbb b hb1 hb2).2.2
  have key : ∀ lo, 1 ≤ lo → lo ≤ b → ((∃ n, wX_readyWith_21 post (nI b) (nI t) (nI bg) (ar_b df) (ar_b iq) (ar_b tb) (ar_b up) (ar_n op) (ar_n ov) (ar_n sp) (ar_n sv) (ar_n qb) (ar_n qi) (ar_n qv) (ar_n ql) (ar_n so) (ar_b fa) (ar_n ba) (ar_n an) (ar_b co) (pc_x pk) (ar_b fr) (ar_n kv) (ar_n vo) (ar_n kn) n (nI lo)) ↔ post (bo_i (lo_a (fun c => iq (so c * 384 + t)) (b - lo) lo))) := by
    intro lo h1 h2
    refine (lo_allL (W := fun n c => wX_readyWith_21 post (nI b) (nI t) (nI bg) (ar_b df) (ar_b iq) (ar_b tb) (ar_b up) (ar_n op) (ar_n ov) (ar_n sp) (ar_n sv) (ar_n qb) (ar_n qi) (ar_n qv) (ar_n ql) (ar_n so) (ar_b fa) (ar_n ba) (ar_n an) (ar_b co) (pc_x pk) (ar_b fr) (ar_n kv) (ar_n vo) (ar_n kn) n (nI c)) (A := post (nI 0)) (B := post (nI 1)) (e := b) (lo := 1) (fun c => iq (so c * 384 + t)) (fun _ h => h) ?_ ?_ ?_ (b - lo) lo h1 (by omega)).trans bo_pr
    · intro n
      simp (disch := first | omega | assumption) only [li_0, li_1, li_2, li_3, li_4, li_6, li_7, li_8, li_9, li_10, li_12, li_21, li_24, li_31, li_60, li_63, li_127, li_128, li_256, li_312, li_384, nI_add, nu_mul, nu_sub, nu_div, nu_and, nu_or, nu_shr, nu_bit, nu_diff, bi_2, nI_leI, nI_ltI, nI_eq, vp_in_nI, nI_clamp, ar_na, ar_ba, bo_0, bo_1, bo_it, bo_if, bo_w, bo_w0, bo_w1, bo_nar, bo_n1, bo_nn0, st_bu, st_bu1, st_bu0, st_nu, forall_eq, true_implies, false_implies, forall_const, not_true_eq_false, not_false_eq_true, and_true, true_and, implies_true, and_self, Bool.false_eq_true, Bool.true_eq_false, reduceCtorEq, ite_true, ite_false, if_true, if_false, eq_self, Nat.zero_add, Nat.add_zero, Nat.le_refl, Nat.lt_irrefl, Nat.reduceEqDiff, Nat.reduceLeDiff, Nat.reduceLT, Nat.reduceAdd, Nat.reduceMul, Nat.reduceSub, wX_readyWith_21]
    · intro n c hc1 hc2 h
      have := hbb c hc1 (by omega)
      simp (disch := first | omega | assumption) only [li_0, li_1, li_2, li_3, li_4, li_6, li_7, li_8, li_9, li_10, li_12, li_21, li_24, li_31, li_60, li_63, li_127, li_128, li_256, li_312, li_384, nI_add, nu_mul, nu_sub, nu_div, nu_and, nu_or, nu_shr, nu_bit, nu_diff, bi_2, nI_leI, nI_ltI, nI_eq, vp_in_nI, nI_clamp, ar_na, ar_ba, bo_0, bo_1, bo_it, bo_if, bo_w, bo_w0, bo_w1, bo_nar, bo_n1, bo_nn0, st_bu, st_bu1, st_bu0, st_nu, forall_eq, true_implies, false_implies, forall_const, not_true_eq_false, not_false_eq_true, and_true, true_and, implies_true, and_self, Bool.false_eq_true, Bool.true_eq_false, reduceCtorEq, ite_true, ite_false, if_true, if_false, eq_self, Nat.zero_add, Nat.add_zero, Nat.le_refl, Nat.lt_irrefl, Nat.reduceEqDiff, Nat.reduceLeDiff, Nat.reduceLT, Nat.reduceAdd, Nat.reduceMul, Nat.reduceSub, wX_readyWith_21, Nat.not_le.mpr hc2, xc_holds, h]
    · intro n c hc1 hc2 h
      have := hbb c hc1 (by omega)
      simp (disch := first | omega | assumption) only [li_0, li_1, li_2, li_3, li_4, li_6, li_7, li_8, li_9, li_10, li_12, li_21, li_24, li_31, li_60, li_63, li_127, li_128, li_256, li_312, li_384, nI_add, nu_mul, nu_sub, nu_div, nu_and, nu_or, nu_shr, nu_bit, nu_diff, bi_2, nI_leI, nI_ltI, nI_eq, vp_in_nI, nI_clamp, ar_na, ar_ba, bo_0, bo_1, bo_it, bo_if, bo_w, bo_w0, bo_w1, bo_nar, bo_n1, bo_nn0, st_bu, st_bu1, st_bu0, st_nu, forall_eq, true_implies, false_implies, forall_const, not_true_eq_false, not_false_eq_true, and_true, true_and, implies_true, and_self, Bool.false_eq_true, Bool.true_eq_false, reduceCtorEq, ite_true, ite_false, if_true, if_false, eq_self, Nat.zero_add, Nat.add_zero, Nat.le_refl, Nat.lt_irrefl, Nat.reduceEqDiff, Nat.reduceLeDiff, Nat.reduceLT, Nat.reduceAdd, Nat.reduceMul, Nat.reduceSub, wX_readyWith_21, Nat.not_le.mpr hc2, xc_holds, h]
  unfold rd_
  by_cases z : ba b ≤ 1
  · simp (disch := first | omega | assumption) only [li_0, li_1, li_2, li_3, li_4, li_6, li_7, li_8, li_9, li_10, li_12, li_21, li_24, li_31, li_60, li_63, li_127, li_128, li_256, li_312, li_384, nI_add, nu_mul, nu_sub, nu_div, nu_and, nu_or, nu_shr, nu_bit, nu_diff, bi_2, nI_leI, nI_ltI, nI_eq, vp_in_nI, nI_clamp, ar_na, ar_ba, bo_0, bo_1, bo_it, bo_if, bo_w, bo_w0, bo_w1, bo_nar, bo_n1, bo_nn0, st_bu, st_bu1, st_bu0, st_nu, forall_eq, true_implies, false_implies, forall_const, not_true_eq_false, not_false_eq_true, and_true, true_and, implies_true, and_self, Bool.false_eq_true, Bool.true_eq_false, reduceCtorEq, ite_true, ite_false, if_true, if_false, eq_self, Nat.zero_add, Nat.add_zero, Nat.le_refl, Nat.lt_irrefl, Nat.reduceEqDiff, Nat.reduceLeDiff, Nat.reduceLT, Nat.reduceAdd, Nat.reduceMul, Nat.reduceSub, wpX_readyWith, z]
    exact key 1 (by omega) (by omega)
  · simp (disch := first | omega | assumption) only [li_0, li_1, li_2, li_3, li_4, li_6, li_7, li_8, li_9, li_10, li_12, li_21, li_24, li_31, li_60, li_63, li_127, li_128, li_256, li_312, li_384, nI_add, nu_mul, nu_sub, nu_div, nu_and, nu_or, nu_shr, nu_bit, nu_diff, bi_2, nI_leI, nI_ltI, nI_eq, vp_in_nI, nI_clamp, ar_na, ar_ba, bo_0, bo_1, bo_it, bo_if, bo_w, bo_w0, bo_w1, bo_nar, bo_n1, bo_nn0, st_bu, st_bu1, st_bu0, st_nu, forall_eq, true_implies, false_implies, forall_const, not_true_eq_false, not_false_eq_true, and_true, true_and, implies_true, and_self, Bool.false_eq_true, Bool.true_eq_false, reduceCtorEq, ite_true, ite_false, if_true, if_false, eq_self, Nat.zero_add, Nat.add_zero, Nat.le_refl, Nat.lt_irrefl, Nat.reduceEqDiff, Nat.reduceLeDiff, Nat.reduceLT, Nat.reduceAdd, Nat.reduceMul, Nat.reduceSub, wpX_readyWith, z]
    exact key (ba b) (by omega) (by omega)
theorem yc_suffices (H : in_s df iq srt num) (hb : bg ≤ 12) (hbb : in_b bg df so ba) (hb1 : 1 ≤ b) (hb2 : b ≤ bg) (ht : t < 128) : wpY_suffices post (nI bg, srt, num, ar_n so, ar_n ba, ar_n an, pc_y pk, ar_n kv, ar_b fa, ar_b co, ar_b fr, ar_b dn, ar_n sp, ar_n sv, ar_n ql, ar_n qb, ar_n qj, ar_n qv, ar_n vo, ar_n kn) (nI b) (nI t) ↔ post (bo_i (rd_ iq so ba b t)) := by
  have hba := (hbb b hb1 hb2).2.2
  have key : ∀ lo, 1 ≤ lo → lo ≤ b → ((∃ n, wY_suffices_21 post (nI b) (nI t) (nI bg) srt num (ar_n so) (ar_n ba) (ar_n an) (pc_y pk) (ar_n kv) (ar_b fa) (ar_b co) (ar_b fr) (ar_b dn) (ar_n sp) (ar_n sv) (ar_n ql) (ar_n qb) (ar_n qj) (ar_n qv) (ar_n vo) (ar_n kn) n (nI lo)) ↔ post (bo_i (lo_a (fun c => iq (so c * 384 + t)) (b - lo) lo))) := by
    intro lo h1 h2
    refine (lo_allL (W := fun n c => wY_suffices_21 post (nI b) (nI t) (nI bg) srt num (ar_n so) (ar_n ba) (ar_n an) (pc_y pk) (ar_n kv) (ar_b fa) (ar_b co) (ar_b fr) (ar_b dn) (ar_n sp) (ar_n sv) (ar_n ql) (ar_n qb) (ar_n qj) (ar_n qv) (ar_n vo) (ar_n kn) n (nI c)) (A := post (nI 0)) (B := post (nI 1)) (e := b) (lo := 1) (fun c => iq (so c * 384 + t)) (fun _ h => h) ?_ ?_ ?_ (b - lo) lo h1 (by omega)).trans bo_pr
    · intro n
      simp (disch := first | omega | assumption) only [li_0, li_1, li_2, li_3, li_4, li_6, li_7, li_8, li_9, li_10, li_12, li_21, li_24, li_31, li_60, li_63, li_127, li_128, li_256, li_312, li_384, nI_add, nu_mul, nu_sub, nu_div, nu_and, nu_or, nu_shr, nu_bit, nu_diff, bi_2, nI_leI, nI_ltI, nI_eq, vp_in_nI, nI_clamp, ar_na, ar_ba, bo_0, bo_1, bo_it, bo_if, bo_w, bo_w0, bo_w1, bo_nar, bo_n1, bo_nn0, st_bu, st_bu1, st_bu0, st_nu, forall_eq, true_implies, false_implies, forall_const, not_true_eq_false, not_false_eq_true, and_true, true_and, implies_true, and_self, Bool.false_eq_true, Bool.true_eq_false, reduceCtorEq, ite_true, ite_false, if_true, if_false, eq_self, Nat.zero_add, Nat.add_zero, Nat.le_refl, Nat.lt_irrefl, Nat.reduceEqDiff, Nat.reduceLeDiff, Nat.reduceLT, Nat.reduceAdd, Nat.reduceMul, Nat.reduceSub, wY_suffices_21]
    · intro n c hc1 hc2 h
      obtain ⟨g1, g2, g3⟩ := hbb c hc1 (by omega)
      simp (disch := first | omega | assumption) only [li_0, li_1, li_2, li_3, li_4, li_6, li_7, li_8, li_9, li_10, li_12, li_21, li_24, li_31, li_60, li_63, li_127, li_128, li_256, li_312, li_384, nI_add, nu_mul, nu_sub, nu_div, nu_and, nu_or, nu_shr, nu_bit, nu_diff, bi_2, nI_leI, nI_ltI, nI_eq, vp_in_nI, nI_clamp, ar_na, ar_ba, bo_0, bo_1, bo_it, bo_if, bo_w, bo_w0, bo_w1, bo_nar, bo_n1, bo_nn0, st_bu, st_bu1, st_bu0, st_nu, forall_eq, true_implies, false_implies, forall_const, not_true_eq_false, not_false_eq_true, and_true, true_and, implies_true, and_self, Bool.false_eq_true, Bool.true_eq_false, reduceCtorEq, ite_true, ite_false, if_true, if_false, eq_self, Nat.zero_add, Nat.add_zero, Nat.le_refl, Nat.lt_irrefl, Nat.reduceEqDiff, Nat.reduceLeDiff, Nat.reduceLT, Nat.reduceAdd, Nat.reduceMul, Nat.reduceSub, wY_suffices_21, Nat.not_le.mpr hc2, yc_q H, h]
    · intro n c hc1 hc2 h
      obtain ⟨g1, g2, g3⟩ := hbb c hc1 (by omega)
      simp (disch := first | omega | assumption) only [li_0, li_1, li_2, li_3, li_4, li_6, li_7, li_8, li_9, li_10, li_12, li_21, li_24, li_31, li_60, li_63, li_127, li_128, li_256, li_312, li_384, nI_add, nu_mul, nu_sub, nu_div, nu_and, nu_or, nu_shr, nu_bit, nu_diff, bi_2, nI_leI, nI_ltI, nI_eq, vp_in_nI, nI_clamp, ar_na, ar_ba, bo_0, bo_1, bo_it, bo_if, bo_w, bo_w0, bo_w1, bo_nar, bo_n1, bo_nn0, st_bu, st_bu1, st_bu0, st_nu, forall_eq, true_implies, false_implies, forall_const, not_true_eq_false, not_false_eq_true, and_true, true_and, implies_true, and_self, Bool.false_eq_true, Bool.true_eq_false, reduceCtorEq, ite_true, ite_false, if_true, if_false, eq_self, Nat.zero_add, Nat.add_zero, Nat.le_refl, Nat.lt_irrefl, Nat.reduceEqDiff, Nat.reduceLeDiff, Nat.reduceLT, Nat.reduceAdd, Nat.reduceMul, Nat.reduceSub, wY_suffices_21, Nat.not_le.mpr hc2, yc_q H, h]
  unfold rd_
  by_cases z : ba b ≤ 1
  · simp (disch := first | omega | assumption) only [li_0, li_1, li_2, li_3, li_4, li_6, li_7, li_8, li_9, li_10, li_12, li_21, li_24, li_31, li_60, li_63, li_127, li_128, li_256, li_312, li_384, nI_add, nu_mul, nu_sub, nu_div, nu_and, nu_or, nu_shr, nu_bit, nu_diff, bi_2, nI_leI, nI_ltI, nI_eq, vp_in_nI, nI_clamp, ar_na, ar_ba, bo_0, bo_1, bo_it, bo_if, bo_w, bo_w0, bo_w1, bo_nar, bo_n1, bo_nn0, st_bu, st_bu1, st_bu0, st_nu, forall_eq, true_implies, false_implies, forall_const, not_true_eq_false, not_false_eq_true, and_true, true_and, implies_true, and_self, Bool.false_eq_true, Bool.true_eq_false, reduceCtorEq, ite_true, ite_false, if_true, if_false, eq_self, Nat.zero_add, Nat.add_zero, Nat.le_refl, Nat.lt_irrefl, Nat.reduceEqDiff, Nat.reduceLeDiff, Nat.reduceLT, Nat.reduceAdd, Nat.reduceMul, Nat.reduceSub, wpY_suffices, z]
    exact key 1 (by omega) (by omega)
  · simp (disch := first | omega | assumption) only [li_0, li_1, li_2, li_3, li_4, li_6, li_7, li_8, li_9, li_10, li_12, li_21, li_24, li_31, li_60, li_63, li_127, li_128, li_256, li_312, li_384, nI_add, nu_mul, nu_sub, nu_div, nu_and, nu_or, nu_shr, nu_bit, nu_diff, bi_2, nI_leI, nI_ltI, nI_eq, vp_in_nI, nI_clamp, ar_na, ar_ba, bo_0, bo_1, bo_it, bo_if, bo_w, bo_w0, bo_w1, bo_nar, bo_n1, bo_nn0, st_bu, st_bu1, st_bu0, st_nu, forall_eq, true_implies, false_implies, forall_const, not_true_eq_false, not_false_eq_true, and_true, true_and, implies_true, and_self, Bool.false_eq_true, Bool.true_eq_false, reduceCtorEq, ite_true, ite_false, if_true, if_false, eq_self, Nat.zero_add, Nat.add_zero, Nat.le_refl, Nat.lt_irrefl, Nat.reduceEqDiff, Nat.reduceLeDiff, Nat.reduceLT, Nat.reduceAdd, Nat.reduceMul, Nat.reduceSub, wpY_suffices, z]
    exact key (ba b) (by omega) (by omega)
theorem yc_isReady (H : in_s df iq srt num) (hb : bg ≤ 12) (hbb : in_b bg df so ba) (hc : in_c vo kn an) (hb1 : 1 ≤ b) (hb2 : b ≤ bg) : wpY_isReady post (nI bg, srt, num, ar_n so, ar_n ba, ar_n an, pc_y pk, ar_n kv, ar_b fa, ar_b co, ar_b fr, ar_b dn, ar_n sp, ar_n sv, ar_n ql, ar_n qb, ar_n qj, ar_n qv, ar_n vo, ar_n kn) (nI b) ↔ post (bo_i (rd_ iq so ba b (an b))) := by
  have := (hc b).2.2
  simp (disch := first | omega | assumption) only [li_0, li_1, li_2, li_3, li_4, li_6, li_7, li_8, li_9, li_10, li_12, li_21, li_24, li_31, li_60, li_63, li_127, li_128, li_256, li_312, li_384, nI_add, nu_mul, nu_sub, nu_div, nu_and, nu_or, nu_shr, nu_bit, nu_diff, bi_2, nI_leI, nI_ltI, nI_eq, vp_in_nI, nI_clamp, ar_na, ar_ba, bo_0, bo_1, bo_it, bo_if, bo_w, bo_w0, bo_w1, bo_nar, bo_n1, bo_nn0, st_bu, st_bu1, st_bu0, st_nu, forall_eq, true_implies, false_implies, forall_const, not_true_eq_false, not_false_eq_true, and_true, true_and, implies_true, and_self, Bool.false_eq_true, Bool.true_eq_false, reduceCtorEq, ite_true, ite_false, if_true, if_false, eq_self, Nat.zero_add, Nat.add_zero, Nat.le_refl, Nat.lt_irrefl, Nat.reduceEqDiff, Nat.reduceLeDiff, Nat.reduceLT, Nat.reduceAdd, Nat.reduceMul, Nat.reduceSub, wpY_isReady, yc_suffices H hb hbb]
/-- who may still answer -/
def op_ (sp : Nat → Nat) (b : Nat) : Nat := lo_f (fun n a => if sp n < b then a ||| 2 ^ n else a) 7 0 0
theorem op_lt : op_ sp b < 128 := by
  refine lo_fI (I := fun _ a => a < 128) 7 0 0 ?_ (by decide)
  intro j a _ hj h
  split
  · exact nu_or7 h (nu_lt7 j (by omega))
  · exact h
def aw_ (iq : Nat → Bool) (so ba an sp : Nat → Nat) (b : Nat) : Nat := lo_f (fun m a => if (decide (m &&& (op_ sp b ^^^ 127) = 0) && rd_ iq so ba b (an b ||| m)) = true then min a (sz_ m) else a) 128 0 8
theorem xc_answers61 (hb : bg ≤ 12) (hbb : in_b bg df so ba) (hc : in_c vo kn an) (hb1 : 1 ≤ b) (hb2 : b ≤ bg) : (∃ n, wX_answers_61 post (nI b) (nI (op_ sp b)) (nI bg) (ar_b df) (ar_b iq) (ar_b tb) (ar_b up) (ar_n op) (ar_n ov) (ar_n sp) (ar_n sv) (ar_n qb) (ar_n qi) (ar_n qv) (ar_n ql) (ar_n so) (ar_b fa) (ar_n ba) (ar_n an) (ar_b co) (pc_x pk) (ar_b fr) (ar_n kv) (ar_n vo) (ar_n kn) n (mn_ 8) (nI 0)) ↔ post (mn_ (aw_ iq so ba an sp b)) := by
  refine lo_fold (W := fun n m a => wX_answers_61 post (nI b) (nI (op_ sp b)) (nI bg) (ar_b df) (ar_b iq) (ar_b tb) (ar_b up) (ar_n op) (ar_n ov) (ar_n sp) (ar_n sv) (ar_n qb) (ar_n qi) (ar_n qv) (ar_n ql) (ar_n so) (ar_b fa) (ar_n ba) (ar_n an) (ar_b co) (pc_x pk) (ar_b fr) (ar_n kv) (ar_n vo) (ar_n kn) n (mn_ a) (nI m)) (fin := fun a => post (mn_ a)) (I := fun _ a => a ≤ 8) (e := 128) _ (fun _ _ h => h) ?_ ?_ ?_ 128 0 8 rfl (Nat.le_refl _)
  · intro i a _ h
    split <;> omega
  · intro n a _
    simp (disch := first | omega | assumption) only [li_0, li_1, li_2, li_3, li_4, li_6, li_7, li_8, li_9, li_10, li_12, li_21, li_24, li_31, li_60, li_63, li_127, li_128, li_256, li_312, li_384, nI_add, nu_mul, nu_sub, nu_div, nu_and, nu_or, nu_shr, nu_bit, nu_diff, bi_2, nI_leI, nI_ltI, nI_eq, vp_in_nI, nI_clamp, ar_na, ar_ba, bo_0, bo_1, bo_it, bo_if, bo_w, bo_w0, bo_w1, bo_nar, bo_n1, bo_nn0, st_bu, st_bu1, st_bu0, st_nu, forall_eq, true_implies, false_implies, forall_const, not_true_eq_false, not_false_eq_true, and_true, true_and, implies_true, and_self, Bool.false_eq_true, Bool.true_eq_false, reduceCtorEq, ite_true, ite_false, if_true, if_false, eq_self, Nat.zero_add, Nat.add_zero, Nat.le_refl, Nat.lt_irrefl, Nat.reduceEqDiff, Nat.reduceLeDiff, Nat.reduceLT, Nat.reduceAdd, Nat.reduceMul, Nat.reduceSub, wX_answers_61]
  · intro n m a hm ha
    have hz := sz_7 m
    have h1 := (hc b).2.2
    have h2 := nu_or7 h1 hm
    have h3 : m &&& (op_ sp b ^^^ 127) < 128 := nu_and7 hm
    by_cases z : m &&& (op_ sp b ^^^ 127) = 0
    · cases e : rd_ iq so ba b (an b ||| m)
      · simp (disch := first | omega | assumption) only [li_0, li_1, li_2, li_3, li_4, li_6, li_7, li_8, li_9, li_10, li_12, li_21, li_24, li_31, li_60, li_63, li_127, li_128, li_256, li_312, li_384, nI_add, nu_mul, nu_sub, nu_div, nu_and, nu_or, nu_shr, nu_bit, nu_diff, bi_2, nI_leI, nI_ltI, nI_eq, vp_in_nI, nI_clamp, ar_na, ar_ba, bo_0, bo_1, bo_it, bo_if, bo_w, bo_w0, bo_w1, bo_nar, bo_n1, bo_nn0, st_bu, st_bu1, st_bu0, st_nu, forall_eq, true_implies, false_implies, forall_const, not_true_eq_false, not_false_eq_true, and_true, true_and, implies_true, and_self, Bool.false_eq_true, Bool.true_eq_false, reduceCtorEq, ite_true, ite_false, if_true, if_false, eq_self, Nat.zero_add, Nat.add_zero, Nat.le_refl, Nat.lt_irrefl, Nat.reduceEqDiff, Nat.reduceLeDiff, Nat.reduceLT, Nat.reduceAdd, Nat.reduceMul, Nat.reduceSub, wX_answers_61, Nat.not_le.mpr hm, z, xc_ready hb hbb, e, decide_true, Bool.and_false]
      · simp (disch := first | omega | assumption) only [li_0, li_1, li_2, li_3, li_4, li_6, li_7, li_8, li_9, li_10, li_12, li_21, li_24, li_31, li_60, li_63, li_127, li_128, li_256, li_312, li_384, nI_add, nu_mul, nu_sub, nu_div, nu_and, nu_or, nu_shr, nu_bit, nu_diff, bi_2, nI_leI, nI_ltI, nI_eq, vp_in_nI, nI_clamp, ar_na, ar_ba, bo_0, bo_1, bo_it, bo_if, bo_w, bo_w0, bo_w1, bo_nar, bo_n1, bo_nn0, st_bu, st_bu1, st_bu0, st_nu, forall_eq, true_implies, false_implies, forall_const, not_true_eq_false, not_false_eq_true, and_true, true_and, implies_true, and_self, Bool.false_eq_true, Bool.true_eq_false, reduceCtorEq, ite_true, ite_false, if_true, if_false, eq_self, Nat.zero_add, Nat.add_zero, Nat.le_refl, Nat.lt_irrefl, Nat.reduceEqDiff, Nat.reduceLeDiff, Nat.reduceLT, Nat.reduceAdd, Nat.reduceMul, Nat.reduceSub, wX_answers_61, Nat.not_le.mpr hm, z, xc_ready hb hbb, e, xc_sizeOf, xc_lesser, decide_true, Bool.and_self]
    · simp (disch := first | omega | assumption) only [li_0, li_1, li_2, li_3, li_4, li_6, li_7, li_8, li_9, li_10, li_12, li_21, li_24, li_31, li_60, li_63, li_127, li_128, li_256, li_312, li_384, nI_add, nu_mul, nu_sub, nu_div, nu_and, nu_or, nu_shr, nu_bit, nu_diff, bi_2, nI_leI, nI_ltI, nI_eq, vp_in_nI, nI_clamp, ar_na, ar_ba, bo_0, bo_1, bo_it, bo_if, bo_w, bo_w0, bo_w1, bo_nar, bo_n1, bo_nn0, st_bu, st_bu1, st_bu0, st_nu, forall_eq, true_implies, false_implies, forall_const, not_true_eq_false, not_false_eq_true, and_true, true_and, implies_true, and_self, Bool.false_eq_true, Bool.true_eq_false, reduceCtorEq, ite_true, ite_false, if_true, if_false, eq_self, Nat.zero_add, Nat.add_zero, Nat.le_refl, Nat.lt_irrefl, Nat.reduceEqDiff, Nat.reduceLeDiff, Nat.reduceLT, Nat.reduceAdd, Nat.reduceMul, Nat.reduceSub, wX_answers_61, Nat.not_le.mpr hm, z, decide_false, Bool.false_and]
theorem xc_answers14 (hb : bg ≤ 12) (hbb : in_b bg df so ba) (hc : in_c vo kn an) (ha : in_a an sp) (hsp : ∀ n, n < 7 → sp n ≤ 12) (hb1 : 1 ≤ b) (hb2 : b ≤ bg) : (∃ n, wX_answers_14 post (nI b) (nI bg) (ar_b df) (ar_b iq) (ar_b tb) (ar_b up) (ar_n op) (ar_n ov) (ar_n sp) (ar_n sv) (ar_n qb) (ar_n qi) (ar_n qv) (ar_n ql) (ar_n so) (ar_b fa) (ar_n ba) (ar_n an) (ar_b co) (pc_x pk) (ar_b fr) (ar_n kv) (ar_n vo) (ar_n kn) n (nI 0) (nI 0)) ↔ post (mn_ (aw_ iq so ba an sp b)) := by
  refine (lo_fold (W := fun n j a => wX_answers_14 post (nI b) (nI bg) (ar_b df) (ar_b iq) (ar_b tb) (ar_b up) (ar_n op) (ar_n ov) (ar_n sp) (ar_n sv) (ar_n qb) (ar_n qi) (ar_n qv) (ar_n ql) (ar_n so) (ar_b fa) (ar_n ba) (ar_n an) (ar_b co) (pc_x pk) (ar_b fr) (ar_n kv) (ar_n vo) (ar_n kn) n (nI a) (nI j)) (fin := fun a => ∃ n, wX_answers_61 post (nI b) (nI a) (nI bg) (ar_b df) (ar_b iq) (ar_b tb) (ar_b up) (ar_n op) (ar_n ov) (ar_n sp) (ar_n sv) (ar_n qb) (ar_n qi) (ar_n qv) (ar_n ql) (ar_n so) (ar_b fa) (ar_n ba) (ar_n an) (ar_b co) (pc_x pk) (ar_b fr) (ar_n kv) (ar_n vo) (ar_n kn) n (mn_ 8) (nI 0)) (I := fun _ _ => True) (e := 7) (fun n a => if sp n < b then a ||| 2 ^ n else a) (fun _ _ h => h) (fun _ _ _ _ => trivial) ?_ ?_ 7 0 0 rfl trivial).trans (xc_answers61 hb hbb hc hb1 hb2)
  · intro n a _
    simp (disch := first | omega | assumption) only [li_0, li_1, li_2, li_3, li_4, li_6, li_7, li_8, li_9, li_10, li_12, li_21, li_24, li_31, li_60, li_63, li_127, li_128, li_256, li_312, li_384, nI_add, nu_mul, nu_sub, nu_div, nu_and, nu_or, nu_shr, nu_bit, nu_diff, bi_2, nI_leI, nI_ltI, nI_eq, vp_in_nI, nI_clamp, ar_na, ar_ba, bo_0, bo_1, bo_it, bo_if, bo_w, bo_w0, bo_w1, bo_nar, bo_n1, bo_nn0, st_bu, st_bu1, st_bu0, st_nu, forall_eq, true_implies, false_implies, forall_const, not_true_eq_false, not_false_eq_true, and_true, true_and, implies_true, and_self, Bool.false_eq_true, Bool.true_eq_false, reduceCtorEq, ite_true, ite_false, if_true, if_false, eq_self, Nat.zero_add, Nat.add_zero, Nat.le_refl, Nat.lt_irrefl, Nat.reduceEqDiff, Nat.reduceLeDiff, Nat.reduceLT, Nat.reduceAdd, Nat.reduceMul, Nat.reduceSub, wX_answers_14]
    exact Iff.rfl
  · intro n j a hj _
    have h1 := (hc b).2.2
    have h2 := hsp j hj
    have hbit : an b / 2 ^ j % 2 < 2 := Nat.mod_lt _ (by decide)
    rcases (by omega : an b / 2 ^ j % 2 = 0 ∨ an b / 2 ^ j % 2 = 1) with z | z
    · by_cases z1 : sp j < b
      · simp (disch := first | omega | assumption) only [li_0, li_1, li_2, li_3, li_4, li_6, li_7, li_8, li_9, li_10, li_12, li_21, li_24, li_31, li_60, li_63, li_127, li_128, li_256, li_312, li_384, nI_add, nu_mul, nu_sub, nu_div, nu_and, nu_or, nu_shr, nu_bit, nu_diff, bi_2, nI_leI, nI_ltI, nI_eq, vp_in_nI, nI_clamp, ar_na, ar_ba, bo_0, bo_1, bo_it, bo_if, bo_w, bo_w0, bo_w1, bo_nar, bo_n1, bo_nn0, st_bu, st_bu1, st_bu0, st_nu, forall_eq, true_implies, false_implies, forall_const, not_true_eq_false, not_false_eq_true, and_true, true_and, implies_true, and_self, Bool.false_eq_true, Bool.true_eq_false, reduceCtorEq, ite_true, ite_false, if_true, if_false, eq_self, Nat.zero_add, Nat.add_zero, Nat.le_refl, Nat.lt_irrefl, Nat.reduceEqDiff, Nat.reduceLeDiff, Nat.reduceLT, Nat.reduceAdd, Nat.reduceMul, Nat.reduceSub, wX_answers_14, Nat.not_le.mpr hj, z, z1, Nat.not_le.mpr z1]
      · simp (disch := first | omega | assumption) only [li_0, li_1, li_2, li_3, li_4, li_6, li_7, li_8, li_9, li_10, li_12, li_21, li_24, li_31, li_60, li_63, li_127, li_128, li_256, li_312, li_384, nI_add, nu_mul, nu_sub, nu_div, nu_and, nu_or, nu_shr, nu_bit, nu_diff, bi_2, nI_leI, nI_ltI, nI_eq, vp_in_nI, nI_clamp, ar_na, ar_ba, bo_0, bo_1, bo_it, bo_if, bo_w, bo_w0, bo_w1, bo_nar, bo_n1, bo_nn0, st_bu, st_bu1, st_bu0, st_nu, forall_eq, true_implies, false_implies, forall_const, not_true_eq_false, not_false_eq_true, and_true, true_and, implies_true, and_self, Bool.false_eq_true, Bool.true_eq_false, reduceCtorEq, ite_true, ite_false, if_true, if_false, eq_self, Nat.zero_add, Nat.add_zero, Nat.le_refl, Nat.lt_irrefl, Nat.reduceEqDiff, Nat.reduceLeDiff, Nat.reduceLT, Nat.reduceAdd, Nat.reduceMul, Nat.reduceSub, wX_answers_14, Nat.not_le.mpr hj, z, z1, Nat.le_of_not_lt z1]
    · have z1 : ¬ sp j < b := Nat.not_lt.mpr (ha b j hj z)
      simp (disch := first | omega | assumption) only [li_0, li_1, li_2, li_3, li_4, li_6, li_7, li_8, li_9, li_10, li_12, li_21, li_24, li_31, li_60, li_63, li_127, li_128, li_256, li_312, li_384, nI_add, nu_mul, nu_sub, nu_div, nu_and, nu_or, nu_shr, nu_bit, nu_diff, bi_2, nI_leI, nI_ltI, nI_eq, vp_in_nI, nI_clamp, ar_na, ar_ba, bo_0, bo_1, bo_it, bo_if, bo_w, bo_w0, bo_w1, bo_nar, bo_n1, bo_nn0, st_bu, st_bu1, st_bu0, st_nu, forall_eq, true_implies, false_implies, forall_const, not_true_eq_false, not_false_eq_true, and_true, true_and, implies_true, and_self, Bool.false_eq_true, Bool.true_eq_false, reduceCtorEq, ite_true, ite_false, if_true, if_false, eq_self, Nat.zero_add, Nat.add_zero, Nat.le_refl, Nat.lt_irrefl, Nat.reduceEqDiff, Nat.reduceLeDiff, Nat.reduceLT, Nat.reduceAdd, Nat.reduceMul, Nat.reduceSub, wX_answers_14, Nat.not_le.mpr hj, z, z1]
theorem yc_answers48 (H : in_s df iq srt num) (hb : bg ≤ 12) (hbb : in_b bg df so ba) (hc : in_c vo kn an) (hb1 : 1 ≤ b) (hb2 : b ≤ bg) : (∃ n, wY_answers_48 post (nI b) (nI (op_ sp b)) (nI bg) srt num (ar_n so) (ar_n ba) (ar_n an) (pc_y pk) (ar_n kv) (ar_b fa) (ar_b co) (ar_b fr) (ar_b dn) (ar_n sp) (ar_n sv) (ar_n ql) (ar_n qb) (ar_n qj) (ar_n qv) (ar_n vo) (ar_n kn) n (mn_ 8) (nI 0)) ↔ post (mn_ (aw_ iq so ba an sp b)) := by
  refine lo_fold (W := fun n m a => wY_answers_48 post (nI b) (nI (op_ sp b)) (nI bg) srt num (ar_n so) (ar_n ba) (ar_n an) (pc_y pk) (ar_n kv) (ar_b fa) (ar_b co) (ar_b fr) (ar_b dn) (ar_n sp) (ar_n sv) (ar_n ql) (ar_n qb) (ar_n qj) (ar_n qv) (ar_n vo) (ar_n kn) n (mn_ a) (nI m)) (fin := fun a => post (mn_ a)) (I := fun _ a => a ≤ 8) (e := 128) _ (fun _ _ h => h) ?_ ?_ ?_ 128 0 8 rfl (Nat.le_refl _)
  · intro i a _ h
    split <;> omega
  · intro n a _
    simp (disch := first | omega | assumption) only [li_0, li_1, li_2, li_3, li_4, li_6, li_7, li_8, li_9, li_10, li_12, li_21, li_24, li_31, li_60, li_63, li_127, li_128, li_256, li_312, li_384, nI_add, nu_mul, nu_sub, nu_div, nu_and, nu_or, nu_shr, nu_bit, nu_diff, bi_2, nI_leI, nI_ltI, nI_eq, vp_in_nI, nI_clamp, ar_na, ar_ba, bo_0, bo_1, bo_it, bo_if, bo_w, bo_w0, bo_w1, bo_nar, bo_n1, bo_nn0, st_bu, st_bu1, st_bu0, st_nu, forall_eq, true_implies, false_implies, forall_const, not_true_eq_false, not_false_eq_true, and_true, true_and, implies_true, and_self, Bool.false_eq_true, Bool.true_eq_false, reduceCtorEq, ite_true, ite_false, if_true, if_false, eq_self, Nat.zero_add, Nat.add_zero, Nat.le_refl, Nat.lt_irrefl, Nat.reduceEqDiff, Nat.reduceLeDiff, Nat.reduceLT, Nat.reduceAdd, Nat.reduceMul, Nat.reduceSub, wY_answers_48]
  · intro n m a hm ha
    have hz := sz_7 m
    have h1 := (hc b).2.2
    have h2 := nu_or7 h1 hm
    have h3 : m &&& (op_ sp b ^^^ 127) < 128 := nu_and7 hm
    have hm' : ¬ 127 < m := by omega
    by_cases z : m &&& (op_ sp b ^^^ 127) = 0
    · rcases Nat.lt_or_ge a 8 with h8 | h8
      · by_cases z1 : a ≤ sz_ m
        · rw [Nat.min_eq_left z1, ite_self]
          simp (disch := first | omega | assumption) only [li_0, li_1, li_2, li_3, li_4, li_6, li_7, li_8, li_9, li_10, li_12, li_21, li_24, li_31, li_60, li_63, li_127, li_128, li_256, li_312, li_384, nI_add, nu_mul, nu_sub, nu_div, nu_and, nu_or, nu_shr, nu_bit, nu_diff, bi_2, nI_leI, nI_ltI, nI_eq, vp_in_nI, nI_clamp, ar_na, ar_ba, bo_0, bo_1, bo_it, bo_if, bo_w, bo_w0, bo_w1, bo_nar, bo_n1, bo_nn0, st_bu, st_bu1, st_bu0, st_nu, forall_eq, true_implies, false_implies, forall_const, not_true_eq_false, not_false_eq_true, and_true, true_and, implies_true, and_self, Bool.false_eq_true, Bool.true_eq_false, reduceCtorEq, ite_true, ite_false, if_true, if_false, eq_self, Nat.zero_add, Nat.add_zero, Nat.le_refl, Nat.lt_irrefl, Nat.reduceEqDiff, Nat.reduceLeDiff, Nat.reduceLT, Nat.reduceAdd, Nat.reduceMul, Nat.reduceSub, wY_answers_48, hm', yc_size, z, mn_lt h8, ng_3, z1]
        · rw [Nat.min_eq_right (show sz_ m ≤ a by omega)]
          cases e : rd_ iq so ba b (an b ||| m)
          · simp (disch := first | omega | assumption) only [li_0, li_1, li_2, li_3, li_4, li_6, li_7, li_8, li_9, li_10, li_12, li_21, li_24, li_31, li_60, li_63, li_127, li_128, li_256, li_312, li_384, nI_add, nu_mul, nu_sub, nu_div, nu_and, nu_or, nu_shr, nu_bit, nu_diff, bi_2, nI_leI, nI_ltI, nI_eq, vp_in_nI, nI_clamp, ar_na, ar_ba, bo_0, bo_1, bo_it, bo_if, bo_w, bo_w0, bo_w1, bo_nar, bo_n1, bo_nn0, st_bu, st_bu1, st_bu0, st_nu, forall_eq, true_implies, false_implies, forall_const, not_true_eq_false, not_false_eq_true, and_true, true_and, implies_true, and_self, Bool.false_eq_true, Bool.true_eq_false, reduceCtorEq, ite_true, ite_false, if_true, if_false, eq_self, Nat.zero_add, Nat.add_zero, Nat.le_refl, Nat.lt_irrefl, Nat.reduceEqDiff, Nat.reduceLeDiff, Nat.reduceLT, Nat.reduceAdd, Nat.reduceMul, Nat.reduceSub, wY_answers_48, wY_answers_83, hm', yc_size, z, mn_lt h8, ng_3, z1, yc_suffices H hb hbb, e, decide_true, Bool.and_false]
          · simp (disch := first | omega | assumption) only [li_0, li_1, li_2, li_3, li_4, li_6, li_7, li_8, li_9, li_10, li_12, li_21, li_24, li_31, li_60, li_63, li_127, li_128, li_256, li_312, li_384, nI_add, nu_mul, nu_sub, nu_div, nu_and, nu_or, nu_shr, nu_bit, nu_diff, bi_2, nI_leI, nI_ltI, nI_eq, vp_in_nI, nI_clamp, ar_na, ar_ba, bo_0, bo_1, bo_it, bo_if, bo_w, bo_w0, bo_w1, bo_nar, bo_n1, bo_nn0, st_bu, st_bu1, st_bu0, st_nu, forall_eq, true_implies, false_implies, forall_const, not_true_eq_false, not_false_eq_true, and_true, true_and, implies_true, and_self, Bool.false_eq_true, Bool.true_eq_false, reduceCtorEq, ite_true, ite_false, if_true, if_false, eq_self, Nat.zero_add, Nat.add_zero, Nat.le_refl, Nat.lt_irrefl, Nat.reduceEqDiff, Nat.reduceLeDiff, Nat.reduceLT, Nat.reduceAdd, Nat.reduceMul, Nat.reduceSub, wY_answers_48, wY_answers_83, hm', yc_size, z, mn_lt h8, mn_lt (show sz_ m < 8 by omega), ng_3, z1, yc_suffices H hb hbb, e, decide_true, Bool.and_self]
      · obtain rfl : a = 8 := by omega
        rw [Nat.min_eq_right (show sz_ m ≤ 8 by omega)]
        cases e : rd_ iq so ba b (an b ||| m)
        · simp (disch := first | omega | assumption) only [li_0, li_1, li_2, li_3, li_4, li_6, li_7, li_8, li_9, li_10, li_12, li_21, li_24, li_31, li_60, li_63, li_127, li_128, li_256, li_312, li_384, nI_add, nu_mul, nu_sub, nu_div, nu_and, nu_or, nu_shr, nu_bit, nu_diff, bi_2, nI_leI, nI_ltI, nI_eq, vp_in_nI, nI_clamp, ar_na, ar_ba, bo_0, bo_1, bo_it, bo_if, bo_w, bo_w0, bo_w1, bo_nar, bo_n1, bo_nn0, st_bu, st_bu1, st_bu0, st_nu, forall_eq, true_implies, false_implies, forall_const, not_true_eq_false, not_false_eq_true, and_true, true_and, implies_true, and_self, Bool.false_eq_true, Bool.true_eq_false, reduceCtorEq, ite_true, ite_false, if_true, if_false, eq_self, Nat.zero_add, Nat.add_zero, Nat.le_refl, Nat.lt_irrefl, Nat.reduceEqDiff, Nat.reduceLeDiff, Nat.reduceLT, Nat.reduceAdd, Nat.reduceMul, Nat.reduceSub, wY_answers_48, wY_answers_83, hm', yc_size, z, mn_8, yc_suffices H hb hbb, e, decide_true, Bool.and_false]
        · simp (disch := first | omega | assumption) only [li_0, li_1, li_2, li_3, li_4, li_6, li_7, li_8, li_9, li_10, li_12, li_21, li_24, li_31, li_60, li_63, li_127, li_128, li_256, li_312, li_384, nI_add, nu_mul, nu_sub, nu_div, nu_and, nu_or, nu_shr, nu_bit, nu_diff, bi_2, nI_leI, nI_ltI, nI_eq, vp_in_nI, nI_clamp, ar_na, ar_ba, bo_0, bo_1, bo_it, bo_if, bo_w, bo_w0, bo_w1, bo_nar, bo_n1, bo_nn0, st_bu, st_bu1, st_bu0, st_nu, forall_eq, true_implies, false_implies, forall_const, not_true_eq_false, not_false_eq_true, and_true, true_and, implies_true, and_self, Bool.false_eq_true, Bool.true_eq_false, reduceCtorEq, ite_true, ite_false, if_true, if_false, eq_self, Nat.zero_add, Nat.add_zero, Nat.le_refl, Nat.lt_irrefl, Nat.reduceEqDiff, Nat.reduceLeDiff, Nat.reduceLT, Nat.reduceAdd, Nat.reduceMul, Nat.reduceSub, wY_answers_48, wY_answers_83, hm', yc_size, z, mn_8, mn_lt (show sz_ m < 8 by omega), yc_suffices H hb hbb, e, decide_true, Bool.and_self]
    · simp (disch := first | omega | assumption) only [li_0, li_1, li_2, li_3, li_4, li_6, li_7, li_8, li_9, li_10, li_12, li_21, li_24, li_31, li_60, li_63, li_127, li_128, li_256, li_312, li_384, nI_add, nu_mul, nu_sub, nu_div, nu_and, nu_or, nu_shr, nu_bit, nu_diff, bi_2, nI_leI, nI_ltI, nI_eq, vp_in_nI, nI_clamp, ar_na, ar_ba, bo_0, bo_1, bo_it, bo_if, bo_w, bo_w0, bo_w1, bo_nar, bo_n1, bo_nn0, st_bu, st_bu1, st_bu0, st_nu, forall_eq, true_implies, false_implies, forall_const, not_true_eq_false, not_false_eq_true, and_true, true_and, implies_true, and_self, Bool.false_eq_true, Bool.true_eq_false, reduceCtorEq, ite_true, ite_false, if_true, if_false, eq_self, Nat.zero_add, Nat.add_zero, Nat.le_refl, Nat.lt_irrefl, Nat.reduceEqDiff, Nat.reduceLeDiff, Nat.reduceLT, Nat.reduceAdd, Nat.reduceMul, Nat.reduceSub, wY_answers_48, hm', yc_size, z, decide_false, Bool.false_and]
theorem yc_answers14 (H : in_s df iq srt num) (hb : bg ≤ 12) (hbb : in_b bg df so ba) (hc : in_c vo kn an) (hsp : ∀ n, n < 7 → sp n ≤ 12) (hb1 : 1 ≤ b) (hb2 : b ≤ bg) : (∃ n, wY_answers_14 post (nI b) (nI bg) srt num (ar_n so) (ar_n ba) (ar_n an) (pc_y pk) (ar_n kv) (ar_b fa) (ar_b co) (ar_b fr) (ar_b dn) (ar_n sp) (ar_n sv) (ar_n ql) (ar_n qb) (ar_n qj) (ar_n qv) (ar_n vo) (ar_n kn) n (nI 0) (nI 0)) ↔ post (mn_ (aw_ iq so ba an sp b)) := by
  refine (lo_fold (W := fun n j a => wY_answers_14 post (nI b) (nI bg) srt num (ar_n so) (ar_n ba) (ar_n an) (pc_y pk) (ar_n kv) (ar_b fa) (ar_b co) (ar_b fr) (ar_b dn) (ar_n sp) (ar_n sv) (ar_n ql) (ar_n qb) (ar_n qj) (ar_n qv) (ar_n vo) (ar_n kn) n (nI a) (nI j)) (fin := fun a => ∃ n, wY_answers_48 post (nI b) (nI a) (nI bg) srt num (ar_n so) (ar_n ba) (ar_n an) (pc_y pk) (ar_n kv) (ar_b fa) (ar_b co) (ar_b fr) (ar_b dn) (ar_n sp) (ar_n sv) (ar_n ql) (ar_n qb) (ar_n qj) (ar_n qv) (ar_n vo) (ar_n kn) n (mn_ 8) (nI 0)) (I := fun _ _ => True) (e := 7) (fun n a => if sp n < b then a ||| 2 ^ n else a) (fun _ _ h => h) (fun _ _ _ _ => trivial) ?_ ?_ 7 0 0 rfl trivial).trans (yc_answers48 H hb hbb hc hb1 hb2)
  · intro n a _
    simp (disch := first | omega | assumption) only [li_0, li_1, li_2, li_3, li_4, li_6, li_7, li_8, li_9, li_10, li_12, li_21, li_24, li_31, li_60, li_63, li_127, li_128, li_256, li_312, li_384, nI_add, nu_mul, nu_sub, nu_div, nu_and, nu_or, nu_shr, nu_bit, nu_diff, bi_2, nI_leI, nI_ltI, nI_eq, vp_in_nI, nI_clamp, ar_na, ar_ba, bo_0, bo_1, bo_it, bo_if, bo_w, bo_w0, bo_w1, bo_nar, bo_n1, bo_nn0, st_bu, st_bu1, st_bu0, st_nu, forall_eq, true_implies, false_implies, forall_const, not_true_eq_false, not_false_eq_true, and_true, true_and, implies_true, and_self, Bool.false_eq_true, Bool.true_eq_false, reduceCtorEq, ite_true, ite_false, if_true, if_false, eq_self, Nat.zero_add, Nat.add_zero, Nat.le_refl, Nat.lt_irrefl, Nat.reduceEqDiff, Nat.reduceLeDiff, Nat.reduceLT, Nat.reduceAdd, Nat.reduceMul, Nat.reduceSub, wY_answers_14]
    exact Iff.rfl
  · intro n j a hj _
    have h2 := hsp j hj
    by_cases z1 : sp j < b
    · simp (disch := first | omega | assumption) only [li_0, li_1, li_2, li_3, li_4, li_6, li_7, li_8, li_9, li_10, li_12, li_21, li_24, li_31, li_60, li_63, li_127, li_128, li_256, li_312, li_384, nI_add, nu_mul, nu_sub, nu_div, nu_and, nu_or, nu_shr, nu_bit, nu_diff, bi_2, nI_leI, nI_ltI, nI_eq, vp_in_nI, nI_clamp, ar_na, ar_ba, bo_0, bo_1, bo_it, bo_if, bo_w, bo_w0, bo_w1, bo_nar, bo_n1, bo_nn0, st_bu, st_bu1, st_bu0, st_nu, forall_eq, true_implies, false_implies, forall_const, not_true_eq_false, not_false_eq_true, and_true, true_and, implies_true, and_self, Bool.false_eq_true, Bool.true_eq_false, reduceCtorEq, ite_true, ite_false, if_true, if_false, eq_self, Nat.zero_add, Nat.add_zero, Nat.le_refl, Nat.lt_irrefl, Nat.reduceEqDiff, Nat.reduceLeDiff, Nat.reduceLT, Nat.reduceAdd, Nat.reduceMul, Nat.reduceSub, wY_answers_14, Nat.not_le.mpr hj, z1, Nat.not_le.mpr z1]
    · simp (disch := first | omega | assumption) only [li_0, li_1, li_2, li_3, li_4, li_6, li_7, li_8, li_9, li_10, li_12, li_21, li_24, li_31, li_60, li_63, li_127, li_128, li_256, li_312, li_384, nI_add, nu_mul, nu_sub, nu_div, nu_and, nu_or, nu_shr, nu_bit, nu_diff, bi_2, nI_leI, nI_ltI, nI_eq, vp_in_nI, nI_clamp, ar_na, ar_ba, bo_0, bo_1, bo_it, bo_if, bo_w, bo_w0, bo_w1, bo_nar, bo_n1, bo_nn0, st_bu, st_bu1, st_bu0, st_nu, forall_eq, true_implies, false_implies, forall_const, not_true_eq_false, not_false_eq_true, and_true, true_and, implies_true, and_self, Bool.false_eq_true, Bool.true_eq_false, reduceCtorEq, ite_true, ite_false, if_true, if_false, eq_self, Nat.zero_add, Nat.add_zero, Nat.le_refl, Nat.lt_irrefl, Nat.reduceEqDiff, Nat.reduceLeDiff, Nat.reduceLT, Nat.reduceAdd, Nat.reduceMul, Nat.reduceSub, wY_answers_14, Nat.not_le.mpr hj, z1, Nat.le_of_not_lt z1]
def vt_ (iq : Nat → Bool) (so pk sp sv vo : Nat → Nat) (b i v : Nat) : Nat := lo_f (fun m a => if (decide (m &&& (ab_ sp sv b i ^^^ 127) = 0) && en_ iq so pk b i (vo ((b * 3 + i) * 8 + v) ||| m)) = true then min a (sz_ m) else a) 128 0 8
theorem xc_votes65 (hb : bg ≤ 12) (hbb : in_b bg df so ba) (hp : in_p pk fr) (hc : in_c vo kn an) (hi : i < 3) (hb1 : 1 ≤ b) (hb2 : b ≤ bg) : (∃ n, wX_votes_65 post (nI b) (nI i) (nI (ab_ sp sv b i)) (nI (vo ((b * 3 + i) * 8 + v))) (nI bg) (ar_b df) (ar_b iq) (ar_b tb) (ar_b up) (ar_n op) (ar_n ov) (ar_n sp) (ar_n sv) (ar_n qb) (ar_n qi) (ar_n qv) (ar_n ql) (ar_n so) (ar_b fa) (ar_n ba) (ar_n an) (ar_b co) (pc_x pk) (ar_b fr) (ar_n kv) (ar_n vo) (ar_n kn) n (mn_ 8) (nI 0)) ↔ post (mn_ (vt_ iq so pk sp sv vo b i v)) := by
  refine lo_fold (W := fun n m a => wX_votes_65 post (nI b) (nI i) (nI (ab_ sp sv b i)) (nI (vo ((b * 3 + i) * 8 + v))) (nI bg) (ar_b df) (ar_b iq) (ar_b tb) (ar_b up) (ar_n op) (ar_n ov) (ar_n sp) (ar_n sv) (ar_n qb) (ar_n qi) (ar_n qv) (ar_n ql) (ar_n so) (ar_b fa) (ar_n ba) (ar_n an) (ar_b co) (pc_x pk) (ar_b fr) (ar_n kv) (ar_n vo) (ar_n kn) n (mn_ a) (nI m)) (fin := fun a => post (mn_ a)) (I := fun _ a => a ≤ 8) (e := 128) _ (fun _ _ h => h) ?_ ?_ ?_ 128 0 8 rfl (Nat.le_refl _)
  · intro i a _ h
    split <;> omega
  · intro n a _
    simp (disch := first | omega | assumption) only [li_0, li_1, li_2, li_3, li_4, li_6, li_7, li_8, li_9, li_10, li_12, li_21, li_24, li_31, li_60, li_63, li_127, li_128, li_256, li_312, li_384, nI_add, nu_mul, nu_sub, nu_div, nu_and, nu_or, nu_shr, nu_bit, nu_diff, bi_2, nI_leI, nI_ltI, nI_eq, vp_in_nI, nI_clamp, ar_na, ar_ba, bo_0, bo_1, bo_it, bo_if, bo_w, bo_w0, bo_w1, bo_nar, bo_n1, bo_nn0, st_bu, st_bu1, st_bu0, st_nu, forall_eq, true_implies, false_implies, forall_const, not_true_eq_false, not_false_eq_true, and_true, true_and, implies_true, and_self, Bool.false_eq_true, Bool.true_eq_false, reduceCtorEq, ite_true, ite_false, if_true, if_false, eq_self, Nat.zero_add, Nat.add_zero, Nat.le_refl, Nat.lt_irrefl, Nat.reduceEqDiff, Nat.reduceLeDiff, Nat.reduceLT, Nat.reduceAdd, Nat.reduceMul, Nat.reduceSub, wX_votes_65]
  · intro n m a hm ha
    have hz := sz_7 m
    have h1 := (hc ((b * 3 + i) * 8 + v)).1
    have h2 := nu_or7 h1 hm
    have h3 : m &&& (ab_ sp sv b i ^^^ 127) < 128 := nu_and7 hm
    by_cases z : m &&& (ab_ sp sv b i ^^^ 127) = 0
    · cases e : en_ iq so pk b i (vo ((b * 3 + i) * 8 + v) ||| m)
      · simp (disch := first | omega | assumption) only [li_0, li_1, li_2, li_3, li_4, li_6, li_7, li_8, li_9, li_10, li_12, li_21, li_24, li_31, li_60, li_63, li_127, li_128, li_256, li_312, li_384, nI_add, nu_mul, nu_sub, nu_div, nu_and, nu_or, nu_shr, nu_bit, nu_diff, bi_2, nI_leI, nI_ltI, nI_eq, vp_in_nI, nI_clamp, ar_na, ar_ba, bo_0, bo_1, bo_it, bo_if, bo_w, bo_w0, bo_w1, bo_nar, bo_n1, bo_nn0, st_bu, st_bu1, st_bu0, st_nu, forall_eq, true_implies, false_implies, forall_const, not_true_eq_false, not_false_eq_true, and_true, true_and, implies_true, and_self, Bool.false_eq_true, Bool.true_eq_false, reduceCtorEq, ite_true, ite_false, if_true, if_false, eq_self, Nat.zero_add, Nat.add_zero, Nat.le_refl, Nat.lt_irrefl, Nat.reduceEqDiff, Nat.reduceLeDiff, Nat.reduceLT, Nat.reduceAdd, Nat.reduceMul, Nat.reduceSub, wX_votes_65, Nat.not_le.mpr hm, z, xc_enough hb hbb hp, e, decide_true, Bool.and_false]
      · simp (disch := first | omega | assumption) only [li_0, li_1, li_2, li_3, li_4, li_6, li_7, li_8, li_9, li_10, li_12, li_21, li_24, li_31, li_60, li_63, li_127, li_128, li_256, li_312, li_384, nI_add, nu_mul, nu_sub, nu_div, nu_and, nu_or, nu_shr, nu_bit, nu_diff, bi_2, nI_leI, nI_ltI, nI_eq, vp_in_nI, nI_clamp, ar_na, ar_ba, bo_0, bo_1, bo_it, bo_if, bo_w, bo_w0, bo_w1, bo_nar, bo_n1, bo_nn0, st_bu, st_bu1, st_bu0, st_nu, forall_eq, true_implies, false_implies, forall_const, not_true_eq_false, not_false_eq_true, and_true, true_and, implies_true, and_self, Bool.false_eq_true, Bool.true_eq_false, reduceCtorEq, ite_true, ite_false, if_true, if_false, eq_self, Nat.zero_add, Nat.add_zero, Nat.le_refl, Nat.lt_irrefl, Nat.reduceEqDiff, Nat.reduceLeDiff, Nat.reduceLT, Nat.reduceAdd, Nat.reduceMul, Nat.reduceSub, wX_votes_65, Nat.not_le.mpr hm, z, xc_enough hb hbb hp, e, xc_sizeOf, xc_lesser, decide_true, Bool.and_self]
    · simp (disch := first | omega | assumption) only [li_0, li_1, li_2, li_3, li_4, li_6, li_7, li_8, li_9, li_10, li_12, li_21, li_24, li_31, li_60, li_63, li_127, li_128, li_256, li_312, li_384, nI_add, nu_mul, nu_sub, nu_div, nu_and, nu_or, nu_shr, nu_bit, nu_diff, bi_2, nI_leI, nI_ltI, nI_eq, vp_in_nI, nI_clamp, ar_na, ar_ba, bo_0, bo_1, bo_it, bo_if, bo_w, bo_w0, bo_w1, bo_nar, bo_n1, bo_nn0, st_bu, st_bu1, st_bu0, st_nu, forall_eq, true_implies, false_implies, forall_const, not_true_eq_false, not_false_eq_true, and_true, true_and, implies_true, and_self, Bool.false_eq_true, Bool.true_eq_false, reduceCtorEq, ite_true, ite_false, if_true, if_false, eq_self, Nat.zero_add, Nat.add_zero, Nat.le_refl, Nat.lt_irrefl, Nat.reduceEqDiff, Nat.reduceLeDiff, Nat.reduceLT, Nat.reduceAdd, Nat.reduceMul, Nat.reduceSub, wX_votes_65, Nat.not_le.mpr hm, z, decide_false, Bool.false_and]
theorem yc_votes70 (H : in_s df iq srt num) (hb : bg ≤ 12) (hbb : in_b bg df so ba) (hp : in_p pk fr) (hc : in_c vo kn an) (hi : i < 3) (hb1 : 1 ≤ b) (hb2 : b ≤ bg) (hv1 : 1 ≤ v) (hv7 : v ≤ 7) : (∃ n, wY_votes_70 post (nI b) (nI i) (nI v) (nI (ab_ sp sv b i)) (nI bg) srt num (ar_n so) (ar_n ba) (ar_n an) (pc_y pk) (ar_n kv) (ar_b fa) (ar_b co) (ar_b fr) (ar_b dn) (ar_n sp) (ar_n sv) (ar_n ql) (ar_n qb) (ar_n qj) (ar_n qv) (ar_n vo) (ar_n kn) n (mn_ 8) (nI 0)) ↔ post (mn_ (vt_ iq so pk sp sv vo b i v)) := by
  refine lo_fold (W := fun n m a => wY_votes_70 post (nI b) (nI i) (nI v) (nI (ab_ sp sv b i)) (nI bg) srt num (ar_n so) (ar_n ba) (ar_n an) (pc_y pk) (ar_n kv) (ar_b fa) (ar_b co) (ar_b fr) (ar_b dn) (ar_n sp) (ar_n sv) (ar_n ql) (ar_n qb) (ar_n qj) (ar_n qv) (ar_n vo) (ar_n kn) n (mn_ a) (nI m)) (fin := fun a => post (mn_ a)) (I := fun _ a => a ≤ 8) (e := 128) _ (fun _ _ h => h) ?_ ?_ ?_ 128 0 8 rfl (Nat.le_refl _)
  · intro i a _ h
    split <;> omega
  · intro n a _
    simp (disch := first | omega | assumption) only [li_0, li_1, li_2, li_3, li_4, li_6, li_7, li_8, li_9, li_10, li_12, li_21, li_24, li_31, li_60, li_63, li_127, li_128, li_256, li_312, li_384, nI_add, nu_mul, nu_sub, nu_div, nu_and, nu_or, nu_shr, nu_bit, nu_diff, bi_2, nI_leI, nI_ltI, nI_eq, vp_in_nI, nI_clamp, ar_na, ar_ba, bo_0, bo_1, bo_it, bo_if, bo_w, bo_w0, bo_w1, bo_nar, bo_n1, bo_nn0, st_bu, st_bu1, st_bu0, st_nu, forall_eq, true_implies, false_implies, forall_const, not_true_eq_false, not_false_eq_true, and_true, true_and, implies_true, and_self, Bool.false_eq_true, Bool.true_eq_false, reduceCtorEq, ite_true, ite_false, if_true, if_false, eq_self, Nat.zero_add, Nat.add_zero, Nat.le_refl, Nat.lt_irrefl, Nat.reduceEqDiff, Nat.reduceLeDiff, Nat.reduceLT, Nat.reduceAdd, Nat.reduceMul, Nat.reduceSub, wY_votes_70]
  · intro n m a hm ha
    have hz := sz_7 m
    have h1 := (hc ((b * 3 + i) * 8 + v)).1
    have h2 := nu_or7 h1 hm
    have h3 : m &&& (ab_ sp sv b i ^^^ 127) < 128 := nu_and7 hm
    have hm' : ¬ 127 < m := by omega
    by_cases z : m &&& (ab_ sp sv b i ^^^ 127) = 0
    · rcases Nat.lt_or_ge a 8 with h8 | h8
      · by_cases z1 : a ≤ sz_ m
        · rw [Nat.min_eq_left z1, ite_self]
          simp (disch := first | omega | assumption) only [li_0, li_1, li_2, li_3, li_4, li_6, li_7, li_8, li_9, li_10, li_12, li_21, li_24, li_31, li_60, li_63, li_127, li_128, li_256, li_312, li_384, nI_add, nu_mul, nu_sub, nu_div, nu_and, nu_or, nu_shr, nu_bit, nu_diff, bi_2, nI_leI, nI_ltI, nI_eq, vp_in_nI, nI_clamp, ar_na, ar_ba, bo_0, bo_1, bo_it, bo_if, bo_w, bo_w0, bo_w1, bo_nar, bo_n1, bo_nn0, st_bu, st_bu1, st_bu0, st_nu, forall_eq, true_implies, false_implies, forall_const, not_true_eq_false, not_false_eq_true, and_true, true_and, implies_true, and_self, Bool.false_eq_true, Bool.true_eq_false, reduceCtorEq, ite_true, ite_false, if_true, if_false, eq_self, Nat.zero_add, Nat.add_zero, Nat.le_refl, Nat.lt_irrefl, Nat.reduceEqDiff, Nat.reduceLeDiff, Nat.reduceLT, Nat.reduceAdd, Nat.reduceMul, Nat.reduceSub, wY_votes_70, hm', yc_size, z, mn_lt h8, ng_3, z1]
        · rw [Nat.min_eq_right (show sz_ m ≤ a by omega)]
          cases e : en_ iq so pk b i (vo ((b * 3 + i) * 8 + v) ||| m)
          · simp (disch := first | omega | assumption) only [li_0, li_1, li_2, li_3, li_4, li_6, li_7, li_8, li_9, li_10, li_12, li_21, li_24, li_31, li_60, li_63, li_127, li_128, li_256, li_312, li_384, nI_add, nu_mul, nu_sub, nu_div, nu_and, nu_or, nu_shr, nu_bit, nu_diff, bi_2, nI_leI, nI_ltI, nI_eq, vp_in_nI, nI_clamp, ar_na, ar_ba, bo_0, bo_1, bo_it, bo_if, bo_w, bo_w0, bo_w1, bo_nar, bo_n1, bo_nn0, st_bu, st_bu1, st_bu0, st_nu, forall_eq, true_implies, false_implies, forall_const, not_true_eq_false, not_false_eq_true, and_true, true_and, implies_true, and_self, Bool.false_eq_true, Bool.true_eq_false, reduceCtorEq, ite_true, ite_false, if_true, if_false, eq_self, Nat.zero_add, Nat.add_zero, Nat.le_refl, Nat.lt_irrefl, Nat.reduceEqDiff, Nat.reduceLeDiff, Nat.reduceLT, Nat.reduceAdd, Nat.reduceMul, Nat.reduceSub, wY_votes_70, wY_votes_108, hm', cm_24, yc_size, z, mn_lt h8, ng_3, z1, yc_isEnough H hb hbb hp, e, decide_true, Bool.and_false]
          · simp (disch := first | omega | assumption) only [li_0, li_1, li_2, li_3, li_4, li_6, li_7, li_8, li_9, li_10, li_12, li_21, li_24, li_31, li_60, li_63, li_127, li_128, li_256, li_312, li_384, nI_add, nu_mul, nu_sub, nu_div, nu_and, nu_or, nu_shr, nu_bit, nu_diff, bi_2, nI_leI, nI_ltI, nI_eq, vp_in_nI, nI_clamp, ar_na, ar_ba, bo_0, bo_1, bo_it, bo_if, bo_w, bo_w0, bo_w1, bo_nar, bo_n1, bo_nn0, st_bu, st_bu1, st_bu0, st_nu, forall_eq, true_implies, false_implies, forall_const, not_true_eq_false, not_false_eq_true, and_true, true_and, implies_true, and_self, Bool.false_eq_true, Bool.true_eq_false, reduceCtorEq, ite_true, ite_false, if_true, if_false, eq_self, Nat.zero_add, Nat.add_zero, Nat.le_refl, Nat.lt_irrefl, Nat.reduceEqDiff, Nat.reduceLeDiff, Nat.reduceLT, Nat.reduceAdd, Nat.reduceMul, Nat.reduceSub, wY_votes_70, wY_votes_108, hm', cm_24, yc_size, z, mn_lt h8, mn_lt (show sz_ m < 8 by omega), ng_3, z1, yc_isEnough H hb hbb hp, e, decide_true, Bool.and_self]
      · obtain rfl : a = 8 := by omega
        rw [Nat.min_eq_right (show sz_ m ≤ 8 by omega)]
        cases e : en_ iq so pk b i (vo ((b * 3 + i) * 8 + v) ||| m)
        · simp (disch := first | omega | assumption) only [li_0, li_1, li_2, li_3, li_4, li_6, li_7, li_8, li_9, li_10, li_12, li_21, li_24, li_31, li_60, li_63, li_127, li_128, li_256, li_312, li_384, nI_add, nu_mul, nu_sub, nu_div, nu_and, nu_or, nu_shr, nu_bit, nu_diff, bi_2, nI_leI, nI_ltI, nI_eq, vp_in_nI, nI_clamp, ar_na, ar_ba, bo_0, bo_1, bo_it, bo_if, bo_w, bo_w0, bo_w1, bo_nar, bo_n1, bo_nn0, st_bu, st_bu1, st_bu0, st_nu, forall_eq, true_implies, false_implies, forall_const, not_true_eq_false, not_false_eq_true, and_true, true_and, implies_true, and_self, Bool.false_eq_true, Bool.true_eq_false, reduceCtorEq, ite_true, ite_false, if_true, if_false, eq_self, Nat.zero_add, Nat.add_zero, Nat.le_refl, Nat.lt_irrefl, Nat.reduceEqDiff, Nat.reduceLeDiff, Nat.reduceLT, Nat.reduceAdd, Nat.reduceMul, Nat.reduceSub, wY_votes_70, wY_votes_108, hm', cm_24, yc_size, z, mn_8, yc_isEnough H hb hbb hp, e, decide_true, Bool.and_false]
        · simp (disch := first | omega | assumption) only [li_0, li_1, li_2, li_3, li_4, li_6, li_7, li_8, li_9, li_10, li_12, li_21, li_24, li_31, li_60, li_63, li_127, li_128, li_256, li_312, li_384, nI_add, nu_mul, nu_sub, nu_div, nu_and, nu_or, nu_shr, nu_bit, nu_diff, bi_2, nI_leI, nI_ltI, nI_eq, vp_in_nI, nI_clamp, ar_na, ar_ba, bo_0, bo_1, bo_it, bo_if, bo_w, bo_w0, bo_w1, bo_nar, bo_n1, bo_nn0, st_bu, st_bu1, st_bu0, st_nu, forall_eq, true_implies, false_implies, forall_const, not_true_eq_false, not_false_eq_true, and_true, true_and, implies_true, and_self, Bool.false_eq_true, Bool.true_eq_false, reduceCtorEq, ite_true, ite_false, if_true, if_false, eq_self, Nat.zero_add, Nat.add_zero, Nat.le_refl, Nat.lt_irrefl, Nat.reduceEqDiff, Nat.reduceLeDiff, Nat.reduceLT, Nat.reduceAdd, Nat.reduceMul, Nat.reduceSub, wY_votes_70, wY_votes_108, hm', cm_24, yc_size, z, mn_8, mn_lt (show sz_ m < 8 by omega), yc_isEnough H hb hbb hp, e, decide_true, Bool.and_self]
    · simp (disch := first | omega | assumption) only [li_0, li_1, li_2, li_3, li_4, li_6, li_7, li_8, li_9, li_10, li_12, li_21, li_24, li_31, li_60, li_63, li_127, li_128, li_256, li_312, li_384, nI_add, nu_mul, nu_sub, nu_div, nu_and, nu_or, nu_shr, nu_bit, nu_diff, bi_2, nI_leI, nI_ltI, nI_eq, vp_in_nI, nI_clamp, ar_na, ar_ba, bo_0, bo_1, bo_it, bo_if, bo_w, bo_w0, bo_w1, bo_nar, bo_n1, bo_nn0, st_bu, st_bu1, st_bu0, st_nu, forall_eq, true_implies, false_implies, forall_const, not_true_eq_false, not_false_eq_true, and_true, true_and, implies_true, and_self, Bool.false_eq_true, Bool.true_eq_false, reduceCtorEq, ite_true, ite_false, if_true, if_false, eq_self, Nat.zero_add, Nat.add_zero, Nat.le_refl, Nat.lt_irrefl, Nat.reduceEqDiff, Nat.reduceLeDiff, Nat.reduceLT, Nat.reduceAdd, Nat.reduceMul, Nat.reduceSub, wY_votes_70, hm', yc_size, z, decide_false, Bool.false_and]
end
end
section
/-! the owed ones that only read -/
section
variable {bg : Nat} {df iq tb up fa co fr dn : Nat → Bool} {op ov sp sv qb qi qj qv ql so ba an pk kv vo kn : Nat → Nat} {srt num : Nat → Int32}
variable {post : Int32 → Prop} {x y z : Int32} {s k t m n i a b v f l : Nat}
theorem in_sp (H : in_all bg df iq up fr dn op ov sp sv qb qi qj qv ql so ba an pk kv vo kn srt num) : ∀ n, n < 7 → sp n ≤ 12 := by
  obtain ⟨hb, hs, hbb, hp, hv, hc, hq, ho, ha, hd⟩ := H
  intro n hn
  have := (hq n hn).2.1
  omega
theorem vo_lt {bg : Nat} {pk : Nat → Nat} {i x : Nat} (hb : bg ≤ 12) (h : vo_ bg pk i x) : x < 104 := by
  rcases h with h | ⟨h1, h2, h3, h4⟩ <;> omega
theorem in_sv (H : in_all bg df iq up fr dn op ov sp sv qb qi qj qv ql so ba an pk kv vo kn srt num) : ∀ i, i < 3 → ∀ n, n < 7 → sp n ≤ 12 ∧ sv (n * 3 + i) < 128 := by
  intro i hi n hn
  refine ⟨in_sp H n hn, ?_⟩
  obtain ⟨hb, hs, hbb, hp, hv, hc, hq, ho, ha, hd⟩ := H
  have := vo_lt hb (hv.1 n i hn hi)
  omega
def va_tally (bg : Nat) (vo : Nat → Nat) (x y z : Int32) : Int32 := if (iz 1 bg x && iz 0 2 y && iz 1 7 z) = true then nI (vo ((cl_ x * 3 + cl_ y) * 8 + cl_ z)) else -nI 1
theorem xc_tally (hb : bg ≤ 12) : wpX_tally post (nI bg, ar_b df, ar_b iq, ar_b tb, ar_b up, ar_n op, ar_n ov, ar_n sp, ar_n sv, ar_n qb, ar_n qi, ar_n qv, ar_n ql, ar_n so, ar_b fa, ar_n ba, ar_n an, ar_b co, pc_x pk, ar_b fr, ar_n kv, ar_n vo, ar_n kn) x y z ↔ post (va_tally bg vo x y z) := by
  unfold va_tally
  rcases iz_c 1 bg x with h | ⟨j, h1, h2, h3, rfl, h⟩
  · simp (disch := first | omega | assumption) only [li_0, li_1, li_2, li_3, li_4, li_6, li_7, li_8, li_9, li_10, li_12, li_21, li_24, li_31, li_60, li_63, li_127, li_128, li_256, li_312, li_384, nI_add, nu_mul, nu_sub, nu_div, nu_and, nu_or, nu_shr, nu_bit, nu_diff, bi_2, nI_leI, nI_ltI, nI_eq, vp_in_nI, nI_clamp, ar_na, ar_ba, bo_0, bo_1, bo_it, bo_if, bo_w, bo_w0, bo_w1, bo_nar, bo_n1, bo_nn0, st_bu, st_bu1, st_bu0, st_nu, forall_eq, true_implies, false_implies, forall_const, not_true_eq_false, not_false_eq_true, and_true, true_and, implies_true, and_self, Bool.false_eq_true, Bool.true_eq_false, reduceCtorEq, ite_true, ite_false, if_true, if_false, eq_self, Nat.zero_add, Nat.add_zero, Nat.le_refl, Nat.lt_irrefl, Nat.reduceEqDiff, Nat.reduceLeDiff, Nat.reduceLT, Nat.reduceAdd, Nat.reduceMul, Nat.reduceSub, wpX_tally, xc_isBallot, h, Bool.false_and]
  · rcases iz_c 0 2 y with g | ⟨i, g1, g2, g3, rfl, g⟩
    · simp (disch := first | omega | assumption) only [li_0, li_1, li_2, li_3, li_4, li_6, li_7, li_8, li_9, li_10, li_12, li_21, li_24, li_31, li_60, li_63, li_127, li_128, li_256, li_312, li_384, nI_add, nu_mul, nu_sub, nu_div, nu_and, nu_or, nu_shr, nu_bit, nu_diff, bi_2, nI_leI, nI_ltI, nI_eq, vp_in_nI, nI_clamp, ar_na, ar_ba, bo_0, bo_1, bo_it, bo_if, bo_w, bo_w0, bo_w1, bo_nar, bo_n1, bo_nn0, st_bu, st_bu1, st_bu0, st_nu, forall_eq, true_implies, false_implies, forall_const, not_true_eq_false, not_false_eq_true, and_true, true_and, implies_true, and_self, Bool.false_eq_true, Bool.true_eq_false, reduceCtorEq, ite_true, ite_false, if_true, if_false, eq_self, Nat.zero_add, Nat.add_zero, Nat.le_refl, Nat.lt_irrefl, Nat.reduceEqDiff, Nat.reduceLeDiff, Nat.reduceLT, Nat.reduceAdd, Nat.reduceMul, Nat.reduceSub, wpX_tally, xc_isBallot, xc_isInstance, h, g, Bool.and_false, Bool.false_and]
    · rcases iz_c 1 7 z with e | ⟨v, e1, e2, e3, rfl, e⟩
      · simp (disch := first | omega | assumption) only [li_0, li_1, li_2, li_3, li_4, li_6, li_7, li_8, li_9, li_10, li_12, li_21, li_24, li_31, li_60, li_63, li_127, li_128, li_256, li_312, li_384, nI_add, nu_mul, nu_sub, nu_div, nu_and, nu_or, nu_shr, nu_bit, nu_diff, bi_2, nI_leI, nI_ltI, nI_eq, vp_in_nI, nI_clamp, ar_na, ar_ba, bo_0, bo_1, bo_it, bo_if, bo_w, bo_w0, bo_w1, bo_nar, bo_n1, bo_nn0, st_bu, st_bu1, st_bu0, st_nu, forall_eq, true_implies, false_implies, forall_const, not_true_eq_false, not_false_eq_true, and_true, true_and, implies_true, and_self, Bool.false_eq_true, Bool.true_eq_false, reduceCtorEq, ite_true, ite_false, if_true, if_false, eq_self, Nat.zero_add, Nat.add_zero, Nat.le_refl, Nat.lt_irrefl, Nat.reduceEqDiff, Nat.reduceLeDiff, Nat.reduceLT, Nat.reduceAdd, Nat.reduceMul, Nat.reduceSub, wpX_tally, xc_isBallot, xc_isInstance, xc_isValue, h, g, e, Bool.and_false]
      · simp (disch := first | omega | assumption) only [li_0, li_1, li_2, li_3, li_4, li_6, li_7, li_8, li_9, li_10, li_12, li_21, li_24, li_31, li_60, li_63, li_127, li_128, li_256, li_312, li_384, nI_add, nu_mul, nu_sub, nu_div, nu_and, nu_or, nu_shr, nu_bit, nu_diff, bi_2, nI_leI, nI_ltI, nI_eq, vp_in_nI, nI_clamp, ar_na, ar_ba, bo_0, bo_1, bo_it, bo_if, bo_w, bo_w0, bo_w1, bo_nar, bo_n1, bo_nn0, st_bu, st_bu1, st_bu0, st_nu, forall_eq, true_implies, false_implies, forall_const, not_true_eq_false, not_false_eq_true, and_true, true_and, implies_true, and_self, Bool.false_eq_true, Bool.true_eq_false, reduceCtorEq, ite_true, ite_false, if_true, if_false, eq_self, Nat.zero_add, Nat.add_zero, Nat.le_refl, Nat.lt_irrefl, Nat.reduceEqDiff, Nat.reduceLeDiff, Nat.reduceLT, Nat.reduceAdd, Nat.reduceMul, Nat.reduceSub, wpX_tally, xc_isBallot, xc_isInstance, xc_isValue, xc_tallyCell, h, g, e, cl_n, Bool.and_self]
theorem yc_tally (hb : bg ≤ 12) : wpY_tally post (nI bg, srt, num, ar_n so, ar_n ba, ar_n an, pc_y pk, ar_n kv, ar_b fa, ar_b co, ar_b fr, ar_b dn, ar_n sp, ar_n sv, ar_n ql, ar_n qb, ar_n qj, ar_n qv, ar_n vo, ar_n kn) x y z ↔ post (va_tally bg vo x y z) := by
  unfold va_tally
  rcases iz_c 1 bg x with h | ⟨j, h1, h2, h3, rfl, h⟩
  · simp (disch := first | omega | assumption) only [li_0, li_1, li_2, li_3, li_4, li_6, li_7, li_8, li_9, li_10, li_12, li_21, li_24, li_31, li_60, li_63, li_127, li_128, li_256, li_312, li_384, nI_add, nu_mul, nu_sub, nu_div, nu_and, nu_or, nu_shr, nu_bit, nu_diff, bi_2, nI_leI, nI_ltI, nI_eq, vp_in_nI, nI_clamp, ar_na, ar_ba, bo_0, bo_1, bo_it, bo_if, bo_w, bo_w0, bo_w1, bo_nar, bo_n1, bo_nn0, st_bu, st_bu1, st_bu0, st_nu, forall_eq, true_implies, false_implies, forall_const, not_true_eq_false, not_false_eq_true, and_true, true_and, implies_true, and_self, Bool.false_eq_true, Bool.true_eq_false, reduceCtorEq, ite_true, ite_false, if_true, if_false, eq_self, Nat.zero_add, Nat.add_zero, Nat.le_refl, Nat.lt_irrefl, Nat.reduceEqDiff, Nat.reduceLeDiff, Nat.reduceLT, Nat.reduceAdd, Nat.reduceMul, Nat.reduceSub, wpY_tally, yc_isBallot, h, Bool.false_and]
  · rcases iz_c 0 2 y with g | ⟨i, g1, g2, g3, rfl, g⟩
    · simp (disch := first | omega | assumption) only [li_0, li_1, li_2, li_3, li_4, li_6, li_7, li_8, li_9, li_10, li_12, li_21, li_24, li_31, li_60, li_63, li_127, li_128, li_256, li_312, li_384, nI_add, nu_mul, nu_sub, nu_div, nu_and, nu_or, nu_shr, nu_bit, nu_diff, bi_2, nI_leI, nI_ltI, nI_eq, vp_in_nI, nI_clamp, ar_na, ar_ba, bo_0, bo_1, bo_it, bo_if, bo_w, bo_w0, bo_w1, bo_nar, bo_n1, bo_nn0, st_bu, st_bu1, st_bu0, st_nu, forall_eq, true_implies, false_implies, forall_const, not_true_eq_false, not_false_eq_true, and_true, true_and, implies_true, and_self, Bool.false_eq_true, Bool.true_eq_false, reduceCtorEq, ite_true, ite_false, if_true, if_false, eq_self, Nat.zero_add, Nat.add_zero, Nat.le_refl, Nat.lt_irrefl, Nat.reduceEqDiff, Nat.reduceLeDiff, Nat.reduceLT, Nat.reduceAdd, Nat.reduceMul, Nat.reduceSub, wpY_tally, yc_isBallot, yc_in, h, g, Bool.and_false, Bool.false_and]
    · rcases iz_c 1 7 z with e | ⟨v, e1, e2, e3, rfl, e⟩
      · simp (disch := first | omega | assumption) only [li_0, li_1, li_2, li_3, li_4, li_6, li_7, li_8, li_9, li_10, li_12, li_21, li_24, li_31, li_60, li_63, li_127, li_128, li_256, li_312, li_384, nI_add, nu_mul, nu_sub, nu_div, nu_and, nu_or, nu_shr, nu_bit, nu_diff, bi_2, nI_leI, nI_ltI, nI_eq, vp_in_nI, nI_clamp, ar_na, ar_ba, bo_0, bo_1, bo_it, bo_if, bo_w, bo_w0, bo_w1, bo_nar, bo_n1, bo_nn0, st_bu, st_bu1, st_bu0, st_nu, forall_eq, true_implies, false_implies, forall_const, not_true_eq_false, not_false_eq_true, and_true, true_and, implies_true, and_self, Bool.false_eq_true, Bool.true_eq_false, reduceCtorEq, ite_true, ite_false, if_true, if_false, eq_self, Nat.zero_add, Nat.add_zero, Nat.le_refl, Nat.lt_irrefl, Nat.reduceEqDiff, Nat.reduceLeDiff, Nat.reduceLT, Nat.reduceAdd, Nat.reduceMul, Nat.reduceSub, wpY_tally, yc_isBallot, yc_in, h, g, e, Bool.and_false]
      · simp (disch := first | omega | assumption) only [li_0, li_1, li_2, li_3, li_4, li_6, li_7, li_8, li_9, li_10, li_12, li_21, li_24, li_31, li_60, li_63, li_127, li_128, li_256, li_312, li_384, nI_add, nu_mul, nu_sub, nu_div, nu_and, nu_or, nu_shr, nu_bit, nu_diff, bi_2, nI_leI, nI_ltI, nI_eq, vp_in_nI, nI_clamp, ar_na, ar_ba, bo_0, bo_1, bo_it, bo_if, bo_w, bo_w0, bo_w1, bo_nar, bo_n1, bo_nn0, st_bu, st_bu1, st_bu0, st_nu, forall_eq, true_implies, false_implies, forall_const, not_true_eq_false, not_false_eq_true, and_true, true_and, implies_true, and_self, Bool.false_eq_true, Bool.true_eq_false, reduceCtorEq, ite_true, ite_false, if_true, if_false, eq_self, Nat.zero_add, Nat.add_zero, Nat.le_refl, Nat.lt_irrefl, Nat.reduceEqDiff, Nat.reduceLeDiff, Nat.reduceLT, Nat.reduceAdd, Nat.reduceMul, Nat.reduceSub, wpY_tally, yc_isBallot, yc_in, h, g, e, cl_n, Bool.and_self, cm_24]
def va_chosen (bg : Nat) (iq : Nat → Bool) (so pk vo : Nat → Nat) (x : Int32) : Int32 := if iz 0 2 x = true then nI (le_ bg iq so pk (cl_ x) (fun b v => vo ((b * 3 + cl_ x) * 8 + v))) else -nI 1
theorem xc_chosen (H : in_all bg df iq up fr dn op ov sp sv qb qi qj qv ql so ba an pk kv vo kn srt num) : wpX_chosen post (nI bg, ar_b df, ar_b iq, ar_b tb, ar_b up, ar_n op, ar_n ov, ar_n sp, ar_n sv, ar_n qb, ar_n qi, ar_n qv, ar_n ql, ar_n so, ar_b fa, ar_n ba, ar_n an, ar_b co, pc_x pk, ar_b fr, ar_n kv, ar_n vo, ar_n kn) x ↔ post (va_chosen bg iq so pk vo x) := by
  obtain ⟨hb, hs, hbb, hp, hv, hc, hq, ho, ha, hd⟩ := H
  unfold va_chosen
  rcases iz_c 0 2 x with h | ⟨j, h1, h2, h3, rfl, h⟩
  · simp (disch := first | omega | assumption) only [li_0, li_1, li_2, li_3, li_4, li_6, li_7, li_8, li_9, li_10, li_12, li_21, li_24, li_31, li_60, li_63, li_127, li_128, li_256, li_312, li_384, nI_add, nu_mul, nu_sub, nu_div, nu_and, nu_or, nu_shr, nu_bit, nu_diff, bi_2, nI_leI, nI_ltI, nI_eq, vp_in_nI, nI_clamp, ar_na, ar_ba, bo_0, bo_1, bo_it, bo_if, bo_w, bo_w0, bo_w1, bo_nar, bo_n1, bo_nn0, st_bu, st_bu1, st_bu0, st_nu, forall_eq, true_implies, false_implies, forall_const, not_true_eq_false, not_false_eq_true, and_true, true_and, implies_true, and_self, Bool.false_eq_true, Bool.true_eq_false, reduceCtorEq, ite_true, ite_false, if_true, if_false, eq_self, Nat.zero_add, Nat.add_zero, Nat.le_refl, Nat.lt_irrefl, Nat.reduceEqDiff, Nat.reduceLeDiff, Nat.reduceLT, Nat.reduceAdd, Nat.reduceMul, Nat.reduceSub, wpX_chosen, xc_isInstance, h]
  · simp (disch := first | omega | assumption) only [li_0, li_1, li_2, li_3, li_4, li_6, li_7, li_8, li_9, li_10, li_12, li_21, li_24, li_31, li_60, li_63, li_127, li_128, li_256, li_312, li_384, nI_add, nu_mul, nu_sub, nu_div, nu_and, nu_or, nu_shr, nu_bit, nu_diff, bi_2, nI_leI, nI_ltI, nI_eq, vp_in_nI, nI_clamp, ar_na, ar_ba, bo_0, bo_1, bo_it, bo_if, bo_w, bo_w0, bo_w1, bo_nar, bo_n1, bo_nn0, st_bu, st_bu1, st_bu0, st_nu, forall_eq, true_implies, false_implies, forall_const, not_true_eq_false, not_false_eq_true, and_true, true_and, implies_true, and_self, Bool.false_eq_true, Bool.true_eq_false, reduceCtorEq, ite_true, ite_false, if_true, if_false, eq_self, Nat.zero_add, Nat.add_zero, Nat.le_refl, Nat.lt_irrefl, Nat.reduceEqDiff, Nat.reduceLeDiff, Nat.reduceLT, Nat.reduceAdd, Nat.reduceMul, Nat.reduceSub, wpX_chosen, xc_isInstance, h, xc_leV hb hbb hp hc, cl_n]
theorem yc_chosen (H : in_all bg df iq up fr dn op ov sp sv qb qi qj qv ql so ba an pk kv vo kn srt num) : wpY_chosen post (nI bg, srt, num, ar_n so, ar_n ba, ar_n an, pc_y pk, ar_n kv, ar_b fa, ar_b co, ar_b fr, ar_b dn, ar_n sp, ar_n sv, ar_n ql, ar_n qb, ar_n qj, ar_n qv, ar_n vo, ar_n kn) x ↔ post (va_chosen bg iq so pk vo x) := by
  obtain ⟨hb, hs, hbb, hp, hv, hc, hq, ho, ha, hd⟩ := H
  unfold va_chosen
  rcases iz_c 0 2 x with h | ⟨j, h1, h2, h3, rfl, h⟩
  · simp (disch := first | omega | assumption) only [li_0, li_1, li_2, li_3, li_4, li_6, li_7, li_8, li_9, li_10, li_12, li_21, li_24, li_31, li_60, li_63, li_127, li_128, li_256, li_312, li_384, nI_add, nu_mul, nu_sub, nu_div, nu_and, nu_or, nu_shr, nu_bit, nu_diff, bi_2, nI_leI, nI_ltI, nI_eq, vp_in_nI, nI_clamp, ar_na, ar_ba, bo_0, bo_1, bo_it, bo_if, bo_w, bo_w0, bo_w1, bo_nar, bo_n1, bo_nn0, st_bu, st_bu1, st_bu0, st_nu, forall_eq, true_implies, false_implies, forall_const, not_true_eq_false, not_false_eq_true, and_true, true_and, implies_true, and_self, Bool.false_eq_true, Bool.true_eq_false, reduceCtorEq, ite_true, ite_false, if_true, if_false, eq_self, Nat.zero_add, Nat.add_zero, Nat.le_refl, Nat.lt_irrefl, Nat.reduceEqDiff, Nat.reduceLeDiff, Nat.reduceLT, Nat.reduceAdd, Nat.reduceMul, Nat.reduceSub, wpY_chosen, yc_in, h]
  · simp (disch := first | omega | assumption) only [li_0, li_1, li_2, li_3, li_4, li_6, li_7, li_8, li_9, li_10, li_12, li_21, li_24, li_31, li_60, li_63, li_127, li_128, li_256, li_312, li_384, nI_add, nu_mul, nu_sub, nu_div, nu_and, nu_or, nu_shr, nu_bit, nu_diff, bi_2, nI_leI, nI_ltI, nI_eq, vp_in_nI, nI_clamp, ar_na, ar_ba, bo_0, bo_1, bo_it, bo_if, bo_w, bo_w0, bo_w1, bo_nar, bo_n1, bo_nn0, st_bu, st_bu1, st_bu0, st_nu, forall_eq, true_implies, false_implies, forall_const, not_true_eq_false, not_false_eq_true, and_true, true_and, implies_true, and_self, Bool.false_eq_true, Bool.true_eq_false, reduceCtorEq, ite_true, ite_false, if_true, if_false, eq_self, Nat.zero_add, Nat.add_zero, Nat.le_refl, Nat.lt_irrefl, Nat.reduceEqDiff, Nat.reduceLeDiff, Nat.reduceLT, Nat.reduceAdd, Nat.reduceMul, Nat.reduceSub, wpY_chosen, yc_in, h, cl_n]
    exact yc_chosen13 hs hb hbb hp hc (by omega)
def va_learned (bg : Nat) (iq : Nat → Bool) (so pk kn : Nat → Nat) (x y : Int32) : Int32 := if (iz 0 1 x && iz 0 2 y) = true then nI (le_ bg iq so pk (cl_ y) (fun b v => kn (cl_ x * 312 + ((b * 3 + cl_ y) * 8 + v)))) else -nI 1
theorem xc_learned (H : in_all bg df iq up fr dn op ov sp sv qb qi qj qv ql so ba an pk kv vo kn srt num) : wpX_learned post (nI bg, ar_b df, ar_b iq, ar_b tb, ar_b up, ar_n op, ar_n ov, ar_n sp, ar_n sv, ar_n qb, ar_n qi, ar_n qv, ar_n ql, ar_n so, ar_b fa, ar_n ba, ar_n an, ar_b co, pc_x pk, ar_b fr, ar_n kv, ar_n vo, ar_n kn) x y ↔ post (va_learned bg iq so pk kn x y) := by
  obtain ⟨hb, hs, hbb, hp, hv, hc, hq, ho, ha, hd⟩ := H
  unfold va_learned
  rcases iz_c 0 1 x with h | ⟨l, h1, h2, h3, rfl, h⟩
  · simp (disch := first | omega | assumption) only [li_0, li_1, li_2, li_3, li_4, li_6, li_7, li_8, li_9, li_10, li_12, li_21, li_24, li_31, li_60, li_63, li_127, li_128, li_256, li_312, li_384, nI_add, nu_mul, nu_sub, nu_div, nu_and, nu_or, nu_shr, nu_bit, nu_diff, bi_2, nI_leI, nI_ltI, nI_eq, vp_in_nI, nI_clamp, ar_na, ar_ba, bo_0, bo_1, bo_it, bo_if, bo_w, bo_w0, bo_w1, bo_nar, bo_n1, bo_nn0, st_bu, st_bu1, st_bu0, st_nu, forall_eq, true_implies, false_implies, forall_const, not_true_eq_false, not_false_eq_true, and_true, true_and, implies_true, and_self, Bool.false_eq_true, Bool.true_eq_false, reduceCtorEq, ite_true, ite_false, if_true, if_false, eq_self, Nat.zero_add, Nat.add_zero, Nat.le_refl, Nat.lt_irrefl, Nat.reduceEqDiff, Nat.reduceLeDiff, Nat.reduceLT, Nat.reduceAdd, Nat.reduceMul, Nat.reduceSub, wpX_learned, xc_isLearner, h, Bool.false_and]
  · rcases iz_c 0 2 y with g | ⟨i, g1, g2, g3, rfl, g⟩
    · simp (disch := first | omega | assumption) only [li_0, li_1, li_2, li_3, li_4, li_6, li_7, li_8, li_9, li_10, li_12, li_21, li_24, li_31, li_60, li_63, li_127, li_128, li_256, li_312, li_384, nI_add, nu_mul, nu_sub, nu_div, nu_and, nu_or, nu_shr, nu_bit, nu_diff, bi_2, nI_leI, nI_ltI, nI_eq, vp_in_nI, nI_clamp, ar_na, ar_ba, bo_0, bo_1, bo_it, bo_if, bo_w, bo_w0, bo_w1, bo_nar, bo_n1, bo_nn0, st_bu, st_bu1, st_bu0, st_nu, forall_eq, true_implies, false_implies, forall_const, not_true_eq_false, not_false_eq_true, and_true, true_and, implies_true, and_self, Bool.false_eq_true, Bool.true_eq_false, reduceCtorEq, ite_true, ite_false, if_true, if_false, eq_self, Nat.zero_add, Nat.add_zero, Nat.le_refl, Nat.lt_irrefl, Nat.reduceEqDiff, Nat.reduceLeDiff, Nat.reduceLT, Nat.reduceAdd, Nat.reduceMul, Nat.reduceSub, wpX_learned, xc_isLearner, xc_isInstance, h, g, Bool.and_false]
    · simp (disch := first | omega | assumption) only [li_0, li_1, li_2, li_3, li_4, li_6, li_7, li_8, li_9, li_10, li_12, li_21, li_24, li_31, li_60, li_63, li_127, li_128, li_256, li_312, li_384, nI_add, nu_mul, nu_sub, nu_div, nu_and, nu_or, nu_shr, nu_bit, nu_diff, bi_2, nI_leI, nI_ltI, nI_eq, vp_in_nI, nI_clamp, ar_na, ar_ba, bo_0, bo_1, bo_it, bo_if, bo_w, bo_w0, bo_w1, bo_nar, bo_n1, bo_nn0, st_bu, st_bu1, st_bu0, st_nu, forall_eq, true_implies, false_implies, forall_const, not_true_eq_false, not_false_eq_true, and_true, true_and, implies_true, and_self, Bool.false_eq_true, Bool.true_eq_false, reduceCtorEq, ite_true, ite_false, if_true, if_false, eq_self, Nat.zero_add, Nat.add_zero, Nat.le_refl, Nat.lt_irrefl, Nat.reduceEqDiff, Nat.reduceLeDiff, Nat.reduceLT, Nat.reduceAdd, Nat.reduceMul, Nat.reduceSub, wpX_learned, xc_isLearner, xc_isInstance, h, g, Bool.and_self, cl_n, xc_leK hb hbb hp hc]
theorem yc_learnedT (H : in_all bg df iq up fr dn op ov sp sv qb qi qj qv ql so ba an pk kv vo kn srt num) : wpY_learned post (nI bg, srt, num, ar_n so, ar_n ba, ar_n an, pc_y pk, ar_n kv, ar_b fa, ar_b co, ar_b fr, ar_b dn, ar_n sp, ar_n sv, ar_n ql, ar_n qb, ar_n qj, ar_n qv, ar_n vo, ar_n kn) x y ↔ post (va_learned bg iq so pk kn x y) := by
  obtain ⟨hb, hs, hbb, hp, hv, hc, hq, ho, ha, hd⟩ := H
  unfold va_learned
  rcases iz_c 0 1 x with h | ⟨l, h1, h2, h3, rfl, h⟩
  · simp (disch := first | omega | assumption) only [li_0, li_1, li_2, li_3, li_4, li_6, li_7, li_8, li_9, li_10, li_12, li_21, li_24, li_31, li_60, li_63, li_127, li_128, li_256, li_312, li_384, nI_add, nu_mul, nu_sub, nu_div, nu_and, nu_or, nu_shr, nu_bit, nu_diff, bi_2, nI_leI, nI_ltI, nI_eq, vp_in_nI, nI_clamp, ar_na, ar_ba, bo_0, bo_1, bo_it, bo_if, bo_w, bo_w0, bo_w1, bo_nar, bo_n1, bo_nn0, st_bu, st_bu1, st_bu0, st_nu, forall_eq, true_implies, false_implies, forall_const, not_true_eq_false, not_false_eq_true, and_true, true_and, implies_true, and_self, Bool.false_eq_true, Bool.true_eq_false, reduceCtorEq, ite_true, ite_false, if_true, if_false, eq_self, Nat.zero_add, Nat.add_zero, Nat.le_refl, Nat.lt_irrefl, Nat.reduceEqDiff, Nat.reduceLeDiff, Nat.reduceLT, Nat.reduceAdd, Nat.reduceMul, Nat.reduceSub, wpY_learned, yc_in, h, Bool.false_and]
  · rcases iz_c 0 2 y with g | ⟨i, g1, g2, g3, rfl, g⟩
    · simp (disch := first | omega | assumption) only [li_0, li_1, li_2, li_3, li_4, li_6, li_7, li_8, li_9, li_10, li_12, li_21, li_24, li_31, li_60, li_63, li_127, li_128, li_256, li_312, li_384, nI_add, nu_mul, nu_sub, nu_div, nu_and, nu_or, nu_shr, nu_bit, nu_diff, bi_2, nI_leI, nI_ltI, nI_eq, vp_in_nI, nI_clamp, ar_na, ar_ba, bo_0, bo_1, bo_it, bo_if, bo_w, bo_w0, bo_w1, bo_nar, bo_n1, bo_nn0, st_bu, st_bu1, st_bu0, st_nu, forall_eq, true_implies, false_implies, forall_const, not_true_eq_false, not_false_eq_true, and_true, true_and, implies_true, and_self, Bool.false_eq_true, Bool.true_eq_false, reduceCtorEq, ite_true, ite_false, if_true, if_false, eq_self, Nat.zero_add, Nat.add_zero, Nat.le_refl, Nat.lt_irrefl, Nat.reduceEqDiff, Nat.reduceLeDiff, Nat.reduceLT, Nat.reduceAdd, Nat.reduceMul, Nat.reduceSub, wpY_learned, yc_in, h, g, Bool.and_false]
    · rw [yc_learned hs hb hbb hp hc (by omega) (by omega)]
      simp (disch := first | omega | assumption) only [li_0, li_1, li_2, li_3, li_4, li_6, li_7, li_8, li_9, li_10, li_12, li_21, li_24, li_31, li_60, li_63, li_127, li_128, li_256, li_312, li_384, nI_add, nu_mul, nu_sub, nu_div, nu_and, nu_or, nu_shr, nu_bit, nu_diff, bi_2, nI_leI, nI_ltI, nI_eq, vp_in_nI, nI_clamp, ar_na, ar_ba, bo_0, bo_1, bo_it, bo_if, bo_w, bo_w0, bo_w1, bo_nar, bo_n1, bo_nn0, st_bu, st_bu1, st_bu0, st_nu, forall_eq, true_implies, false_implies, forall_const, not_true_eq_false, not_false_eq_true, and_true, true_and, implies_true, and_self, Bool.false_eq_true, Bool.true_eq_false, reduceCtorEq, ite_true, ite_false, if_true, if_false, eq_self, Nat.zero_add, Nat.add_zero, Nat.le_refl, Nat.lt_irrefl, Nat.reduceEqDiff, Nat.reduceLeDiff, Nat.reduceLT, Nat.reduceAdd, Nat.reduceMul, Nat.reduceSub, h, g, Bool.and_self, cl_n]
def va_possible (bg : Nat) (iq : Nat → Bool) (so pk sp sv vo : Nat → Nat) (x : Int32) : Int32 := if iz 0 2 x = true then nI (po_ bg iq so pk sp sv vo (cl_ x)) else -nI 1
theorem xc_possible (H : in_all bg df iq up fr dn op ov sp sv qb qi qj qv ql so ba an pk kv vo kn srt num) : wpX_possible post (nI bg, ar_b df, ar_b iq, ar_b tb, ar_b up, ar_n op, ar_n ov, ar_n sp, ar_n sv, ar_n qb, ar_n qi, ar_n qv, ar_n ql, ar_n so, ar_b fa, ar_n ba, ar_n an, ar_b co, pc_x pk, ar_b fr, ar_n kv, ar_n vo, ar_n kn) x ↔ post (va_possible bg iq so pk sp sv vo x) := by
  have hsv := in_sv H
  obtain ⟨hb, hs, hbb, hp, hv, hc, hq, ho, ha, hd⟩ := H
  unfold va_possible
  rcases iz_c 0 2 x with h | ⟨j, h1, h2, h3, rfl, h⟩
  · simp (disch := first | omega | assumption) only [li_0, li_1, li_2, li_3, li_4, li_6, li_7, li_8, li_9, li_10, li_12, li_21, li_24, li_31, li_60, li_63, li_127, li_128, li_256, li_312, li_384, nI_add, nu_mul, nu_sub, nu_div, nu_and, nu_or, nu_shr, nu_bit, nu_diff, bi_2, nI_leI, nI_ltI, nI_eq, vp_in_nI, nI_clamp, ar_na, ar_ba, bo_0, bo_1, bo_it, bo_if, bo_w, bo_w0, bo_w1, bo_nar, bo_n1, bo_nn0, st_bu, st_bu1, st_bu0, st_nu, forall_eq, true_implies, false_implies, forall_const, not_true_eq_false, not_false_eq_true, and_true, true_and, implies_true, and_self, Bool.false_eq_true, Bool.true_eq_false, reduceCtorEq, ite_true, ite_false, if_true, if_false, eq_self, Nat.zero_add, Nat.add_zero, Nat.le_refl, Nat.lt_irrefl, Nat.reduceEqDiff, Nat.reduceLeDiff, Nat.reduceLT, Nat.reduceAdd, Nat.reduceMul, Nat.reduceSub, wpX_possible, xc_isInstance, h]
  · simp (disch := first | omega | assumption) only [li_0, li_1, li_2, li_3, li_4, li_6, li_7, li_8, li_9, li_10, li_12, li_21, li_24, li_31, li_60, li_63, li_127, li_128, li_256, li_312, li_384, nI_add, nu_mul, nu_sub, nu_div, nu_and, nu_or, nu_shr, nu_bit, nu_diff, bi_2, nI_leI, nI_ltI, nI_eq, vp_in_nI, nI_clamp, ar_na, ar_ba, bo_0, bo_1, bo_it, bo_if, bo_w, bo_w0, bo_w1, bo_nar, bo_n1, bo_nn0, st_bu, st_bu1, st_bu0, st_nu, forall_eq, true_implies, false_implies, forall_const, not_true_eq_false, not_false_eq_true, and_true, true_and, implies_true, and_self, Bool.false_eq_true, Bool.true_eq_false, reduceCtorEq, ite_true, ite_false, if_true, if_false, eq_self, Nat.zero_add, Nat.add_zero, Nat.le_refl, Nat.lt_irrefl, Nat.reduceEqDiff, Nat.reduceLeDiff, Nat.reduceLT, Nat.reduceAdd, Nat.reduceMul, Nat.reduceSub, wpX_possible, xc_isInstance, h, cl_n]
    exact xc_possible13 hb hbb hp hc (by omega) (hsv j (by omega))
theorem yc_possible (H : in_all bg df iq up fr dn op ov sp sv qb qi qj qv ql so ba an pk kv vo kn srt num) : wpY_possible post (nI bg, srt, num, ar_n so, ar_n ba, ar_n an, pc_y pk, ar_n kv, ar_b fa, ar_b co, ar_b fr, ar_b dn, ar_n sp, ar_n sv, ar_n ql, ar_n qb, ar_n qj, ar_n qv, ar_n vo, ar_n kn) x ↔ post (va_possible bg iq so pk sp sv vo x) := by
  have hsv := in_sv H
  obtain ⟨hb, hs, hbb, hp, hv, hc, hq, ho, ha, hd⟩ := H
  unfold va_possible
  rcases iz_c 0 2 x with h | ⟨j, h1, h2, h3, rfl, h⟩
  · simp (disch := first | omega | assumption) only [li_0, li_1, li_2, li_3, li_4, li_6, li_7, li_8, li_9, li_10, li_12, li_21, li_24, li_31, li_60, li_63, li_127, li_128, li_256, li_312, li_384, nI_add, nu_mul, nu_sub, nu_div, nu_and, nu_or, nu_shr, nu_bit, nu_diff, bi_2, nI_leI, nI_ltI, nI_eq, vp_in_nI, nI_clamp, ar_na, ar_ba, bo_0, bo_1, bo_it, bo_if, bo_w, bo_w0, bo_w1, bo_nar, bo_n1, bo_nn0, st_bu, st_bu1, st_bu0, st_nu, forall_eq, true_implies, false_implies, forall_const, not_true_eq_false, not_false_eq_true, and_true, true_and, implies_true, and_self, Bool.false_eq_true, Bool.true_eq_false, reduceCtorEq, ite_true, ite_false, if_true, if_false, eq_self, Nat.zero_add, Nat.add_zero, Nat.le_refl, Nat.lt_irrefl, Nat.reduceEqDiff, Nat.reduceLeDiff, Nat.reduceLT, Nat.reduceAdd, Nat.reduceMul, Nat.reduceSub, wpY_possible, yc_in, h]
  · simp (disch := first | omega | assumption) only [li_0, li_1, li_2, li_3, li_4, li_6, li_7, li_8, li_9, li_10, li_12, li_21, li_24, li_31, li_60, li_63, li_127, li_128, li_256, li_312, li_384, nI_add, nu_mul, nu_sub, nu_div, nu_and, nu_or, nu_shr, nu_bit, nu_diff, bi_2, nI_leI, nI_ltI, nI_eq, vp_in_nI, nI_clamp, ar_na, ar_ba, bo_0, bo_1, bo_it, bo_if, bo_w, bo_w0, bo_w1, bo_nar, bo_n1, bo_nn0, st_bu, st_bu1, st_bu0, st_nu, forall_eq, true_implies, false_implies, forall_const, not_true_eq_false, not_false_eq_true, and_true, true_and, implies_true, and_self, Bool.false_eq_true, Bool.true_eq_false, reduceCtorEq, ite_true, ite_false, if_true, if_false, eq_self, Nat.zero_add, Nat.add_zero, Nat.le_refl, Nat.lt_irrefl, Nat.reduceEqDiff, Nat.reduceLeDiff, Nat.reduceLT, Nat.reduceAdd, Nat.reduceMul, Nat.reduceSub, wpY_possible, yc_in, h, cl_n]
    exact yc_possible15 hs hb hbb hp hc (by omega) (hsv j (by omega))
def va_answers (bg : Nat) (iq : Nat → Bool) (so ba an sp : Nat → Nat) (x : Int32) : Int32 := if iz 1 bg x = true then mn_ (aw_ iq so ba an sp (cl_ x)) else -nI 1
theorem xc_answers (H : in_all bg df iq up fr dn op ov sp sv qb qi qj qv ql so ba an pk kv vo kn srt num) : wpX_answers post (nI bg, ar_b df, ar_b iq, ar_b tb, ar_b up, ar_n op, ar_n ov, ar_n sp, ar_n sv, ar_n qb, ar_n qi, ar_n qv, ar_n ql, ar_n so, ar_b fa, ar_n ba, ar_n an, ar_b co, pc_x pk, ar_b fr, ar_n kv, ar_n vo, ar_n kn) x ↔ post (va_answers bg iq so ba an sp x) := by
  have hsp := in_sp H
  obtain ⟨hb, hs, hbb, hp, hv, hc, hq, ho, ha, hd⟩ := H
  unfold va_answers
  rcases iz_c 1 bg x with h | ⟨j, h1, h2, h3, rfl, h⟩
  · simp (disch := first | omega | assumption) only [li_0, li_1, li_2, li_3, li_4, li_6, li_7, li_8, li_9, li_10, li_12, li_21, li_24, li_31, li_60, li_63, li_127, li_128, li_256, li_312, li_384, nI_add, nu_mul, nu_sub, nu_div, nu_and, nu_or, nu_shr, nu_bit, nu_diff, bi_2, nI_leI, nI_ltI, nI_eq, vp_in_nI, nI_clamp, ar_na, ar_ba, bo_0, bo_1, bo_it, bo_if, bo_w, bo_w0, bo_w1, bo_nar, bo_n1, bo_nn0, st_bu, st_bu1, st_bu0, st_nu, forall_eq, true_implies, false_implies, forall_const, not_true_eq_false, not_false_eq_true, and_true, true_and, implies_true, and_self, Bool.false_eq_true, Bool.true_eq_false, reduceCtorEq, ite_true, ite_false, if_true, if_false, eq_self, Nat.zero_add, Nat.add_zero, Nat.le_refl, Nat.lt_irrefl, Nat.reduceEqDiff, Nat.reduceLeDiff, Nat.reduceLT, Nat.reduceAdd, Nat.reduceMul, Nat.reduceSub, wpX_answers, xc_isBallot, h]
  · simp (disch := first | omega | assumption) only [li_0, li_1, li_2, li_3, li_4, li_6, li_7, li_8, li_9, li_10, li_12, li_21, li_24, li_31, li_60, li_63, li_127, li_128, li_256, li_312, li_384, nI_add, nu_mul, nu_sub, nu_div, nu_and, nu_or, nu_shr, nu_bit, nu_diff, bi_2, nI_leI, nI_ltI, nI_eq, vp_in_nI, nI_clamp, ar_na, ar_ba, bo_0, bo_1, bo_it, bo_if, bo_w, bo_w0, bo_w1, bo_nar, bo_n1, bo_nn0, st_bu, st_bu1, st_bu0, st_nu, forall_eq, true_implies, false_implies, forall_const, not_true_eq_false, not_false_eq_true, and_true, true_and, implies_true, and_self, Bool.false_eq_true, Bool.true_eq_false, reduceCtorEq, ite_true, ite_false, if_true, if_false, eq_self, Nat.zero_add, Nat.add_zero, Nat.le_refl, Nat.lt_irrefl, Nat.reduceEqDiff, Nat.reduceLeDiff, Nat.reduceLT, Nat.reduceAdd, Nat.reduceMul, Nat.reduceSub, wpX_answers, xc_isBallot, h, cl_n]
    exact xc_answers14 hb hbb hc ha hsp h1 h2
theorem yc_answers (H : in_all bg df iq up fr dn op ov sp sv qb qi qj qv ql so ba an pk kv vo kn srt num) : wpY_answers post (nI bg, srt, num, ar_n so, ar_n ba, ar_n an, pc_y pk, ar_n kv, ar_b fa, ar_b co, ar_b fr, ar_b dn, ar_n sp, ar_n sv, ar_n ql, ar_n qb, ar_n qj, ar_n qv, ar_n vo, ar_n kn) x ↔ post (va_answers bg iq so ba an sp x) := by
  have hsp := in_sp H
  obtain ⟨hb, hs, hbb, hp, hv, hc, hq, ho, ha, hd⟩ := H
  unfold va_answers
  rcases iz_c 1 bg x with h | ⟨j, h1, h2, h3, rfl, h⟩
  · simp (disch := first | omega | assumption) only [li_0, li_1, li_2, li_3, li_4, li_6, li_7, li_8, li_9, li_10, li_12, li_21, li_24, li_31, li_60, li_63, li_127, li_128, li_256, li_312, li_384, nI_add, nu_mul, nu_sub, nu_div, nu_and, nu_or, nu_shr, nu_bit, nu_diff, bi_2, nI_leI, nI_ltI, nI_eq, vp_in_nI, nI_clamp, ar_na, ar_ba, bo_0, bo_1, bo_it, bo_if, bo_w, bo_w0, bo_w1, bo_nar, bo_n1, bo_nn0, st_bu, st_bu1, st_bu0, st_nu, forall_eq, true_implies, false_implies, forall_const, not_true_eq_false, not_false_eq_true, and_true, true_and, implies_true, and_self, Bool.false_eq_true, Bool.true_eq_false, reduceCtorEq, ite_true, ite_false, if_true, if_false, eq_self, Nat.zero_add, Nat.add_zero, Nat.le_refl, Nat.lt_irrefl, Nat.reduceEqDiff, Nat.reduceLeDiff, Nat.reduceLT, Nat.reduceAdd, Nat.reduceMul, Nat.reduceSub, wpY_answers, yc_isBallot, h]
  · simp (disch := first | omega | assumption) only [li_0, li_1, li_2, li_3, li_4, li_6, li_7, li_8, li_9, li_10, li_12, li_21, li_24, li_31, li_60, li_63, li_127, li_128, li_256, li_312, li_384, nI_add, nu_mul, nu_sub, nu_div, nu_and, nu_or, nu_shr, nu_bit, nu_diff, bi_2, nI_leI, nI_ltI, nI_eq, vp_in_nI, nI_clamp, ar_na, ar_ba, bo_0, bo_1, bo_it, bo_if, bo_w, bo_w0, bo_w1, bo_nar, bo_n1, bo_nn0, st_bu, st_bu1, st_bu0, st_nu, forall_eq, true_implies, false_implies, forall_const, not_true_eq_false, not_false_eq_true, and_true, true_and, implies_true, and_self, Bool.false_eq_true, Bool.true_eq_false, reduceCtorEq, ite_true, ite_false, if_true, if_false, eq_self, Nat.zero_add, Nat.add_zero, Nat.le_refl, Nat.lt_irrefl, Nat.reduceEqDiff, Nat.reduceLeDiff, Nat.reduceLT, Nat.reduceAdd, Nat.reduceMul, Nat.reduceSub, wpY_answers, yc_isBallot, h, cl_n]
    exact yc_answers14 hs hb hbb hc hsp h1 h2
def va_votes (bg : Nat) (iq : Nat → Bool) (so pk sp sv vo : Nat → Nat) (x y z : Int32) : Int32 := if (iz 1 bg x && iz 0 2 y && iz 1 7 z) = true then (if pk (cl_ x * 3 + cl_ y) = cl_ z + 1 ∨ pk (cl_ x * 3 + cl_ y) = 1 then mn_ (vt_ iq so pk sp sv vo (cl_ x) (cl_ y) (cl_ z)) else -nI 3) else -nI 1
theorem xc_votes (H : in_all bg df iq up fr dn op ov sp sv qb qi qj qv ql so ba an pk kv vo kn srt num) : wpX_votes post (nI bg, ar_b df, ar_b iq, ar_b tb, ar_b up, ar_n op, ar_n ov, ar_n sp, ar_n sv, ar_n qb, ar_n qi, ar_n qv, ar_n ql, ar_n so, ar_b fa, ar_n ba, ar_n an, ar_b co, pc_x pk, ar_b fr, ar_n kv, ar_n vo, ar_n kn) x y z ↔ post (va_votes bg iq so pk sp sv vo x y z) := by
  have hsv := in_sv H
  obtain ⟨hb, hs, hbb, hp, hv, hc, hq, ho, ha, hd⟩ := H
  unfold va_votes
  rcases iz_c 1 bg x with h | ⟨j, h1, h2, h3, rfl, h⟩
  · simp (disch := first | omega | assumption) only [li_0, li_1, li_2, li_3, li_4, li_6, li_7, li_8, li_9, li_10, li_12, li_21, li_24, li_31, li_60, li_63, li_127, li_128, li_256, li_312, li_384, nI_add, nu_mul, nu_sub, nu_div, nu_and, nu_or, nu_shr, nu_bit, nu_diff, bi_2, nI_leI, nI_ltI, nI_eq, vp_in_nI, nI_clamp, ar_na, ar_ba, bo_0, bo_1, bo_it, bo_if, bo_w, bo_w0, bo_w1, bo_nar, bo_n1, bo_nn0, st_bu, st_bu1, st_bu0, st_nu, forall_eq, true_implies, false_implies, forall_const, not_true_eq_false, not_false_eq_true, and_true, true_and, implies_true, and_self, Bool.false_eq_true, Bool.true_eq_false, reduceCtorEq, ite_true, ite_false, if_true, if_false, eq_self, Nat.zero_add, Nat.add_zero, Nat.le_refl, Nat.lt_irrefl, Nat.reduceEqDiff, Nat.reduceLeDiff, Nat.reduceLT, Nat.reduceAdd, Nat.reduceMul, Nat.reduceSub, wpX_votes, xc_isBallot, h, Bool.false_and]
  · rcases iz_c 0 2 y with g | ⟨i, g1, g2, g3, rfl, g⟩
    · simp (disch := first | omega | assumption) only [li_0, li_1, li_2, li_3, li_4, li_6, li_7, li_8, li_9, li_10, li_12, li_21, li_24, li_31, li_60, li_63, li_127, li_128, li_256, li_312, li_384, nI_add, nu_mul, nu_sub, nu_div, nu_and, nu_or, nu_shr, nu_bit, nu_diff, bi_2, nI_leI, nI_ltI, nI_eq, vp_in_nI, nI_clamp, ar_na, ar_ba, bo_0, bo_1, bo_it, bo_if, bo_w, bo_w0, bo_w1, bo_nar, bo_n1, bo_nn0, st_bu, st_bu1, st_bu0, st_nu, forall_eq, true_implies, false_implies, forall_const, not_true_eq_false, not_false_eq_true, and_true, true_and, implies_true, and_self, Bool.false_eq_true, Bool.true_eq_false, reduceCtorEq, ite_true, ite_false, if_true, if_false, eq_self, Nat.zero_add, Nat.add_zero, Nat.le_refl, Nat.lt_irrefl, Nat.reduceEqDiff, Nat.reduceLeDiff, Nat.reduceLT, Nat.reduceAdd, Nat.reduceMul, Nat.reduceSub, wpX_votes, xc_isBallot, xc_isInstance, h, g, Bool.and_false, Bool.false_and]
    · rcases iz_c 1 7 z with e | ⟨v, e1, e2, e3, rfl, e⟩
      · simp (disch := first | omega | assumption) only [li_0, li_1, li_2, li_3, li_4, li_6, li_7, li_8, li_9, li_10, li_12, li_21, li_24, li_31, li_60, li_63, li_127, li_128, li_256, li_312, li_384, nI_add, nu_mul, nu_sub, nu_div, nu_and, nu_or, nu_shr, nu_bit, nu_diff, bi_2, nI_leI, nI_ltI, nI_eq, vp_in_nI, nI_clamp, ar_na, ar_ba, bo_0, bo_1, bo_it, bo_if, bo_w, bo_w0, bo_w1, bo_nar, bo_n1, bo_nn0, st_bu, st_bu1, st_bu0, st_nu, forall_eq, true_implies, false_implies, forall_const, not_true_eq_false, not_false_eq_true, and_true, true_and, implies_true, and_self, Bool.false_eq_true, Bool.true_eq_false, reduceCtorEq, ite_true, ite_false, if_true, if_false, eq_self, Nat.zero_add, Nat.add_zero, Nat.le_refl, Nat.lt_irrefl, Nat.reduceEqDiff, Nat.reduceLeDiff, Nat.reduceLT, Nat.reduceAdd, Nat.reduceMul, Nat.reduceSub, wpX_votes, xc_isBallot, xc_isInstance, xc_isValue, h, g, e, Bool.and_false]
      · have hsv := hsv i (by omega)
        by_cases z : pk (j * 3 + i) = v + 1 ∨ pk (j * 3 + i) = 1
        · have z0 : ¬ pk (j * 3 + i) = 0 := by omega
          simp (disch := first | omega | assumption) only [li_0, li_1, li_2, li_3, li_4, li_6, li_7, li_8, li_9, li_10, li_12, li_21, li_24, li_31, li_60, li_63, li_127, li_128, li_256, li_312, li_384, nI_add, nu_mul, nu_sub, nu_div, nu_and, nu_or, nu_shr, nu_bit, nu_diff, bi_2, nI_leI, nI_ltI, nI_eq, vp_in_nI, nI_clamp, ar_na, ar_ba, bo_0, bo_1, bo_it, bo_if, bo_w, bo_w0, bo_w1, bo_nar, bo_n1, bo_nn0, st_bu, st_bu1, st_bu0, st_nu, forall_eq, true_implies, false_implies, forall_const, not_true_eq_false, not_false_eq_true, and_true, true_and, implies_true, and_self, Bool.false_eq_true, Bool.true_eq_false, reduceCtorEq, ite_true, ite_false, if_true, if_false, eq_self, Nat.zero_add, Nat.add_zero, Nat.le_refl, Nat.lt_irrefl, Nat.reduceEqDiff, Nat.reduceLeDiff, Nat.reduceLT, Nat.reduceAdd, Nat.reduceMul, Nat.reduceSub, wpX_votes, xc_isBallot, xc_isInstance, xc_isValue, xc_tallyCell, h, g, e, cl_n, Bool.and_self, xc_admits hp, z, decide_true, xc_open hp, z0]
          exact xc_votes65 hb hbb hp hc (by omega) h1 h2
        · simp (disch := first | omega | assumption) only [li_0, li_1, li_2, li_3, li_4, li_6, li_7, li_8, li_9, li_10, li_12, li_21, li_24, li_31, li_60, li_63, li_127, li_128, li_256, li_312, li_384, nI_add, nu_mul, nu_sub, nu_div, nu_and, nu_or, nu_shr, nu_bit, nu_diff, bi_2, nI_leI, nI_ltI, nI_eq, vp_in_nI, nI_clamp, ar_na, ar_ba, bo_0, bo_1, bo_it, bo_if, bo_w, bo_w0, bo_w1, bo_nar, bo_n1, bo_nn0, st_bu, st_bu1, st_bu0, st_nu, forall_eq, true_implies, false_implies, forall_const, not_true_eq_false, not_false_eq_true, and_true, true_and, implies_true, and_self, Bool.false_eq_true, Bool.true_eq_false, reduceCtorEq, ite_true, ite_false, if_true, if_false, eq_self, Nat.zero_add, Nat.add_zero, Nat.le_refl, Nat.lt_irrefl, Nat.reduceEqDiff, Nat.reduceLeDiff, Nat.reduceLT, Nat.reduceAdd, Nat.reduceMul, Nat.reduceSub, wpX_votes, xc_isBallot, xc_isInstance, xc_isValue, h, g, e, cl_n, Bool.and_self, xc_admits hp, z, decide_false]
theorem yc_votes (H : in_all bg df iq up fr dn op ov sp sv qb qi qj qv ql so ba an pk kv vo kn srt num) : wpY_votes post (nI bg, srt, num, ar_n so, ar_n ba, ar_n an, pc_y pk, ar_n kv, ar_b fa, ar_b co, ar_b fr, ar_b dn, ar_n sp, ar_n sv, ar_n ql, ar_n qb, ar_n qj, ar_n qv, ar_n vo, ar_n kn) x y z ↔ post (va_votes bg iq so pk sp sv vo x y z) := by
  have hsv := in_sv H
  obtain ⟨hb, hs, hbb, hp, hv, hc, hq, ho, ha, hd⟩ := H
  unfold va_votes
  rcases iz_c 1 bg x with h | ⟨j, h1, h2, h3, rfl, h⟩
  · simp (disch := first | omega | assumption) only [li_0, li_1, li_2, li_3, li_4, li_6, li_7, li_8, li_9, li_10, li_12, li_21, li_24, li_31, li_60, li_63, li_127, li_128, li_256, li_312, li_384, nI_add, nu_mul, nu_sub, nu_div, nu_and, nu_or, nu_shr, nu_bit, nu_diff, bi_2, nI_leI, nI_ltI, nI_eq, vp_in_nI, nI_clamp, ar_na, ar_ba, bo_0, bo_1, bo_it, bo_if, bo_w, bo_w0, bo_w1, bo_nar, bo_n1, bo_nn0, st_bu, st_bu1, st_bu0, st_nu, forall_eq, true_implies, false_implies, forall_const, not_true_eq_false, not_false_eq_true, and_true, true_and, implies_true, and_self, Bool.false_eq_true, Bool.true_eq_false, reduceCtorEq, ite_true, ite_false, if_true, if_false, eq_self, Nat.zero_add, Nat.add_zero, Nat.le_refl, Nat.lt_irrefl, Nat.reduceEqDiff, Nat.reduceLeDiff, Nat.reduceLT, Nat.reduceAdd, Nat.reduceMul, Nat.reduceSub, wpY_votes, yc_isBallot, h, Bool.false_and]
  · rcases iz_c 0 2 y with g | ⟨i, g1, g2, g3, rfl, g⟩
    · simp (disch := first | omega | assumption) only [li_0, li_1, li_2, li_3, li_4, li_6, li_7, li_8, li_9, li_10, li_12, li_21, li_24, li_31, li_60, li_63, li_127, li_128, li_256, li_312, li_384, nI_add, nu_mul, nu_sub, nu_div, nu_and, nu_or, nu_shr, nu_bit, nu_diff, bi_2, nI_leI, nI_ltI, nI_eq, vp_in_nI, nI_clamp, ar_na, ar_ba, bo_0, bo_1, bo_it, bo_if, bo_w, bo_w0, bo_w1, bo_nar, bo_n1, bo_nn0, st_bu, st_bu1, st_bu0, st_nu, forall_eq, true_implies, false_implies, forall_const, not_true_eq_false, not_false_eq_true, and_true, true_and, implies_true, and_self, Bool.false_eq_true, Bool.true_eq_false, reduceCtorEq, ite_true, ite_false, if_true, if_false, eq_self, Nat.zero_add, Nat.add_zero, Nat.le_refl, Nat.lt_irrefl, Nat.reduceEqDiff, Nat.reduceLeDiff, Nat.reduceLT, Nat.reduceAdd, Nat.reduceMul, Nat.reduceSub, wpY_votes, yc_isBallot, yc_in, h, g, Bool.and_false, Bool.false_and]
    · rcases iz_c 1 7 z with e | ⟨v, e1, e2, e3, rfl, e⟩
      · simp (disch := first | omega | assumption) only [li_0, li_1, li_2, li_3, li_4, li_6, li_7, li_8, li_9, li_10, li_12, li_21, li_24, li_31, li_60, li_63, li_127, li_128, li_256, li_312, li_384, nI_add, nu_mul, nu_sub, nu_div, nu_and, nu_or, nu_shr, nu_bit, nu_diff, bi_2, nI_leI, nI_ltI, nI_eq, vp_in_nI, nI_clamp, ar_na, ar_ba, bo_0, bo_1, bo_it, bo_if, bo_w, bo_w0, bo_w1, bo_nar, bo_n1, bo_nn0, st_bu, st_bu1, st_bu0, st_nu, forall_eq, true_implies, false_implies, forall_const, not_true_eq_false, not_false_eq_true, and_true, true_and, implies_true, and_self, Bool.false_eq_true, Bool.true_eq_false, reduceCtorEq, ite_true, ite_false, if_true, if_false, eq_self, Nat.zero_add, Nat.add_zero, Nat.le_refl, Nat.lt_irrefl, Nat.reduceEqDiff, Nat.reduceLeDiff, Nat.reduceLT, Nat.reduceAdd, Nat.reduceMul, Nat.reduceSub, wpY_votes, yc_isBallot, yc_in, h, g, e, Bool.and_false]
      · have hsv := hsv i (by omega)
        have hpk := (hp (j * 3 + i)).1
        rcases (by omega : pk (j * 3 + i) = 0 ∨ pk (j * 3 + i) = 1 ∨ 2 ≤ pk (j * 3 + i)) with w | w | w
        · simp (disch := first | omega | assumption) only [li_0, li_1, li_2, li_3, li_4, li_6, li_7, li_8, li_9, li_10, li_12, li_21, li_24, li_31, li_60, li_63, li_127, li_128, li_256, li_312, li_384, nI_add, nu_mul, nu_sub, nu_div, nu_and, nu_or, nu_shr, nu_bit, nu_diff, bi_2, nI_leI, nI_ltI, nI_eq, vp_in_nI, nI_clamp, ar_na, ar_ba, bo_0, bo_1, bo_it, bo_if, bo_w, bo_w0, bo_w1, bo_nar, bo_n1, bo_nn0, st_bu, st_bu1, st_bu0, st_nu, forall_eq, true_implies, false_implies, forall_const, not_true_eq_false, not_false_eq_true, and_true, true_and, implies_true, and_self, Bool.false_eq_true, Bool.true_eq_false, reduceCtorEq, ite_true, ite_false, if_true, if_false, eq_self, Nat.zero_add, Nat.add_zero, Nat.le_refl, Nat.lt_irrefl, Nat.reduceEqDiff, Nat.reduceLeDiff, Nat.reduceLT, Nat.reduceAdd, Nat.reduceMul, Nat.reduceSub, wpY_votes, yc_isBallot, yc_in, h, g, e, cl_n, Bool.and_self, cm_3, pc_y0 w, ng_1', w, show ¬ 0 = v + 1 by omega, or_self]
        · simp (disch := first | omega | assumption) only [li_0, li_1, li_2, li_3, li_4, li_6, li_7, li_8, li_9, li_10, li_12, li_21, li_24, li_31, li_60, li_63, li_127, li_128, li_256, li_312, li_384, nI_add, nu_mul, nu_sub, nu_div, nu_and, nu_or, nu_shr, nu_bit, nu_diff, bi_2, nI_leI, nI_ltI, nI_eq, vp_in_nI, nI_clamp, ar_na, ar_ba, bo_0, bo_1, bo_it, bo_if, bo_w, bo_w0, bo_w1, bo_nar, bo_n1, bo_nn0, st_bu, st_bu1, st_bu0, st_nu, forall_eq, true_implies, false_implies, forall_const, not_true_eq_false, not_false_eq_true, and_true, true_and, implies_true, and_self, Bool.false_eq_true, Bool.true_eq_false, reduceCtorEq, ite_true, ite_false, if_true, if_false, eq_self, Nat.zero_add, Nat.add_zero, Nat.le_refl, Nat.lt_irrefl, Nat.reduceEqDiff, Nat.reduceLeDiff, Nat.reduceLT, Nat.reduceAdd, Nat.reduceMul, Nat.reduceSub, wpY_votes, wY_votes_55, yc_isBallot, yc_in, h, g, e, cl_n, Bool.and_self, cm_3, pc_ys (show 0 < pk (j * 3 + i) by omega), w, or_true, yc_able]
          exact yc_votes70 hs hb hbb hp hc (by omega) h1 h2 e1 e2
        · have w0 : ¬ pk (j * 3 + i) - 1 = 0 := by omega
          have w1 : ¬ pk (j * 3 + i) = 1 := by omega
          by_cases w2 : pk (j * 3 + i) = v + 1
          · simp (disch := first | omega | assumption) only [li_0, li_1, li_2, li_3, li_4, li_6, li_7, li_8, li_9, li_10, li_12, li_21, li_24, li_31, li_60, li_63, li_127, li_128, li_256, li_312, li_384, nI_add, nu_mul, nu_sub, nu_div, nu_and, nu_or, nu_shr, nu_bit, nu_diff, bi_2, nI_leI, nI_ltI, nI_eq, vp_in_nI, nI_clamp, ar_na, ar_ba, bo_0, bo_1, bo_it, bo_if, bo_w, bo_w0, bo_w1, bo_nar, bo_n1, bo_nn0, st_bu, st_bu1, st_bu0, st_nu, forall_eq, true_implies, false_implies, forall_const, not_true_eq_false, not_false_eq_true, and_true, true_and, implies_true, and_self, Bool.false_eq_true, Bool.true_eq_false, reduceCtorEq, ite_true, ite_false, if_true, if_false, eq_self, Nat.zero_add, Nat.add_zero, Nat.le_refl, Nat.lt_irrefl, Nat.reduceEqDiff, Nat.reduceLeDiff, Nat.reduceLT, Nat.reduceAdd, Nat.reduceMul, Nat.reduceSub, wpY_votes, wY_votes_55, yc_isBallot, yc_in, h, g, e, cl_n, Bool.and_self, cm_3, pc_ys (show 0 < pk (j * 3 + i) by omega), w2, show v + 1 - 1 = v by omega, show ¬ v = 0 by omega, true_or, yc_able]
            exact yc_votes70 hs hb hbb hp hc (by omega) h1 h2 e1 e2
          · simp (disch := first | omega | assumption) only [li_0, li_1, li_2, li_3, li_4, li_6, li_7, li_8, li_9, li_10, li_12, li_21, li_24, li_31, li_60, li_63, li_127, li_128, li_256, li_312, li_384, nI_add, nu_mul, nu_sub, nu_div, nu_and, nu_or, nu_shr, nu_bit, nu_diff, bi_2, nI_leI, nI_ltI, nI_eq, vp_in_nI, nI_clamp, ar_na, ar_ba, bo_0, bo_1, bo_it, bo_if, bo_w, bo_w0, bo_w1, bo_nar, bo_n1, bo_nn0, st_bu, st_bu1, st_bu0, st_nu, forall_eq, true_implies, false_implies, forall_const, not_true_eq_false, not_false_eq_true, and_true, true_and, implies_true, and_self, Bool.false_eq_true, Bool.true_eq_false, reduceCtorEq, ite_true, ite_false, if_true, if_false, eq_self, Nat.zero_add, Nat.add_zero, Nat.le_refl, Nat.lt_irrefl, Nat.reduceEqDiff, Nat.reduceLeDiff, Nat.reduceLT, Nat.reduceAdd, Nat.reduceMul, Nat.reduceSub, wpY_votes, wY_votes_55, yc_isBallot, yc_in, h, g, e, cl_n, Bool.and_self, cm_3, pc_ys (show 0 < pk (j * 3 + i) by omega), w0, w1, w2, show ¬ pk (j * 3 + i) - 1 = v by omega, or_self]
def va_bal (iq fa co fr : Nat → Bool) (so ba an pk : Nat → Nat) (b w : Nat) : Int32 :=
  if w = 0 then nI (so b) else if w = 1 then bo_i (fa b) else if w = 2 then nI (ba b) else if w = 3 then nI (an b) else if w = 4 then bo_i (rd_ iq so ba b (an b)) else if w = 5 then bo_i (co b)
  else if w ≤ 8 then pc_x pk (b * 3 + w - 6) else bo_i (fr (b * 3 + w - 9))
def va_ballot (bg : Nat) (iq fa co fr : Nat → Bool) (so ba an pk : Nat → Nat) (x y : Int32) : Int32 := if (iz 1 bg x && iz 0 11 y) = true then va_bal iq fa co fr so ba an pk (cl_ x) (cl_ y) else -nI 1
theorem li_5 : (5 : Int32) = nI 5 := rfl
theorem li_11 : (11 : Int32) = nI 11 := rfl
theorem xc_ballot (H : in_all bg df iq up fr dn op ov sp sv qb qi qj qv ql so ba an pk kv vo kn srt num) : wpX_ballot post (nI bg, ar_b df, ar_b iq, ar_b tb, ar_b up, ar_n op, ar_n ov, ar_n sp, ar_n sv, ar_n qb, ar_n qi, ar_n qv, ar_n ql, ar_n so, ar_b fa, ar_n ba, ar_n an, ar_b co, pc_x pk, ar_b fr, ar_n kv, ar_n vo, ar_n kn) x y ↔ post (va_ballot bg iq fa co fr so ba an pk x y) := by
  obtain ⟨hb, hs, hbb, hp, hv, hc, hq, ho, ha, hd⟩ := H
  unfold va_ballot
  rcases iz_c 1 bg x with h | ⟨b, h1, h2, h3, rfl, h⟩
  · simp (disch := first | omega | assumption) only [li_0, li_1, li_2, li_3, li_4, li_6, li_7, li_8, li_9, li_10, li_12, li_21, li_24, li_31, li_60, li_63, li_127, li_128, li_256, li_312, li_384, nI_add, nu_mul, nu_sub, nu_div, nu_and, nu_or, nu_shr, nu_bit, nu_diff, bi_2, nI_leI, nI_ltI, nI_eq, vp_in_nI, nI_clamp, ar_na, ar_ba, bo_0, bo_1, bo_it, bo_if, bo_w, bo_w0, bo_w1, bo_nar, bo_n1, bo_nn0, st_bu, st_bu1, st_bu0, st_nu, forall_eq, true_implies, false_implies, forall_const, not_true_eq_false, not_false_eq_true, and_true, true_and, implies_true, and_self, Bool.false_eq_true, Bool.true_eq_false, reduceCtorEq, ite_true, ite_false, if_true, if_false, eq_self, Nat.zero_add, Nat.add_zero, Nat.le_refl, Nat.lt_irrefl, Nat.reduceEqDiff, Nat.reduceLeDiff, Nat.reduceLT, Nat.reduceAdd, Nat.reduceMul, Nat.reduceSub, wpX_ballot, xc_isBallot, h, Bool.false_and]
  · rcases iz_c 0 11 y with g | ⟨w, g1, g2, g3, rfl, g⟩
    · simp (disch := first | omega | assumption) only [li_0, li_1, li_2, li_3, li_4, li_6, li_7, li_8, li_9, li_10, li_12, li_21, li_24, li_31, li_60, li_63, li_127, li_128, li_256, li_312, li_384, nI_add, nu_mul, nu_sub, nu_div, nu_and, nu_or, nu_shr, nu_bit, nu_diff, bi_2, nI_leI, nI_ltI, nI_eq, vp_in_nI, nI_clamp, ar_na, ar_ba, bo_0, bo_1, bo_it, bo_if, bo_w, bo_w0, bo_w1, bo_nar, bo_n1, bo_nn0, st_bu, st_bu1, st_bu0, st_nu, forall_eq, true_implies, false_implies, forall_const, not_true_eq_false, not_false_eq_true, and_true, true_and, implies_true, and_self, Bool.false_eq_true, Bool.true_eq_false, reduceCtorEq, ite_true, ite_false, if_true, if_false, eq_self, Nat.zero_add, Nat.add_zero, Nat.le_refl, Nat.lt_irrefl, Nat.reduceEqDiff, Nat.reduceLeDiff, Nat.reduceLT, Nat.reduceAdd, Nat.reduceMul, Nat.reduceSub, wpX_ballot, xc_isBallot, xc_within, li_11, h, g, Bool.and_false]
    · have han := (hc b).2.2
      rw [cl_n h3, cl_n g3]
      rcases (by omega : w = 0 ∨ w = 1 ∨ w = 2 ∨ w = 3 ∨ w = 4 ∨ w = 5 ∨ w = 6 ∨ w = 7 ∨ w = 8 ∨ w = 9 ∨ w = 10 ∨ w = 11) with rfl | rfl | rfl | rfl | rfl | rfl | rfl | rfl | rfl | rfl | rfl | rfl <;> simp (disch := first | omega | assumption) only [li_0, li_1, li_2, li_3, li_4, li_6, li_7, li_8, li_9, li_10, li_12, li_21, li_24, li_31, li_60, li_63, li_127, li_128, li_256, li_312, li_384, nI_add, nu_mul, nu_sub, nu_div, nu_and, nu_or, nu_shr, nu_bit, nu_diff, bi_2, nI_leI, nI_ltI, nI_eq, vp_in_nI, nI_clamp, ar_na, ar_ba, bo_0, bo_1, bo_it, bo_if, bo_w, bo_w0, bo_w1, bo_nar, bo_n1, bo_nn0, st_bu, st_bu1, st_bu0, st_nu, forall_eq, true_implies, false_implies, forall_const, not_true_eq_false, not_false_eq_true, and_true, true_and, implies_true, and_self, Bool.false_eq_true, Bool.true_eq_false, reduceCtorEq, ite_true, ite_false, if_true, if_false, eq_self, Nat.zero_add, Nat.add_zero, Nat.le_refl, Nat.lt_irrefl, Nat.reduceEqDiff, Nat.reduceLeDiff, Nat.reduceLT, Nat.reduceAdd, Nat.reduceMul, Nat.reduceSub, wpX_ballot, wX_ballot_143, xc_isBallot, xc_within, li_5, li_11, h, g, Bool.and_self, va_bal, xc_ready hb hbb, bo_pq]
theorem yc_ballot (H : in_all bg df iq up fr dn op ov sp sv qb qi qj qv ql so ba an pk kv vo kn srt num) : wpY_ballot post (nI bg, srt, num, ar_n so, ar_n ba, ar_n an, pc_y pk, ar_n kv, ar_b fa, ar_b co, ar_b fr, ar_b dn, ar_n sp, ar_n sv, ar_n ql, ar_n qb, ar_n qj, ar_n qv, ar_n vo, ar_n kn) x y ↔ post (va_ballot bg iq fa co fr so ba an pk x y) := by
  obtain ⟨hb, hs, hbb, hp, hv, hc, hq, ho, ha, hd⟩ := H
  unfold va_ballot
  rcases iz_c 1 bg x with h | ⟨b, h1, h2, h3, rfl, h⟩
  · simp (disch := first | omega | assumption) only [li_0, li_1, li_2, li_3, li_4, li_6, li_7, li_8, li_9, li_10, li_12, li_21, li_24, li_31, li_60, li_63, li_127, li_128, li_256, li_312, li_384, nI_add, nu_mul, nu_sub, nu_div, nu_and, nu_or, nu_shr, nu_bit, nu_diff, bi_2, nI_leI, nI_ltI, nI_eq, vp_in_nI, nI_clamp, ar_na, ar_ba, bo_0, bo_1, bo_it, bo_if, bo_w, bo_w0, bo_w1, bo_nar, bo_n1, bo_nn0, st_bu, st_bu1, st_bu0, st_nu, forall_eq, true_implies, false_implies, forall_const, not_true_eq_false, not_false_eq_true, and_true, true_and, implies_true, and_self, Bool.false_eq_true, Bool.true_eq_false, reduceCtorEq, ite_true, ite_false, if_true, if_false, eq_self, Nat.zero_add, Nat.add_zero, Nat.le_refl, Nat.lt_irrefl, Nat.reduceEqDiff, Nat.reduceLeDiff, Nat.reduceLT, Nat.reduceAdd, Nat.reduceMul, Nat.reduceSub, wpY_ballot, yc_isBallot, h, Bool.false_and]
  · rcases iz_c 0 11 y with g | ⟨w, g1, g2, g3, rfl, g⟩
    · simp (disch := first | omega | assumption) only [li_0, li_1, li_2, li_3, li_4, li_6, li_7, li_8, li_9, li_10, li_12, li_21, li_24, li_31, li_60, li_63, li_127, li_128, li_256, li_312, li_384, nI_add, nu_mul, nu_sub, nu_div, nu_and, nu_or, nu_shr, nu_bit, nu_diff, bi_2, nI_leI, nI_ltI, nI_eq, vp_in_nI, nI_clamp, ar_na, ar_ba, bo_0, bo_1, bo_it, bo_if, bo_w, bo_w0, bo_w1, bo_nar, bo_n1, bo_nn0, st_bu, st_bu1, st_bu0, st_nu, forall_eq, true_implies, false_implies, forall_const, not_true_eq_false, not_false_eq_true, and_true, true_and, implies_true, and_self, Bool.false_eq_true, Bool.true_eq_false, reduceCtorEq, ite_true, ite_false, if_true, if_false, eq_self, Nat.zero_add, Nat.add_zero, Nat.le_refl, Nat.lt_irrefl, Nat.reduceEqDiff, Nat.reduceLeDiff, Nat.reduceLT, Nat.reduceAdd, Nat.reduceMul, Nat.reduceSub, wpY_ballot, yc_isBallot, yc_in, li_11, h, g, Bool.and_false]
    · have han := (hc b).2.2
      rw [cl_n h3, cl_n g3]
      have hpk := (hp (b * 3 + w - 6)).1
      by_cases z : pk (b * 3 + w - 6) = 0
      · have e1 := pc_x0 z
        have e2 := pc_y0 z
        rcases (by omega : w = 0 ∨ w = 1 ∨ w = 2 ∨ w = 3 ∨ w = 4 ∨ w = 5 ∨ w = 6 ∨ w = 7 ∨ w = 8 ∨ w = 9 ∨ w = 10 ∨ w = 11) with rfl | rfl | rfl | rfl | rfl | rfl | rfl | rfl | rfl | rfl | rfl | rfl <;> simp (disch := first | omega | assumption) only [li_0, li_1, li_2, li_3, li_4, li_6, li_7, li_8, li_9, li_10, li_12, li_21, li_24, li_31, li_60, li_63, li_127, li_128, li_256, li_312, li_384, nI_add, nu_mul, nu_sub, nu_div, nu_and, nu_or, nu_shr, nu_bit, nu_diff, bi_2, nI_leI, nI_ltI, nI_eq, vp_in_nI, nI_clamp, ar_na, ar_ba, bo_0, bo_1, bo_it, bo_if, bo_w, bo_w0, bo_w1, bo_nar, bo_n1, bo_nn0, st_bu, st_bu1, st_bu0, st_nu, forall_eq, true_implies, false_implies, forall_const, not_true_eq_false, not_false_eq_true, and_true, true_and, implies_true, and_self, Bool.false_eq_true, Bool.true_eq_false, reduceCtorEq, ite_true, ite_false, if_true, if_false, eq_self, Nat.zero_add, Nat.add_zero, Nat.le_refl, Nat.lt_irrefl, Nat.reduceEqDiff, Nat.reduceLeDiff, Nat.reduceLT, Nat.reduceAdd, Nat.reduceMul, Nat.reduceSub, wpY_ballot, yc_isBallot, yc_in, li_5, li_11, h, g, Bool.and_self, va_bal, yc_isReady hs hb hbb hc, bo_pq, cm_3, e1, e2, ng_n10]
      · have e1 := pc_xs (p := pk) (j := b * 3 + w - 6) (by omega)
        have e2 := pc_ys (p := pk) (j := b * 3 + w - 6) (by omega)
        rcases (by omega : w = 0 ∨ w = 1 ∨ w = 2 ∨ w = 3 ∨ w = 4 ∨ w = 5 ∨ w = 6 ∨ w = 7 ∨ w = 8 ∨ w = 9 ∨ w = 10 ∨ w = 11) with rfl | rfl | rfl | rfl | rfl | rfl | rfl | rfl | rfl | rfl | rfl | rfl <;> simp (disch := first | omega | assumption) only [li_0, li_1, li_2, li_3, li_4, li_6, li_7, li_8, li_9, li_10, li_12, li_21, li_24, li_31, li_60, li_63, li_127, li_128, li_256, li_312, li_384, nI_add, nu_mul, nu_sub, nu_div, nu_and, nu_or, nu_shr, nu_bit, nu_diff, bi_2, nI_leI, nI_ltI, nI_eq, vp_in_nI, nI_clamp, ar_na, ar_ba, bo_0, bo_1, bo_it, bo_if, bo_w, bo_w0, bo_w1, bo_nar, bo_n1, bo_nn0, st_bu, st_bu1, st_bu0, st_nu, forall_eq, true_implies, false_implies, forall_const, not_true_eq_false, not_false_eq_true, and_true, true_and, implies_true, and_self, Bool.false_eq_true, Bool.true_eq_false, reduceCtorEq, ite_true, ite_false, if_true, if_false, eq_self, Nat.zero_add, Nat.add_zero, Nat.le_refl, Nat.lt_irrefl, Nat.reduceEqDiff, Nat.reduceLeDiff, Nat.reduceLT, Nat.reduceAdd, Nat.reduceMul, Nat.reduceSub, wpY_ballot, yc_isBallot, yc_in, li_5, li_11, h, g, Bool.and_self, va_bal, yc_isReady hs hb hbb hc, bo_pq, cm_3, e1, e2, Nat.zero_le]
end
theorem i_vc_tally {k : Nat} {u : SX} {v : SY} (I : i_Rel k u v) (hk : k + 7 ≤ 3584) (v1 : Int32) (v2 : Int32) (v3 : Int32) : wpX_tally (fun r => wpY_tally (fun r' => r' = r ∧ i_Rel (k + 7) u v) v v1 v2 v3) u v1 v2 v3 := by
  have I' : i_Rel (k + 7) u v := I
  obtain ⟨bg, df, iq, tb, up, fa, co, fr, dn, op, ov, sp, sv, qb, qi, qj, qv, ql, so, ba, an, pk, kv, vo, kn, srt, num, rfl, rfl, H⟩ := I
  exact (xc_tally H.1).mpr ((yc_tally H.1).mpr ⟨rfl, I'⟩)
theorem i_vc_chosen {k : Nat} {u : SX} {v : SY} (I : i_Rel k u v) (hk : k + 7 ≤ 3584) (v1 : Int32) : wpX_chosen (fun r => wpY_chosen (fun r' => r' = r ∧ i_Rel (k + 7) u v) v v1) u v1 := by
  have I' : i_Rel (k + 7) u v := I
  obtain ⟨bg, df, iq, tb, up, fa, co, fr, dn, op, ov, sp, sv, qb, qi, qj, qv, ql, so, ba, an, pk, kv, vo, kn, srt, num, rfl, rfl, H⟩ := I
  exact (xc_chosen H).mpr ((yc_chosen H).mpr ⟨rfl, I'⟩)
theorem i_vc_possible {k : Nat} {u : SX} {v : SY} (I : i_Rel k u v) (hk : k + 7 ≤ 3584) (v1 : Int32) : wpX_possible (fun r => wpY_possible (fun r' => r' = r ∧ i_Rel (k + 7) u v) v v1) u v1 := by
  have I' : i_Rel (k + 7) u v := I
  obtain ⟨bg, df, iq, tb, up, fa, co, fr, dn, op, ov, sp, sv, qb, qi, qj, qv, ql, so, ba, an, pk, kv, vo, kn, srt, num, rfl, rfl, H⟩ := I
  exact (xc_possible H).mpr ((yc_possible H).mpr ⟨rfl, I'⟩)
theorem i_vc_learned {k : Nat} {u : SX} {v : SY} (I : i_Rel k u v) (hk : k + 7 ≤ 3584) (v1 : Int32) (v2 : Int32) : wpX_learned (fun r => wpY_learned (fun r' => r' = r ∧ i_Rel (k + 7) u v) v v1 v2) u v1 v2 := by
  have I' : i_Rel (k + 7) u v := I
  obtain ⟨bg, df, iq, tb, up, fa, co, fr, dn, op, ov, sp, sv, qb, qi, qj, qv, ql, so, ba, an, pk, kv, vo, kn, srt, num, rfl, rfl, H⟩ := I
  exact (xc_learned H).mpr ((yc_learnedT H).mpr ⟨rfl, I'⟩)
theorem i_vc_answers {k : Nat} {u : SX} {v : SY} (I : i_Rel k u v) (hk : k + 7 ≤ 3584) (v1 : Int32) : wpX_answers (fun r => wpY_answers (fun r' => r' = r ∧ i_Rel (k + 7) u v) v v1) u v1 := by
  have I' : i_Rel (k + 7) u v := I
  obtain ⟨bg, df, iq, tb, up, fa, co, fr, dn, op, ov, sp, sv, qb, qi, qj, qv, ql, so, ba, an, pk, kv, vo, kn, srt, num, rfl, rfl, H⟩ := I
  exact (xc_answers H).mpr ((yc_answers H).mpr ⟨rfl, I'⟩)
theorem i_vc_votes {k : Nat} {u : SX} {v : SY} (I : i_Rel k u v) (hk : k + 7 ≤ 3584) (v1 : Int32) (v2 : Int32) (v3 : Int32) : wpX_votes (fun r => wpY_votes (fun r' => r' = r ∧ i_Rel (k + 7) u v) v v1 v2 v3) u v1 v2 v3 := by
  have I' : i_Rel (k + 7) u v := I
  obtain ⟨bg, df, iq, tb, up, fa, co, fr, dn, op, ov, sp, sv, qb, qi, qj, qv, ql, so, ba, an, pk, kv, vo, kn, srt, num, rfl, rfl, H⟩ := I
  exact (xc_votes H).mpr ((yc_votes H).mpr ⟨rfl, I'⟩)
theorem i_vc_ballot {k : Nat} {u : SX} {v : SY} (I : i_Rel k u v) (hk : k + 7 ≤ 3584) (v1 : Int32) (v2 : Int32) : wpX_ballot (fun r => wpY_ballot (fun r' => r' = r ∧ i_Rel (k + 7) u v) v v1 v2) u v1 v2 := by
  have I' : i_Rel (k + 7) u v := I
  obtain ⟨bg, df, iq, tb, up, fa, co, fr, dn, op, ov, sp, sv, qb, qi, qj, qv, ql, so, ba, an, pk, kv, vo, kn, srt, num, rfl, rfl, H⟩ := I
  exact (xc_ballot H).mpr ((yc_ballot H).mpr ⟨rfl, I'⟩)
end
section
/-! a node's own promise and votes, its queue; node, ask, vote, propose, power -/
theorem lo_fs {α : Type} {f : Nat → α → α} : ∀ d i a, lo_f f (d + 1) i a = f (i + d) (lo_f f d i a)
  | 0, _, _ => rfl
  | d + 1, i, a => by
    show lo_f f (d + 1) (i + 1) (f i a) = _
    rw [lo_fs d (i + 1), show i + 1 + d = i + (d + 1) by omega]
    rfl
section
variable {bg : Nat} {df iq tb up fa co fr dn : Nat → Bool} {op ov sp sv qb qi qj qv ql so ba an pk kv vo kn : Nat → Nat} {srt num : Nat → Int32}
variable {post : Int32 → Prop} {x y z : Int32} {s k t m n i j a b v f l : Nat}
theorem rc_b (hb : bg ≤ 12) {b i j v : Nat} (h : rc_ bg pk b i j v) : 1 ≤ b ∧ b ≤ 12 ∧ j ≤ 3 ∧ v ≤ 7 := by
  obtain ⟨h1, h2, h3⟩ := h
  rcases h3 with h | h <;> omega
theorem op_le (H : in_all bg df iq up fr dn op ov sp sv qb qi qj qv ql so ba an pk kv vo kn srt num) (hn : n < 7) : op n ≤ bg := by
  obtain ⟨hb, hs, hbb, hp, hv, hc, hq, ho, ha, hd⟩ := H
  obtain ⟨q1, q2, q3, q4⟩ := hq n hn
  rw [(ho n hn).1]
  by_cases z : ql n = 0
  · rw [if_pos z]; exact q2
  · rw [if_neg z]
    obtain ⟨⟨g, g2, _⟩, _⟩ := q4 (ql n - 1) (by omega)
    rw [show n * 6 + ql n - 1 = n * 6 + (ql n - 1) by omega]
    exact g2
theorem ov_lt (H : in_all bg df iq up fr dn op ov sp sv qb qi qj qv ql so ba an pk kv vo kn srt num) (hn : n < 7) (hi : i < 3) : ov (n * 3 + i) < 104 := by
  obtain ⟨hb, hs, hbb, hp, hv, hc, hq, ho, ha, hd⟩ := H
  obtain ⟨q1, q2, q3, q4⟩ := hq n hn
  rw [(ho n hn).2 i hi]
  refine lo_fI (I := fun _ a => a < 104) (ql n) (n * 6) _ ?_ (vo_lt hb (hv.1 n i hn hi))
  intro k a hk1 hk2 h
  split
  · have := rc_b hb (q4 (k - n * 6) (by omega)).1
    rw [show n * 6 + (k - n * 6) = k by omega] at this
    omega
  · exact h
theorem yc_ownPromise (H : in_all bg df iq up fr dn op ov sp sv qb qi qj qv ql so ba an pk kv vo kn srt num) (hn : n < 7) : wpY_ownPromise post (nI bg, srt, num, ar_n so, ar_n ba, ar_n an, pc_y pk, ar_n kv, ar_b fa, ar_b co, ar_b fr, ar_b dn, ar_n sp, ar_n sv, ar_n ql, ar_n qb, ar_n qj, ar_n qv, ar_n vo, ar_n kn) (nI n) ↔ post (nI (op n)) := by
  obtain ⟨hb, hs, hbb, hp, hv, hc, hq, ho, ha, hd⟩ := H
  obtain ⟨q1, q2, q3, q4⟩ := hq n hn
  rw [(ho n hn).1]
  by_cases z : ql n = 0
  · simp (disch := first | omega | assumption) only [li_0, li_1, li_2, li_3, li_4, li_6, li_7, li_8, li_9, li_10, li_12, li_21, li_24, li_31, li_60, li_63, li_127, li_128, li_256, li_312, li_384, nI_add, nu_mul, nu_sub, nu_div, nu_and, nu_or, nu_shr, nu_bit, nu_diff, bi_2, nI_leI, nI_ltI, nI_eq, vp_in_nI, nI_clamp, ar_na, ar_ba, bo_0, bo_1, bo_it, bo_if, bo_w, bo_w0, bo_w1, bo_nar, bo_n1, bo_nn0, st_bu, st_bu1, st_bu0, st_nu, forall_eq, true_implies, false_implies, forall_const, not_true_eq_false, not_false_eq_true, and_true, true_and, implies_true, and_self, Bool.false_eq_true, Bool.true_eq_false, reduceCtorEq, ite_true, ite_false, if_true, if_false, eq_self, Nat.zero_add, Nat.add_zero, Nat.le_refl, Nat.lt_irrefl, Nat.reduceEqDiff, Nat.reduceLeDiff, Nat.reduceLT, Nat.reduceAdd, Nat.reduceMul, Nat.reduceSub, wpY_ownPromise, z]
  · simp (disch := first | omega | assumption) only [li_0, li_1, li_2, li_3, li_4, li_6, li_7, li_8, li_9, li_10, li_12, li_21, li_24, li_31, li_60, li_63, li_127, li_128, li_256, li_312, li_384, nI_add, nu_mul, nu_sub, nu_div, nu_and, nu_or, nu_shr, nu_bit, nu_diff, bi_2, nI_leI, nI_ltI, nI_eq, vp_in_nI, nI_clamp, ar_na, ar_ba, bo_0, bo_1, bo_it, bo_if, bo_w, bo_w0, bo_w1, bo_nar, bo_n1, bo_nn0, st_bu, st_bu1, st_bu0, st_nu, forall_eq, true_implies, false_implies, forall_const, not_true_eq_false, not_false_eq_true, and_true, true_and, implies_true, and_self, Bool.false_eq_true, Bool.true_eq_false, reduceCtorEq, ite_true, ite_false, if_true, if_false, eq_self, Nat.zero_add, Nat.add_zero, Nat.le_refl, Nat.lt_irrefl, Nat.reduceEqDiff, Nat.reduceLeDiff, Nat.reduceLT, Nat.reduceAdd, Nat.reduceMul, Nat.reduceSub, wpY_ownPromise, z, cm_6]
theorem yc_ownVote (H : in_all bg df iq up fr dn op ov sp sv qb qi qj qv ql so ba an pk kv vo kn srt num) (hn : n < 7) (hi : i < 3) : wpY_ownVote post (nI bg, srt, num, ar_n so, ar_n ba, ar_n an, pc_y pk, ar_n kv, ar_b fa, ar_b co, ar_b fr, ar_b dn, ar_n sp, ar_n sv, ar_n ql, ar_n qb, ar_n qj, ar_n qv, ar_n vo, ar_n kn) (nI n) (nI i) ↔ post (nI (ov (n * 3 + i))) := by
  obtain ⟨hb, hs, hbb, hp, hv, hc, hq, ho, ha, hd⟩ := H
  obtain ⟨q1, q2, q3, q4⟩ := hq n hn
  rw [(ho n hn).2 i hi]
  simp (disch := first | omega | assumption) only [li_0, li_1, li_2, li_3, li_4, li_6, li_7, li_8, li_9, li_10, li_12, li_21, li_24, li_31, li_60, li_63, li_127, li_128, li_256, li_312, li_384, nI_add, nu_mul, nu_sub, nu_div, nu_and, nu_or, nu_shr, nu_bit, nu_diff, bi_2, nI_leI, nI_ltI, nI_eq, vp_in_nI, nI_clamp, ar_na, ar_ba, bo_0, bo_1, bo_it, bo_if, bo_w, bo_w0, bo_w1, bo_nar, bo_n1, bo_nn0, st_bu, st_bu1, st_bu0, st_nu, forall_eq, true_implies, false_implies, forall_const, not_true_eq_false, not_false_eq_true, and_true, true_and, implies_true, and_self, Bool.false_eq_true, Bool.true_eq_false, reduceCtorEq, ite_true, ite_false, if_true, if_false, eq_self, Nat.zero_add, Nat.add_zero, Nat.le_refl, Nat.lt_irrefl, Nat.reduceEqDiff, Nat.reduceLeDiff, Nat.reduceLT, Nat.reduceAdd, Nat.reduceMul, Nat.reduceSub, wpY_ownVote, cm_3, cm_6]
  refine lo_fold (W := fun m k a => wY_ownVote_17 post (nI n) (nI i) (nI bg) srt num (ar_n so) (ar_n ba) (ar_n an) (pc_y pk) (ar_n kv) (ar_b fa) (ar_b co) (ar_b fr) (ar_b dn) (ar_n sp) (ar_n sv) (ar_n ql) (ar_n qb) (ar_n qj) (ar_n qv) (ar_n vo) (ar_n kn) m (nI a) (nI k)) (fin := fun a => post (nI a)) (I := fun k _ => n * 6 ≤ k) (e := n * 6 + ql n) _ (fun _ _ h => h) (fun k _ _ _ => by omega) ?_ ?_ (ql n) (n * 6) _ rfl (Nat.le_refl _)
  · intro m a _
    simp (disch := first | omega | assumption) only [li_0, li_1, li_2, li_3, li_4, li_6, li_7, li_8, li_9, li_10, li_12, li_21, li_24, li_31, li_60, li_63, li_127, li_128, li_256, li_312, li_384, nI_add, nu_mul, nu_sub, nu_div, nu_and, nu_or, nu_shr, nu_bit, nu_diff, bi_2, nI_leI, nI_ltI, nI_eq, vp_in_nI, nI_clamp, ar_na, ar_ba, bo_0, bo_1, bo_it, bo_if, bo_w, bo_w0, bo_w1, bo_nar, bo_n1, bo_nn0, st_bu, st_bu1, st_bu0, st_nu, forall_eq, true_implies, false_implies, forall_const, not_true_eq_false, not_false_eq_true, and_true, true_and, implies_true, and_self, Bool.false_eq_true, Bool.true_eq_false, reduceCtorEq, ite_true, ite_false, if_true, if_false, eq_self, Nat.zero_add, Nat.add_zero, Nat.le_refl, Nat.lt_irrefl, Nat.reduceEqDiff, Nat.reduceLeDiff, Nat.reduceLT, Nat.reduceAdd, Nat.reduceMul, Nat.reduceSub, wY_ownVote_17, cm_6]
  · intro m k a hk hk'
    have g := rc_b hb (q4 (k - n * 6) (by omega)).1
    rw [show n * 6 + (k - n * 6) = k by omega] at g
    obtain ⟨g1, g2, g3, g4⟩ := g
    by_cases z : qj k = i
    · simp (disch := first | omega | assumption) only [li_0, li_1, li_2, li_3, li_4, li_6, li_7, li_8, li_9, li_10, li_12, li_21, li_24, li_31, li_60, li_63, li_127, li_128, li_256, li_312, li_384, nI_add, nu_mul, nu_sub, nu_div, nu_and, nu_or, nu_shr, nu_bit, nu_diff, bi_2, nI_leI, nI_ltI, nI_eq, vp_in_nI, nI_clamp, ar_na, ar_ba, bo_0, bo_1, bo_it, bo_if, bo_w, bo_w0, bo_w1, bo_nar, bo_n1, bo_nn0, st_bu, st_bu1, st_bu0, st_nu, forall_eq, true_implies, false_implies, forall_const, not_true_eq_false, not_false_eq_true, and_true, true_and, implies_true, and_self, Bool.false_eq_true, Bool.true_eq_false, reduceCtorEq, ite_true, ite_false, if_true, if_false, eq_self, Nat.zero_add, Nat.add_zero, Nat.le_refl, Nat.lt_irrefl, Nat.reduceEqDiff, Nat.reduceLeDiff, Nat.reduceLT, Nat.reduceAdd, Nat.reduceMul, Nat.reduceSub, wY_ownVote_17, cm_6, Nat.not_le.mpr hk, z]
    · simp (disch := first | omega | assumption) only [li_0, li_1, li_2, li_3, li_4, li_6, li_7, li_8, li_9, li_10, li_12, li_21, li_24, li_31, li_60, li_63, li_127, li_128, li_256, li_312, li_384, nI_add, nu_mul, nu_sub, nu_div, nu_and, nu_or, nu_shr, nu_bit, nu_diff, bi_2, nI_leI, nI_ltI, nI_eq, vp_in_nI, nI_clamp, ar_na, ar_ba, bo_0, bo_1, bo_it, bo_if, bo_w, bo_w0, bo_w1, bo_nar, bo_n1, bo_nn0, st_bu, st_bu1, st_bu0, st_nu, forall_eq, true_implies, false_implies, forall_const, not_true_eq_false, not_false_eq_true, and_true, true_and, implies_true, and_self, Bool.false_eq_true, Bool.true_eq_false, reduceCtorEq, ite_true, ite_false, if_true, if_false, eq_self, Nat.zero_add, Nat.add_zero, Nat.le_refl, Nat.lt_irrefl, Nat.reduceEqDiff, Nat.reduceLeDiff, Nat.reduceLT, Nat.reduceAdd, Nat.reduceMul, Nat.reduceSub, wY_ownVote_17, cm_6, Nat.not_le.mpr hk, z]
theorem xc_canWrite (hn : n < 7) (hq : ql n ≤ 6) : wpX_canWrite post (nI bg, ar_b df, ar_b iq, ar_b tb, ar_b up, ar_n op, ar_n ov, ar_n sp, ar_n sv, ar_n qb, ar_n qi, ar_n qv, ar_n ql, ar_n so, ar_b fa, ar_n ba, ar_n an, ar_b co, pc_x pk, ar_b fr, ar_n kv, ar_n vo, ar_n kn) (nI n) ↔ post (bo_i (up n && decide (ql n < 6))) := by
  cases z : up n
  · simp (disch := first | omega | assumption) only [li_0, li_1, li_2, li_3, li_4, li_6, li_7, li_8, li_9, li_10, li_12, li_21, li_24, li_31, li_60, li_63, li_127, li_128, li_256, li_312, li_384, nI_add, nu_mul, nu_sub, nu_div, nu_and, nu_or, nu_shr, nu_bit, nu_diff, bi_2, nI_leI, nI_ltI, nI_eq, vp_in_nI, nI_clamp, ar_na, ar_ba, bo_0, bo_1, bo_it, bo_if, bo_w, bo_w0, bo_w1, bo_nar, bo_n1, bo_nn0, st_bu, st_bu1, st_bu0, st_nu, forall_eq, true_implies, false_implies, forall_const, not_true_eq_false, not_false_eq_true, and_true, true_and, implies_true, and_self, Bool.false_eq_true, Bool.true_eq_false, reduceCtorEq, ite_true, ite_false, if_true, if_false, eq_self, Nat.zero_add, Nat.add_zero, Nat.le_refl, Nat.lt_irrefl, Nat.reduceEqDiff, Nat.reduceLeDiff, Nat.reduceLT, Nat.reduceAdd, Nat.reduceMul, Nat.reduceSub, wpX_canWrite, z, Bool.false_and]
  · by_cases w : ql n < 6
    · simp (disch := first | omega | assumption) only [li_0, li_1, li_2, li_3, li_4, li_6, li_7, li_8, li_9, li_10, li_12, li_21, li_24, li_31, li_60, li_63, li_127, li_128, li_256, li_312, li_384, nI_add, nu_mul, nu_sub, nu_div, nu_and, nu_or, nu_shr, nu_bit, nu_diff, bi_2, nI_leI, nI_ltI, nI_eq, vp_in_nI, nI_clamp, ar_na, ar_ba, bo_0, bo_1, bo_it, bo_if, bo_w, bo_w0, bo_w1, bo_nar, bo_n1, bo_nn0, st_bu, st_bu1, st_bu0, st_nu, forall_eq, true_implies, false_implies, forall_const, not_true_eq_false, not_false_eq_true, and_true, true_and, implies_true, and_self, Bool.false_eq_true, Bool.true_eq_false, reduceCtorEq, ite_true, ite_false, if_true, if_false, eq_self, Nat.zero_add, Nat.add_zero, Nat.le_refl, Nat.lt_irrefl, Nat.reduceEqDiff, Nat.reduceLeDiff, Nat.reduceLT, Nat.reduceAdd, Nat.reduceMul, Nat.reduceSub, wpX_canWrite, z, w, Nat.not_le.mpr w, Bool.true_and, decide_true]
    · simp (disch := first | omega | assumption) only [li_0, li_1, li_2, li_3, li_4, li_6, li_7, li_8, li_9, li_10, li_12, li_21, li_24, li_31, li_60, li_63, li_127, li_128, li_256, li_312, li_384, nI_add, nu_mul, nu_sub, nu_div, nu_and, nu_or, nu_shr, nu_bit, nu_diff, bi_2, nI_leI, nI_ltI, nI_eq, vp_in_nI, nI_clamp, ar_na, ar_ba, bo_0, bo_1, bo_it, bo_if, bo_w, bo_w0, bo_w1, bo_nar, bo_n1, bo_nn0, st_bu, st_bu1, st_bu0, st_nu, forall_eq, true_implies, false_implies, forall_const, not_true_eq_false, not_false_eq_true, and_true, true_and, implies_true, and_self, Bool.false_eq_true, Bool.true_eq_false, reduceCtorEq, ite_true, ite_false, if_true, if_false, eq_self, Nat.zero_add, Nat.add_zero, Nat.le_refl, Nat.lt_irrefl, Nat.reduceEqDiff, Nat.reduceLeDiff, Nat.reduceLT, Nat.reduceAdd, Nat.reduceMul, Nat.reduceSub, wpX_canWrite, z, w, Nat.le_of_not_lt w, Bool.true_and, decide_false]
theorem xc_wouldAnswer (H : in_all bg df iq up fr dn op ov sp sv qb qi qj qv ql so ba an pk kv vo kn srt num) (hn : n < 7) (hb : b ≤ 12) : wpX_wouldAnswer post (nI bg, ar_b df, ar_b iq, ar_b tb, ar_b up, ar_n op, ar_n ov, ar_n sp, ar_n sv, ar_n qb, ar_n qi, ar_n qv, ar_n ql, ar_n so, ar_b fa, ar_n ba, ar_n an, ar_b co, pc_x pk, ar_b fr, ar_n kv, ar_n vo, ar_n kn) (nI b) (nI n) ↔ post (bo_i (up n && decide (ql n < 6) && decide (op n < b))) := by
  have hop := op_le H hn
  obtain ⟨hb', hs, hbb, hp, hv, hc, hq, ho, ha, hd⟩ := H
  have hq6 := (hq n hn).1
  cases z : up n && decide (ql n < 6)
  · simp (disch := first | omega | assumption) only [li_0, li_1, li_2, li_3, li_4, li_6, li_7, li_8, li_9, li_10, li_12, li_21, li_24, li_31, li_60, li_63, li_127, li_128, li_256, li_312, li_384, nI_add, nu_mul, nu_sub, nu_div, nu_and, nu_or, nu_shr, nu_bit, nu_diff, bi_2, nI_leI, nI_ltI, nI_eq, vp_in_nI, nI_clamp, ar_na, ar_ba, bo_0, bo_1, bo_it, bo_if, bo_w, bo_w0, bo_w1, bo_nar, bo_n1, bo_nn0, st_bu, st_bu1, st_bu0, st_nu, forall_eq, true_implies, false_implies, forall_const, not_true_eq_false, not_false_eq_true, and_true, true_and, implies_true, and_self, Bool.false_eq_true, Bool.true_eq_false, reduceCtorEq, ite_true, ite_false, if_true, if_false, eq_self, Nat.zero_add, Nat.add_zero, Nat.le_refl, Nat.lt_irrefl, Nat.reduceEqDiff, Nat.reduceLeDiff, Nat.reduceLT, Nat.reduceAdd, Nat.reduceMul, Nat.reduceSub, wpX_wouldAnswer, xc_canWrite, z, Bool.false_and]
  · by_cases w : op n < b
    · simp (disch := first | omega | assumption) only [li_0, li_1, li_2, li_3, li_4, li_6, li_7, li_8, li_9, li_10, li_12, li_21, li_24, li_31, li_60, li_63, li_127, li_128, li_256, li_312, li_384, nI_add, nu_mul, nu_sub, nu_div, nu_and, nu_or, nu_shr, nu_bit, nu_diff, bi_2, nI_leI, nI_ltI, nI_eq, vp_in_nI, nI_clamp, ar_na, ar_ba, bo_0, bo_1, bo_it, bo_if, bo_w, bo_w0, bo_w1, bo_nar, bo_n1, bo_nn0, st_bu, st_bu1, st_bu0, st_nu, forall_eq, true_implies, false_implies, forall_const, not_true_eq_false, not_false_eq_true, and_true, true_and, implies_true, and_self, Bool.false_eq_true, Bool.true_eq_false, reduceCtorEq, ite_true, ite_false, if_true, if_false, eq_self, Nat.zero_add, Nat.add_zero, Nat.le_refl, Nat.lt_irrefl, Nat.reduceEqDiff, Nat.reduceLeDiff, Nat.reduceLT, Nat.reduceAdd, Nat.reduceMul, Nat.reduceSub, wpX_wouldAnswer, xc_canWrite, z, w, Nat.not_le.mpr w, Bool.true_and, decide_true]
    · simp (disch := first | omega | assumption) only [li_0, li_1, li_2, li_3, li_4, li_6, li_7, li_8, li_9, li_10, li_12, li_21, li_24, li_31, li_60, li_63, li_127, li_128, li_256, li_312, li_384, nI_add, nu_mul, nu_sub, nu_div, nu_and, nu_or, nu_shr, nu_bit, nu_diff, bi_2, nI_leI, nI_ltI, nI_eq, vp_in_nI, nI_clamp, ar_na, ar_ba, bo_0, bo_1, bo_it, bo_if, bo_w, bo_w0, bo_w1, bo_nar, bo_n1, bo_nn0, st_bu, st_bu1, st_bu0, st_nu, forall_eq, true_implies, false_implies, forall_const, not_true_eq_false, not_false_eq_true, and_true, true_and, implies_true, and_self, Bool.false_eq_true, Bool.true_eq_false, reduceCtorEq, ite_true, ite_false, if_true, if_false, eq_self, Nat.zero_add, Nat.add_zero, Nat.le_refl, Nat.lt_irrefl, Nat.reduceEqDiff, Nat.reduceLeDiff, Nat.reduceLT, Nat.reduceAdd, Nat.reduceMul, Nat.reduceSub, wpX_wouldAnswer, xc_canWrite, z, w, Nat.le_of_not_lt w, Bool.true_and, decide_false]
def wo_ (up : Nat → Bool) (op ov ql pk : Nat → Nat) (b i n : Nat) : Bool := up n && decide (ql n < 6) && decide (pk (b * 3 + i) ≠ 0 ∧ op n ≤ b ∧ ov (n * 3 + i) / 8 < b)
theorem xc_wouldVote (H : in_all bg df iq up fr dn op ov sp sv qb qi qj qv ql so ba an pk kv vo kn srt num) (hn : n < 7) (hi : i < 3) (hb : b ≤ 12) : wpX_wouldVote post (nI bg, ar_b df, ar_b iq, ar_b tb, ar_b up, ar_n op, ar_n ov, ar_n sp, ar_n sv, ar_n qb, ar_n qi, ar_n qv, ar_n ql, ar_n so, ar_b fa, ar_n ba, ar_n an, ar_b co, pc_x pk, ar_b fr, ar_n kv, ar_n vo, ar_n kn) (nI b) (nI i) (nI n) ↔ post (bo_i (wo_ up op ov ql pk b i n)) := by
  have hop := op_le H hn
  have hov := ov_lt H hn hi
  obtain ⟨hb', hs, hbb, hp, hv, hc, hq, ho, ha, hd⟩ := H
  have hq6 := (hq n hn).1
  unfold wo_
  cases z : up n && decide (ql n < 6)
  · simp (disch := first | omega | assumption) only [li_0, li_1, li_2, li_3, li_4, li_6, li_7, li_8, li_9, li_10, li_12, li_21, li_24, li_31, li_60, li_63, li_127, li_128, li_256, li_312, li_384, nI_add, nu_mul, nu_sub, nu_div, nu_and, nu_or, nu_shr, nu_bit, nu_diff, bi_2, nI_leI, nI_ltI, nI_eq, vp_in_nI, nI_clamp, ar_na, ar_ba, bo_0, bo_1, bo_it, bo_if, bo_w, bo_w0, bo_w1, bo_nar, bo_n1, bo_nn0, st_bu, st_bu1, st_bu0, st_nu, forall_eq, true_implies, false_implies, forall_const, not_true_eq_false, not_false_eq_true, and_true, true_and, implies_true, and_self, Bool.false_eq_true, Bool.true_eq_false, reduceCtorEq, ite_true, ite_false, if_true, if_false, eq_self, Nat.zero_add, Nat.add_zero, Nat.le_refl, Nat.lt_irrefl, Nat.reduceEqDiff, Nat.reduceLeDiff, Nat.reduceLT, Nat.reduceAdd, Nat.reduceMul, Nat.reduceSub, wpX_wouldVote, xc_canWrite, z, Bool.false_and]
  · cases w : decide (pk (b * 3 + i) ≠ 0 ∧ op n ≤ b ∧ ov (n * 3 + i) / 8 < b)
    · simp (disch := first | omega | assumption) only [li_0, li_1, li_2, li_3, li_4, li_6, li_7, li_8, li_9, li_10, li_12, li_21, li_24, li_31, li_60, li_63, li_127, li_128, li_256, li_312, li_384, nI_add, nu_mul, nu_sub, nu_div, nu_and, nu_or, nu_shr, nu_bit, nu_diff, bi_2, nI_leI, nI_ltI, nI_eq, vp_in_nI, nI_clamp, ar_na, ar_ba, bo_0, bo_1, bo_it, bo_if, bo_w, bo_w0, bo_w1, bo_nar, bo_n1, bo_nn0, st_bu, st_bu1, st_bu0, st_nu, forall_eq, true_implies, false_implies, forall_const, not_true_eq_false, not_false_eq_true, and_true, true_and, implies_true, and_self, Bool.false_eq_true, Bool.true_eq_false, reduceCtorEq, ite_true, ite_false, if_true, if_false, eq_self, Nat.zero_add, Nat.add_zero, Nat.le_refl, Nat.lt_irrefl, Nat.reduceEqDiff, Nat.reduceLeDiff, Nat.reduceLT, Nat.reduceAdd, Nat.reduceMul, Nat.reduceSub, wpX_wouldVote, xc_canWrite, z, xc_canVote hp, w, Bool.and_false]
    · simp (disch := first | omega | assumption) only [li_0, li_1, li_2, li_3, li_4, li_6, li_7, li_8, li_9, li_10, li_12, li_21, li_24, li_31, li_60, li_63, li_127, li_128, li_256, li_312, li_384, nI_add, nu_mul, nu_sub, nu_div, nu_and, nu_or, nu_shr, nu_bit, nu_diff, bi_2, nI_leI, nI_ltI, nI_eq, vp_in_nI, nI_clamp, ar_na, ar_ba, bo_0, bo_1, bo_it, bo_if, bo_w, bo_w0, bo_w1, bo_nar, bo_n1, bo_nn0, st_bu, st_bu1, st_bu0, st_nu, forall_eq, true_implies, false_implies, forall_const, not_true_eq_false, not_false_eq_true, and_true, true_and, implies_true, and_self, Bool.false_eq_true, Bool.true_eq_false, reduceCtorEq, ite_true, ite_false, if_true, if_false, eq_self, Nat.zero_add, Nat.add_zero, Nat.le_refl, Nat.lt_irrefl, Nat.reduceEqDiff, Nat.reduceLeDiff, Nat.reduceLT, Nat.reduceAdd, Nat.reduceMul, Nat.reduceSub, wpX_wouldVote, xc_canWrite, z, xc_canVote hp, w, Bool.and_self]
end
section
variable {bg : Nat} {df iq tb up fa co fr dn : Nat → Bool} {op ov sp sv qb qi qj qv ql so ba an pk kv vo kn : Nat → Nat} {srt num : Nat → Int32}
variable {s k t m n i j a b v f l : Nat}
theorem xc_writeRecord {post : SX → Prop} (hn : n < 7) (hq : ql n < 6) : wpX_writeRecord post (nI bg, ar_b df, ar_b iq, ar_b tb, ar_b up, ar_n op, ar_n ov, ar_n sp, ar_n sv, ar_n qb, ar_n qi, ar_n qv, ar_n ql, ar_n so, ar_b fa, ar_n ba, ar_n an, ar_b co, pc_x pk, ar_b fr, ar_n kv, ar_n vo, ar_n kn) (nI n) (nI b) (nI i) (nI v) ↔ post (nI bg, ar_b df, ar_b iq, ar_b tb, ar_b up, ar_n op, ar_n ov, ar_n sp, ar_n sv, ar_n (st_n qb (n * 6 + ql n) b), ar_n (st_n qi (n * 6 + ql n) i), ar_n (st_n qv (n * 6 + ql n) v), ar_n (st_n ql n (ql n + 1)), ar_n so, ar_b fa, ar_n ba, ar_n an, ar_b co, pc_x pk, ar_b fr, ar_n kv, ar_n vo, ar_n kn) := by
  simp (disch := first | omega | assumption) only [li_0, li_1, li_2, li_3, li_4, li_6, li_7, li_8, li_9, li_10, li_12, li_21, li_24, li_31, li_60, li_63, li_127, li_128, li_256, li_312, li_384, nI_add, nu_mul, nu_sub, nu_div, nu_and, nu_or, nu_shr, nu_bit, nu_diff, bi_2, nI_leI, nI_ltI, nI_eq, vp_in_nI, nI_clamp, ar_na, ar_ba, bo_0, bo_1, bo_it, bo_if, bo_w, bo_w0, bo_w1, bo_nar, bo_n1, bo_nn0, st_bu, st_bu1, st_bu0, st_nu, forall_eq, true_implies, false_implies, forall_const, not_true_eq_false, not_false_eq_true, and_true, true_and, implies_true, and_self, Bool.false_eq_true, Bool.true_eq_false, reduceCtorEq, ite_true, ite_false, if_true, if_false, eq_self, Nat.zero_add, Nat.add_zero, Nat.le_refl, Nat.lt_irrefl, Nat.reduceEqDiff, Nat.reduceLeDiff, Nat.reduceLT, Nat.reduceAdd, Nat.reduceMul, Nat.reduceSub, wpX_writeRecord]
theorem xc_writeAnswer {post : SX → Prop} (hn : n < 7) (hq : ql n < 6) : wpX_writeAnswer post (nI bg, ar_b df, ar_b iq, ar_b tb, ar_b up, ar_n op, ar_n ov, ar_n sp, ar_n sv, ar_n qb, ar_n qi, ar_n qv, ar_n ql, ar_n so, ar_b fa, ar_n ba, ar_n an, ar_b co, pc_x pk, ar_b fr, ar_n kv, ar_n vo, ar_n kn) (nI b) (nI n) ↔ post (nI bg, ar_b df, ar_b iq, ar_b tb, ar_b up, ar_n (st_n op n b), ar_n ov, ar_n sp, ar_n sv, ar_n (st_n qb (n * 6 + ql n) b), ar_n (st_n qi (n * 6 + ql n) 0), ar_n (st_n qv (n * 6 + ql n) 0), ar_n (st_n ql n (ql n + 1)), ar_n so, ar_b fa, ar_n ba, ar_n an, ar_b co, pc_x pk, ar_b fr, ar_n kv, ar_n vo, ar_n kn) := by
  simp (disch := first | omega | assumption) only [li_0, li_1, li_2, li_3, li_4, li_6, li_7, li_8, li_9, li_10, li_12, li_21, li_24, li_31, li_60, li_63, li_127, li_128, li_256, li_312, li_384, nI_add, nu_mul, nu_sub, nu_div, nu_and, nu_or, nu_shr, nu_bit, nu_diff, bi_2, nI_leI, nI_ltI, nI_eq, vp_in_nI, nI_clamp, ar_na, ar_ba, bo_0, bo_1, bo_it, bo_if, bo_w, bo_w0, bo_w1, bo_nar, bo_n1, bo_nn0, st_bu, st_bu1, st_bu0, st_nu, forall_eq, true_implies, false_implies, forall_const, not_true_eq_false, not_false_eq_true, and_true, true_and, implies_true, and_self, Bool.false_eq_true, Bool.true_eq_false, reduceCtorEq, ite_true, ite_false, if_true, if_false, eq_self, Nat.zero_add, Nat.add_zero, Nat.le_refl, Nat.lt_irrefl, Nat.reduceEqDiff, Nat.reduceLeDiff, Nat.reduceLT, Nat.reduceAdd, Nat.reduceMul, Nat.reduceSub, wpX_writeAnswer, xc_writeRecord]
theorem xc_writeVote {post : SX → Prop} (hn : n < 7) (hi : i < 3) (hq : ql n < 6) : wpX_writeVote post (nI bg, ar_b df, ar_b iq, ar_b tb, ar_b up, ar_n op, ar_n ov, ar_n sp, ar_n sv, ar_n qb, ar_n qi, ar_n qv, ar_n ql, ar_n so, ar_b fa, ar_n ba, ar_n an, ar_b co, pc_x pk, ar_b fr, ar_n kv, ar_n vo, ar_n kn) (nI b) (nI i) (nI n) (nI v) ↔ post (nI bg, ar_b df, ar_b iq, ar_b tb, ar_b up, ar_n (st_n op n b), ar_n (st_n ov (n * 3 + i) (b * 8 + v)), ar_n sp, ar_n sv, ar_n (st_n qb (n * 6 + ql n) b), ar_n (st_n qi (n * 6 + ql n) i), ar_n (st_n qv (n * 6 + ql n) v), ar_n (st_n ql n (ql n + 1)), ar_n so, ar_b fa, ar_n ba, ar_n an, ar_b co, pc_x pk, ar_b fr, ar_n kv, ar_n vo, ar_n kn) := by
  simp (disch := first | omega | assumption) only [li_0, li_1, li_2, li_3, li_4, li_6, li_7, li_8, li_9, li_10, li_12, li_21, li_24, li_31, li_60, li_63, li_127, li_128, li_256, li_312, li_384, nI_add, nu_mul, nu_sub, nu_div, nu_and, nu_or, nu_shr, nu_bit, nu_diff, bi_2, nI_leI, nI_ltI, nI_eq, vp_in_nI, nI_clamp, ar_na, ar_ba, bo_0, bo_1, bo_it, bo_if, bo_w, bo_w0, bo_w1, bo_nar, bo_n1, bo_nn0, st_bu, st_bu1, st_bu0, st_nu, forall_eq, true_implies, false_implies, forall_const, not_true_eq_false, not_false_eq_true, and_true, true_and, implies_true, and_self, Bool.false_eq_true, Bool.true_eq_false, reduceCtorEq, ite_true, ite_false, if_true, if_false, eq_self, Nat.zero_add, Nat.add_zero, Nat.le_refl, Nat.lt_irrefl, Nat.reduceEqDiff, Nat.reduceLeDiff, Nat.reduceLT, Nat.reduceAdd, Nat.reduceMul, Nat.reduceSub, wpX_writeVote, xc_writeRecord]
theorem yc_write {post : Int32 → SY → Prop} (hn : n < 7) (hq : ql n ≤ 6) : wpY_write post (nI bg, srt, num, ar_n so, ar_n ba, ar_n an, pc_y pk, ar_n kv, ar_b fa, ar_b co, ar_b fr, ar_b dn, ar_n sp, ar_n sv, ar_n ql, ar_n qb, ar_n qj, ar_n qv, ar_n vo, ar_n kn) (nI n) (nI b) (nI i) (nI v) ↔ ((ql n = 6 → post (nI 0) (nI bg, srt, num, ar_n so, ar_n ba, ar_n an, pc_y pk, ar_n kv, ar_b fa, ar_b co, ar_b fr, ar_b dn, ar_n sp, ar_n sv, ar_n ql, ar_n qb, ar_n qj, ar_n qv, ar_n vo, ar_n kn)) ∧ (¬ ql n = 6 → post (nI 1) (nI bg, srt, num, ar_n so, ar_n ba, ar_n an, pc_y pk, ar_n kv, ar_b fa, ar_b co, ar_b fr, ar_b dn, ar_n sp, ar_n sv, ar_n (st_n ql n (ql n + 1)), ar_n (st_n qb (n * 6 + ql n) b), ar_n (st_n qj (n * 6 + ql n) i), ar_n (st_n qv (n * 6 + ql n) v), ar_n vo, ar_n kn))) := by
  by_cases z : ql n = 6
  · simp (disch := first | omega | assumption) only [li_0, li_1, li_2, li_3, li_4, li_6, li_7, li_8, li_9, li_10, li_12, li_21, li_24, li_31, li_60, li_63, li_127, li_128, li_256, li_312, li_384, nI_add, nu_mul, nu_sub, nu_div, nu_and, nu_or, nu_shr, nu_bit, nu_diff, bi_2, nI_leI, nI_ltI, nI_eq, vp_in_nI, nI_clamp, ar_na, ar_ba, bo_0, bo_1, bo_it, bo_if, bo_w, bo_w0, bo_w1, bo_nar, bo_n1, bo_nn0, st_bu, st_bu1, st_bu0, st_nu, forall_eq, true_implies, false_implies, forall_const, not_true_eq_false, not_false_eq_true, and_true, true_and, implies_true, and_self, Bool.false_eq_true, Bool.true_eq_false, reduceCtorEq, ite_true, ite_false, if_true, if_false, eq_self, Nat.zero_add, Nat.add_zero, Nat.le_refl, Nat.lt_irrefl, Nat.reduceEqDiff, Nat.reduceLeDiff, Nat.reduceLT, Nat.reduceAdd, Nat.reduceMul, Nat.reduceSub, wpY_write, z]
  · simp (disch := first | omega | assumption) only [li_0, li_1, li_2, li_3, li_4, li_6, li_7, li_8, li_9, li_10, li_12, li_21, li_24, li_31, li_60, li_63, li_127, li_128, li_256, li_312, li_384, nI_add, nu_mul, nu_sub, nu_div, nu_and, nu_or, nu_shr, nu_bit, nu_diff, bi_2, nI_leI, nI_ltI, nI_eq, vp_in_nI, nI_clamp, ar_na, ar_ba, bo_0, bo_1, bo_it, bo_if, bo_w, bo_w0, bo_w1, bo_nar, bo_n1, bo_nn0, st_bu, st_bu1, st_bu0, st_nu, forall_eq, true_implies, false_implies, forall_const, not_true_eq_false, not_false_eq_true, and_true, true_and, implies_true, and_self, Bool.false_eq_true, Bool.true_eq_false, reduceCtorEq, ite_true, ite_false, if_true, if_false, eq_self, Nat.zero_add, Nat.add_zero, Nat.le_refl, Nat.lt_irrefl, Nat.reduceEqDiff, Nat.reduceLeDiff, Nat.reduceLT, Nat.reduceAdd, Nat.reduceMul, Nat.reduceSub, wpY_write, z, cm_6]
/-- a record is written -/
theorem in_write (H : in_all bg df iq up fr dn op ov sp sv qb qi qj qv ql so ba an pk kv vo kn srt num) {ov' : Nat → Nat} (hn : n < 7) (hup : up n = true) (hq6 : ql n < 6) (hop : op n ≤ b) (hr : rc_ bg pk b i j v) (hov : ∀ m i', m < 7 → i' < 3 → ov' (m * 3 + i') = if m = n ∧ j = i' then 8 * b + v else ov (m * 3 + i')) : in_all bg df iq up fr dn (st_n op n b) ov' sp sv (st_n qb (n * 6 + ql n) b) (st_n qi (n * 6 + ql n) i) (st_n qj (n * 6 + ql n) j) (st_n qv (n * 6 + ql n) v) (st_n ql n (ql n + 1)) so ba an pk kv vo kn srt num := by
  obtain ⟨hb, hs, hbb, hp, hv, hc, hq, ho, ha, hd⟩ := H
  refine ⟨hb, hs, hbb, hp, hv, hc, ?_, ?_, ha, hd⟩
  · intro m hm
    obtain ⟨q1, q2, q3, q4⟩ := hq m hm
    by_cases e : m = n
    · subst e
      have o1 := (ho m hm).1
      rw [st_eq]
      refine ⟨by omega, q2, fun z => absurd (hup.symm.trans z) (by decide), fun p hp' => ?_⟩
      have hspb : sp m ≤ b := by
        by_cases z : ql m = 0
        · rw [if_pos z] at o1; omega
        · rw [if_neg z] at o1
          have := (q4 (ql m - 1) (by omega)).2.1
          rw [show m * 6 + (ql m - 1) = m * 6 + ql m - 1 by omega] at this
          omega
      by_cases e : p = ql m
      · subst e
        rw [st_eq, st_eq, st_eq, st_eq]
        exact ⟨hr, hspb, fun z => absurd z (by omega)⟩
      · obtain ⟨g1, g2, g3⟩ := q4 p (by omega)
        rw [st_ne (by omega), st_ne (by omega), st_ne (by omega), st_ne (by omega)]
        refine ⟨g1, g2, fun z => ?_⟩
        by_cases e2 : p + 1 = ql m
        · rw [show m * 6 + p + 1 = m * 6 + ql m by omega, st_eq]
          rw [if_neg (by omega), show m * 6 + ql m - 1 = m * 6 + p by omega] at o1
          omega
        · rw [st_ne (by omega)]
          exact g3 (by omega)
    · rw [st_ne e]
      refine ⟨q1, q2, q3, fun p hp' => ?_⟩
      obtain ⟨g1, g2, g3⟩ := q4 p hp'
      rw [st_ne (by omega), st_ne (by omega), st_ne (by omega), st_ne (by omega)]
      refine ⟨g1, g2, fun z => ?_⟩
      rw [st_ne (by omega)]
      exact g3 z
  · intro m hm
    obtain ⟨q1, q2, q3, q4⟩ := hq m hm
    obtain ⟨o1, o2⟩ := ho m hm
    by_cases e : m = n
    · subst e
      rw [st_eq, st_eq]
      refine ⟨?_, fun i' hi' => ?_⟩
      · rw [if_neg (by omega), show m * 6 + (ql m + 1) - 1 = m * 6 + ql m by omega, st_eq]
      · rw [hov m i' hm hi']
        unfold wv_
        rw [lo_fs, st_eq, st_eq, st_eq]
        have e2 : lo_f (fun k v_1 => if st_n qj (m * 6 + ql m) j k = i' then 8 * st_n qb (m * 6 + ql m) b k + st_n qv (m * 6 + ql m) v k else v_1) (ql m) (m * 6) (sv (m * 3 + i')) = ov (m * 3 + i') := by
          rw [o2 i' hi']
          refine lo_fc _ _ _ fun k a h1 h2 => ?_
          rw [st_ne (by omega), st_ne (by omega), st_ne (by omega)]
        rw [e2]
        by_cases z : j = i'
        · rw [if_pos ⟨rfl, z⟩, if_pos z]
        · rw [if_neg (fun q => z q.2), if_neg z]
    · rw [st_ne e, st_ne e]
      refine ⟨?_, fun i' hi' => ?_⟩
      · rw [o1]
        by_cases z : ql m = 0
        · rw [if_pos z, if_pos z]
        · rw [if_neg z, if_neg z, st_ne (by omega)]
      · rw [hov m i' hm hi', if_neg (fun q => e q.1), o2 i' hi']
        refine lo_fc _ _ _ fun k a h1 h2 => ?_
        rw [st_ne (by omega), st_ne (by omega), st_ne (by omega)]
theorem in_ans (H : in_all bg df iq up fr dn op ov sp sv qb qi qj qv ql so ba an pk kv vo kn srt num) (hn : n < 7) (hup : up n = true) (hq6 : ql n < 6) (hop : op n < b) (hb1 : 1 ≤ b) (hb2 : b ≤ bg) : in_all bg df iq up fr dn (st_n op n b) ov sp sv (st_n qb (n * 6 + ql n) b) (st_n qi (n * 6 + ql n) 0) (st_n qj (n * 6 + ql n) 3) (st_n qv (n * 6 + ql n) 0) (st_n ql n (ql n + 1)) so ba an pk kv vo kn srt num :=
  in_write H hn hup hq6 (by omega) ⟨hb1, hb2, Or.inl ⟨rfl, rfl⟩⟩ (fun m i' hm hi' => (if_neg (by omega)).symm)
theorem in_vote (H : in_all bg df iq up fr dn op ov sp sv qb qi qj qv ql so ba an pk kv vo kn srt num) (hn : n < 7) (hi : i < 3) (hup : up n = true) (hq6 : ql n < 6) (hop : op n ≤ b) (hb1 : 1 ≤ b) (hb2 : b ≤ bg) (hv1 : 1 ≤ v) (hv7 : v ≤ 7) (hpk : pk (b * 3 + i) ≠ 0) : in_all bg df iq up fr dn (st_n op n b) (st_n ov (n * 3 + i) (b * 8 + v)) sp sv (st_n qb (n * 6 + ql n) b) (st_n qi (n * 6 + ql n) i) (st_n qj (n * 6 + ql n) i) (st_n qv (n * 6 + ql n) v) (st_n ql n (ql n + 1)) so ba an pk kv vo kn srt num := by
  refine in_write H hn hup hq6 hop ⟨hb1, hb2, Or.inr ⟨hv1, hv7, rfl, hi, hpk⟩⟩ (fun m i' hm hi' => ?_)
  by_cases z : m = n ∧ i = i'
  · rw [if_pos z, z.1, ← z.2, st_eq]; omega
  · rw [if_neg z, st_ne (by omega)]
theorem yc_cast {post : Int32 → SY → Prop} (H : in_all bg df iq up fr dn op ov sp sv qb qi qj qv ql so ba an pk kv vo kn srt num) (hn : n < 7) (hi : i < 3) (hb : b ≤ 12) (hpk : pk (b * 3 + i) ≠ 0) : wpY_cast post (nI bg, srt, num, ar_n so, ar_n ba, ar_n an, pc_y pk, ar_n kv, ar_b fa, ar_b co, ar_b fr, ar_b dn, ar_n sp, ar_n sv, ar_n ql, ar_n qb, ar_n qj, ar_n qv, ar_n vo, ar_n kn) (nI b) (nI i) (nI n) (nI v) ↔ ((wo_ up op ov ql pk b i n = false → post (nI 0) (nI bg, srt, num, ar_n so, ar_n ba, ar_n an, pc_y pk, ar_n kv, ar_b fa, ar_b co, ar_b fr, ar_b dn, ar_n sp, ar_n sv, ar_n ql, ar_n qb, ar_n qj, ar_n qv, ar_n vo, ar_n kn)) ∧ (wo_ up op ov ql pk b i n = true → post (nI 1) (nI bg, srt, num, ar_n so, ar_n ba, ar_n an, pc_y pk, ar_n kv, ar_b fa, ar_b co, ar_b fr, ar_b dn, ar_n sp, ar_n sv, ar_n (st_n ql n (ql n + 1)), ar_n (st_n qb (n * 6 + ql n) b), ar_n (st_n qj (n * 6 + ql n) i), ar_n (st_n qv (n * 6 + ql n) v), ar_n vo, ar_n kn))) := by
  have hop := op_le H hn
  have hov := ov_lt H hn hi
  have hdn := H.2.2.2.2.2.2.2.2.2 n
  have hq6 := (H.2.2.2.2.2.2.1 n hn).1
  have hb' := H.1
  unfold wo_
  cases z : up n
  · rw [z] at hdn
    simp (disch := first | omega | assumption) only [li_0, li_1, li_2, li_3, li_4, li_6, li_7, li_8, li_9, li_10, li_12, li_21, li_24, li_31, li_60, li_63, li_127, li_128, li_256, li_312, li_384, nI_add, nu_mul, nu_sub, nu_div, nu_and, nu_or, nu_shr, nu_bit, nu_diff, bi_2, nI_leI, nI_ltI, nI_eq, vp_in_nI, nI_clamp, ar_na, ar_ba, bo_0, bo_1, bo_it, bo_if, bo_w, bo_w0, bo_w1, bo_nar, bo_n1, bo_nn0, st_bu, st_bu1, st_bu0, st_nu, forall_eq, true_implies, false_implies, forall_const, not_true_eq_false, not_false_eq_true, and_true, true_and, implies_true, and_self, Bool.false_eq_true, Bool.true_eq_false, reduceCtorEq, ite_true, ite_false, if_true, if_false, eq_self, Nat.zero_add, Nat.add_zero, Nat.le_refl, Nat.lt_irrefl, Nat.reduceEqDiff, Nat.reduceLeDiff, Nat.reduceLT, Nat.reduceAdd, Nat.reduceMul, Nat.reduceSub, wpY_cast, hdn, Bool.not_false, Bool.false_and]
  · rw [z] at hdn
    by_cases w1 : op n ≤ b
    · by_cases w2 : ov (n * 3 + i) / 8 < b
      · by_cases w3 : ql n = 6
        · simp (disch := first | omega | assumption) only [li_0, li_1, li_2, li_3, li_4, li_6, li_7, li_8, li_9, li_10, li_12, li_21, li_24, li_31, li_60, li_63, li_127, li_128, li_256, li_312, li_384, nI_add, nu_mul, nu_sub, nu_div, nu_and, nu_or, nu_shr, nu_bit, nu_diff, bi_2, nI_leI, nI_ltI, nI_eq, vp_in_nI, nI_clamp, ar_na, ar_ba, bo_0, bo_1, bo_it, bo_if, bo_w, bo_w0, bo_w1, bo_nar, bo_n1, bo_nn0, st_bu, st_bu1, st_bu0, st_nu, forall_eq, true_implies, false_implies, forall_const, not_true_eq_false, not_false_eq_true, and_true, true_and, implies_true, and_self, Bool.false_eq_true, Bool.true_eq_false, reduceCtorEq, ite_true, ite_false, if_true, if_false, eq_self, Nat.zero_add, Nat.add_zero, Nat.le_refl, Nat.lt_irrefl, Nat.reduceEqDiff, Nat.reduceLeDiff, Nat.reduceLT, Nat.reduceAdd, Nat.reduceMul, Nat.reduceSub, wpY_cast, hdn, Bool.not_true, yc_ownPromise H, Nat.not_lt.mpr w1, yc_ownVote H, w2, yc_write, w3, decide_false, Bool.true_and, Bool.false_and]
        · simp (disch := first | omega | assumption) only [li_0, li_1, li_2, li_3, li_4, li_6, li_7, li_8, li_9, li_10, li_12, li_21, li_24, li_31, li_60, li_63, li_127, li_128, li_256, li_312, li_384, nI_add, nu_mul, nu_sub, nu_div, nu_and, nu_or, nu_shr, nu_bit, nu_diff, bi_2, nI_leI, nI_ltI, nI_eq, vp_in_nI, nI_clamp, ar_na, ar_ba, bo_0, bo_1, bo_it, bo_if, bo_w, bo_w0, bo_w1, bo_nar, bo_n1, bo_nn0, st_bu, st_bu1, st_bu0, st_nu, forall_eq, true_implies, false_implies, forall_const, not_true_eq_false, not_false_eq_true, and_true, true_and, implies_true, and_self, Bool.false_eq_true, Bool.true_eq_false, reduceCtorEq, ite_true, ite_false, if_true, if_false, eq_self, Nat.zero_add, Nat.add_zero, Nat.le_refl, Nat.lt_irrefl, Nat.reduceEqDiff, Nat.reduceLeDiff, Nat.reduceLT, Nat.reduceAdd, Nat.reduceMul, Nat.reduceSub, wpY_cast, hdn, Bool.not_true, yc_ownPromise H, Nat.not_lt.mpr w1, yc_ownVote H, w1, w2, yc_write, w3, hpk, ne_eq, show ql n < 6 by omega, decide_true, Bool.and_self]
      · simp (disch := first | omega | assumption) only [li_0, li_1, li_2, li_3, li_4, li_6, li_7, li_8, li_9, li_10, li_12, li_21, li_24, li_31, li_60, li_63, li_127, li_128, li_256, li_312, li_384, nI_add, nu_mul, nu_sub, nu_div, nu_and, nu_or, nu_shr, nu_bit, nu_diff, bi_2, nI_leI, nI_ltI, nI_eq, vp_in_nI, nI_clamp, ar_na, ar_ba, bo_0, bo_1, bo_it, bo_if, bo_w, bo_w0, bo_w1, bo_nar, bo_n1, bo_nn0, st_bu, st_bu1, st_bu0, st_nu, forall_eq, true_implies, false_implies, forall_const, not_true_eq_false, not_false_eq_true, and_true, true_and, implies_true, and_self, Bool.false_eq_true, Bool.true_eq_false, reduceCtorEq, ite_true, ite_false, if_true, if_false, eq_self, Nat.zero_add, Nat.add_zero, Nat.le_refl, Nat.lt_irrefl, Nat.reduceEqDiff, Nat.reduceLeDiff, Nat.reduceLT, Nat.reduceAdd, Nat.reduceMul, Nat.reduceSub, wpY_cast, hdn, Bool.not_true, yc_ownPromise H, Nat.not_lt.mpr w1, yc_ownVote H, w2, and_false, decide_false, Bool.and_false]
    · simp (disch := first | omega | assumption) only [li_0, li_1, li_2, li_3, li_4, li_6, li_7, li_8, li_9, li_10, li_12, li_21, li_24, li_31, li_60, li_63, li_127, li_128, li_256, li_312, li_384, nI_add, nu_mul, nu_sub, nu_div, nu_and, nu_or, nu_shr, nu_bit, nu_diff, bi_2, nI_leI, nI_ltI, nI_eq, vp_in_nI, nI_clamp, ar_na, ar_ba, bo_0, bo_1, bo_it, bo_if, bo_w, bo_w0, bo_w1, bo_nar, bo_n1, bo_nn0, st_bu, st_bu1, st_bu0, st_nu, forall_eq, true_implies, false_implies, forall_const, not_true_eq_false, not_false_eq_true, and_true, true_and, implies_true, and_self, Bool.false_eq_true, Bool.true_eq_false, reduceCtorEq, ite_true, ite_false, if_true, if_false, eq_self, Nat.zero_add, Nat.add_zero, Nat.le_refl, Nat.lt_irrefl, Nat.reduceEqDiff, Nat.reduceLeDiff, Nat.reduceLT, Nat.reduceAdd, Nat.reduceMul, Nat.reduceSub, wpY_cast, hdn, Bool.not_true, yc_ownPromise H, Nat.lt_of_not_le w1, w1, false_and, and_false, decide_false, Bool.and_false]
end
end
section
/-! node, ask, vote, propose, power -/
def kp_ (g : Nat → Nat) (base : Nat) (f : Nat → Nat) (d : Nat) : Nat → Nat := fun j => if base ≤ j ∧ j < base + d then f (j - base) else g j
theorem kp_0 {g f : Nat → Nat} {base : Nat} : kp_ g base f 0 = g := by
  funext j; exact if_neg (by omega)
theorem kp_s {g f : Nat → Nat} {base p : Nat} : st_n (kp_ g base f p) (base + p) (f p) = kp_ g base f (p + 1) := by
  funext j
  show (if j = base + p then f p else if base ≤ j ∧ j < base + p then f (j - base) else g j) = if base ≤ j ∧ j < base + (p + 1) then f (j - base) else g j
  by_cases e : j = base + p
  · rw [if_pos e, if_pos (by omega), e, Nat.add_sub_cancel_left]
  · rw [if_neg e]
    by_cases h : base ≤ j ∧ j < base + p
    · rw [if_pos h, if_pos (by omega)]
    · rw [if_neg h, if_neg (by omega)]
theorem kp_in {g f : Nat → Nat} {base d p : Nat} (h : p < d) : kp_ g base f d (base + p) = f p := by
  unfold kp_; rw [if_pos (by omega), Nat.add_sub_cancel_left]
theorem kp_out {g f : Nat → Nat} {base d j : Nat} (h : j < base ∨ base + d ≤ j) : kp_ g base f d j = g j := by
  unfold kp_; rw [if_neg (by omega)]
theorem sb_22 (a : Nat) : a + 2 - 2 = a := by omega
theorem sb_32 (a : Nat) : a + 3 - 2 = a + 1 := by omega
theorem sb_42 (a : Nat) : a + 4 - 2 = a + 2 := by omega
theorem sb_66 (a : Nat) : a + 6 - 6 = a := by omega
theorem sb_76 (a : Nat) : a + 7 - 6 = a + 1 := by omega
theorem sb_86 (a : Nat) : a + 8 - 6 = a + 2 := by omega
section
variable {bg : Nat} {df iq tb up fa co fr dn : Nat → Bool} {op ov sp sv qb qi qj qv ql so ba an pk kv vo kn : Nat → Nat} {srt num : Nat → Int32}
variable {x y z : Int32} {s k t m n i j a b v f l : Nat}
def va_nod (up : Nat → Bool) (op ov sp sv ql : Nat → Nat) (n w : Nat) : Int32 :=
  if w = 0 then bo_i (up n) else if w = 1 then nI (op n) else if w ≤ 4 then nI (ov (n * 3 + (w - 2))) else if w = 5 then nI (sp n) else if w ≤ 8 then nI (sv (n * 3 + (w - 6))) else nI (ql n)
def va_node (up : Nat → Bool) (op ov sp sv ql : Nat → Nat) (x y : Int32) : Int32 := if (iz 0 6 x && iz 0 9 y) = true then va_nod up op ov sp sv ql (cl_ x) (cl_ y) else -nI 1
theorem xc_node {post : Int32 → Prop} : wpX_node post (nI bg, ar_b df, ar_b iq, ar_b tb, ar_b up, ar_n op, ar_n ov, ar_n sp, ar_n sv, ar_n qb, ar_n qi, ar_n qv, ar_n ql, ar_n so, ar_b fa, ar_n ba, ar_n an, ar_b co, pc_x pk, ar_b fr, ar_n kv, ar_n vo, ar_n kn) x y ↔ post (va_node up op ov sp sv ql x y) := by
  unfold va_node
  rcases iz_c 0 6 x with h | ⟨n, h1, h2, h3, rfl, h⟩
  · simp (disch := first | omega | assumption) only [li_0, li_1, li_2, li_3, li_4, li_6, li_7, li_8, li_9, li_10, li_12, li_21, li_24, li_31, li_60, li_63, li_127, li_128, li_256, li_312, li_384, nI_add, nu_mul, nu_sub, nu_div, nu_and, nu_or, nu_shr, nu_bit, nu_diff, bi_2, nI_leI, nI_ltI, nI_eq, vp_in_nI, nI_clamp, ar_na, ar_ba, bo_0, bo_1, bo_it, bo_if, bo_w, bo_w0, bo_w1, bo_nar, bo_n1, bo_nn0, st_bu, st_bu1, st_bu0, st_nu, forall_eq, true_implies, false_implies, forall_const, not_true_eq_false, not_false_eq_true, and_true, true_and, implies_true, and_self, Bool.false_eq_true, Bool.true_eq_false, reduceCtorEq, ite_true, ite_false, if_true, if_false, eq_self, Nat.zero_add, Nat.add_zero, Nat.le_refl, Nat.lt_irrefl, Nat.reduceEqDiff, Nat.reduceLeDiff, Nat.reduceLT, Nat.reduceAdd, Nat.reduceMul, Nat.reduceSub, wpX_node, xc_isNode, h, Bool.false_and]
  · rcases iz_c 0 9 y with g | ⟨w, g1, g2, g3, rfl, g⟩
    · simp (disch := first | omega | assumption) only [li_0, li_1, li_2, li_3, li_4, li_6, li_7, li_8, li_9, li_10, li_12, li_21, li_24, li_31, li_60, li_63, li_127, li_128, li_256, li_312, li_384, nI_add, nu_mul, nu_sub, nu_div, nu_and, nu_or, nu_shr, nu_bit, nu_diff, bi_2, nI_leI, nI_ltI, nI_eq, vp_in_nI, nI_clamp, ar_na, ar_ba, bo_0, bo_1, bo_it, bo_if, bo_w, bo_w0, bo_w1, bo_nar, bo_n1, bo_nn0, st_bu, st_bu1, st_bu0, st_nu, forall_eq, true_implies, false_implies, forall_const, not_true_eq_false, not_false_eq_true, and_true, true_and, implies_true, and_self, Bool.false_eq_true, Bool.true_eq_false, reduceCtorEq, ite_true, ite_false, if_true, if_false, eq_self, Nat.zero_add, Nat.add_zero, Nat.le_refl, Nat.lt_irrefl, Nat.reduceEqDiff, Nat.reduceLeDiff, Nat.reduceLT, Nat.reduceAdd, Nat.reduceMul, Nat.reduceSub, wpX_node, xc_isNode, xc_within, h, g, Bool.and_false]
    · rw [cl_n h3, cl_n g3]
      rcases (by omega : w = 0 ∨ w = 1 ∨ w = 2 ∨ w = 3 ∨ w = 4 ∨ w = 5 ∨ w = 6 ∨ w = 7 ∨ w = 8 ∨ w = 9) with rfl | rfl | rfl | rfl | rfl | rfl | rfl | rfl | rfl | rfl <;> simp (disch := first | omega | assumption) only [li_0, li_1, li_2, li_3, li_4, li_6, li_7, li_8, li_9, li_10, li_12, li_21, li_24, li_31, li_60, li_63, li_127, li_128, li_256, li_312, li_384, nI_add, nu_mul, nu_sub, nu_div, nu_and, nu_or, nu_shr, nu_bit, nu_diff, bi_2, nI_leI, nI_ltI, nI_eq, vp_in_nI, nI_clamp, ar_na, ar_ba, bo_0, bo_1, bo_it, bo_if, bo_w, bo_w0, bo_w1, bo_nar, bo_n1, bo_nn0, st_bu, st_bu1, st_bu0, st_nu, forall_eq, true_implies, false_implies, forall_const, not_true_eq_false, not_false_eq_true, and_true, true_and, implies_true, and_self, Bool.false_eq_true, Bool.true_eq_false, reduceCtorEq, ite_true, ite_false, if_true, if_false, eq_self, Nat.zero_add, Nat.add_zero, Nat.le_refl, Nat.lt_irrefl, Nat.reduceEqDiff, Nat.reduceLeDiff, Nat.reduceLT, Nat.reduceAdd, Nat.reduceMul, Nat.reduceSub, wpX_node, wX_node_94, wX_node_114, xc_isNode, xc_within, li_5, h, g, Bool.and_self, va_nod, bo_pq, sb_22, sb_32, sb_42, sb_66, sb_76, sb_86]
theorem bo_pn {b : Bool} {P : Int32 → Prop} : (((!b) = false → P (nI 1)) ∧ (¬ (!b) = false → P (nI 0))) ↔ P (bo_i b) := by
  cases b <;> simp <;> exact Iff.rfl
theorem yc_node {post : Int32 → Prop} (H : in_all bg df iq up fr dn op ov sp sv qb qi qj qv ql so ba an pk kv vo kn srt num) : wpY_node post (nI bg, srt, num, ar_n so, ar_n ba, ar_n an, pc_y pk, ar_n kv, ar_b fa, ar_b co, ar_b fr, ar_b dn, ar_n sp, ar_n sv, ar_n ql, ar_n qb, ar_n qj, ar_n qv, ar_n vo, ar_n kn) x y ↔ post (va_node up op ov sp sv ql x y) := by
  unfold va_node
  rcases iz_c 0 6 x with h | ⟨n, h1, h2, h3, rfl, h⟩
  · simp (disch := first | omega | assumption) only [li_0, li_1, li_2, li_3, li_4, li_6, li_7, li_8, li_9, li_10, li_12, li_21, li_24, li_31, li_60, li_63, li_127, li_128, li_256, li_312, li_384, nI_add, nu_mul, nu_sub, nu_div, nu_and, nu_or, nu_shr, nu_bit, nu_diff, bi_2, nI_leI, nI_ltI, nI_eq, vp_in_nI, nI_clamp, ar_na, ar_ba, bo_0, bo_1, bo_it, bo_if, bo_w, bo_w0, bo_w1, bo_nar, bo_n1, bo_nn0, st_bu, st_bu1, st_bu0, st_nu, forall_eq, true_implies, false_implies, forall_const, not_true_eq_false, not_false_eq_true, and_true, true_and, implies_true, and_self, Bool.false_eq_true, Bool.true_eq_false, reduceCtorEq, ite_true, ite_false, if_true, if_false, eq_self, Nat.zero_add, Nat.add_zero, Nat.le_refl, Nat.lt_irrefl, Nat.reduceEqDiff, Nat.reduceLeDiff, Nat.reduceLT, Nat.reduceAdd, Nat.reduceMul, Nat.reduceSub, wpY_node, yc_in, h, Bool.false_and]
  · rcases iz_c 0 9 y with g | ⟨w, g1, g2, g3, rfl, g⟩
    · simp (disch := first | omega | assumption) only [li_0, li_1, li_2, li_3, li_4, li_6, li_7, li_8, li_9, li_10, li_12, li_21, li_24, li_31, li_60, li_63, li_127, li_128, li_256, li_312, li_384, nI_add, nu_mul, nu_sub, nu_div, nu_and, nu_or, nu_shr, nu_bit, nu_diff, bi_2, nI_leI, nI_ltI, nI_eq, vp_in_nI, nI_clamp, ar_na, ar_ba, bo_0, bo_1, bo_it, bo_if, bo_w, bo_w0, bo_w1, bo_nar, bo_n1, bo_nn0, st_bu, st_bu1, st_bu0, st_nu, forall_eq, true_implies, false_implies, forall_const, not_true_eq_false, not_false_eq_true, and_true, true_and, implies_true, and_self, Bool.false_eq_true, Bool.true_eq_false, reduceCtorEq, ite_true, ite_false, if_true, if_false, eq_self, Nat.zero_add, Nat.add_zero, Nat.le_refl, Nat.lt_irrefl, Nat.reduceEqDiff, Nat.reduceLeDiff, Nat.reduceLT, Nat.reduceAdd, Nat.reduceMul, Nat.reduceSub, wpY_node, yc_in, h, g, Bool.and_false]
    · rw [cl_n h3, cl_n g3]
      have hdn := H.2.2.2.2.2.2.2.2.2 n
      rcases (by omega : w = 0 ∨ w = 1 ∨ w = 2 ∨ w = 3 ∨ w = 4 ∨ w = 5 ∨ w = 6 ∨ w = 7 ∨ w = 8 ∨ w = 9) with rfl | rfl | rfl | rfl | rfl | rfl | rfl | rfl | rfl | rfl <;> simp (disch := first | omega | assumption) only [li_0, li_1, li_2, li_3, li_4, li_6, li_7, li_8, li_9, li_10, li_12, li_21, li_24, li_31, li_60, li_63, li_127, li_128, li_256, li_312, li_384, nI_add, nu_mul, nu_sub, nu_div, nu_and, nu_or, nu_shr, nu_bit, nu_diff, bi_2, nI_leI, nI_ltI, nI_eq, vp_in_nI, nI_clamp, ar_na, ar_ba, bo_0, bo_1, bo_it, bo_if, bo_w, bo_w0, bo_w1, bo_nar, bo_n1, bo_nn0, st_bu, st_bu1, st_bu0, st_nu, forall_eq, true_implies, false_implies, forall_const, not_true_eq_false, not_false_eq_true, and_true, true_and, implies_true, and_self, Bool.false_eq_true, Bool.true_eq_false, reduceCtorEq, ite_true, ite_false, if_true, if_false, eq_self, Nat.zero_add, Nat.add_zero, Nat.le_refl, Nat.lt_irrefl, Nat.reduceEqDiff, Nat.reduceLeDiff, Nat.reduceLT, Nat.reduceAdd, Nat.reduceMul, Nat.reduceSub, wpY_node, yc_in, li_5, h, g, Bool.and_self, va_nod, hdn, bo_pn, yc_ownPromise H, yc_ownVote H, cm_3, sb_66, sb_76, sb_86]
def wa_ (up : Nat → Bool) (op ql : Nat → Nat) (b n : Nat) : Bool := up n && decide (ql n < 6) && decide (op n < b)
theorem xc_ask {post : Int32 → SX → Prop} (H : in_all bg df iq up fr dn op ov sp sv qb qi qj qv ql so ba an pk kv vo kn srt num) : wpX_ask post (nI bg, ar_b df, ar_b iq, ar_b tb, ar_b up, ar_n op, ar_n ov, ar_n sp, ar_n sv, ar_n qb, ar_n qi, ar_n qv, ar_n ql, ar_n so, ar_b fa, ar_n ba, ar_n an, ar_b co, pc_x pk, ar_b fr, ar_n kv, ar_n vo, ar_n kn) x y ↔ (((iz 1 bg x && (iz 0 6 y && wa_ up op ql (cl_ x) (cl_ y))) = false → post (nI 0) (nI bg, ar_b df, ar_b iq, ar_b tb, ar_b up, ar_n op, ar_n ov, ar_n sp, ar_n sv, ar_n qb, ar_n qi, ar_n qv, ar_n ql, ar_n so, ar_b fa, ar_n ba, ar_n an, ar_b co, pc_x pk, ar_b fr, ar_n kv, ar_n vo, ar_n kn)) ∧ ((iz 1 bg x && (iz 0 6 y && wa_ up op ql (cl_ x) (cl_ y))) = true → post (nI 1) (nI bg, ar_b df, ar_b iq, ar_b tb, ar_b up, ar_n (st_n op (cl_ y) (cl_ x)), ar_n ov, ar_n sp, ar_n sv, ar_n (st_n qb (cl_ y * 6 + ql (cl_ y)) (cl_ x)), ar_n (st_n qi (cl_ y * 6 + ql (cl_ y)) 0), ar_n (st_n qv (cl_ y * 6 + ql (cl_ y)) 0), ar_n (st_n ql (cl_ y) (ql (cl_ y) + 1)), ar_n so, ar_b fa, ar_n ba, ar_n an, ar_b co, pc_x pk, ar_b fr, ar_n kv, ar_n vo, ar_n kn))) := by
  have hb := H.1
  rcases iz_c 1 bg x with h | ⟨b, h1, h2, h3, rfl, h⟩
  · simp (disch := first | omega | assumption) only [li_0, li_1, li_2, li_3, li_4, li_6, li_7, li_8, li_9, li_10, li_12, li_21, li_24, li_31, li_60, li_63, li_127, li_128, li_256, li_312, li_384, nI_add, nu_mul, nu_sub, nu_div, nu_and, nu_or, nu_shr, nu_bit, nu_diff, bi_2, nI_leI, nI_ltI, nI_eq, vp_in_nI, nI_clamp, ar_na, ar_ba, bo_0, bo_1, bo_it, bo_if, bo_w, bo_w0, bo_w1, bo_nar, bo_n1, bo_nn0, st_bu, st_bu1, st_bu0, st_nu, forall_eq, true_implies, false_implies, forall_const, not_true_eq_false, not_false_eq_true, and_true, true_and, implies_true, and_self, Bool.false_eq_true, Bool.true_eq_false, reduceCtorEq, ite_true, ite_false, if_true, if_false, eq_self, Nat.zero_add, Nat.add_zero, Nat.le_refl, Nat.lt_irrefl, Nat.reduceEqDiff, Nat.reduceLeDiff, Nat.reduceLT, Nat.reduceAdd, Nat.reduceMul, Nat.reduceSub, wpX_ask, xc_isBallot, h, Bool.false_and]
  · rcases iz_c 0 6 y with g | ⟨n, g1, g2, g3, rfl, g⟩
    · simp (disch := first | omega | assumption) only [li_0, li_1, li_2, li_3, li_4, li_6, li_7, li_8, li_9, li_10, li_12, li_21, li_24, li_31, li_60, li_63, li_127, li_128, li_256, li_312, li_384, nI_add, nu_mul, nu_sub, nu_div, nu_and, nu_or, nu_shr, nu_bit, nu_diff, bi_2, nI_leI, nI_ltI, nI_eq, vp_in_nI, nI_clamp, ar_na, ar_ba, bo_0, bo_1, bo_it, bo_if, bo_w, bo_w0, bo_w1, bo_nar, bo_n1, bo_nn0, st_bu, st_bu1, st_bu0, st_nu, forall_eq, true_implies, false_implies, forall_const, not_true_eq_false, not_false_eq_true, and_true, true_and, implies_true, and_self, Bool.false_eq_true, Bool.true_eq_false, reduceCtorEq, ite_true, ite_false, if_true, if_false, eq_self, Nat.zero_add, Nat.add_zero, Nat.le_refl, Nat.lt_irrefl, Nat.reduceEqDiff, Nat.reduceLeDiff, Nat.reduceLT, Nat.reduceAdd, Nat.reduceMul, Nat.reduceSub, wpX_ask, xc_isBallot, xc_isNode, h, g, Bool.false_and, Bool.and_false]
    · rw [cl_n h3, cl_n g3]
      unfold wa_
      cases w : up n && decide (ql n < 6) && decide (op n < b)
      · simp (disch := first | omega | assumption) only [li_0, li_1, li_2, li_3, li_4, li_6, li_7, li_8, li_9, li_10, li_12, li_21, li_24, li_31, li_60, li_63, li_127, li_128, li_256, li_312, li_384, nI_add, nu_mul, nu_sub, nu_div, nu_and, nu_or, nu_shr, nu_bit, nu_diff, bi_2, nI_leI, nI_ltI, nI_eq, vp_in_nI, nI_clamp, ar_na, ar_ba, bo_0, bo_1, bo_it, bo_if, bo_w, bo_w0, bo_w1, bo_nar, bo_n1, bo_nn0, st_bu, st_bu1, st_bu0, st_nu, forall_eq, true_implies, false_implies, forall_const, not_true_eq_false, not_false_eq_true, and_true, true_and, implies_true, and_self, Bool.false_eq_true, Bool.true_eq_false, reduceCtorEq, ite_true, ite_false, if_true, if_false, eq_self, Nat.zero_add, Nat.add_zero, Nat.le_refl, Nat.lt_irrefl, Nat.reduceEqDiff, Nat.reduceLeDiff, Nat.reduceLT, Nat.reduceAdd, Nat.reduceMul, Nat.reduceSub, wpX_ask, xc_isBallot, xc_isNode, h, g, xc_wouldAnswer H, w, Bool.and_false]
      · have hq : ql n < 6 := by
          simp only [Bool.and_eq_true, decide_eq_true_eq] at w
          exact w.1.2
        simp (disch := first | omega | assumption) only [li_0, li_1, li_2, li_3, li_4, li_6, li_7, li_8, li_9, li_10, li_12, li_21, li_24, li_31, li_60, li_63, li_127, li_128, li_256, li_312, li_384, nI_add, nu_mul, nu_sub, nu_div, nu_and, nu_or, nu_shr, nu_bit, nu_diff, bi_2, nI_leI, nI_ltI, nI_eq, vp_in_nI, nI_clamp, ar_na, ar_ba, bo_0, bo_1, bo_it, bo_if, bo_w, bo_w0, bo_w1, bo_nar, bo_n1, bo_nn0, st_bu, st_bu1, st_bu0, st_nu, forall_eq, true_implies, false_implies, forall_const, not_true_eq_false, not_false_eq_true, and_true, true_and, implies_true, and_self, Bool.false_eq_true, Bool.true_eq_false, reduceCtorEq, ite_true, ite_false, if_true, if_false, eq_self, Nat.zero_add, Nat.add_zero, Nat.le_refl, Nat.lt_irrefl, Nat.reduceEqDiff, Nat.reduceLeDiff, Nat.reduceLT, Nat.reduceAdd, Nat.reduceMul, Nat.reduceSub, wpX_ask, xc_isBallot, xc_isNode, h, g, xc_wouldAnswer H, w, Bool.and_self, xc_writeAnswer]
theorem yc_ask {post : Int32 → SY → Prop} (H : in_all bg df iq up fr dn op ov sp sv qb qi qj qv ql so ba an pk kv vo kn srt num) : wpY_ask post (nI bg, srt, num, ar_n so, ar_n ba, ar_n an, pc_y pk, ar_n kv, ar_b fa, ar_b co, ar_b fr, ar_b dn, ar_n sp, ar_n sv, ar_n ql, ar_n qb, ar_n qj, ar_n qv, ar_n vo, ar_n kn) x y ↔ (((iz 1 bg x && (iz 0 6 y && wa_ up op ql (cl_ x) (cl_ y))) = false → post (nI 0) (nI bg, srt, num, ar_n so, ar_n ba, ar_n an, pc_y pk, ar_n kv, ar_b fa, ar_b co, ar_b fr, ar_b dn, ar_n sp, ar_n sv, ar_n ql, ar_n qb, ar_n qj, ar_n qv, ar_n vo, ar_n kn)) ∧ ((iz 1 bg x && (iz 0 6 y && wa_ up op ql (cl_ x) (cl_ y))) = true → post (nI 1) (nI bg, srt, num, ar_n so, ar_n ba, ar_n an, pc_y pk, ar_n kv, ar_b fa, ar_b co, ar_b fr, ar_b dn, ar_n sp, ar_n sv, ar_n (st_n ql (cl_ y) (ql (cl_ y) + 1)), ar_n (st_n qb (cl_ y * 6 + ql (cl_ y)) (cl_ x)), ar_n (st_n qj (cl_ y * 6 + ql (cl_ y)) 3), ar_n (st_n qv (cl_ y * 6 + ql (cl_ y)) 0), ar_n vo, ar_n kn))) := by
  have hb := H.1
  rcases iz_c 1 bg x with h | ⟨b, h1, h2, h3, rfl, h⟩
  · simp (disch := first | omega | assumption) only [li_0, li_1, li_2, li_3, li_4, li_6, li_7, li_8, li_9, li_10, li_12, li_21, li_24, li_31, li_60, li_63, li_127, li_128, li_256, li_312, li_384, nI_add, nu_mul, nu_sub, nu_div, nu_and, nu_or, nu_shr, nu_bit, nu_diff, bi_2, nI_leI, nI_ltI, nI_eq, vp_in_nI, nI_clamp, ar_na, ar_ba, bo_0, bo_1, bo_it, bo_if, bo_w, bo_w0, bo_w1, bo_nar, bo_n1, bo_nn0, st_bu, st_bu1, st_bu0, st_nu, forall_eq, true_implies, false_implies, forall_const, not_true_eq_false, not_false_eq_true, and_true, true_and, implies_true, and_self, Bool.false_eq_true, Bool.true_eq_false, reduceCtorEq, ite_true, ite_false, if_true, if_false, eq_self, Nat.zero_add, Nat.add_zero, Nat.le_refl, Nat.lt_irrefl, Nat.reduceEqDiff, Nat.reduceLeDiff, Nat.reduceLT, Nat.reduceAdd, Nat.reduceMul, Nat.reduceSub, wpY_ask, yc_isBallot, h, Bool.false_and]
  · rcases iz_c 0 6 y with g | ⟨n, g1, g2, g3, rfl, g⟩
    · simp (disch := first | omega | assumption) only [li_0, li_1, li_2, li_3, li_4, li_6, li_7, li_8, li_9, li_10, li_12, li_21, li_24, li_31, li_60, li_63, li_127, li_128, li_256, li_312, li_384, nI_add, nu_mul, nu_sub, nu_div, nu_and, nu_or, nu_shr, nu_bit, nu_diff, bi_2, nI_leI, nI_ltI, nI_eq, vp_in_nI, nI_clamp, ar_na, ar_ba, bo_0, bo_1, bo_it, bo_if, bo_w, bo_w0, bo_w1, bo_nar, bo_n1, bo_nn0, st_bu, st_bu1, st_bu0, st_nu, forall_eq, true_implies, false_implies, forall_const, not_true_eq_false, not_false_eq_true, and_true, true_and, implies_true, and_self, Bool.false_eq_true, Bool.true_eq_false, reduceCtorEq, ite_true, ite_false, if_true, if_false, eq_self, Nat.zero_add, Nat.add_zero, Nat.le_refl, Nat.lt_irrefl, Nat.reduceEqDiff, Nat.reduceLeDiff, Nat.reduceLT, Nat.reduceAdd, Nat.reduceMul, Nat.reduceSub, wpY_ask, yc_isBallot, yc_in, h, g, Bool.false_and, Bool.and_false]
    · rw [cl_n h3, cl_n g3]
      have hn : n < 7 := by omega
      have hop := op_le H hn
      have hdn := H.2.2.2.2.2.2.2.2.2 n
      have hq6 := (H.2.2.2.2.2.2.1 n hn).1
      unfold wa_
      cases z : up n
      · rw [z] at hdn
        simp (disch := first | omega | assumption) only [li_0, li_1, li_2, li_3, li_4, li_6, li_7, li_8, li_9, li_10, li_12, li_21, li_24, li_31, li_60, li_63, li_127, li_128, li_256, li_312, li_384, nI_add, nu_mul, nu_sub, nu_div, nu_and, nu_or, nu_shr, nu_bit, nu_diff, bi_2, nI_leI, nI_ltI, nI_eq, vp_in_nI, nI_clamp, ar_na, ar_ba, bo_0, bo_1, bo_it, bo_if, bo_w, bo_w0, bo_w1, bo_nar, bo_n1, bo_nn0, st_bu, st_bu1, st_bu0, st_nu, forall_eq, true_implies, false_implies, forall_const, not_true_eq_false, not_false_eq_true, and_true, true_and, implies_true, and_self, Bool.false_eq_true, Bool.true_eq_false, reduceCtorEq, ite_true, ite_false, if_true, if_false, eq_self, Nat.zero_add, Nat.add_zero, Nat.le_refl, Nat.lt_irrefl, Nat.reduceEqDiff, Nat.reduceLeDiff, Nat.reduceLT, Nat.reduceAdd, Nat.reduceMul, Nat.reduceSub, wpY_ask, yc_isBallot, yc_in, h, g, hdn, Bool.not_false, Bool.false_and, Bool.and_false]
      · rw [z] at hdn
        by_cases w1 : op n < b
        · by_cases w3 : ql n = 6
          · simp (disch := first | omega | assumption) only [li_0, li_1, li_2, li_3, li_4, li_6, li_7, li_8, li_9, li_10, li_12, li_21, li_24, li_31, li_60, li_63, li_127, li_128, li_256, li_312, li_384, nI_add, nu_mul, nu_sub, nu_div, nu_and, nu_or, nu_shr, nu_bit, nu_diff, bi_2, nI_leI, nI_ltI, nI_eq, vp_in_nI, nI_clamp, ar_na, ar_ba, bo_0, bo_1, bo_it, bo_if, bo_w, bo_w0, bo_w1, bo_nar, bo_n1, bo_nn0, st_bu, st_bu1, st_bu0, st_nu, forall_eq, true_implies, false_implies, forall_const, not_true_eq_false, not_false_eq_true, and_true, true_and, implies_true, and_self, Bool.false_eq_true, Bool.true_eq_false, reduceCtorEq, ite_true, ite_false, if_true, if_false, eq_self, Nat.zero_add, Nat.add_zero, Nat.le_refl, Nat.lt_irrefl, Nat.reduceEqDiff, Nat.reduceLeDiff, Nat.reduceLT, Nat.reduceAdd, Nat.reduceMul, Nat.reduceSub, wpY_ask, yc_isBallot, yc_in, h, g, hdn, Bool.not_true, yc_ownPromise H, Nat.not_le.mpr w1, yc_write, w3, decide_false, Bool.true_and, Bool.false_and, Bool.and_false]
          · simp (disch := first | omega | assumption) only [li_0, li_1, li_2, li_3, li_4, li_6, li_7, li_8, li_9, li_10, li_12, li_21, li_24, li_31, li_60, li_63, li_127, li_128, li_256, li_312, li_384, nI_add, nu_mul, nu_sub, nu_div, nu_and, nu_or, nu_shr, nu_bit, nu_diff, bi_2, nI_leI, nI_ltI, nI_eq, vp_in_nI, nI_clamp, ar_na, ar_ba, bo_0, bo_1, bo_it, bo_if, bo_w, bo_w0, bo_w1, bo_nar, bo_n1, bo_nn0, st_bu, st_bu1, st_bu0, st_nu, forall_eq, true_implies, false_implies, forall_const, not_true_eq_false, not_false_eq_true, and_true, true_and, implies_true, and_self, Bool.false_eq_true, Bool.true_eq_false, reduceCtorEq, ite_true, ite_false, if_true, if_false, eq_self, Nat.zero_add, Nat.add_zero, Nat.le_refl, Nat.lt_irrefl, Nat.reduceEqDiff, Nat.reduceLeDiff, Nat.reduceLT, Nat.reduceAdd, Nat.reduceMul, Nat.reduceSub, wpY_ask, yc_isBallot, yc_in, h, g, hdn, Bool.not_true, yc_ownPromise H, w1, Nat.not_le.mpr w1, yc_write, w3, show ql n < 6 by omega, decide_true, Bool.and_self]
        · simp (disch := first | omega | assumption) only [li_0, li_1, li_2, li_3, li_4, li_6, li_7, li_8, li_9, li_10, li_12, li_21, li_24, li_31, li_60, li_63, li_127, li_128, li_256, li_312, li_384, nI_add, nu_mul, nu_sub, nu_div, nu_and, nu_or, nu_shr, nu_bit, nu_diff, bi_2, nI_leI, nI_ltI, nI_eq, vp_in_nI, nI_clamp, ar_na, ar_ba, bo_0, bo_1, bo_it, bo_if, bo_w, bo_w0, bo_w1, bo_nar, bo_n1, bo_nn0, st_bu, st_bu1, st_bu0, st_nu, forall_eq, true_implies, false_implies, forall_const, not_true_eq_false, not_false_eq_true, and_true, true_and, implies_true, and_self, Bool.false_eq_true, Bool.true_eq_false, reduceCtorEq, ite_true, ite_false, if_true, if_false, eq_self, Nat.zero_add, Nat.add_zero, Nat.le_refl, Nat.lt_irrefl, Nat.reduceEqDiff, Nat.reduceLeDiff, Nat.reduceLT, Nat.reduceAdd, Nat.reduceMul, Nat.reduceSub, wpY_ask, yc_isBallot, yc_in, h, g, hdn, Bool.not_true, yc_ownPromise H, w1, Nat.le_of_not_lt w1, decide_false, Bool.and_false]
theorem xc_vote {post : Int32 → SX → Prop} (H : in_all bg df iq up fr dn op ov sp sv qb qi qj qv ql so ba an pk kv vo kn srt num) : wpX_vote post (nI bg, ar_b df, ar_b iq, ar_b tb, ar_b up, ar_n op, ar_n ov, ar_n sp, ar_n sv, ar_n qb, ar_n qi, ar_n qv, ar_n ql, ar_n so, ar_b fa, ar_n ba, ar_n an, ar_b co, pc_x pk, ar_b fr, ar_n kv, ar_n vo, ar_n kn) x y z ↔ (((iz 1 bg x && (iz 0 2 y && (iz 0 6 z && (decide (2 ≤ pk (cl_ x * 3 + cl_ y)) && wo_ up op ov ql pk (cl_ x) (cl_ y) (cl_ z))))) = false → post (nI 0) (nI bg, ar_b df, ar_b iq, ar_b tb, ar_b up, ar_n op, ar_n ov, ar_n sp, ar_n sv, ar_n qb, ar_n qi, ar_n qv, ar_n ql, ar_n so, ar_b fa, ar_n ba, ar_n an, ar_b co, pc_x pk, ar_b fr, ar_n kv, ar_n vo, ar_n kn)) ∧ ((iz 1 bg x && (iz 0 2 y && (iz 0 6 z && (decide (2 ≤ pk (cl_ x * 3 + cl_ y)) && wo_ up op ov ql pk (cl_ x) (cl_ y) (cl_ z))))) = true → post (nI 1) (nI bg, ar_b df, ar_b iq, ar_b tb, ar_b up, ar_n (st_n op (cl_ z) (cl_ x)), ar_n (st_n ov (cl_ z * 3 + cl_ y) (cl_ x * 8 + (pk (cl_ x * 3 + cl_ y) - 1))), ar_n sp, ar_n sv, ar_n (st_n qb (cl_ z * 6 + ql (cl_ z)) (cl_ x)), ar_n (st_n qi (cl_ z * 6 + ql (cl_ z)) (cl_ y)), ar_n (st_n qv (cl_ z * 6 + ql (cl_ z)) (pk (cl_ x * 3 + cl_ y) - 1)), ar_n (st_n ql (cl_ z) (ql (cl_ z) + 1)), ar_n so, ar_b fa, ar_n ba, ar_n an, ar_b co, pc_x pk, ar_b fr, ar_n kv, ar_n vo, ar_n kn))) := by
  have hb := H.1
  rcases iz_c 1 bg x with h | ⟨b, h1, h2, h3, rfl, h⟩
  · simp (disch := first | omega | assumption) only [li_0, li_1, li_2, li_3, li_4, li_6, li_7, li_8, li_9, li_10, li_12, li_21, li_24, li_31, li_60, li_63, li_127, li_128, li_256, li_312, li_384, nI_add, nu_mul, nu_sub, nu_div, nu_and, nu_or, nu_shr, nu_bit, nu_diff, bi_2, nI_leI, nI_ltI, nI_eq, vp_in_nI, nI_clamp, ar_na, ar_ba, bo_0, bo_1, bo_it, bo_if, bo_w, bo_w0, bo_w1, bo_nar, bo_n1, bo_nn0, st_bu, st_bu1, st_bu0, st_nu, forall_eq, true_implies, false_implies, forall_const, not_true_eq_false, not_false_eq_true, and_true, true_and, implies_true, and_self, Bool.false_eq_true, Bool.true_eq_false, reduceCtorEq, ite_true, ite_false, if_true, if_false, eq_self, Nat.zero_add, Nat.add_zero, Nat.le_refl, Nat.lt_irrefl, Nat.reduceEqDiff, Nat.reduceLeDiff, Nat.reduceLT, Nat.reduceAdd, Nat.reduceMul, Nat.reduceSub, wpX_vote, xc_isBallot, h, Bool.false_and]
  · rcases iz_c 0 2 y with g | ⟨i, g1, g2, g3, rfl, g⟩
    · simp (disch := first | omega | assumption) only [li_0, li_1, li_2, li_3, li_4, li_6, li_7, li_8, li_9, li_10, li_12, li_21, li_24, li_31, li_60, li_63, li_127, li_128, li_256, li_312, li_384, nI_add, nu_mul, nu_sub, nu_div, nu_and, nu_or, nu_shr, nu_bit, nu_diff, bi_2, nI_leI, nI_ltI, nI_eq, vp_in_nI, nI_clamp, ar_na, ar_ba, bo_0, bo_1, bo_it, bo_if, bo_w, bo_w0, bo_w1, bo_nar, bo_n1, bo_nn0, st_bu, st_bu1, st_bu0, st_nu, forall_eq, true_implies, false_implies, forall_const, not_true_eq_false, not_false_eq_true, and_true, true_and, implies_true, and_self, Bool.false_eq_true, Bool.true_eq_false, reduceCtorEq, ite_true, ite_false, if_true, if_false, eq_self, Nat.zero_add, Nat.add_zero, Nat.le_refl, Nat.lt_irrefl, Nat.reduceEqDiff, Nat.reduceLeDiff, Nat.reduceLT, Nat.reduceAdd, Nat.reduceMul, Nat.reduceSub, wpX_vote, xc_isBallot, xc_isInstance, h, g, Bool.false_and, Bool.and_false]
    · rcases iz_c 0 6 z with e | ⟨n, e1, e2, e3, rfl, e⟩
      · simp (disch := first | omega | assumption) only [li_0, li_1, li_2, li_3, li_4, li_6, li_7, li_8, li_9, li_10, li_12, li_21, li_24, li_31, li_60, li_63, li_127, li_128, li_256, li_312, li_384, nI_add, nu_mul, nu_sub, nu_div, nu_and, nu_or, nu_shr, nu_bit, nu_diff, bi_2, nI_leI, nI_ltI, nI_eq, vp_in_nI, nI_clamp, ar_na, ar_ba, bo_0, bo_1, bo_it, bo_if, bo_w, bo_w0, bo_w1, bo_nar, bo_n1, bo_nn0, st_bu, st_bu1, st_bu0, st_nu, forall_eq, true_implies, false_implies, forall_const, not_true_eq_false, not_false_eq_true, and_true, true_and, implies_true, and_self, Bool.false_eq_true, Bool.true_eq_false, reduceCtorEq, ite_true, ite_false, if_true, if_false, eq_self, Nat.zero_add, Nat.add_zero, Nat.le_refl, Nat.lt_irrefl, Nat.reduceEqDiff, Nat.reduceLeDiff, Nat.reduceLT, Nat.reduceAdd, Nat.reduceMul, Nat.reduceSub, wpX_vote, xc_isBallot, xc_isInstance, xc_isNode, h, g, e, Bool.false_and, Bool.and_false]
      · rw [cl_n h3, cl_n g3, cl_n e3]
        have hpk := (H.2.2.2.1 (b * 3 + i)).1
        rcases (by omega : pk (b * 3 + i) = 0 ∨ pk (b * 3 + i) = 1 ∨ 2 ≤ pk (b * 3 + i)) with w | w | w
        · have hw : wo_ up op ov ql pk b i n = false := by unfold wo_; rw [w]; simp
          simp (disch := first | omega | assumption) only [li_0, li_1, li_2, li_3, li_4, li_6, li_7, li_8, li_9, li_10, li_12, li_21, li_24, li_31, li_60, li_63, li_127, li_128, li_256, li_312, li_384, nI_add, nu_mul, nu_sub, nu_div, nu_and, nu_or, nu_shr, nu_bit, nu_diff, bi_2, nI_leI, nI_ltI, nI_eq, vp_in_nI, nI_clamp, ar_na, ar_ba, bo_0, bo_1, bo_it, bo_if, bo_w, bo_w0, bo_w1, bo_nar, bo_n1, bo_nn0, st_bu, st_bu1, st_bu0, st_nu, forall_eq, true_implies, false_implies, forall_const, not_true_eq_false, not_false_eq_true, and_true, true_and, implies_true, and_self, Bool.false_eq_true, Bool.true_eq_false, reduceCtorEq, ite_true, ite_false, if_true, if_false, eq_self, Nat.zero_add, Nat.add_zero, Nat.le_refl, Nat.lt_irrefl, Nat.reduceEqDiff, Nat.reduceLeDiff, Nat.reduceLT, Nat.reduceAdd, Nat.reduceMul, Nat.reduceSub, wpX_vote, xc_isBallot, xc_isInstance, xc_isNode, h, g, e, pc_x0 w, ng_3', xc_wouldVote H, hw, Bool.false_and, Bool.and_false]
        · simp (disch := first | omega | assumption) only [li_0, li_1, li_2, li_3, li_4, li_6, li_7, li_8, li_9, li_10, li_12, li_21, li_24, li_31, li_60, li_63, li_127, li_128, li_256, li_312, li_384, nI_add, nu_mul, nu_sub, nu_div, nu_and, nu_or, nu_shr, nu_bit, nu_diff, bi_2, nI_leI, nI_ltI, nI_eq, vp_in_nI, nI_clamp, ar_na, ar_ba, bo_0, bo_1, bo_it, bo_if, bo_w, bo_w0, bo_w1, bo_nar, bo_n1, bo_nn0, st_bu, st_bu1, st_bu0, st_nu, forall_eq, true_implies, false_implies, forall_const, not_true_eq_false, not_false_eq_true, and_true, true_and, implies_true, and_self, Bool.false_eq_true, Bool.true_eq_false, reduceCtorEq, ite_true, ite_false, if_true, if_false, eq_self, Nat.zero_add, Nat.add_zero, Nat.le_refl, Nat.lt_irrefl, Nat.reduceEqDiff, Nat.reduceLeDiff, Nat.reduceLT, Nat.reduceAdd, Nat.reduceMul, Nat.reduceSub, wpX_vote, xc_isBallot, xc_isInstance, xc_isNode, h, g, e, pc_xs (show 0 < pk (b * 3 + i) by omega), w, decide_false, Bool.false_and, Bool.and_false]
        · have w1 : ¬ pk (b * 3 + i) - 1 = 0 := by omega
          cases q : wo_ up op ov ql pk b i n
          · simp (disch := first | omega | assumption) only [li_0, li_1, li_2, li_3, li_4, li_6, li_7, li_8, li_9, li_10, li_12, li_21, li_24, li_31, li_60, li_63, li_127, li_128, li_256, li_312, li_384, nI_add, nu_mul, nu_sub, nu_div, nu_and, nu_or, nu_shr, nu_bit, nu_diff, bi_2, nI_leI, nI_ltI, nI_eq, vp_in_nI, nI_clamp, ar_na, ar_ba, bo_0, bo_1, bo_it, bo_if, bo_w, bo_w0, bo_w1, bo_nar, bo_n1, bo_nn0, st_bu, st_bu1, st_bu0, st_nu, forall_eq, true_implies, false_implies, forall_const, not_true_eq_false, not_false_eq_true, and_true, true_and, implies_true, and_self, Bool.false_eq_true, Bool.true_eq_false, reduceCtorEq, ite_true, ite_false, if_true, if_false, eq_self, Nat.zero_add, Nat.add_zero, Nat.le_refl, Nat.lt_irrefl, Nat.reduceEqDiff, Nat.reduceLeDiff, Nat.reduceLT, Nat.reduceAdd, Nat.reduceMul, Nat.reduceSub, wpX_vote, xc_isBallot, xc_isInstance, xc_isNode, h, g, e, pc_xs (show 0 < pk (b * 3 + i) by omega), w1, xc_wouldVote H, q, Bool.and_false]
          · have hq : ql n < 6 := by
              unfold wo_ at q
              simp only [Bool.and_eq_true, decide_eq_true_eq] at q
              exact q.1.2
            simp (disch := first | omega | assumption) only [li_0, li_1, li_2, li_3, li_4, li_6, li_7, li_8, li_9, li_10, li_12, li_21, li_24, li_31, li_60, li_63, li_127, li_128, li_256, li_312, li_384, nI_add, nu_mul, nu_sub, nu_div, nu_and, nu_or, nu_shr, nu_bit, nu_diff, bi_2, nI_leI, nI_ltI, nI_eq, vp_in_nI, nI_clamp, ar_na, ar_ba, bo_0, bo_1, bo_it, bo_if, bo_w, bo_w0, bo_w1, bo_nar, bo_n1, bo_nn0, st_bu, st_bu1, st_bu0, st_nu, forall_eq, true_implies, false_implies, forall_const, not_true_eq_false, not_false_eq_true, and_true, true_and, implies_true, and_self, Bool.false_eq_true, Bool.true_eq_false, reduceCtorEq, ite_true, ite_false, if_true, if_false, eq_self, Nat.zero_add, Nat.add_zero, Nat.le_refl, Nat.lt_irrefl, Nat.reduceEqDiff, Nat.reduceLeDiff, Nat.reduceLT, Nat.reduceAdd, Nat.reduceMul, Nat.reduceSub, wpX_vote, xc_isBallot, xc_isInstance, xc_isNode, h, g, e, pc_xs (show 0 < pk (b * 3 + i) by omega), w, w1, xc_wouldVote H, q, Bool.and_self, decide_true, xc_writeVote]
theorem yc_vote {post : Int32 → SY → Prop} (H : in_all bg df iq up fr dn op ov sp sv qb qi qj qv ql so ba an pk kv vo kn srt num) : wpY_vote post (nI bg, srt, num, ar_n so, ar_n ba, ar_n an, pc_y pk, ar_n kv, ar_b fa, ar_b co, ar_b fr, ar_b dn, ar_n sp, ar_n sv, ar_n ql, ar_n qb, ar_n qj, ar_n qv, ar_n vo, ar_n kn) x y z ↔ (((iz 1 bg x && (iz 0 2 y && (iz 0 6 z && (decide (2 ≤ pk (cl_ x * 3 + cl_ y)) && wo_ up op ov ql pk (cl_ x) (cl_ y) (cl_ z))))) = false → post (nI 0) (nI bg, srt, num, ar_n so, ar_n ba, ar_n an, pc_y pk, ar_n kv, ar_b fa, ar_b co, ar_b fr, ar_b dn, ar_n sp, ar_n sv, ar_n ql, ar_n qb, ar_n qj, ar_n qv, ar_n vo, ar_n kn)) ∧ ((iz 1 bg x && (iz 0 2 y && (iz 0 6 z && (decide (2 ≤ pk (cl_ x * 3 + cl_ y)) && wo_ up op ov ql pk (cl_ x) (cl_ y) (cl_ z))))) = true → post (nI 1) (nI bg, srt, num, ar_n so, ar_n ba, ar_n an, pc_y pk, ar_n kv, ar_b fa, ar_b co, ar_b fr, ar_b dn, ar_n sp, ar_n sv, ar_n (st_n ql (cl_ z) (ql (cl_ z) + 1)), ar_n (st_n qb (cl_ z * 6 + ql (cl_ z)) (cl_ x)), ar_n (st_n qj (cl_ z * 6 + ql (cl_ z)) (cl_ y)), ar_n (st_n qv (cl_ z * 6 + ql (cl_ z)) (pk (cl_ x * 3 + cl_ y) - 1)), ar_n vo, ar_n kn))) := by
  have hb := H.1
  rcases iz_c 1 bg x with h | ⟨b, h1, h2, h3, rfl, h⟩
  · simp (disch := first | omega | assumption) only [li_0, li_1, li_2, li_3, li_4, li_6, li_7, li_8, li_9, li_10, li_12, li_21, li_24, li_31, li_60, li_63, li_127, li_128, li_256, li_312, li_384, nI_add, nu_mul, nu_sub, nu_div, nu_and, nu_or, nu_shr, nu_bit, nu_diff, bi_2, nI_leI, nI_ltI, nI_eq, vp_in_nI, nI_clamp, ar_na, ar_ba, bo_0, bo_1, bo_it, bo_if, bo_w, bo_w0, bo_w1, bo_nar, bo_n1, bo_nn0, st_bu, st_bu1, st_bu0, st_nu, forall_eq, true_implies, false_implies, forall_const, not_true_eq_false, not_false_eq_true, and_true, true_and, implies_true, and_self, Bool.false_eq_true, Bool.true_eq_false, reduceCtorEq, ite_true, ite_false, if_true, if_false, eq_self, Nat.zero_add, Nat.add_zero, Nat.le_refl, Nat.lt_irrefl, Nat.reduceEqDiff, Nat.reduceLeDiff, Nat.reduceLT, Nat.reduceAdd, Nat.reduceMul, Nat.reduceSub, wpY_vote, yc_isBallot, h, Bool.false_and]
  · rcases iz_c 0 2 y with g | ⟨i, g1, g2, g3, rfl, g⟩
    · simp (disch := first | omega | assumption) only [li_0, li_1, li_2, li_3, li_4, li_6, li_7, li_8, li_9, li_10, li_12, li_21, li_24, li_31, li_60, li_63, li_127, li_128, li_256, li_312, li_384, nI_add, nu_mul, nu_sub, nu_div, nu_and, nu_or, nu_shr, nu_bit, nu_diff, bi_2, nI_leI, nI_ltI, nI_eq, vp_in_nI, nI_clamp, ar_na, ar_ba, bo_0, bo_1, bo_it, bo_if, bo_w, bo_w0, bo_w1, bo_nar, bo_n1, bo_nn0, st_bu, st_bu1, st_bu0, st_nu, forall_eq, true_implies, false_implies, forall_const, not_true_eq_false, not_false_eq_true, and_true, true_and, implies_true, and_self, Bool.false_eq_true, Bool.true_eq_false, reduceCtorEq, ite_true, ite_false, if_true, if_false, eq_self, Nat.zero_add, Nat.add_zero, Nat.le_refl, Nat.lt_irrefl, Nat.reduceEqDiff, Nat.reduceLeDiff, Nat.reduceLT, Nat.reduceAdd, Nat.reduceMul, Nat.reduceSub, wpY_vote, yc_isBallot, yc_in, h, g, Bool.false_and, Bool.and_false]
    · rcases iz_c 0 6 z with e | ⟨n, e1, e2, e3, rfl, e⟩
      · simp (disch := first | omega | assumption) only [li_0, li_1, li_2, li_3, li_4, li_6, li_7, li_8, li_9, li_10, li_12, li_21, li_24, li_31, li_60, li_63, li_127, li_128, li_256, li_312, li_384, nI_add, nu_mul, nu_sub, nu_div, nu_and, nu_or, nu_shr, nu_bit, nu_diff, bi_2, nI_leI, nI_ltI, nI_eq, vp_in_nI, nI_clamp, ar_na, ar_ba, bo_0, bo_1, bo_it, bo_if, bo_w, bo_w0, bo_w1, bo_nar, bo_n1, bo_nn0, st_bu, st_bu1, st_bu0, st_nu, forall_eq, true_implies, false_implies, forall_const, not_true_eq_false, not_false_eq_true, and_true, true_and, implies_true, and_self, Bool.false_eq_true, Bool.true_eq_false, reduceCtorEq, ite_true, ite_false, if_true, if_false, eq_self, Nat.zero_add, Nat.add_zero, Nat.le_refl, Nat.lt_irrefl, Nat.reduceEqDiff, Nat.reduceLeDiff, Nat.reduceLT, Nat.reduceAdd, Nat.reduceMul, Nat.reduceSub, wpY_vote, yc_isBallot, yc_in, h, g, e, Bool.false_and, Bool.and_false]
      · rw [cl_n h3, cl_n g3, cl_n e3]
        have hpk := (H.2.2.2.1 (b * 3 + i)).1
        rcases (by omega : pk (b * 3 + i) = 0 ∨ pk (b * 3 + i) = 1 ∨ 2 ≤ pk (b * 3 + i)) with w | w | w
        · simp (disch := first | omega | assumption) only [li_0, li_1, li_2, li_3, li_4, li_6, li_7, li_8, li_9, li_10, li_12, li_21, li_24, li_31, li_60, li_63, li_127, li_128, li_256, li_312, li_384, nI_add, nu_mul, nu_sub, nu_div, nu_and, nu_or, nu_shr, nu_bit, nu_diff, bi_2, nI_leI, nI_ltI, nI_eq, vp_in_nI, nI_clamp, ar_na, ar_ba, bo_0, bo_1, bo_it, bo_if, bo_w, bo_w0, bo_w1, bo_nar, bo_n1, bo_nn0, st_bu, st_bu1, st_bu0, st_nu, forall_eq, true_implies, false_implies, forall_const, not_true_eq_false, not_false_eq_true, and_true, true_and, implies_true, and_self, Bool.false_eq_true, Bool.true_eq_false, reduceCtorEq, ite_true, ite_false, if_true, if_false, eq_self, Nat.zero_add, Nat.add_zero, Nat.le_refl, Nat.lt_irrefl, Nat.reduceEqDiff, Nat.reduceLeDiff, Nat.reduceLT, Nat.reduceAdd, Nat.reduceMul, Nat.reduceSub, wpY_vote, yc_isBallot, yc_in, h, g, e, cm_3, pc_y0 w, ng_10', w, decide_false, Bool.false_and, Bool.and_false]
        · simp (disch := first | omega | assumption) only [li_0, li_1, li_2, li_3, li_4, li_6, li_7, li_8, li_9, li_10, li_12, li_21, li_24, li_31, li_60, li_63, li_127, li_128, li_256, li_312, li_384, nI_add, nu_mul, nu_sub, nu_div, nu_and, nu_or, nu_shr, nu_bit, nu_diff, bi_2, nI_leI, nI_ltI, nI_eq, vp_in_nI, nI_clamp, ar_na, ar_ba, bo_0, bo_1, bo_it, bo_if, bo_w, bo_w0, bo_w1, bo_nar, bo_n1, bo_nn0, st_bu, st_bu1, st_bu0, st_nu, forall_eq, true_implies, false_implies, forall_const, not_true_eq_false, not_false_eq_true, and_true, true_and, implies_true, and_self, Bool.false_eq_true, Bool.true_eq_false, reduceCtorEq, ite_true, ite_false, if_true, if_false, eq_self, Nat.zero_add, Nat.add_zero, Nat.le_refl, Nat.lt_irrefl, Nat.reduceEqDiff, Nat.reduceLeDiff, Nat.reduceLT, Nat.reduceAdd, Nat.reduceMul, Nat.reduceSub, wpY_vote, yc_isBallot, yc_in, h, g, e, cm_3, pc_ys (show 0 < pk (b * 3 + i) by omega), w, decide_false, Bool.false_and, Bool.and_false]
        · have w1 : ¬ pk (b * 3 + i) - 1 ≤ 0 := by omega
          have w2 : pk (b * 3 + i) ≠ 0 := by omega
          cases q : wo_ up op ov ql pk b i n
          · simp (disch := first | omega | assumption) only [li_0, li_1, li_2, li_3, li_4, li_6, li_7, li_8, li_9, li_10, li_12, li_21, li_24, li_31, li_60, li_63, li_127, li_128, li_256, li_312, li_384, nI_add, nu_mul, nu_sub, nu_div, nu_and, nu_or, nu_shr, nu_bit, nu_diff, bi_2, nI_leI, nI_ltI, nI_eq, vp_in_nI, nI_clamp, ar_na, ar_ba, bo_0, bo_1, bo_it, bo_if, bo_w, bo_w0, bo_w1, bo_nar, bo_n1, bo_nn0, st_bu, st_bu1, st_bu0, st_nu, forall_eq, true_implies, false_implies, forall_const, not_true_eq_false, not_false_eq_true, and_true, true_and, implies_true, and_self, Bool.false_eq_true, Bool.true_eq_false, reduceCtorEq, ite_true, ite_false, if_true, if_false, eq_self, Nat.zero_add, Nat.add_zero, Nat.le_refl, Nat.lt_irrefl, Nat.reduceEqDiff, Nat.reduceLeDiff, Nat.reduceLT, Nat.reduceAdd, Nat.reduceMul, Nat.reduceSub, wpY_vote, yc_isBallot, yc_in, h, g, e, cm_3, pc_ys (show 0 < pk (b * 3 + i) by omega), w1, yc_cast H, q, Bool.and_false]
          · simp (disch := first | omega | assumption) only [li_0, li_1, li_2, li_3, li_4, li_6, li_7, li_8, li_9, li_10, li_12, li_21, li_24, li_31, li_60, li_63, li_127, li_128, li_256, li_312, li_384, nI_add, nu_mul, nu_sub, nu_div, nu_and, nu_or, nu_shr, nu_bit, nu_diff, bi_2, nI_leI, nI_ltI, nI_eq, vp_in_nI, nI_clamp, ar_na, ar_ba, bo_0, bo_1, bo_it, bo_if, bo_w, bo_w0, bo_w1, bo_nar, bo_n1, bo_nn0, st_bu, st_bu1, st_bu0, st_nu, forall_eq, true_implies, false_implies, forall_const, not_true_eq_false, not_false_eq_true, and_true, true_and, implies_true, and_self, Bool.false_eq_true, Bool.true_eq_false, reduceCtorEq, ite_true, ite_false, if_true, if_false, eq_self, Nat.zero_add, Nat.add_zero, Nat.le_refl, Nat.lt_irrefl, Nat.reduceEqDiff, Nat.reduceLeDiff, Nat.reduceLT, Nat.reduceAdd, Nat.reduceMul, Nat.reduceSub, wpY_vote, yc_isBallot, yc_in, h, g, e, cm_3, pc_ys (show 0 < pk (b * 3 + i) by omega), w, w1, yc_cast H, q, Bool.and_self, decide_true]
theorem xc_propose {post : Int32 → SX → Prop} {w : Int32} (H : in_all bg df iq up fr dn op ov sp sv qb qi qj qv ql so ba an pk kv vo kn srt num) : wpX_propose post (nI bg, ar_b df, ar_b iq, ar_b tb, ar_b up, ar_n op, ar_n ov, ar_n sp, ar_n sv, ar_n qb, ar_n qi, ar_n qv, ar_n ql, ar_n so, ar_b fa, ar_n ba, ar_n an, ar_b co, pc_x pk, ar_b fr, ar_n kv, ar_n vo, ar_n kn) x y z w ↔ (((iz 1 bg x && (iz 0 2 y && (iz 0 6 z && (iz 1 7 w && (decide (pk (cl_ x * 3 + cl_ y) = 1) && wo_ up op ov ql pk (cl_ x) (cl_ y) (cl_ z)))))) = false → post (nI 0) (nI bg, ar_b df, ar_b iq, ar_b tb, ar_b up, ar_n op, ar_n ov, ar_n sp, ar_n sv, ar_n qb, ar_n qi, ar_n qv, ar_n ql, ar_n so, ar_b fa, ar_n ba, ar_n an, ar_b co, pc_x pk, ar_b fr, ar_n kv, ar_n vo, ar_n kn)) ∧ ((iz 1 bg x && (iz 0 2 y && (iz 0 6 z && (iz 1 7 w && (decide (pk (cl_ x * 3 + cl_ y) = 1) && wo_ up op ov ql pk (cl_ x) (cl_ y) (cl_ z)))))) = true → post (nI 1) (nI bg, ar_b df, ar_b iq, ar_b tb, ar_b up, ar_n (st_n op (cl_ z) (cl_ x)), ar_n (st_n ov (cl_ z * 3 + cl_ y) (cl_ x * 8 + cl_ w)), ar_n sp, ar_n sv, ar_n (st_n qb (cl_ z * 6 + ql (cl_ z)) (cl_ x)), ar_n (st_n qi (cl_ z * 6 + ql (cl_ z)) (cl_ y)), ar_n (st_n qv (cl_ z * 6 + ql (cl_ z)) (cl_ w)), ar_n (st_n ql (cl_ z) (ql (cl_ z) + 1)), ar_n so, ar_b fa, ar_n ba, ar_n an, ar_b co, pc_x pk, ar_b fr, ar_n kv, ar_n vo, ar_n kn))) := by
  have hb := H.1
  rcases iz_c 1 bg x with h | ⟨b, h1, h2, h3, rfl, h⟩
  · simp (disch := first | omega | assumption) only [li_0, li_1, li_2, li_3, li_4, li_6, li_7, li_8, li_9, li_10, li_12, li_21, li_24, li_31, li_60, li_63, li_127, li_128, li_256, li_312, li_384, nI_add, nu_mul, nu_sub, nu_div, nu_and, nu_or, nu_shr, nu_bit, nu_diff, bi_2, nI_leI, nI_ltI, nI_eq, vp_in_nI, nI_clamp, ar_na, ar_ba, bo_0, bo_1, bo_it, bo_if, bo_w, bo_w0, bo_w1, bo_nar, bo_n1, bo_nn0, st_bu, st_bu1, st_bu0, st_nu, forall_eq, true_implies, false_implies, forall_const, not_true_eq_false, not_false_eq_true, and_true, true_and, implies_true, and_self, Bool.false_eq_true, Bool.true_eq_false, reduceCtorEq, ite_true, ite_false, if_true, if_false, eq_self, Nat.zero_add, Nat.add_zero, Nat.le_refl, Nat.lt_irrefl, Nat.reduceEqDiff, Nat.reduceLeDiff, Nat.reduceLT, Nat.reduceAdd, Nat.reduceMul, Nat.reduceSub, wpX_propose, xc_isBallot, h, Bool.false_and]
  · rcases iz_c 0 2 y with g | ⟨i, g1, g2, g3, rfl, g⟩
    · simp (disch := first | omega | assumption) only [li_0, li_1, li_2, li_3, li_4, li_6, li_7, li_8, li_9, li_10, li_12, li_21, li_24, li_31, li_60, li_63, li_127, li_128, li_256, li_312, li_384, nI_add, nu_mul, nu_sub, nu_div, nu_and, nu_or, nu_shr, nu_bit, nu_diff, bi_2, nI_leI, nI_ltI, nI_eq, vp_in_nI, nI_clamp, ar_na, ar_ba, bo_0, bo_1, bo_it, bo_if, bo_w, bo_w0, bo_w1, bo_nar, bo_n1, bo_nn0, st_bu, st_bu1, st_bu0, st_nu, forall_eq, true_implies, false_implies, forall_const, not_true_eq_false, not_false_eq_true, and_true, true_and, implies_true, and_self, Bool.false_eq_true, Bool.true_eq_false, reduceCtorEq, ite_true, ite_false, if_true, if_false, eq_self, Nat.zero_add, Nat.add_zero, Nat.le_refl, Nat.lt_irrefl, Nat.reduceEqDiff, Nat.reduceLeDiff, Nat.reduceLT, Nat.reduceAdd, Nat.reduceMul, Nat.reduceSub, wpX_propose, xc_isBallot, xc_isInstance, h, g, Bool.false_and, Bool.and_false]
    · rcases iz_c 0 6 z with e | ⟨n, e1, e2, e3, rfl, e⟩
      · simp (disch := first | omega | assumption) only [li_0, li_1, li_2, li_3, li_4, li_6, li_7, li_8, li_9, li_10, li_12, li_21, li_24, li_31, li_60, li_63, li_127, li_128, li_256, li_312, li_384, nI_add, nu_mul, nu_sub, nu_div, nu_and, nu_or, nu_shr, nu_bit, nu_diff, bi_2, nI_leI, nI_ltI, nI_eq, vp_in_nI, nI_clamp, ar_na, ar_ba, bo_0, bo_1, bo_it, bo_if, bo_w, bo_w0, bo_w1, bo_nar, bo_n1, bo_nn0, st_bu, st_bu1, st_bu0, st_nu, forall_eq, true_implies, false_implies, forall_const, not_true_eq_false, not_false_eq_true, and_true, true_and, implies_true, and_self, Bool.false_eq_true, Bool.true_eq_false, reduceCtorEq, ite_true, ite_false, if_true, if_false, eq_self, Nat.zero_add, Nat.add_zero, Nat.le_refl, Nat.lt_irrefl, Nat.reduceEqDiff, Nat.reduceLeDiff, Nat.reduceLT, Nat.reduceAdd, Nat.reduceMul, Nat.reduceSub, wpX_propose, xc_isBallot, xc_isInstance, xc_isNode, h, g, e, Bool.false_and, Bool.and_false]
      · rcases iz_c 1 7 w with f | ⟨v, f1, f2, f3, rfl, f⟩
        · simp (disch := first | omega | assumption) only [li_0, li_1, li_2, li_3, li_4, li_6, li_7, li_8, li_9, li_10, li_12, li_21, li_24, li_31, li_60, li_63, li_127, li_128, li_256, li_312, li_384, nI_add, nu_mul, nu_sub, nu_div, nu_and, nu_or, nu_shr, nu_bit, nu_diff, bi_2, nI_leI, nI_ltI, nI_eq, vp_in_nI, nI_clamp, ar_na, ar_ba, bo_0, bo_1, bo_it, bo_if, bo_w, bo_w0, bo_w1, bo_nar, bo_n1, bo_nn0, st_bu, st_bu1, st_bu0, st_nu, forall_eq, true_implies, false_implies, forall_const, not_true_eq_false, not_false_eq_true, and_true, true_and, implies_true, and_self, Bool.false_eq_true, Bool.true_eq_false, reduceCtorEq, ite_true, ite_false, if_true, if_false, eq_self, Nat.zero_add, Nat.add_zero, Nat.le_refl, Nat.lt_irrefl, Nat.reduceEqDiff, Nat.reduceLeDiff, Nat.reduceLT, Nat.reduceAdd, Nat.reduceMul, Nat.reduceSub, wpX_propose, xc_isBallot, xc_isInstance, xc_isNode, xc_isValue, h, g, e, f, Bool.false_and, Bool.and_false]
        · rw [cl_n h3, cl_n g3, cl_n e3, cl_n f3]
          have hpk := (H.2.2.2.1 (b * 3 + i)).1
          rcases (by omega : pk (b * 3 + i) = 0 ∨ pk (b * 3 + i) = 1 ∨ 2 ≤ pk (b * 3 + i)) with w | w | w
          · simp (disch := first | omega | assumption) only [li_0, li_1, li_2, li_3, li_4, li_6, li_7, li_8, li_9, li_10, li_12, li_21, li_24, li_31, li_60, li_63, li_127, li_128, li_256, li_312, li_384, nI_add, nu_mul, nu_sub, nu_div, nu_and, nu_or, nu_shr, nu_bit, nu_diff, bi_2, nI_leI, nI_ltI, nI_eq, vp_in_nI, nI_clamp, ar_na, ar_ba, bo_0, bo_1, bo_it, bo_if, bo_w, bo_w0, bo_w1, bo_nar, bo_n1, bo_nn0, st_bu, st_bu1, st_bu0, st_nu, forall_eq, true_implies, false_implies, forall_const, not_true_eq_false, not_false_eq_true, and_true, true_and, implies_true, and_self, Bool.false_eq_true, Bool.true_eq_false, reduceCtorEq, ite_true, ite_false, if_true, if_false, eq_self, Nat.zero_add, Nat.add_zero, Nat.le_refl, Nat.lt_irrefl, Nat.reduceEqDiff, Nat.reduceLeDiff, Nat.reduceLT, Nat.reduceAdd, Nat.reduceMul, Nat.reduceSub, wpX_propose, xc_isBallot, xc_isInstance, xc_isNode, xc_isValue, h, g, e, f, pc_x0 w, w, ng_3', decide_false, Bool.false_and, Bool.and_false]
          · cases q : wo_ up op ov ql pk b i n
            · simp (disch := first | omega | assumption) only [li_0, li_1, li_2, li_3, li_4, li_6, li_7, li_8, li_9, li_10, li_12, li_21, li_24, li_31, li_60, li_63, li_127, li_128, li_256, li_312, li_384, nI_add, nu_mul, nu_sub, nu_div, nu_and, nu_or, nu_shr, nu_bit, nu_diff, bi_2, nI_leI, nI_ltI, nI_eq, vp_in_nI, nI_clamp, ar_na, ar_ba, bo_0, bo_1, bo_it, bo_if, bo_w, bo_w0, bo_w1, bo_nar, bo_n1, bo_nn0, st_bu, st_bu1, st_bu0, st_nu, forall_eq, true_implies, false_implies, forall_const, not_true_eq_false, not_false_eq_true, and_true, true_and, implies_true, and_self, Bool.false_eq_true, Bool.true_eq_false, reduceCtorEq, ite_true, ite_false, if_true, if_false, eq_self, Nat.zero_add, Nat.add_zero, Nat.le_refl, Nat.lt_irrefl, Nat.reduceEqDiff, Nat.reduceLeDiff, Nat.reduceLT, Nat.reduceAdd, Nat.reduceMul, Nat.reduceSub, wpX_propose, xc_isBallot, xc_isInstance, xc_isNode, xc_isValue, h, g, e, f, pc_xs (show 0 < pk (b * 3 + i) by omega), w, xc_wouldVote H, q, Bool.and_false]
            · have hq : ql n < 6 := by
                unfold wo_ at q
                simp only [Bool.and_eq_true, decide_eq_true_eq] at q
                exact q.1.2
              simp (disch := first | omega | assumption) only [li_0, li_1, li_2, li_3, li_4, li_6, li_7, li_8, li_9, li_10, li_12, li_21, li_24, li_31, li_60, li_63, li_127, li_128, li_256, li_312, li_384, nI_add, nu_mul, nu_sub, nu_div, nu_and, nu_or, nu_shr, nu_bit, nu_diff, bi_2, nI_leI, nI_ltI, nI_eq, vp_in_nI, nI_clamp, ar_na, ar_ba, bo_0, bo_1, bo_it, bo_if, bo_w, bo_w0, bo_w1, bo_nar, bo_n1, bo_nn0, st_bu, st_bu1, st_bu0, st_nu, forall_eq, true_implies, false_implies, forall_const, not_true_eq_false, not_false_eq_true, and_true, true_and, implies_true, and_self, Bool.false_eq_true, Bool.true_eq_false, reduceCtorEq, ite_true, ite_false, if_true, if_false, eq_self, Nat.zero_add, Nat.add_zero, Nat.le_refl, Nat.lt_irrefl, Nat.reduceEqDiff, Nat.reduceLeDiff, Nat.reduceLT, Nat.reduceAdd, Nat.reduceMul, Nat.reduceSub, wpX_propose, xc_isBallot, xc_isInstance, xc_isNode, xc_isValue, h, g, e, f, pc_xs (show 0 < pk (b * 3 + i) by omega), w, xc_wouldVote H, q, Bool.and_self, decide_true, xc_writeVote]
          · simp (disch := first | omega | assumption) only [li_0, li_1, li_2, li_3, li_4, li_6, li_7, li_8, li_9, li_10, li_12, li_21, li_24, li_31, li_60, li_63, li_127, li_128, li_256, li_312, li_384, nI_add, nu_mul, nu_sub, nu_div, nu_and, nu_or, nu_shr, nu_bit, nu_diff, bi_2, nI_leI, nI_ltI, nI_eq, vp_in_nI, nI_clamp, ar_na, ar_ba, bo_0, bo_1, bo_it, bo_if, bo_w, bo_w0, bo_w1, bo_nar, bo_n1, bo_nn0, st_bu, st_bu1, st_bu0, st_nu, forall_eq, true_implies, false_implies, forall_const, not_true_eq_false, not_false_eq_true, and_true, true_and, implies_true, and_self, Bool.false_eq_true, Bool.true_eq_false, reduceCtorEq, ite_true, ite_false, if_true, if_false, eq_self, Nat.zero_add, Nat.add_zero, Nat.le_refl, Nat.lt_irrefl, Nat.reduceEqDiff, Nat.reduceLeDiff, Nat.reduceLT, Nat.reduceAdd, Nat.reduceMul, Nat.reduceSub, wpX_propose, xc_isBallot, xc_isInstance, xc_isNode, xc_isValue, h, g, e, f, pc_xs (show 0 < pk (b * 3 + i) by omega), show ¬ pk (b * 3 + i) - 1 = 0 by omega, show ¬ pk (b * 3 + i) = 1 by omega, decide_false, Bool.false_and, Bool.and_false]
theorem yc_propose {post : Int32 → SY → Prop} {w : Int32} (H : in_all bg df iq up fr dn op ov sp sv qb qi qj qv ql so ba an pk kv vo kn srt num) : wpY_propose post (nI bg, srt, num, ar_n so, ar_n ba, ar_n an, pc_y pk, ar_n kv, ar_b fa, ar_b co, ar_b fr, ar_b dn, ar_n sp, ar_n sv, ar_n ql, ar_n qb, ar_n qj, ar_n qv, ar_n vo, ar_n kn) x y z w ↔ (((iz 1 bg x && (iz 0 2 y && (iz 0 6 z && (iz 1 7 w && (decide (pk (cl_ x * 3 + cl_ y) = 1) && wo_ up op ov ql pk (cl_ x) (cl_ y) (cl_ z)))))) = false → post (nI 0) (nI bg, srt, num, ar_n so, ar_n ba, ar_n an, pc_y pk, ar_n kv, ar_b fa, ar_b co, ar_b fr, ar_b dn, ar_n sp, ar_n sv, ar_n ql, ar_n qb, ar_n qj, ar_n qv, ar_n vo, ar_n kn)) ∧ ((iz 1 bg x && (iz 0 2 y && (iz 0 6 z && (iz 1 7 w && (decide (pk (cl_ x * 3 + cl_ y) = 1) && wo_ up op ov ql pk (cl_ x) (cl_ y) (cl_ z)))))) = true → post (nI 1) (nI bg, srt, num, ar_n so, ar_n ba, ar_n an, pc_y pk, ar_n kv, ar_b fa, ar_b co, ar_b fr, ar_b dn, ar_n sp, ar_n sv, ar_n (st_n ql (cl_ z) (ql (cl_ z) + 1)), ar_n (st_n qb (cl_ z * 6 + ql (cl_ z)) (cl_ x)), ar_n (st_n qj (cl_ z * 6 + ql (cl_ z)) (cl_ y)), ar_n (st_n qv (cl_ z * 6 + ql (cl_ z)) (cl_ w)), ar_n vo, ar_n kn))) := by
  have hb := H.1
  rcases iz_c 1 bg x with h | ⟨b, h1, h2, h3, rfl, h⟩
  · simp (disch := first | omega | assumption) only [li_0, li_1, li_2, li_3, li_4, li_6, li_7, li_8, li_9, li_10, li_12, li_21, li_24, li_31, li_60, li_63, li_127, li_128, li_256, li_312, li_384, nI_add, nu_mul, nu_sub, nu_div, nu_and, nu_or, nu_shr, nu_bit, nu_diff, bi_2, nI_leI, nI_ltI, nI_eq, vp_in_nI, nI_clamp, ar_na, ar_ba, bo_0, bo_1, bo_it, bo_if, bo_w, bo_w0, bo_w1, bo_nar, bo_n1, bo_nn0, st_bu, st_bu1, st_bu0, st_nu, forall_eq, true_implies, false_implies, forall_const, not_true_eq_false, not_false_eq_true, and_true, true_and, implies_true, and_self, Bool.false_eq_true, Bool.true_eq_false, reduceCtorEq, ite_true, ite_false, if_true, if_false, eq_self, Nat.zero_add, Nat.add_zero, Nat.le_refl, Nat.lt_irrefl, Nat.reduceEqDiff, Nat.reduceLeDiff, Nat.reduceLT, Nat.reduceAdd, Nat.reduceMul, Nat.reduceSub, wpY_propose, yc_isBallot, h, Bool.false_and]
  · rcases iz_c 0 2 y with g | ⟨i, g1, g2, g3, rfl, g⟩
    · simp (disch := first | omega | assumption) only [li_0, li_1, li_2, li_3, li_4, li_6, li_7, li_8, li_9, li_10, li_12, li_21, li_24, li_31, li_60, li_63, li_127, li_128, li_256, li_312, li_384, nI_add, nu_mul, nu_sub, nu_div, nu_and, nu_or, nu_shr, nu_bit, nu_diff, bi_2, nI_leI, nI_ltI, nI_eq, vp_in_nI, nI_clamp, ar_na, ar_ba, bo_0, bo_1, bo_it, bo_if, bo_w, bo_w0, bo_w1, bo_nar, bo_n1, bo_nn0, st_bu, st_bu1, st_bu0, st_nu, forall_eq, true_implies, false_implies, forall_const, not_true_eq_false, not_false_eq_true, and_true, true_and, implies_true, and_self, Bool.false_eq_true, Bool.true_eq_false, reduceCtorEq, ite_true, ite_false, if_true, if_false, eq_self, Nat.zero_add, Nat.add_zero, Nat.le_refl, Nat.lt_irrefl, Nat.reduceEqDiff, Nat.reduceLeDiff, Nat.reduceLT, Nat.reduceAdd, Nat.reduceMul, Nat.reduceSub, wpY_propose, yc_isBallot, yc_in, h, g, Bool.false_and, Bool.and_false]
    · rcases iz_c 0 6 z with e | ⟨n, e1, e2, e3, rfl, e⟩
      · simp (disch := first | omega | assumption) only [li_0, li_1, li_2, li_3, li_4, li_6, li_7, li_8, li_9, li_10, li_12, li_21, li_24, li_31, li_60, li_63, li_127, li_128, li_256, li_312, li_384, nI_add, nu_mul, nu_sub, nu_div, nu_and, nu_or, nu_shr, nu_bit, nu_diff, bi_2, nI_leI, nI_ltI, nI_eq, vp_in_nI, nI_clamp, ar_na, ar_ba, bo_0, bo_1, bo_it, bo_if, bo_w, bo_w0, bo_w1, bo_nar, bo_n1, bo_nn0, st_bu, st_bu1, st_bu0, st_nu, forall_eq, true_implies, false_implies, forall_const, not_true_eq_false, not_false_eq_true, and_true, true_and, implies_true, and_self, Bool.false_eq_true, Bool.true_eq_false, reduceCtorEq, ite_true, ite_false, if_true, if_false, eq_self, Nat.zero_add, Nat.add_zero, Nat.le_refl, Nat.lt_irrefl, Nat.reduceEqDiff, Nat.reduceLeDiff, Nat.reduceLT, Nat.reduceAdd, Nat.reduceMul, Nat.reduceSub, wpY_propose, yc_isBallot, yc_in, h, g, e, Bool.false_and, Bool.and_false]
      · rcases iz_c 1 7 w with f | ⟨v, f1, f2, f3, rfl, f⟩
        · simp (disch := first | omega | assumption) only [li_0, li_1, li_2, li_3, li_4, li_6, li_7, li_8, li_9, li_10, li_12, li_21, li_24, li_31, li_60, li_63, li_127, li_128, li_256, li_312, li_384, nI_add, nu_mul, nu_sub, nu_div, nu_and, nu_or, nu_shr, nu_bit, nu_diff, bi_2, nI_leI, nI_ltI, nI_eq, vp_in_nI, nI_clamp, ar_na, ar_ba, bo_0, bo_1, bo_it, bo_if, bo_w, bo_w0, bo_w1, bo_nar, bo_n1, bo_nn0, st_bu, st_bu1, st_bu0, st_nu, forall_eq, true_implies, false_implies, forall_const, not_true_eq_false, not_false_eq_true, and_true, true_and, implies_true, and_self, Bool.false_eq_true, Bool.true_eq_false, reduceCtorEq, ite_true, ite_false, if_true, if_false, eq_self, Nat.zero_add, Nat.add_zero, Nat.le_refl, Nat.lt_irrefl, Nat.reduceEqDiff, Nat.reduceLeDiff, Nat.reduceLT, Nat.reduceAdd, Nat.reduceMul, Nat.reduceSub, wpY_propose, yc_isBallot, yc_in, h, g, e, f, Bool.false_and, Bool.and_false]
        · rw [cl_n h3, cl_n g3, cl_n e3, cl_n f3]
          have hpk := (H.2.2.2.1 (b * 3 + i)).1
          rcases (by omega : pk (b * 3 + i) = 0 ∨ pk (b * 3 + i) = 1 ∨ 2 ≤ pk (b * 3 + i)) with w | w | w
          · simp (disch := first | omega | assumption) only [li_0, li_1, li_2, li_3, li_4, li_6, li_7, li_8, li_9, li_10, li_12, li_21, li_24, li_31, li_60, li_63, li_127, li_128, li_256, li_312, li_384, nI_add, nu_mul, nu_sub, nu_div, nu_and, nu_or, nu_shr, nu_bit, nu_diff, bi_2, nI_leI, nI_ltI, nI_eq, vp_in_nI, nI_clamp, ar_na, ar_ba, bo_0, bo_1, bo_it, bo_if, bo_w, bo_w0, bo_w1, bo_nar, bo_n1, bo_nn0, st_bu, st_bu1, st_bu0, st_nu, forall_eq, true_implies, false_implies, forall_const, not_true_eq_false, not_false_eq_true, and_true, true_and, implies_true, and_self, Bool.false_eq_true, Bool.true_eq_false, reduceCtorEq, ite_true, ite_false, if_true, if_false, eq_self, Nat.zero_add, Nat.add_zero, Nat.le_refl, Nat.lt_irrefl, Nat.reduceEqDiff, Nat.reduceLeDiff, Nat.reduceLT, Nat.reduceAdd, Nat.reduceMul, Nat.reduceSub, wpY_propose, yc_isBallot, yc_in, h, g, e, f, cm_3, pc_y0 w, w, ng_1', decide_false, Bool.false_and, Bool.and_false]
          · have w2 : pk (b * 3 + i) ≠ 0 := by omega
            cases q : wo_ up op ov ql pk b i n
            · simp (disch := first | omega | assumption) only [li_0, li_1, li_2, li_3, li_4, li_6, li_7, li_8, li_9, li_10, li_12, li_21, li_24, li_31, li_60, li_63, li_127, li_128, li_256, li_312, li_384, nI_add, nu_mul, nu_sub, nu_div, nu_and, nu_or, nu_shr, nu_bit, nu_diff, bi_2, nI_leI, nI_ltI, nI_eq, vp_in_nI, nI_clamp, ar_na, ar_ba, bo_0, bo_1, bo_it, bo_if, bo_w, bo_w0, bo_w1, bo_nar, bo_n1, bo_nn0, st_bu, st_bu1, st_bu0, st_nu, forall_eq, true_implies, false_implies, forall_const, not_true_eq_false, not_false_eq_true, and_true, true_and, implies_true, and_self, Bool.false_eq_true, Bool.true_eq_false, reduceCtorEq, ite_true, ite_false, if_true, if_false, eq_self, Nat.zero_add, Nat.add_zero, Nat.le_refl, Nat.lt_irrefl, Nat.reduceEqDiff, Nat.reduceLeDiff, Nat.reduceLT, Nat.reduceAdd, Nat.reduceMul, Nat.reduceSub, wpY_propose, yc_isBallot, yc_in, h, g, e, f, cm_3, pc_ys (show 0 < pk (b * 3 + i) by omega), w, yc_cast H, q, Bool.and_false]
            · simp (disch := first | omega | assumption) only [li_0, li_1, li_2, li_3, li_4, li_6, li_7, li_8, li_9, li_10, li_12, li_21, li_24, li_31, li_60, li_63, li_127, li_128, li_256, li_312, li_384, nI_add, nu_mul, nu_sub, nu_div, nu_and, nu_or, nu_shr, nu_bit, nu_diff, bi_2, nI_leI, nI_ltI, nI_eq, vp_in_nI, nI_clamp, ar_na, ar_ba, bo_0, bo_1, bo_it, bo_if, bo_w, bo_w0, bo_w1, bo_nar, bo_n1, bo_nn0, st_bu, st_bu1, st_bu0, st_nu, forall_eq, true_implies, false_implies, forall_const, not_true_eq_false, not_false_eq_true, and_true, true_and, implies_true, and_self, Bool.false_eq_true, Bool.true_eq_false, reduceCtorEq, ite_true, ite_false, if_true, if_false, eq_self, Nat.zero_add, Nat.add_zero, Nat.le_refl, Nat.lt_irrefl, Nat.reduceEqDiff, Nat.reduceLeDiff, Nat.reduceLT, Nat.reduceAdd, Nat.reduceMul, Nat.reduceSub, wpY_propose, yc_isBallot, yc_in, h, g, e, f, cm_3, pc_ys (show 0 < pk (b * 3 + i) by omega), w, yc_cast H, q, Bool.and_self, decide_true]
          · simp (disch := first | omega | assumption) only [li_0, li_1, li_2, li_3, li_4, li_6, li_7, li_8, li_9, li_10, li_12, li_21, li_24, li_31, li_60, li_63, li_127, li_128, li_256, li_312, li_384, nI_add, nu_mul, nu_sub, nu_div, nu_and, nu_or, nu_shr, nu_bit, nu_diff, bi_2, nI_leI, nI_ltI, nI_eq, vp_in_nI, nI_clamp, ar_na, ar_ba, bo_0, bo_1, bo_it, bo_if, bo_w, bo_w0, bo_w1, bo_nar, bo_n1, bo_nn0, st_bu, st_bu1, st_bu0, st_nu, forall_eq, true_implies, false_implies, forall_const, not_true_eq_false, not_false_eq_true, and_true, true_and, implies_true, and_self, Bool.false_eq_true, Bool.true_eq_false, reduceCtorEq, ite_true, ite_false, if_true, if_false, eq_self, Nat.zero_add, Nat.add_zero, Nat.le_refl, Nat.lt_irrefl, Nat.reduceEqDiff, Nat.reduceLeDiff, Nat.reduceLT, Nat.reduceAdd, Nat.reduceMul, Nat.reduceSub, wpY_propose, yc_isBallot, yc_in, h, g, e, f, cm_3, pc_ys (show 0 < pk (b * 3 + i) by omega), show ¬ pk (b * 3 + i) - 1 = 0 by omega, show ¬ pk (b * 3 + i) = 1 by omega, decide_false, Bool.false_and, Bool.and_false]
theorem xc_loseQueue {post : SX → Prop} (hn : n < 7) : wpX_loseQueue post (nI bg, ar_b df, ar_b iq, ar_b tb, ar_b up, ar_n op, ar_n ov, ar_n sp, ar_n sv, ar_n qb, ar_n qi, ar_n qv, ar_n ql, ar_n so, ar_b fa, ar_n ba, ar_n an, ar_b co, pc_x pk, ar_b fr, ar_n kv, ar_n vo, ar_n kn) (nI n) ↔ post (nI bg, ar_b df, ar_b iq, ar_b tb, ar_b up, ar_n (st_n op n (sp n)), ar_n (kp_ ov (n * 3) (fun i => sv (n * 3 + i)) 3), ar_n sp, ar_n sv, ar_n qb, ar_n qi, ar_n qv, ar_n (st_n ql n 0), ar_n so, ar_b fa, ar_n ba, ar_n an, ar_b co, pc_x pk, ar_b fr, ar_n kv, ar_n vo, ar_n kn) := by
  simp (disch := first | omega | assumption) only [li_0, li_1, li_2, li_3, li_4, li_6, li_7, li_8, li_9, li_10, li_12, li_21, li_24, li_31, li_60, li_63, li_127, li_128, li_256, li_312, li_384, nI_add, nu_mul, nu_sub, nu_div, nu_and, nu_or, nu_shr, nu_bit, nu_diff, bi_2, nI_leI, nI_ltI, nI_eq, vp_in_nI, nI_clamp, ar_na, ar_ba, bo_0, bo_1, bo_it, bo_if, bo_w, bo_w0, bo_w1, bo_nar, bo_n1, bo_nn0, st_bu, st_bu1, st_bu0, st_nu, forall_eq, true_implies, false_implies, forall_const, not_true_eq_false, not_false_eq_true, and_true, true_and, implies_true, and_self, Bool.false_eq_true, Bool.true_eq_false, reduceCtorEq, ite_true, ite_false, if_true, if_false, eq_self, Nat.zero_add, Nat.add_zero, Nat.le_refl, Nat.lt_irrefl, Nat.reduceEqDiff, Nat.reduceLeDiff, Nat.reduceLT, Nat.reduceAdd, Nat.reduceMul, Nat.reduceSub, wpX_loseQueue]
  have key := lo_fold (W := fun m p (_ : Unit) => wX_loseQueue_21 post (nI n) (nI bg) m (nI p) (ar_b df) (ar_b iq) (ar_b tb) (ar_b up) (ar_n (st_n op n (sp n))) (ar_n (kp_ ov (n * 3) (fun i => sv (n * 3 + i)) p)) (ar_n sp) (ar_n sv) (ar_n qb) (ar_n qi) (ar_n qv) (ar_n (st_n ql n 0)) (ar_n so) (ar_b fa) (ar_n ba) (ar_n an) (ar_b co) (pc_x pk) (ar_b fr) (ar_n kv) (ar_n vo) (ar_n kn)) (fin := fun _ => post (nI bg, ar_b df, ar_b iq, ar_b tb, ar_b up, ar_n (st_n op n (sp n)), ar_n (kp_ ov (n * 3) (fun i => sv (n * 3 + i)) 3), ar_n sp, ar_n sv, ar_n qb, ar_n qi, ar_n qv, ar_n (st_n ql n 0), ar_n so, ar_b fa, ar_n ba, ar_n an, ar_b co, pc_x pk, ar_b fr, ar_n kv, ar_n vo, ar_n kn)) (I := fun _ _ => True) (e := 3) (fun _ a => a) (fun _ _ h => h) (fun _ _ _ _ => trivial)
    (by
      intro m _ _
      simp (disch := first | omega | assumption) only [li_0, li_1, li_2, li_3, li_4, li_6, li_7, li_8, li_9, li_10, li_12, li_21, li_24, li_31, li_60, li_63, li_127, li_128, li_256, li_312, li_384, nI_add, nu_mul, nu_sub, nu_div, nu_and, nu_or, nu_shr, nu_bit, nu_diff, bi_2, nI_leI, nI_ltI, nI_eq, vp_in_nI, nI_clamp, ar_na, ar_ba, bo_0, bo_1, bo_it, bo_if, bo_w, bo_w0, bo_w1, bo_nar, bo_n1, bo_nn0, st_bu, st_bu1, st_bu0, st_nu, forall_eq, true_implies, false_implies, forall_const, not_true_eq_false, not_false_eq_true, and_true, true_and, implies_true, and_self, Bool.false_eq_true, Bool.true_eq_false, reduceCtorEq, ite_true, ite_false, if_true, if_false, eq_self, Nat.zero_add, Nat.add_zero, Nat.le_refl, Nat.lt_irrefl, Nat.reduceEqDiff, Nat.reduceLeDiff, Nat.reduceLT, Nat.reduceAdd, Nat.reduceMul, Nat.reduceSub, wX_loseQueue_21])
    (by
      intro m p _ hp _
      simp (disch := first | omega | assumption) only [li_0, li_1, li_2, li_3, li_4, li_6, li_7, li_8, li_9, li_10, li_12, li_21, li_24, li_31, li_60, li_63, li_127, li_128, li_256, li_312, li_384, nI_add, nu_mul, nu_sub, nu_div, nu_and, nu_or, nu_shr, nu_bit, nu_diff, bi_2, nI_leI, nI_ltI, nI_eq, vp_in_nI, nI_clamp, ar_na, ar_ba, bo_0, bo_1, bo_it, bo_if, bo_w, bo_w0, bo_w1, bo_nar, bo_n1, bo_nn0, st_bu, st_bu1, st_bu0, st_nu, forall_eq, true_implies, false_implies, forall_const, not_true_eq_false, not_false_eq_true, and_true, true_and, implies_true, and_self, Bool.false_eq_true, Bool.true_eq_false, reduceCtorEq, ite_true, ite_false, if_true, if_false, eq_self, Nat.zero_add, Nat.add_zero, Nat.le_refl, Nat.lt_irrefl, Nat.reduceEqDiff, Nat.reduceLeDiff, Nat.reduceLT, Nat.reduceAdd, Nat.reduceMul, Nat.reduceSub, wX_loseQueue_21, Nat.not_le.mpr hp]
      rw [← kp_s]) 3 0 () rfl trivial
  rw [kp_0] at key
  exact key
theorem in_lose (H : in_all bg df iq up fr dn op ov sp sv qb qi qj qv ql so ba an pk kv vo kn srt num) (hn : n < 7) : in_all bg df iq (st_b up n false) fr (st_b dn n true) (st_n op n (sp n)) (kp_ ov (n * 3) (fun i => sv (n * 3 + i)) 3) sp sv qb qi qj qv (st_n ql n 0) so ba an pk kv vo kn srt num := by
  obtain ⟨hb, hs, hbb, hp, hv, hc, hq, ho, ha, hd⟩ := H
  refine ⟨hb, hs, hbb, hp, hv, hc, ?_, ?_, ha, ?_⟩
  · intro m hm
    obtain ⟨q1, q2, q3, q4⟩ := hq m hm
    by_cases e : m = n
    · subst e
      rw [st_eq]
      exact ⟨by omega, q2, fun _ => rfl, fun p hp => absurd hp (by omega)⟩
    · rw [st_ne e, st_bne e]
      exact ⟨q1, q2, q3, q4⟩
  · intro m hm
    obtain ⟨o1, o2⟩ := ho m hm
    by_cases e : m = n
    · subst e
      rw [st_eq, st_eq]
      refine ⟨rfl, fun i hi => ?_⟩
      rw [kp_in hi]
      rfl
    · rw [st_ne e, st_ne e]
      refine ⟨o1, fun i hi => ?_⟩
      rw [kp_out (by omega)]
      exact o2 i hi
  · intro j
    by_cases e : j = n
    · subst e; rw [st_beq, st_beq]; rfl
    · rw [st_bne e, st_bne e]; exact hd j
theorem in_rise (H : in_all bg df iq up fr dn op ov sp sv qb qi qj qv ql so ba an pk kv vo kn srt num) (hn : n < 7) : in_all bg df iq (st_b up n true) fr (st_b dn n false) op ov sp sv qb qi qj qv ql so ba an pk kv vo kn srt num := by
  obtain ⟨hb, hs, hbb, hp, hv, hc, hq, ho, ha, hd⟩ := H
  refine ⟨hb, hs, hbb, hp, hv, hc, ?_, ho, ha, ?_⟩
  · intro m hm
    obtain ⟨q1, q2, q3, q4⟩ := hq m hm
    refine ⟨q1, q2, ?_, q4⟩
    by_cases e : m = n
    · subst e; rw [st_beq]; exact fun z => nomatch z
    · rw [st_bne e]; exact q3
  · intro j
    by_cases e : j = n
    · subst e; rw [st_beq, st_beq]; rfl
    · rw [st_bne e, st_bne e]; exact hd j
end
theorem bz_b (v : Int32) : ∃ f, lw_bz v = bo_i f := by
  rcases lw_bz_01 v with h | h
  · exact ⟨false, h⟩
  · exact ⟨true, h⟩
theorem i_vc_power {k : Nat} {u : SX} {v : SY} (I : i_Rel k u v) (hk : k + 7 ≤ 3584) (v1 : Int32) (v2 : Int32) : wpX_power (fun r u' => wpY_power (fun r' v' => r' = r ∧ i_Rel (k + 7) u' v') v v1 (lw_bz v2)) u v1 (lw_bz v2) := by
  have I' : i_Rel (k + 7) u v := I
  obtain ⟨bg, df, iq, tb, up, fa, co, fr, dn, op, ov, sp, sv, qb, qi, qj, qv, ql, so, ba, an, pk, kv, vo, kn, srt, num, rfl, rfl, H⟩ := I
  obtain ⟨f, hf⟩ := bz_b v2
  rw [hf]
  rcases iz_c 0 6 v1 with h | ⟨n, h1, h2, h3, rfl, h⟩
  · simp (disch := first | omega | assumption) only [li_0, li_1, li_2, li_3, li_4, li_6, li_7, li_8, li_9, li_10, li_12, li_21, li_24, li_31, li_60, li_63, li_127, li_128, li_256, li_312, li_384, nI_add, nu_mul, nu_sub, nu_div, nu_and, nu_or, nu_shr, nu_bit, nu_diff, bi_2, nI_leI, nI_ltI, nI_eq, vp_in_nI, nI_clamp, ar_na, ar_ba, bo_0, bo_1, bo_it, bo_if, bo_w, bo_w0, bo_w1, bo_nar, bo_n1, bo_nn0, st_bu, st_bu1, st_bu0, st_nu, forall_eq, true_implies, false_implies, forall_const, not_true_eq_false, not_false_eq_true, and_true, true_and, implies_true, and_self, Bool.false_eq_true, Bool.true_eq_false, reduceCtorEq, ite_true, ite_false, if_true, if_false, eq_self, Nat.zero_add, Nat.add_zero, Nat.le_refl, Nat.lt_irrefl, Nat.reduceEqDiff, Nat.reduceLeDiff, Nat.reduceLT, Nat.reduceAdd, Nat.reduceMul, Nat.reduceSub, wpX_power, xc_isNode, h]
    simp (disch := first | omega | assumption) only [li_0, li_1, li_2, li_3, li_4, li_6, li_7, li_8, li_9, li_10, li_12, li_21, li_24, li_31, li_60, li_63, li_127, li_128, li_256, li_312, li_384, nI_add, nu_mul, nu_sub, nu_div, nu_and, nu_or, nu_shr, nu_bit, nu_diff, bi_2, nI_leI, nI_ltI, nI_eq, vp_in_nI, nI_clamp, ar_na, ar_ba, bo_0, bo_1, bo_it, bo_if, bo_w, bo_w0, bo_w1, bo_nar, bo_n1, bo_nn0, st_bu, st_bu1, st_bu0, st_nu, forall_eq, true_implies, false_implies, forall_const, not_true_eq_false, not_false_eq_true, and_true, true_and, implies_true, and_self, Bool.false_eq_true, Bool.true_eq_false, reduceCtorEq, ite_true, ite_false, if_true, if_false, eq_self, Nat.zero_add, Nat.add_zero, Nat.le_refl, Nat.lt_irrefl, Nat.reduceEqDiff, Nat.reduceLeDiff, Nat.reduceLT, Nat.reduceAdd, Nat.reduceMul, Nat.reduceSub, wpY_power, yc_in, h]
    exact I'
  · have hn : n < 7 := by omega
    have hdn := H.2.2.2.2.2.2.2.2.2 n
    have hql := (H.2.2.2.2.2.2.1 n hn).2.2.1
    cases f
    · cases z : up n
      · rw [z] at hdn
        simp (disch := first | omega | assumption) only [li_0, li_1, li_2, li_3, li_4, li_6, li_7, li_8, li_9, li_10, li_12, li_21, li_24, li_31, li_60, li_63, li_127, li_128, li_256, li_312, li_384, nI_add, nu_mul, nu_sub, nu_div, nu_and, nu_or, nu_shr, nu_bit, nu_diff, bi_2, nI_leI, nI_ltI, nI_eq, vp_in_nI, nI_clamp, ar_na, ar_ba, bo_0, bo_1, bo_it, bo_if, bo_w, bo_w0, bo_w1, bo_nar, bo_n1, bo_nn0, st_bu, st_bu1, st_bu0, st_nu, forall_eq, true_implies, false_implies, forall_const, not_true_eq_false, not_false_eq_true, and_true, true_and, implies_true, and_self, Bool.false_eq_true, Bool.true_eq_false, reduceCtorEq, ite_true, ite_false, if_true, if_false, eq_self, Nat.zero_add, Nat.add_zero, Nat.le_refl, Nat.lt_irrefl, Nat.reduceEqDiff, Nat.reduceLeDiff, Nat.reduceLT, Nat.reduceAdd, Nat.reduceMul, Nat.reduceSub, wpX_power, xc_isNode, h, z]
        simp (disch := first | omega | assumption) only [li_0, li_1, li_2, li_3, li_4, li_6, li_7, li_8, li_9, li_10, li_12, li_21, li_24, li_31, li_60, li_63, li_127, li_128, li_256, li_312, li_384, nI_add, nu_mul, nu_sub, nu_div, nu_and, nu_or, nu_shr, nu_bit, nu_diff, bi_2, nI_leI, nI_ltI, nI_eq, vp_in_nI, nI_clamp, ar_na, ar_ba, bo_0, bo_1, bo_it, bo_if, bo_w, bo_w0, bo_w1, bo_nar, bo_n1, bo_nn0, st_bu, st_bu1, st_bu0, st_nu, forall_eq, true_implies, false_implies, forall_const, not_true_eq_false, not_false_eq_true, and_true, true_and, implies_true, and_self, Bool.false_eq_true, Bool.true_eq_false, reduceCtorEq, ite_true, ite_false, if_true, if_false, eq_self, Nat.zero_add, Nat.add_zero, Nat.le_refl, Nat.lt_irrefl, Nat.reduceEqDiff, Nat.reduceLeDiff, Nat.reduceLT, Nat.reduceAdd, Nat.reduceMul, Nat.reduceSub, wpY_power, yc_in, h, hdn, Bool.not_false]
        exact I'
      · rw [z] at hdn
        have H' := in_lose H hn
        simp (disch := first | omega | assumption) only [li_0, li_1, li_2, li_3, li_4, li_6, li_7, li_8, li_9, li_10, li_12, li_21, li_24, li_31, li_60, li_63, li_127, li_128, li_256, li_312, li_384, nI_add, nu_mul, nu_sub, nu_div, nu_and, nu_or, nu_shr, nu_bit, nu_diff, bi_2, nI_leI, nI_ltI, nI_eq, vp_in_nI, nI_clamp, ar_na, ar_ba, bo_0, bo_1, bo_it, bo_if, bo_w, bo_w0, bo_w1, bo_nar, bo_n1, bo_nn0, st_bu, st_bu1, st_bu0, st_nu, forall_eq, true_implies, false_implies, forall_const, not_true_eq_false, not_false_eq_true, and_true, true_and, implies_true, and_self, Bool.false_eq_true, Bool.true_eq_false, reduceCtorEq, ite_true, ite_false, if_true, if_false, eq_self, Nat.zero_add, Nat.add_zero, Nat.le_refl, Nat.lt_irrefl, Nat.reduceEqDiff, Nat.reduceLeDiff, Nat.reduceLT, Nat.reduceAdd, Nat.reduceMul, Nat.reduceSub, wpX_power, xc_isNode, h, z, xc_loseQueue]
        simp (disch := first | omega | assumption) only [li_0, li_1, li_2, li_3, li_4, li_6, li_7, li_8, li_9, li_10, li_12, li_21, li_24, li_31, li_60, li_63, li_127, li_128, li_256, li_312, li_384, nI_add, nu_mul, nu_sub, nu_div, nu_and, nu_or, nu_shr, nu_bit, nu_diff, bi_2, nI_leI, nI_ltI, nI_eq, vp_in_nI, nI_clamp, ar_na, ar_ba, bo_0, bo_1, bo_it, bo_if, bo_w, bo_w0, bo_w1, bo_nar, bo_n1, bo_nn0, st_bu, st_bu1, st_bu0, st_nu, forall_eq, true_implies, false_implies, forall_const, not_true_eq_false, not_false_eq_true, and_true, true_and, implies_true, and_self, Bool.false_eq_true, Bool.true_eq_false, reduceCtorEq, ite_true, ite_false, if_true, if_false, eq_self, Nat.zero_add, Nat.add_zero, Nat.le_refl, Nat.lt_irrefl, Nat.reduceEqDiff, Nat.reduceLeDiff, Nat.reduceLT, Nat.reduceAdd, Nat.reduceMul, Nat.reduceSub, wpY_power, wY_power_36, yc_in, h, hdn, Bool.not_true]
        exact ⟨_, _, _, _, _, _, _, _, _, _, _, _, _, _, _, _, _, _, _, _, _, _, _, _, _, _, _, rfl, rfl, H'⟩
    · cases z : up n
      · rw [z] at hdn
        have H' := in_rise H hn
        have e : st_n ql n 0 = ql := by
          have := st_self (f := ql) (k := n)
          rw [hql z] at this
          exact this
        simp (disch := first | omega | assumption) only [li_0, li_1, li_2, li_3, li_4, li_6, li_7, li_8, li_9, li_10, li_12, li_21, li_24, li_31, li_60, li_63, li_127, li_128, li_256, li_312, li_384, nI_add, nu_mul, nu_sub, nu_div, nu_and, nu_or, nu_shr, nu_bit, nu_diff, bi_2, nI_leI, nI_ltI, nI_eq, vp_in_nI, nI_clamp, ar_na, ar_ba, bo_0, bo_1, bo_it, bo_if, bo_w, bo_w0, bo_w1, bo_nar, bo_n1, bo_nn0, st_bu, st_bu1, st_bu0, st_nu, forall_eq, true_implies, false_implies, forall_const, not_true_eq_false, not_false_eq_true, and_true, true_and, implies_true, and_self, Bool.false_eq_true, Bool.true_eq_false, reduceCtorEq, ite_true, ite_false, if_true, if_false, eq_self, Nat.zero_add, Nat.add_zero, Nat.le_refl, Nat.lt_irrefl, Nat.reduceEqDiff, Nat.reduceLeDiff, Nat.reduceLT, Nat.reduceAdd, Nat.reduceMul, Nat.reduceSub, wpX_power, xc_isNode, h, z]
        simp (disch := first | omega | assumption) only [li_0, li_1, li_2, li_3, li_4, li_6, li_7, li_8, li_9, li_10, li_12, li_21, li_24, li_31, li_60, li_63, li_127, li_128, li_256, li_312, li_384, nI_add, nu_mul, nu_sub, nu_div, nu_and, nu_or, nu_shr, nu_bit, nu_diff, bi_2, nI_leI, nI_ltI, nI_eq, vp_in_nI, nI_clamp, ar_na, ar_ba, bo_0, bo_1, bo_it, bo_if, bo_w, bo_w0, bo_w1, bo_nar, bo_n1, bo_nn0, st_bu, st_bu1, st_bu0, st_nu, forall_eq, true_implies, false_implies, forall_const, not_true_eq_false, not_false_eq_true, and_true, true_and, implies_true, and_self, Bool.false_eq_true, Bool.true_eq_false, reduceCtorEq, ite_true, ite_false, if_true, if_false, eq_self, Nat.zero_add, Nat.add_zero, Nat.le_refl, Nat.lt_irrefl, Nat.reduceEqDiff, Nat.reduceLeDiff, Nat.reduceLT, Nat.reduceAdd, Nat.reduceMul, Nat.reduceSub, wpY_power, wY_power_36, yc_in, h, hdn, Bool.not_false]
        rw [e]
        exact ⟨_, _, _, _, _, _, _, _, _, _, _, _, _, _, _, _, _, _, _, _, _, _, _, _, _, _, _, rfl, rfl, H'⟩
      · rw [z] at hdn
        simp (disch := first | omega | assumption) only [li_0, li_1, li_2, li_3, li_4, li_6, li_7, li_8, li_9, li_10, li_12, li_21, li_24, li_31, li_60, li_63, li_127, li_128, li_256, li_312, li_384, nI_add, nu_mul, nu_sub, nu_div, nu_and, nu_or, nu_shr, nu_bit, nu_diff, bi_2, nI_leI, nI_ltI, nI_eq, vp_in_nI, nI_clamp, ar_na, ar_ba, bo_0, bo_1, bo_it, bo_if, bo_w, bo_w0, bo_w1, bo_nar, bo_n1, bo_nn0, st_bu, st_bu1, st_bu0, st_nu, forall_eq, true_implies, false_implies, forall_const, not_true_eq_false, not_false_eq_true, and_true, true_and, implies_true, and_self, Bool.false_eq_true, Bool.true_eq_false, reduceCtorEq, ite_true, ite_false, if_true, if_false, eq_self, Nat.zero_add, Nat.add_zero, Nat.le_refl, Nat.lt_irrefl, Nat.reduceEqDiff, Nat.reduceLeDiff, Nat.reduceLT, Nat.reduceAdd, Nat.reduceMul, Nat.reduceSub, wpX_power, xc_isNode, h, z]
        simp (disch := first | omega | assumption) only [li_0, li_1, li_2, li_3, li_4, li_6, li_7, li_8, li_9, li_10, li_12, li_21, li_24, li_31, li_60, li_63, li_127, li_128, li_256, li_312, li_384, nI_add, nu_mul, nu_sub, nu_div, nu_and, nu_or, nu_shr, nu_bit, nu_diff, bi_2, nI_leI, nI_ltI, nI_eq, vp_in_nI, nI_clamp, ar_na, ar_ba, bo_0, bo_1, bo_it, bo_if, bo_w, bo_w0, bo_w1, bo_nar, bo_n1, bo_nn0, st_bu, st_bu1, st_bu0, st_nu, forall_eq, true_implies, false_implies, forall_const, not_true_eq_false, not_false_eq_true, and_true, true_and, implies_true, and_self, Bool.false_eq_true, Bool.true_eq_false, reduceCtorEq, ite_true, ite_false, if_true, if_false, eq_self, Nat.zero_add, Nat.add_zero, Nat.le_refl, Nat.lt_irrefl, Nat.reduceEqDiff, Nat.reduceLeDiff, Nat.reduceLT, Nat.reduceAdd, Nat.reduceMul, Nat.reduceSub, wpY_power, yc_in, h, hdn, Bool.not_true]
        exact I'
theorem i_vc_node {k : Nat} {u : SX} {v : SY} (I : i_Rel k u v) (hk : k + 7 ≤ 3584) (v1 : Int32) (v2 : Int32) : wpX_node (fun r => wpY_node (fun r' => r' = r ∧ i_Rel (k + 7) u v) v v1 v2) u v1 v2 := by
  have I' : i_Rel (k + 7) u v := I
  obtain ⟨bg, df, iq, tb, up, fa, co, fr, dn, op, ov, sp, sv, qb, qi, qj, qv, ql, so, ba, an, pk, kv, vo, kn, srt, num, rfl, rfl, H⟩ := I
  exact xc_node.mpr ((yc_node H).mpr ⟨rfl, I'⟩)
theorem i_vc_ask {k : Nat} {u : SX} {v : SY} (I : i_Rel k u v) (hk : k + 7 ≤ 3584) (v1 : Int32) (v2 : Int32) : wpX_ask (fun r u' => wpY_ask (fun r' v' => r' = r ∧ i_Rel (k + 7) u' v') v v1 v2) u v1 v2 := by
  have I' : i_Rel (k + 7) u v := I
  obtain ⟨bg, df, iq, tb, up, fa, co, fr, dn, op, ov, sp, sv, qb, qi, qj, qv, ql, so, ba, an, pk, kv, vo, kn, srt, num, rfl, rfl, H⟩ := I
  refine (xc_ask H).mpr ⟨fun h => (yc_ask H).mpr ⟨fun _ => ⟨rfl, I'⟩, fun h' => absurd (h.symm.trans h') (by decide)⟩, fun h => (yc_ask H).mpr ⟨fun h' => absurd (h.symm.trans h') (by decide), fun _ => ⟨rfl, ?_⟩⟩⟩
  simp only [Bool.and_eq_true] at h
  obtain ⟨z1, z2, z3⟩ := h
  unfold wa_ at z3
  simp only [Bool.and_eq_true, decide_eq_true_eq] at z3
  rcases iz_c 1 bg v1 with h | ⟨b, h1, h2, h3, rfl, h⟩
  · exact absurd (h.symm.trans z1) (by decide)
  rcases iz_c 0 6 v2 with g | ⟨n, g1, g2, g3, rfl, g⟩
  · exact absurd (g.symm.trans z2) (by decide)
  rw [cl_n h3, cl_n g3] at *
  exact ⟨_, _, _, _, _, _, _, _, _, _, _, _, _, _, _, _, _, _, _, _, _, _, _, _, _, _, _, rfl, rfl, in_ans H (by omega) z3.1.1 z3.1.2 z3.2 h1 h2⟩
theorem i_vc_vote {k : Nat} {u : SX} {v : SY} (I : i_Rel k u v) (hk : k + 7 ≤ 3584) (v1 : Int32) (v2 : Int32) (v3 : Int32) : wpX_vote (fun r u' => wpY_vote (fun r' v' => r' = r ∧ i_Rel (k + 7) u' v') v v1 v2 v3) u v1 v2 v3 := by
  have I' : i_Rel (k + 7) u v := I
  obtain ⟨bg, df, iq, tb, up, fa, co, fr, dn, op, ov, sp, sv, qb, qi, qj, qv, ql, so, ba, an, pk, kv, vo, kn, srt, num, rfl, rfl, H⟩ := I
  refine (xc_vote H).mpr ⟨fun h => (yc_vote H).mpr ⟨fun _ => ⟨rfl, I'⟩, fun h' => absurd (h.symm.trans h') (by decide)⟩, fun h => (yc_vote H).mpr ⟨fun h' => absurd (h.symm.trans h') (by decide), fun _ => ⟨rfl, ?_⟩⟩⟩
  simp only [Bool.and_eq_true, decide_eq_true_eq] at h
  obtain ⟨z1, z2, z3, z4, z5⟩ := h
  unfold wo_ at z5
  simp only [Bool.and_eq_true, decide_eq_true_eq] at z5
  rcases iz_c 1 bg v1 with h | ⟨b, h1, h2, h3, rfl, h⟩
  · exact absurd (h.symm.trans z1) (by decide)
  rcases iz_c 0 2 v2 with g | ⟨i, g1, g2, g3, rfl, g⟩
  · exact absurd (g.symm.trans z2) (by decide)
  rcases iz_c 0 6 v3 with e | ⟨n, e1, e2, e3, rfl, e⟩
  · exact absurd (e.symm.trans z3) (by decide)
  rw [cl_n h3, cl_n g3, cl_n e3] at *
  have hpk := (H.2.2.2.1 (b * 3 + i)).1
  exact ⟨_, _, _, _, _, _, _, _, _, _, _, _, _, _, _, _, _, _, _, _, _, _, _, _, _, _, _, rfl, rfl, in_vote H (by omega) (by omega) z5.1.1 z5.1.2 z5.2.2.1 h1 h2 (by omega) (by omega) (by omega)⟩
theorem i_vc_propose {k : Nat} {u : SX} {v : SY} (I : i_Rel k u v) (hk : k + 7 ≤ 3584) (v1 : Int32) (v2 : Int32) (v3 : Int32) (v4 : Int32) : wpX_propose (fun r u' => wpY_propose (fun r' v' => r' = r ∧ i_Rel (k + 7) u' v') v v1 v2 v3 v4) u v1 v2 v3 v4 := by
  have I' : i_Rel (k + 7) u v := I
  obtain ⟨bg, df, iq, tb, up, fa, co, fr, dn, op, ov, sp, sv, qb, qi, qj, qv, ql, so, ba, an, pk, kv, vo, kn, srt, num, rfl, rfl, H⟩ := I
  refine (xc_propose H).mpr ⟨fun h => (yc_propose H).mpr ⟨fun _ => ⟨rfl, I'⟩, fun h' => absurd (h.symm.trans h') (by decide)⟩, fun h => (yc_propose H).mpr ⟨fun h' => absurd (h.symm.trans h') (by decide), fun _ => ⟨rfl, ?_⟩⟩⟩
  simp only [Bool.and_eq_true, decide_eq_true_eq] at h
  obtain ⟨z1, z2, z3, z4, z5, z6⟩ := h
  unfold wo_ at z6
  simp only [Bool.and_eq_true, decide_eq_true_eq] at z6
  rcases iz_c 1 bg v1 with h | ⟨b, h1, h2, h3, rfl, h⟩
  · exact absurd (h.symm.trans z1) (by decide)
  rcases iz_c 0 2 v2 with g | ⟨i, g1, g2, g3, rfl, g⟩
  · exact absurd (g.symm.trans z2) (by decide)
  rcases iz_c 0 6 v3 with e | ⟨n, e1, e2, e3, rfl, e⟩
  · exact absurd (e.symm.trans z3) (by decide)
  rcases iz_c 1 7 v4 with f | ⟨w, f1, f2, f3, rfl, f⟩
  · exact absurd (f.symm.trans z4) (by decide)
  rw [cl_n h3, cl_n g3, cl_n e3, cl_n f3] at *
  exact ⟨_, _, _, _, _, _, _, _, _, _, _, _, _, _, _, _, _, _, _, _, _, _, _, _, _, _, _, rfl, rfl, in_vote H (by omega) (by omega) z6.1.1 z6.1.2 z6.2.2.1 h1 h2 f1 f2 (by omega)⟩
end
section
/-! pick, complete -/
def lk_ (ba kv : Nat → Nat) (b i : Nat) : Nat := lo_f (fun n a => if ba b ≤ kv (b * 21 + n * 3 + i) / 8 ∧ a < kv (b * 21 + n * 3 + i) / 8 then kv (b * 21 + n * 3 + i) / 8 else a) 7 0 0
def fs_ (an kv : Nat → Nat) (b i k v : Nat) : Nat := lo_f (fun n a => if kv (b * 21 + n * 3 + i) = k * 8 + v then a ||| 2 ^ n else a) 7 0 (127 &&& (an b ^^^ 127))
def fv_ (iq : Nat → Bool) (so an kv : Nat → Nat) (b i k : Nat) : Nat := if lo_s (fun v => iq (so k * 384 + 2 * 128 + fs_ an kv b i k v)) 7 1 < 8 then lo_s (fun v => iq (so k * 384 + 2 * 128 + fs_ an kv b i k v)) 7 1 else 0
def du_ (iq : Nat → Bool) (so ba an pk kv : Nat → Nat) (b i : Nat) : Nat := if lk_ ba kv b i = 0 then 0 else if 2 ≤ pk (lk_ ba kv b i * 3 + i) then pk (lk_ ba kv b i * 3 + i) - 1 else fv_ iq so an kv b i (lk_ ba kv b i)
theorem pc_xa {p : Nat → Nat} {k x : Nat} : pc_x (st_n p k (x + 1)) k = nI x := by
  rw [pc_xs (by rw [st_eq]; omega), st_eq, Nat.add_sub_cancel]
theorem pc_ya {p : Nat → Nat} {k x : Nat} : pc_y (st_n p k (x + 1)) k = nI x := by
  rw [pc_ys (by rw [st_eq]; omega), st_eq, Nat.add_sub_cancel]
section
variable {bg : Nat} {df iq tb up fa co fr dn : Nat → Bool} {op ov sp sv qb qi qj qv ql so ba an pk kv vo kn : Nat → Nat} {srt num : Nat → Int32}
variable {x y z : Int32} {s k t m n i j a b v f l : Nat}
theorem kv_lt (H : in_all bg df iq up fr dn op ov sp sv qb qi qj qv ql so ba an pk kv vo kn srt num) (hb : b ≤ 12) (hi : i < 3) : ∀ n, n < 7 → kv (b * 21 + n * 3 + i) < 104 := fun n hn => vo_lt H.1 (H.2.2.2.2.1.2 b n i hb hn hi)
theorem lk_ok (H : in_all bg df iq up fr dn op ov sp sv qb qi qj qv ql so ba an pk kv vo kn srt num) (hb : b ≤ 12) (hi : i < 3) : lk_ ba kv b i = 0 ∨ (1 ≤ lk_ ba kv b i ∧ lk_ ba kv b i ≤ bg ∧ pk (lk_ ba kv b i * 3 + i) ≠ 0) := by
  refine lo_fI (I := fun _ a => a = 0 ∨ (1 ≤ a ∧ a ≤ bg ∧ pk (a * 3 + i) ≠ 0)) 7 0 0 ?_ (Or.inl rfl)
  intro n a _ hn h
  split
  · rename_i z
    rcases H.2.2.2.2.1.2 b n i hb (by omega) hi with g | ⟨g1, g2, g3, g4⟩
    · rw [g] at z; omega
    · exact Or.inr ⟨g1, g2, g4⟩
  · exact h
theorem fs_lt : fs_ an kv b i k v < 128 := by
  refine lo_fI (I := fun _ a => a < 128) 7 0 _ ?_ (nu_and7 (by decide))
  intro j a _ hj h
  split
  · exact nu_or7 h (nu_lt7 j (by omega))
  · exact h
theorem fv_7 : fv_ iq so an kv b i k ≤ 7 := by
  unfold fv_; split <;> omega
theorem xc_latest {post : Int32 → Prop} (H : in_all bg df iq up fr dn op ov sp sv qb qi qj qv ql so ba an pk kv vo kn srt num) (hb1 : 1 ≤ b) (hb2 : b ≤ bg) (hi : i < 3) : wpX_latestKept post (nI bg, ar_b df, ar_b iq, ar_b tb, ar_b up, ar_n op, ar_n ov, ar_n sp, ar_n sv, ar_n qb, ar_n qi, ar_n qv, ar_n ql, ar_n so, ar_b fa, ar_n ba, ar_n an, ar_b co, pc_x pk, ar_b fr, ar_n kv, ar_n vo, ar_n kn) (nI b) (nI i) ↔ post (nI (lk_ ba kv b i)) := by
  have hb := H.1
  have hkv := kv_lt H (show b ≤ 12 by omega) hi
  have hba := (H.2.2.1 b hb1 hb2).2.2
  simp only [wpX_latestKept]
  refine lo_fold (W := fun m n a => wX_latestKept_5 post (nI b) (nI i) (nI bg) (ar_b df) (ar_b iq) (ar_b tb) (ar_b up) (ar_n op) (ar_n ov) (ar_n sp) (ar_n sv) (ar_n qb) (ar_n qi) (ar_n qv) (ar_n ql) (ar_n so) (ar_b fa) (ar_n ba) (ar_n an) (ar_b co) (pc_x pk) (ar_b fr) (ar_n kv) (ar_n vo) (ar_n kn) m (nI a) (nI n)) (fin := fun a => post (nI a)) (I := fun _ a => a ≤ 12) (e := 7) _ (fun _ _ h => h) ?_ ?_ ?_ 7 0 0 rfl (by decide)
  · intro n a hn ha
    have := hkv n hn
    split <;> omega
  · intro m a _
    simp (disch := first | omega | assumption) only [li_0, li_1, li_2, li_3, li_4, li_6, li_7, li_8, li_9, li_10, li_12, li_21, li_24, li_31, li_60, li_63, li_127, li_128, li_256, li_312, li_384, nI_add, nu_mul, nu_sub, nu_div, nu_and, nu_or, nu_shr, nu_bit, nu_diff, bi_2, nI_leI, nI_ltI, nI_eq, vp_in_nI, nI_clamp, ar_na, ar_ba, bo_0, bo_1, bo_it, bo_if, bo_w, bo_w0, bo_w1, bo_nar, bo_n1, bo_nn0, st_bu, st_bu1, st_bu0, st_nu, forall_eq, true_implies, false_implies, forall_const, not_true_eq_false, not_false_eq_true, and_true, true_and, implies_true, and_self, Bool.false_eq_true, Bool.true_eq_false, reduceCtorEq, ite_true, ite_false, if_true, if_false, eq_self, Nat.zero_add, Nat.add_zero, Nat.le_refl, Nat.lt_irrefl, Nat.reduceEqDiff, Nat.reduceLeDiff, Nat.reduceLT, Nat.reduceAdd, Nat.reduceMul, Nat.reduceSub, wX_latestKept_5]
  · intro m n a hn ha
    have h1 := hkv n hn
    by_cases z1 : ba b ≤ kv (b * 21 + n * 3 + i) / 8
    · by_cases z2 : a < kv (b * 21 + n * 3 + i) / 8
      · simp (disch := first | omega | assumption) only [li_0, li_1, li_2, li_3, li_4, li_6, li_7, li_8, li_9, li_10, li_12, li_21, li_24, li_31, li_60, li_63, li_127, li_128, li_256, li_312, li_384, nI_add, nu_mul, nu_sub, nu_div, nu_and, nu_or, nu_shr, nu_bit, nu_diff, bi_2, nI_leI, nI_ltI, nI_eq, vp_in_nI, nI_clamp, ar_na, ar_ba, bo_0, bo_1, bo_it, bo_if, bo_w, bo_w0, bo_w1, bo_nar, bo_n1, bo_nn0, st_bu, st_bu1, st_bu0, st_nu, forall_eq, true_implies, false_implies, forall_const, not_true_eq_false, not_false_eq_true, and_true, true_and, implies_true, and_self, Bool.false_eq_true, Bool.true_eq_false, reduceCtorEq, ite_true, ite_false, if_true, if_false, eq_self, Nat.zero_add, Nat.add_zero, Nat.le_refl, Nat.lt_irrefl, Nat.reduceEqDiff, Nat.reduceLeDiff, Nat.reduceLT, Nat.reduceAdd, Nat.reduceMul, Nat.reduceSub, wX_latestKept_5, Nat.not_le.mpr hn, z1, z2, Nat.not_lt.mpr z1, Nat.not_le.mpr z2]
      · simp (disch := first | omega | assumption) only [li_0, li_1, li_2, li_3, li_4, li_6, li_7, li_8, li_9, li_10, li_12, li_21, li_24, li_31, li_60, li_63, li_127, li_128, li_256, li_312, li_384, nI_add, nu_mul, nu_sub, nu_div, nu_and, nu_or, nu_shr, nu_bit, nu_diff, bi_2, nI_leI, nI_ltI, nI_eq, vp_in_nI, nI_clamp, ar_na, ar_ba, bo_0, bo_1, bo_it, bo_if, bo_w, bo_w0, bo_w1, bo_nar, bo_n1, bo_nn0, st_bu, st_bu1, st_bu0, st_nu, forall_eq, true_implies, false_implies, forall_const, not_true_eq_false, not_false_eq_true, and_true, true_and, implies_true, and_self, Bool.false_eq_true, Bool.true_eq_false, reduceCtorEq, ite_true, ite_false, if_true, if_false, eq_self, Nat.zero_add, Nat.add_zero, Nat.le_refl, Nat.lt_irrefl, Nat.reduceEqDiff, Nat.reduceLeDiff, Nat.reduceLT, Nat.reduceAdd, Nat.reduceMul, Nat.reduceSub, wX_latestKept_5, Nat.not_le.mpr hn, z1, z2, Nat.not_lt.mpr z1, Nat.le_of_not_lt z2, and_false]
    · simp (disch := first | omega | assumption) only [li_0, li_1, li_2, li_3, li_4, li_6, li_7, li_8, li_9, li_10, li_12, li_21, li_24, li_31, li_60, li_63, li_127, li_128, li_256, li_312, li_384, nI_add, nu_mul, nu_sub, nu_div, nu_and, nu_or, nu_shr, nu_bit, nu_diff, bi_2, nI_leI, nI_ltI, nI_eq, vp_in_nI, nI_clamp, ar_na, ar_ba, bo_0, bo_1, bo_it, bo_if, bo_w, bo_w0, bo_w1, bo_nar, bo_n1, bo_nn0, st_bu, st_bu1, st_bu0, st_nu, forall_eq, true_implies, false_implies, forall_const, not_true_eq_false, not_false_eq_true, and_true, true_and, implies_true, and_self, Bool.false_eq_true, Bool.true_eq_false, reduceCtorEq, ite_true, ite_false, if_true, if_false, eq_self, Nat.zero_add, Nat.add_zero, Nat.le_refl, Nat.lt_irrefl, Nat.reduceEqDiff, Nat.reduceLeDiff, Nat.reduceLT, Nat.reduceAdd, Nat.reduceMul, Nat.reduceSub, wX_latestKept_5, Nat.not_le.mpr hn, z1, Nat.lt_of_not_le z1, false_and]
theorem yc_latest {post : Int32 → Prop} (H : in_all bg df iq up fr dn op ov sp sv qb qi qj qv ql so ba an pk kv vo kn srt num) (hb1 : 1 ≤ b) (hb2 : b ≤ bg) (hi : i < 3) : wpY_latest post (nI bg, srt, num, ar_n so, ar_n ba, ar_n an, pc_y pk, ar_n kv, ar_b fa, ar_b co, ar_b fr, ar_b dn, ar_n sp, ar_n sv, ar_n ql, ar_n qb, ar_n qj, ar_n qv, ar_n vo, ar_n kn) (nI b) (nI i) ↔ post (nI (lk_ ba kv b i)) := by
  have hb := H.1
  have hkv := kv_lt H (show b ≤ 12 by omega) hi
  have hba := (H.2.2.1 b hb1 hb2).2.2
  simp only [wpY_latest]
  refine lo_fold (W := fun m n a => wY_latest_5 post (nI b) (nI i) (nI bg) srt num (ar_n so) (ar_n ba) (ar_n an) (pc_y pk) (ar_n kv) (ar_b fa) (ar_b co) (ar_b fr) (ar_b dn) (ar_n sp) (ar_n sv) (ar_n ql) (ar_n qb) (ar_n qj) (ar_n qv) (ar_n vo) (ar_n kn) m (nI a) (nI n)) (fin := fun a => post (nI a)) (I := fun _ a => a ≤ 12) (e := 7) _ (fun _ _ h => h) ?_ ?_ ?_ 7 0 0 rfl (by decide)
  · intro n a hn ha
    have := hkv n hn
    split <;> omega
  · intro m a _
    simp (disch := first | omega | assumption) only [li_0, li_1, li_2, li_3, li_4, li_6, li_7, li_8, li_9, li_10, li_12, li_21, li_24, li_31, li_60, li_63, li_127, li_128, li_256, li_312, li_384, nI_add, nu_mul, nu_sub, nu_div, nu_and, nu_or, nu_shr, nu_bit, nu_diff, bi_2, nI_leI, nI_ltI, nI_eq, vp_in_nI, nI_clamp, ar_na, ar_ba, bo_0, bo_1, bo_it, bo_if, bo_w, bo_w0, bo_w1, bo_nar, bo_n1, bo_nn0, st_bu, st_bu1, st_bu0, st_nu, forall_eq, true_implies, false_implies, forall_const, not_true_eq_false, not_false_eq_true, and_true, true_and, implies_true, and_self, Bool.false_eq_true, Bool.true_eq_false, reduceCtorEq, ite_true, ite_false, if_true, if_false, eq_self, Nat.zero_add, Nat.add_zero, Nat.le_refl, Nat.lt_irrefl, Nat.reduceEqDiff, Nat.reduceLeDiff, Nat.reduceLT, Nat.reduceAdd, Nat.reduceMul, Nat.reduceSub, wY_latest_5]
  · intro m n a hn ha
    have h1 := hkv n hn
    by_cases z1 : ba b ≤ kv (b * 21 + n * 3 + i) / 8
    · by_cases z2 : a < kv (b * 21 + n * 3 + i) / 8
      · simp (disch := first | omega | assumption) only [li_0, li_1, li_2, li_3, li_4, li_6, li_7, li_8, li_9, li_10, li_12, li_21, li_24, li_31, li_60, li_63, li_127, li_128, li_256, li_312, li_384, nI_add, nu_mul, nu_sub, nu_div, nu_and, nu_or, nu_shr, nu_bit, nu_diff, bi_2, nI_leI, nI_ltI, nI_eq, vp_in_nI, nI_clamp, ar_na, ar_ba, bo_0, bo_1, bo_it, bo_if, bo_w, bo_w0, bo_w1, bo_nar, bo_n1, bo_nn0, st_bu, st_bu1, st_bu0, st_nu, forall_eq, true_implies, false_implies, forall_const, not_true_eq_false, not_false_eq_true, and_true, true_and, implies_true, and_self, Bool.false_eq_true, Bool.true_eq_false, reduceCtorEq, ite_true, ite_false, if_true, if_false, eq_self, Nat.zero_add, Nat.add_zero, Nat.le_refl, Nat.lt_irrefl, Nat.reduceEqDiff, Nat.reduceLeDiff, Nat.reduceLT, Nat.reduceAdd, Nat.reduceMul, Nat.reduceSub, wY_latest_5, Nat.not_le.mpr hn, cm_3, cm_21, z1, z2, Nat.not_lt.mpr z1, Nat.not_le.mpr z2]
      · simp (disch := first | omega | assumption) only [li_0, li_1, li_2, li_3, li_4, li_6, li_7, li_8, li_9, li_10, li_12, li_21, li_24, li_31, li_60, li_63, li_127, li_128, li_256, li_312, li_384, nI_add, nu_mul, nu_sub, nu_div, nu_and, nu_or, nu_shr, nu_bit, nu_diff, bi_2, nI_leI, nI_ltI, nI_eq, vp_in_nI, nI_clamp, ar_na, ar_ba, bo_0, bo_1, bo_it, bo_if, bo_w, bo_w0, bo_w1, bo_nar, bo_n1, bo_nn0, st_bu, st_bu1, st_bu0, st_nu, forall_eq, true_implies, false_implies, forall_const, not_true_eq_false, not_false_eq_true, and_true, true_and, implies_true, and_self, Bool.false_eq_true, Bool.true_eq_false, reduceCtorEq, ite_true, ite_false, if_true, if_false, eq_self, Nat.zero_add, Nat.add_zero, Nat.le_refl, Nat.lt_irrefl, Nat.reduceEqDiff, Nat.reduceLeDiff, Nat.reduceLT, Nat.reduceAdd, Nat.reduceMul, Nat.reduceSub, wY_latest_5, Nat.not_le.mpr hn, cm_3, cm_21, z1, z2, Nat.not_lt.mpr z1, Nat.le_of_not_lt z2, and_false]
    · simp (disch := first | omega | assumption) only [li_0, li_1, li_2, li_3, li_4, li_6, li_7, li_8, li_9, li_10, li_12, li_21, li_24, li_31, li_60, li_63, li_127, li_128, li_256, li_312, li_384, nI_add, nu_mul, nu_sub, nu_div, nu_and, nu_or, nu_shr, nu_bit, nu_diff, bi_2, nI_leI, nI_ltI, nI_eq, vp_in_nI, nI_clamp, ar_na, ar_ba, bo_0, bo_1, bo_it, bo_if, bo_w, bo_w0, bo_w1, bo_nar, bo_n1, bo_nn0, st_bu, st_bu1, st_bu0, st_nu, forall_eq, true_implies, false_implies, forall_const, not_true_eq_false, not_false_eq_true, and_true, true_and, implies_true, and_self, Bool.false_eq_true, Bool.true_eq_false, reduceCtorEq, ite_true, ite_false, if_true, if_false, eq_self, Nat.zero_add, Nat.add_zero, Nat.le_refl, Nat.lt_irrefl, Nat.reduceEqDiff, Nat.reduceLeDiff, Nat.reduceLT, Nat.reduceAdd, Nat.reduceMul, Nat.reduceSub, wY_latest_5, Nat.not_le.mpr hn, cm_3, cm_21, z1, Nat.lt_of_not_le z1, false_and]
theorem bo_pu {r : Nat} {P : Int32 → Prop} {w : Int32} (hr : 1 ≤ r) : ((r < 8 → P (nI r)) ∧ (¬ r < 8 → P w)) ↔ P (if (if r < 8 then r else 0) = 0 then w else nI (if r < 8 then r else 0)) := by
  by_cases h : r < 8
  · simp [h, show ¬ r = 0 by omega]
  · simp [h]
theorem xc_fast {post : Int32 → Prop} (H : in_all bg df iq up fr dn op ov sp sv qb qi qj qv ql so ba an pk kv vo kn srt num) (hb1 : 1 ≤ b) (hb2 : b ≤ bg) (hi : i < 3) (hk1 : 1 ≤ k) (hk2 : k ≤ bg) : wpX_fastValue post (nI bg, ar_b df, ar_b iq, ar_b tb, ar_b up, ar_n op, ar_n ov, ar_n sp, ar_n sv, ar_n qb, ar_n qi, ar_n qv, ar_n ql, ar_n so, ar_b fa, ar_n ba, ar_n an, ar_b co, pc_x pk, ar_b fr, ar_n kv, ar_n vo, ar_n kn) (nI b) (nI i) (nI k) ↔ post (if fv_ iq so an kv b i k = 0 then -nI 3 else nI (fv_ iq so an kv b i k)) := by
  have hb := H.1
  have hkv := kv_lt H (show b ≤ 12 by omega) hi
  have han := (H.2.2.2.2.2.1 b).2.2
  have hso := (H.2.2.1 k hk1 hk2).1
  simp only [wpX_fastValue]
  refine (lo_findL (W := fun m v => wX_fastValue_3 post (nI b) (nI i) (nI k) (nI bg) (ar_b df) (ar_b iq) (ar_b tb) (ar_b up) (ar_n op) (ar_n ov) (ar_n sp) (ar_n sv) (ar_n qb) (ar_n qi) (ar_n qv) (ar_n ql) (ar_n so) (ar_b fa) (ar_n ba) (ar_n an) (ar_b co) (pc_x pk) (ar_b fr) (ar_n kv) (ar_n vo) (ar_n kn) m (nI v)) (A := fun v => post (nI v)) (B := post (-nI 3)) (e := 8) (lo := 1) (fun v => iq (so k * 384 + 2 * 128 + fs_ an kv b i k v)) (fun _ h => h) ?_ ?_ ?_ 7 1 (Nat.le_refl _) rfl).trans (bo_pu (lo_s1 _ 7 1).1)
  · intro m
    simp (disch := first | omega | assumption) only [li_0, li_1, li_2, li_3, li_4, li_6, li_7, li_8, li_9, li_10, li_12, li_21, li_24, li_31, li_60, li_63, li_127, li_128, li_256, li_312, li_384, nI_add, nu_mul, nu_sub, nu_div, nu_and, nu_or, nu_shr, nu_bit, nu_diff, bi_2, nI_leI, nI_ltI, nI_eq, vp_in_nI, nI_clamp, ar_na, ar_ba, bo_0, bo_1, bo_it, bo_if, bo_w, bo_w0, bo_w1, bo_nar, bo_n1, bo_nn0, st_bu, st_bu1, st_bu0, st_nu, forall_eq, true_implies, false_implies, forall_const, not_true_eq_false, not_false_eq_true, and_true, true_and, implies_true, and_self, Bool.false_eq_true, Bool.true_eq_false, reduceCtorEq, ite_true, ite_false, if_true, if_false, eq_self, Nat.zero_add, Nat.add_zero, Nat.le_refl, Nat.lt_irrefl, Nat.reduceEqDiff, Nat.reduceLeDiff, Nat.reduceLT, Nat.reduceAdd, Nat.reduceMul, Nat.reduceSub, wX_fastValue_3]
  all_goals
    intro m v hl hv h
    have inner : (∃ c, wX_fastValue_26 post (wX_fastValue_3 post (nI b) (nI i) (nI k) (nI bg) (ar_b df) (ar_b iq) (ar_b tb) (ar_b up) (ar_n op) (ar_n ov) (ar_n sp) (ar_n sv) (ar_n qb) (ar_n qi) (ar_n qv) (ar_n ql) (ar_n so) (ar_b fa) (ar_n ba) (ar_n an) (ar_b co) (pc_x pk) (ar_b fr) (ar_n kv) (ar_n vo) (ar_n kn) m) (nI b) (nI i) (nI k) (nI v) (nI bg) (ar_b df) (ar_b iq) (ar_b tb) (ar_b up) (ar_n op) (ar_n ov) (ar_n sp) (ar_n sv) (ar_n qb) (ar_n qi) (ar_n qv) (ar_n ql) (ar_n so) (ar_b fa) (ar_n ba) (ar_n an) (ar_b co) (pc_x pk) (ar_b fr) (ar_n kv) (ar_n vo) (ar_n kn) c (nI (127 &&& (an b ^^^ 127))) (nI 0)) ↔ ((iq (so k * 384 + 2 * 128 + fs_ an kv b i k v) = false → wX_fastValue_3 post (nI b) (nI i) (nI k) (nI bg) (ar_b df) (ar_b iq) (ar_b tb) (ar_b up) (ar_n op) (ar_n ov) (ar_n sp) (ar_n sv) (ar_n qb) (ar_n qi) (ar_n qv) (ar_n ql) (ar_n so) (ar_b fa) (ar_n ba) (ar_n an) (ar_b co) (pc_x pk) (ar_b fr) (ar_n kv) (ar_n vo) (ar_n kn) m (nI (v + 1))) ∧ (iq (so k * 384 + 2 * 128 + fs_ an kv b i k v) = true → post (nI v))) := by
      refine lo_fold (W := fun c n a => wX_fastValue_26 post (wX_fastValue_3 post (nI b) (nI i) (nI k) (nI bg) (ar_b df) (ar_b iq) (ar_b tb) (ar_b up) (ar_n op) (ar_n ov) (ar_n sp) (ar_n sv) (ar_n qb) (ar_n qi) (ar_n qv) (ar_n ql) (ar_n so) (ar_b fa) (ar_n ba) (ar_n an) (ar_b co) (pc_x pk) (ar_b fr) (ar_n kv) (ar_n vo) (ar_n kn) m) (nI b) (nI i) (nI k) (nI v) (nI bg) (ar_b df) (ar_b iq) (ar_b tb) (ar_b up) (ar_n op) (ar_n ov) (ar_n sp) (ar_n sv) (ar_n qb) (ar_n qi) (ar_n qv) (ar_n ql) (ar_n so) (ar_b fa) (ar_n ba) (ar_n an) (ar_b co) (pc_x pk) (ar_b fr) (ar_n kv) (ar_n vo) (ar_n kn) c (nI a) (nI n)) (fin := fun a => ((iq (so k * 384 + 2 * 128 + a) = false → wX_fastValue_3 post (nI b) (nI i) (nI k) (nI bg) (ar_b df) (ar_b iq) (ar_b tb) (ar_b up) (ar_n op) (ar_n ov) (ar_n sp) (ar_n sv) (ar_n qb) (ar_n qi) (ar_n qv) (ar_n ql) (ar_n so) (ar_b fa) (ar_n ba) (ar_n an) (ar_b co) (pc_x pk) (ar_b fr) (ar_n kv) (ar_n vo) (ar_n kn) m (nI (v + 1))) ∧ (iq (so k * 384 + 2 * 128 + a) = true → post (nI v)))) (I := fun _ a => a < 128) (e := 7) (fun n a => if kv (b * 21 + n * 3 + i) = k * 8 + v then a ||| 2 ^ n else a) (fun _ _ h => h) ?_ ?_ ?_ 7 0 _ rfl (nu_and7 (by decide))
      · intro j a hj h
        split
        · exact nu_or7 h (nu_lt7 j (by omega))
        · exact h
      · intro c a ha
        cases q : iq (so k * 384 + 2 * 128 + a)
        · simp (disch := first | omega | assumption) only [li_0, li_1, li_2, li_3, li_4, li_6, li_7, li_8, li_9, li_10, li_12, li_21, li_24, li_31, li_60, li_63, li_127, li_128, li_256, li_312, li_384, nI_add, nu_mul, nu_sub, nu_div, nu_and, nu_or, nu_shr, nu_bit, nu_diff, bi_2, nI_leI, nI_ltI, nI_eq, vp_in_nI, nI_clamp, ar_na, ar_ba, bo_0, bo_1, bo_it, bo_if, bo_w, bo_w0, bo_w1, bo_nar, bo_n1, bo_nn0, st_bu, st_bu1, st_bu0, st_nu, forall_eq, true_implies, false_implies, forall_const, not_true_eq_false, not_false_eq_true, and_true, true_and, implies_true, and_self, Bool.false_eq_true, Bool.true_eq_false, reduceCtorEq, ite_true, ite_false, if_true, if_false, eq_self, Nat.zero_add, Nat.add_zero, Nat.le_refl, Nat.lt_irrefl, Nat.reduceEqDiff, Nat.reduceLeDiff, Nat.reduceLT, Nat.reduceAdd, Nat.reduceMul, Nat.reduceSub, wX_fastValue_26, xc_holds, q]
        · simp (disch := first | omega | assumption) only [li_0, li_1, li_2, li_3, li_4, li_6, li_7, li_8, li_9, li_10, li_12, li_21, li_24, li_31, li_60, li_63, li_127, li_128, li_256, li_312, li_384, nI_add, nu_mul, nu_sub, nu_div, nu_and, nu_or, nu_shr, nu_bit, nu_diff, bi_2, nI_leI, nI_ltI, nI_eq, vp_in_nI, nI_clamp, ar_na, ar_ba, bo_0, bo_1, bo_it, bo_if, bo_w, bo_w0, bo_w1, bo_nar, bo_n1, bo_nn0, st_bu, st_bu1, st_bu0, st_nu, forall_eq, true_implies, false_implies, forall_const, not_true_eq_false, not_false_eq_true, and_true, true_and, implies_true, and_self, Bool.false_eq_true, Bool.true_eq_false, reduceCtorEq, ite_true, ite_false, if_true, if_false, eq_self, Nat.zero_add, Nat.add_zero, Nat.le_refl, Nat.lt_irrefl, Nat.reduceEqDiff, Nat.reduceLeDiff, Nat.reduceLT, Nat.reduceAdd, Nat.reduceMul, Nat.reduceSub, wX_fastValue_26, xc_holds, q]
      · intro c n a hn ha
        have h1 := hkv n hn
        by_cases z : kv (b * 21 + n * 3 + i) = k * 8 + v
        · simp (disch := first | omega | assumption) only [li_0, li_1, li_2, li_3, li_4, li_6, li_7, li_8, li_9, li_10, li_12, li_21, li_24, li_31, li_60, li_63, li_127, li_128, li_256, li_312, li_384, nI_add, nu_mul, nu_sub, nu_div, nu_and, nu_or, nu_shr, nu_bit, nu_diff, bi_2, nI_leI, nI_ltI, nI_eq, vp_in_nI, nI_clamp, ar_na, ar_ba, bo_0, bo_1, bo_it, bo_if, bo_w, bo_w0, bo_w1, bo_nar, bo_n1, bo_nn0, st_bu, st_bu1, st_bu0, st_nu, forall_eq, true_implies, false_implies, forall_const, not_true_eq_false, not_false_eq_true, and_true, true_and, implies_true, and_self, Bool.false_eq_true, Bool.true_eq_false, reduceCtorEq, ite_true, ite_false, if_true, if_false, eq_self, Nat.zero_add, Nat.add_zero, Nat.le_refl, Nat.lt_irrefl, Nat.reduceEqDiff, Nat.reduceLeDiff, Nat.reduceLT, Nat.reduceAdd, Nat.reduceMul, Nat.reduceSub, wX_fastValue_26, Nat.not_le.mpr hn, z]
        · simp (disch := first | omega | assumption) only [li_0, li_1, li_2, li_3, li_4, li_6, li_7, li_8, li_9, li_10, li_12, li_21, li_24, li_31, li_60, li_63, li_127, li_128, li_256, li_312, li_384, nI_add, nu_mul, nu_sub, nu_div, nu_and, nu_or, nu_shr, nu_bit, nu_diff, bi_2, nI_leI, nI_ltI, nI_eq, vp_in_nI, nI_clamp, ar_na, ar_ba, bo_0, bo_1, bo_it, bo_if, bo_w, bo_w0, bo_w1, bo_nar, bo_n1, bo_nn0, st_bu, st_bu1, st_bu0, st_nu, forall_eq, true_implies, false_implies, forall_const, not_true_eq_false, not_false_eq_true, and_true, true_and, implies_true, and_self, Bool.false_eq_true, Bool.true_eq_false, reduceCtorEq, ite_true, ite_false, if_true, if_false, eq_self, Nat.zero_add, Nat.add_zero, Nat.le_refl, Nat.lt_irrefl, Nat.reduceEqDiff, Nat.reduceLeDiff, Nat.reduceLT, Nat.reduceAdd, Nat.reduceMul, Nat.reduceSub, wX_fastValue_26, Nat.not_le.mpr hn, z]
    have hv' : ¬ 7 < v := by omega
    simp (disch := first | omega | assumption) only [li_0, li_1, li_2, li_3, li_4, li_6, li_7, li_8, li_9, li_10, li_12, li_21, li_24, li_31, li_60, li_63, li_127, li_128, li_256, li_312, li_384, nI_add, nu_mul, nu_sub, nu_div, nu_and, nu_or, nu_shr, nu_bit, nu_diff, bi_2, nI_leI, nI_ltI, nI_eq, vp_in_nI, nI_clamp, ar_na, ar_ba, bo_0, bo_1, bo_it, bo_if, bo_w, bo_w0, bo_w1, bo_nar, bo_n1, bo_nn0, st_bu, st_bu1, st_bu0, st_nu, forall_eq, true_implies, false_implies, forall_const, not_true_eq_false, not_false_eq_true, and_true, true_and, implies_true, and_self, Bool.false_eq_true, Bool.true_eq_false, reduceCtorEq, ite_true, ite_false, if_true, if_false, eq_self, Nat.zero_add, Nat.add_zero, Nat.le_refl, Nat.lt_irrefl, Nat.reduceEqDiff, Nat.reduceLeDiff, Nat.reduceLT, Nat.reduceAdd, Nat.reduceMul, Nat.reduceSub, wX_fastValue_3, hv']
    rw [inner, h]
    simp
theorem yc_fast {post : Int32 → Prop} (H : in_all bg df iq up fr dn op ov sp sv qb qi qj qv ql so ba an pk kv vo kn srt num) (hb1 : 1 ≤ b) (hb2 : b ≤ bg) (hi : i < 3) (hk1 : 1 ≤ k) (hk2 : k ≤ bg) : (∃ n, wY_due_40 post (nI b) (nI i) (nI k) (nI bg) srt num (ar_n so) (ar_n ba) (ar_n an) (pc_y pk) (ar_n kv) (ar_b fa) (ar_b co) (ar_b fr) (ar_b dn) (ar_n sp) (ar_n sv) (ar_n ql) (ar_n qb) (ar_n qj) (ar_n qv) (ar_n vo) (ar_n kn) n (nI 1)) ↔ post (nI (fv_ iq so an kv b i k)) := by
  have hb := H.1
  have hs := H.2.1
  have hkv := kv_lt H (show b ≤ 12 by omega) hi
  have han := (H.2.2.2.2.2.1 b).2.2
  obtain ⟨hso, hdf, _⟩ := H.2.2.1 k hk1 hk2
  refine (lo_findL (W := fun m v => wY_due_40 post (nI b) (nI i) (nI k) (nI bg) srt num (ar_n so) (ar_n ba) (ar_n an) (pc_y pk) (ar_n kv) (ar_b fa) (ar_b co) (ar_b fr) (ar_b dn) (ar_n sp) (ar_n sv) (ar_n ql) (ar_n qb) (ar_n qj) (ar_n qv) (ar_n vo) (ar_n kn) m (nI v)) (A := fun v => post (nI v)) (B := post (nI 0)) (e := 8) (lo := 1) (fun v => iq (so k * 384 + 2 * 128 + fs_ an kv b i k v)) (fun _ h => h) ?_ ?_ ?_ 7 1 (Nat.le_refl _) rfl).trans (bo_pt (P := fun r => post (nI r)))
  · intro m
    simp (disch := first | omega | assumption) only [li_0, li_1, li_2, li_3, li_4, li_6, li_7, li_8, li_9, li_10, li_12, li_21, li_24, li_31, li_60, li_63, li_127, li_128, li_256, li_312, li_384, nI_add, nu_mul, nu_sub, nu_div, nu_and, nu_or, nu_shr, nu_bit, nu_diff, bi_2, nI_leI, nI_ltI, nI_eq, vp_in_nI, nI_clamp, ar_na, ar_ba, bo_0, bo_1, bo_it, bo_if, bo_w, bo_w0, bo_w1, bo_nar, bo_n1, bo_nn0, st_bu, st_bu1, st_bu0, st_nu, forall_eq, true_implies, false_implies, forall_const, not_true_eq_false, not_false_eq_true, and_true, true_and, implies_true, and_self, Bool.false_eq_true, Bool.true_eq_false, reduceCtorEq, ite_true, ite_false, if_true, if_false, eq_self, Nat.zero_add, Nat.add_zero, Nat.le_refl, Nat.lt_irrefl, Nat.reduceEqDiff, Nat.reduceLeDiff, Nat.reduceLT, Nat.reduceAdd, Nat.reduceMul, Nat.reduceSub, wY_due_40]
  all_goals
    intro m v hl hv h
    have inner : (∃ c, wY_due_63 post (wY_due_40 post (nI b) (nI i) (nI k) (nI bg) srt num (ar_n so) (ar_n ba) (ar_n an) (pc_y pk) (ar_n kv) (ar_b fa) (ar_b co) (ar_b fr) (ar_b dn) (ar_n sp) (ar_n sv) (ar_n ql) (ar_n qb) (ar_n qj) (ar_n qv) (ar_n vo) (ar_n kn) m) (nI b) (nI i) (nI k) (nI v) (nI bg) srt num (ar_n so) (ar_n ba) (ar_n an) (pc_y pk) (ar_n kv) (ar_b fa) (ar_b co) (ar_b fr) (ar_b dn) (ar_n sp) (ar_n sv) (ar_n ql) (ar_n qb) (ar_n qj) (ar_n qv) (ar_n vo) (ar_n kn) c (nI (127 &&& (an b ^^^ 127))) (nI 0)) ↔ ((iq (so k * 384 + 2 * 128 + fs_ an kv b i k v) = false → wY_due_40 post (nI b) (nI i) (nI k) (nI bg) srt num (ar_n so) (ar_n ba) (ar_n an) (pc_y pk) (ar_n kv) (ar_b fa) (ar_b co) (ar_b fr) (ar_b dn) (ar_n sp) (ar_n sv) (ar_n ql) (ar_n qb) (ar_n qj) (ar_n qv) (ar_n vo) (ar_n kn) m (nI (v + 1))) ∧ (iq (so k * 384 + 2 * 128 + fs_ an kv b i k v) = true → post (nI v))) := by
      refine lo_fold (W := fun c n a => wY_due_63 post (wY_due_40 post (nI b) (nI i) (nI k) (nI bg) srt num (ar_n so) (ar_n ba) (ar_n an) (pc_y pk) (ar_n kv) (ar_b fa) (ar_b co) (ar_b fr) (ar_b dn) (ar_n sp) (ar_n sv) (ar_n ql) (ar_n qb) (ar_n qj) (ar_n qv) (ar_n vo) (ar_n kn) m) (nI b) (nI i) (nI k) (nI v) (nI bg) srt num (ar_n so) (ar_n ba) (ar_n an) (pc_y pk) (ar_n kv) (ar_b fa) (ar_b co) (ar_b fr) (ar_b dn) (ar_n sp) (ar_n sv) (ar_n ql) (ar_n qb) (ar_n qj) (ar_n qv) (ar_n vo) (ar_n kn) c (nI a) (nI n)) (fin := fun a => ((iq (so k * 384 + 2 * 128 + a) = false → wY_due_40 post (nI b) (nI i) (nI k) (nI bg) srt num (ar_n so) (ar_n ba) (ar_n an) (pc_y pk) (ar_n kv) (ar_b fa) (ar_b co) (ar_b fr) (ar_b dn) (ar_n sp) (ar_n sv) (ar_n ql) (ar_n qb) (ar_n qj) (ar_n qv) (ar_n vo) (ar_n kn) m (nI (v + 1))) ∧ (iq (so k * 384 + 2 * 128 + a) = true → post (nI v)))) (I := fun _ a => a < 128) (e := 7) (fun n a => if kv (b * 21 + n * 3 + i) = k * 8 + v then a ||| 2 ^ n else a) (fun _ _ h => h) ?_ ?_ ?_ 7 0 _ rfl (nu_and7 (by decide))
      · intro j a hj h
        split
        · exact nu_or7 h (nu_lt7 j (by omega))
        · exact h
      · intro c a ha
        cases q : iq (so k * 384 + 2 * 128 + a)
        · simp (disch := first | omega | assumption) only [li_0, li_1, li_2, li_3, li_4, li_6, li_7, li_8, li_9, li_10, li_12, li_21, li_24, li_31, li_60, li_63, li_127, li_128, li_256, li_312, li_384, nI_add, nu_mul, nu_sub, nu_div, nu_and, nu_or, nu_shr, nu_bit, nu_diff, bi_2, nI_leI, nI_ltI, nI_eq, vp_in_nI, nI_clamp, ar_na, ar_ba, bo_0, bo_1, bo_it, bo_if, bo_w, bo_w0, bo_w1, bo_nar, bo_n1, bo_nn0, st_bu, st_bu1, st_bu0, st_nu, forall_eq, true_implies, false_implies, forall_const, not_true_eq_false, not_false_eq_true, and_true, true_and, implies_true, and_self, Bool.false_eq_true, Bool.true_eq_false, reduceCtorEq, ite_true, ite_false, if_true, if_false, eq_self, Nat.zero_add, Nat.add_zero, Nat.le_refl, Nat.lt_irrefl, Nat.reduceEqDiff, Nat.reduceLeDiff, Nat.reduceLT, Nat.reduceAdd, Nat.reduceMul, Nat.reduceSub, wY_due_63, yc_q hs, q]
        · simp (disch := first | omega | assumption) only [li_0, li_1, li_2, li_3, li_4, li_6, li_7, li_8, li_9, li_10, li_12, li_21, li_24, li_31, li_60, li_63, li_127, li_128, li_256, li_312, li_384, nI_add, nu_mul, nu_sub, nu_div, nu_and, nu_or, nu_shr, nu_bit, nu_diff, bi_2, nI_leI, nI_ltI, nI_eq, vp_in_nI, nI_clamp, ar_na, ar_ba, bo_0, bo_1, bo_it, bo_if, bo_w, bo_w0, bo_w1, bo_nar, bo_n1, bo_nn0, st_bu, st_bu1, st_bu0, st_nu, forall_eq, true_implies, false_implies, forall_const, not_true_eq_false, not_false_eq_true, and_true, true_and, implies_true, and_self, Bool.false_eq_true, Bool.true_eq_false, reduceCtorEq, ite_true, ite_false, if_true, if_false, eq_self, Nat.zero_add, Nat.add_zero, Nat.le_refl, Nat.lt_irrefl, Nat.reduceEqDiff, Nat.reduceLeDiff, Nat.reduceLT, Nat.reduceAdd, Nat.reduceMul, Nat.reduceSub, wY_due_63, yc_q hs, q]
      · intro c n a hn ha
        have h1 := hkv n hn
        by_cases z : kv (b * 21 + n * 3 + i) = k * 8 + v
        · simp (disch := first | omega | assumption) only [li_0, li_1, li_2, li_3, li_4, li_6, li_7, li_8, li_9, li_10, li_12, li_21, li_24, li_31, li_60, li_63, li_127, li_128, li_256, li_312, li_384, nI_add, nu_mul, nu_sub, nu_div, nu_and, nu_or, nu_shr, nu_bit, nu_diff, bi_2, nI_leI, nI_ltI, nI_eq, vp_in_nI, nI_clamp, ar_na, ar_ba, bo_0, bo_1, bo_it, bo_if, bo_w, bo_w0, bo_w1, bo_nar, bo_n1, bo_nn0, st_bu, st_bu1, st_bu0, st_nu, forall_eq, true_implies, false_implies, forall_const, not_true_eq_false, not_false_eq_true, and_true, true_and, implies_true, and_self, Bool.false_eq_true, Bool.true_eq_false, reduceCtorEq, ite_true, ite_false, if_true, if_false, eq_self, Nat.zero_add, Nat.add_zero, Nat.le_refl, Nat.lt_irrefl, Nat.reduceEqDiff, Nat.reduceLeDiff, Nat.reduceLT, Nat.reduceAdd, Nat.reduceMul, Nat.reduceSub, wY_due_63, Nat.not_le.mpr hn, cm_3, cm_21, Nat.mul_comm 8 k, z]
        · simp (disch := first | omega | assumption) only [li_0, li_1, li_2, li_3, li_4, li_6, li_7, li_8, li_9, li_10, li_12, li_21, li_24, li_31, li_60, li_63, li_127, li_128, li_256, li_312, li_384, nI_add, nu_mul, nu_sub, nu_div, nu_and, nu_or, nu_shr, nu_bit, nu_diff, bi_2, nI_leI, nI_ltI, nI_eq, vp_in_nI, nI_clamp, ar_na, ar_ba, bo_0, bo_1, bo_it, bo_if, bo_w, bo_w0, bo_w1, bo_nar, bo_n1, bo_nn0, st_bu, st_bu1, st_bu0, st_nu, forall_eq, true_implies, false_implies, forall_const, not_true_eq_false, not_false_eq_true, and_true, true_and, implies_true, and_self, Bool.false_eq_true, Bool.true_eq_false, reduceCtorEq, ite_true, ite_false, if_true, if_false, eq_self, Nat.zero_add, Nat.add_zero, Nat.le_refl, Nat.lt_irrefl, Nat.reduceEqDiff, Nat.reduceLeDiff, Nat.reduceLT, Nat.reduceAdd, Nat.reduceMul, Nat.reduceSub, wY_due_63, Nat.not_le.mpr hn, cm_3, cm_21, Nat.mul_comm 8 k, z]
    have hv' : ¬ 8 ≤ v := by omega
    simp (disch := first | omega | assumption) only [li_0, li_1, li_2, li_3, li_4, li_6, li_7, li_8, li_9, li_10, li_12, li_21, li_24, li_31, li_60, li_63, li_127, li_128, li_256, li_312, li_384, nI_add, nu_mul, nu_sub, nu_div, nu_and, nu_or, nu_shr, nu_bit, nu_diff, bi_2, nI_leI, nI_ltI, nI_eq, vp_in_nI, nI_clamp, ar_na, ar_ba, bo_0, bo_1, bo_it, bo_if, bo_w, bo_w0, bo_w1, bo_nar, bo_n1, bo_nn0, st_bu, st_bu1, st_bu0, st_nu, forall_eq, true_implies, false_implies, forall_const, not_true_eq_false, not_false_eq_true, and_true, true_and, implies_true, and_self, Bool.false_eq_true, Bool.true_eq_false, reduceCtorEq, ite_true, ite_false, if_true, if_false, eq_self, Nat.zero_add, Nat.add_zero, Nat.le_refl, Nat.lt_irrefl, Nat.reduceEqDiff, Nat.reduceLeDiff, Nat.reduceLT, Nat.reduceAdd, Nat.reduceMul, Nat.reduceSub, wY_due_40, hv']
    rw [inner, h]
    simp
theorem xc_bound {post : Int32 → Prop} (H : in_all bg df iq up fr dn op ov sp sv qb qi qj qv ql so ba an pk kv vo kn srt num) (hb1 : 1 ≤ b) (hb2 : b ≤ bg) (hi : i < 3) : wpX_boundValue post (nI bg, ar_b df, ar_b iq, ar_b tb, ar_b up, ar_n op, ar_n ov, ar_n sp, ar_n sv, ar_n qb, ar_n qi, ar_n qv, ar_n ql, ar_n so, ar_b fa, ar_n ba, ar_n an, ar_b co, pc_x pk, ar_b fr, ar_n kv, ar_n vo, ar_n kn) (nI b) (nI i) ↔ post (if du_ iq so ba an pk kv b i = 0 then -nI 3 else nI (du_ iq so ba an pk kv b i)) := by
  have hb := H.1
  unfold du_
  rcases lk_ok H (show b ≤ 12 by omega) hi with z | ⟨z1, z2, z3⟩
  · simp (disch := first | omega | assumption) only [li_0, li_1, li_2, li_3, li_4, li_6, li_7, li_8, li_9, li_10, li_12, li_21, li_24, li_31, li_60, li_63, li_127, li_128, li_256, li_312, li_384, nI_add, nu_mul, nu_sub, nu_div, nu_and, nu_or, nu_shr, nu_bit, nu_diff, bi_2, nI_leI, nI_ltI, nI_eq, vp_in_nI, nI_clamp, ar_na, ar_ba, bo_0, bo_1, bo_it, bo_if, bo_w, bo_w0, bo_w1, bo_nar, bo_n1, bo_nn0, st_bu, st_bu1, st_bu0, st_nu, forall_eq, true_implies, false_implies, forall_const, not_true_eq_false, not_false_eq_true, and_true, true_and, implies_true, and_self, Bool.false_eq_true, Bool.true_eq_false, reduceCtorEq, ite_true, ite_false, if_true, if_false, eq_self, Nat.zero_add, Nat.add_zero, Nat.le_refl, Nat.lt_irrefl, Nat.reduceEqDiff, Nat.reduceLeDiff, Nat.reduceLT, Nat.reduceAdd, Nat.reduceMul, Nat.reduceSub, wpX_boundValue, xc_latest H, z]
  · have z0 : ¬ lk_ ba kv b i = 0 := by omega
    have hpk := (H.2.2.2.1 (lk_ ba kv b i * 3 + i)).1
    by_cases w : 2 ≤ pk (lk_ ba kv b i * 3 + i)
    · have w1 : ¬ pk (lk_ ba kv b i * 3 + i) - 1 = 0 := by omega
      simp (disch := first | omega | assumption) only [li_0, li_1, li_2, li_3, li_4, li_6, li_7, li_8, li_9, li_10, li_12, li_21, li_24, li_31, li_60, li_63, li_127, li_128, li_256, li_312, li_384, nI_add, nu_mul, nu_sub, nu_div, nu_and, nu_or, nu_shr, nu_bit, nu_diff, bi_2, nI_leI, nI_ltI, nI_eq, vp_in_nI, nI_clamp, ar_na, ar_ba, bo_0, bo_1, bo_it, bo_if, bo_w, bo_w0, bo_w1, bo_nar, bo_n1, bo_nn0, st_bu, st_bu1, st_bu0, st_nu, forall_eq, true_implies, false_implies, forall_const, not_true_eq_false, not_false_eq_true, and_true, true_and, implies_true, and_self, Bool.false_eq_true, Bool.true_eq_false, reduceCtorEq, ite_true, ite_false, if_true, if_false, eq_self, Nat.zero_add, Nat.add_zero, Nat.le_refl, Nat.lt_irrefl, Nat.reduceEqDiff, Nat.reduceLeDiff, Nat.reduceLT, Nat.reduceAdd, Nat.reduceMul, Nat.reduceSub, wpX_boundValue, xc_latest H, z0, pc_xs (show 0 < pk (lk_ ba kv b i * 3 + i) by omega), w, w1]
    · have w1 : pk (lk_ ba kv b i * 3 + i) = 1 := by omega
      simp (disch := first | omega | assumption) only [li_0, li_1, li_2, li_3, li_4, li_6, li_7, li_8, li_9, li_10, li_12, li_21, li_24, li_31, li_60, li_63, li_127, li_128, li_256, li_312, li_384, nI_add, nu_mul, nu_sub, nu_div, nu_and, nu_or, nu_shr, nu_bit, nu_diff, bi_2, nI_leI, nI_ltI, nI_eq, vp_in_nI, nI_clamp, ar_na, ar_ba, bo_0, bo_1, bo_it, bo_if, bo_w, bo_w0, bo_w1, bo_nar, bo_n1, bo_nn0, st_bu, st_bu1, st_bu0, st_nu, forall_eq, true_implies, false_implies, forall_const, not_true_eq_false, not_false_eq_true, and_true, true_and, implies_true, and_self, Bool.false_eq_true, Bool.true_eq_false, reduceCtorEq, ite_true, ite_false, if_true, if_false, eq_self, Nat.zero_add, Nat.add_zero, Nat.le_refl, Nat.lt_irrefl, Nat.reduceEqDiff, Nat.reduceLeDiff, Nat.reduceLT, Nat.reduceAdd, Nat.reduceMul, Nat.reduceSub, wpX_boundValue, xc_latest H, z0, pc_xs (show 0 < pk (lk_ ba kv b i * 3 + i) by omega), w1, xc_fast H]
theorem yc_due {post : Int32 → Prop} (H : in_all bg df iq up fr dn op ov sp sv qb qi qj qv ql so ba an pk kv vo kn srt num) (hb1 : 1 ≤ b) (hb2 : b ≤ bg) (hi : i < 3) : wpY_due post (nI bg, srt, num, ar_n so, ar_n ba, ar_n an, pc_y pk, ar_n kv, ar_b fa, ar_b co, ar_b fr, ar_b dn, ar_n sp, ar_n sv, ar_n ql, ar_n qb, ar_n qj, ar_n qv, ar_n vo, ar_n kn) (nI b) (nI i) ↔ post (nI (du_ iq so ba an pk kv b i)) := by
  have hb := H.1
  unfold du_
  rcases lk_ok H (show b ≤ 12 by omega) hi with z | ⟨z1, z2, z3⟩
  · simp (disch := first | omega | assumption) only [li_0, li_1, li_2, li_3, li_4, li_6, li_7, li_8, li_9, li_10, li_12, li_21, li_24, li_31, li_60, li_63, li_127, li_128, li_256, li_312, li_384, nI_add, nu_mul, nu_sub, nu_div, nu_and, nu_or, nu_shr, nu_bit, nu_diff, bi_2, nI_leI, nI_ltI, nI_eq, vp_in_nI, nI_clamp, ar_na, ar_ba, bo_0, bo_1, bo_it, bo_if, bo_w, bo_w0, bo_w1, bo_nar, bo_n1, bo_nn0, st_bu, st_bu1, st_bu0, st_nu, forall_eq, true_implies, false_implies, forall_const, not_true_eq_false, not_false_eq_true, and_true, true_and, implies_true, and_self, Bool.false_eq_true, Bool.true_eq_false, reduceCtorEq, ite_true, ite_false, if_true, if_false, eq_self, Nat.zero_add, Nat.add_zero, Nat.le_refl, Nat.lt_irrefl, Nat.reduceEqDiff, Nat.reduceLeDiff, Nat.reduceLT, Nat.reduceAdd, Nat.reduceMul, Nat.reduceSub, wpY_due, yc_latest H, z]
  · have z0 : ¬ lk_ ba kv b i = 0 := by omega
    have hpk := (H.2.2.2.1 (lk_ ba kv b i * 3 + i)).1
    by_cases w : 2 ≤ pk (lk_ ba kv b i * 3 + i)
    · have w1 : ¬ pk (lk_ ba kv b i * 3 + i) - 1 ≤ 0 := by omega
      simp (disch := first | omega | assumption) only [li_0, li_1, li_2, li_3, li_4, li_6, li_7, li_8, li_9, li_10, li_12, li_21, li_24, li_31, li_60, li_63, li_127, li_128, li_256, li_312, li_384, nI_add, nu_mul, nu_sub, nu_div, nu_and, nu_or, nu_shr, nu_bit, nu_diff, bi_2, nI_leI, nI_ltI, nI_eq, vp_in_nI, nI_clamp, ar_na, ar_ba, bo_0, bo_1, bo_it, bo_if, bo_w, bo_w0, bo_w1, bo_nar, bo_n1, bo_nn0, st_bu, st_bu1, st_bu0, st_nu, forall_eq, true_implies, false_implies, forall_const, not_true_eq_false, not_false_eq_true, and_true, true_and, implies_true, and_self, Bool.false_eq_true, Bool.true_eq_false, reduceCtorEq, ite_true, ite_false, if_true, if_false, eq_self, Nat.zero_add, Nat.add_zero, Nat.le_refl, Nat.lt_irrefl, Nat.reduceEqDiff, Nat.reduceLeDiff, Nat.reduceLT, Nat.reduceAdd, Nat.reduceMul, Nat.reduceSub, wpY_due, yc_latest H, z0, cm_3, pc_ys (show 0 < pk (lk_ ba kv b i * 3 + i) by omega), w, w1]
    · have w1 : pk (lk_ ba kv b i * 3 + i) = 1 := by omega
      simp (disch := first | omega | assumption) only [li_0, li_1, li_2, li_3, li_4, li_6, li_7, li_8, li_9, li_10, li_12, li_21, li_24, li_31, li_60, li_63, li_127, li_128, li_256, li_312, li_384, nI_add, nu_mul, nu_sub, nu_div, nu_and, nu_or, nu_shr, nu_bit, nu_diff, bi_2, nI_leI, nI_ltI, nI_eq, vp_in_nI, nI_clamp, ar_na, ar_ba, bo_0, bo_1, bo_it, bo_if, bo_w, bo_w0, bo_w1, bo_nar, bo_n1, bo_nn0, st_bu, st_bu1, st_bu0, st_nu, forall_eq, true_implies, false_implies, forall_const, not_true_eq_false, not_false_eq_true, and_true, true_and, implies_true, and_self, Bool.false_eq_true, Bool.true_eq_false, reduceCtorEq, ite_true, ite_false, if_true, if_false, eq_self, Nat.zero_add, Nat.add_zero, Nat.le_refl, Nat.lt_irrefl, Nat.reduceEqDiff, Nat.reduceLeDiff, Nat.reduceLT, Nat.reduceAdd, Nat.reduceMul, Nat.reduceSub, wpY_due, yc_latest H, z0, cm_3, pc_ys (show 0 < pk (lk_ ba kv b i * 3 + i) by omega), w1]
      exact yc_fast H hb1 hb2 hi z1 z2
theorem du_7 (H : in_all bg df iq up fr dn op ov sp sv qb qi qj qv ql so ba an pk kv vo kn srt num) : du_ iq so ba an pk kv b i ≤ 7 := by
  have := (H.2.2.2.1 (lk_ ba kv b i * 3 + i)).1
  have h2 := @fv_7 iq so an kv (lk_ ba kv b i) i b
  unfold du_
  split
  · omega
  · split
    · omega
    · exact h2
def np_ (iq fa : Nat → Bool) (so ba an pk kv : Nat → Nat) (b i v : Nat) : Nat := if du_ iq so ba an pk kv b i = 0 then (if fa b = true then 0 else v) else du_ iq so ba an pk kv b i
theorem xc_settlePick {post : Int32 → SX → Prop} (H : in_all bg df iq up fr dn op ov sp sv qb qi qj qv ql so ba an pk kv vo kn srt num) (hb1 : 1 ≤ b) (hb2 : b ≤ bg) (hi : i < 3) : wpX_settlePick post (nI bg, ar_b df, ar_b iq, ar_b tb, ar_b up, ar_n op, ar_n ov, ar_n sp, ar_n sv, ar_n qb, ar_n qi, ar_n qv, ar_n ql, ar_n so, ar_b fa, ar_n ba, ar_n an, ar_b co, pc_x pk, ar_b fr, ar_n kv, ar_n vo, ar_n kn) (nI b) (nI i) (nI v) ↔ post (nI (np_ iq fa so ba an pk kv b i v)) (nI bg, ar_b df, ar_b iq, ar_b tb, ar_b up, ar_n op, ar_n ov, ar_n sp, ar_n sv, ar_n qb, ar_n qi, ar_n qv, ar_n ql, ar_n so, ar_b fa, ar_n ba, ar_n an, ar_b co, pc_x (st_n pk (b * 3 + i) (np_ iq fa so ba an pk kv b i v + 1)), ar_b (st_b fr (b * 3 + i) (decide (du_ iq so ba an pk kv b i = 0))), ar_n kv, ar_n vo, ar_n kn) := by
  have hb := H.1
  have hdu : du_ iq so ba an pk kv b i ≤ 7 := du_7 H
  unfold np_
  by_cases z : du_ iq so ba an pk kv b i = 0
  · cases w : fa b
    · simp (disch := first | omega | assumption) only [li_0, li_1, li_2, li_3, li_4, li_6, li_7, li_8, li_9, li_10, li_12, li_21, li_24, li_31, li_60, li_63, li_127, li_128, li_256, li_312, li_384, nI_add, nu_mul, nu_sub, nu_div, nu_and, nu_or, nu_shr, nu_bit, nu_diff, bi_2, nI_leI, nI_ltI, nI_eq, vp_in_nI, nI_clamp, ar_na, ar_ba, bo_0, bo_1, bo_it, bo_if, bo_w, bo_w0, bo_w1, bo_nar, bo_n1, bo_nn0, st_bu, st_bu1, st_bu0, st_nu, forall_eq, true_implies, false_implies, forall_const, not_true_eq_false, not_false_eq_true, and_true, true_and, implies_true, and_self, Bool.false_eq_true, Bool.true_eq_false, reduceCtorEq, ite_true, ite_false, if_true, if_false, eq_self, Nat.zero_add, Nat.add_zero, Nat.le_refl, Nat.lt_irrefl, Nat.reduceEqDiff, Nat.reduceLeDiff, Nat.reduceLT, Nat.reduceAdd, Nat.reduceMul, Nat.reduceSub, wpX_settlePick, wX_settlePick_33, xc_bound H, z, w, pc_xu, pc_xa, decide_true]
    · simp (disch := first | omega | assumption) only [li_0, li_1, li_2, li_3, li_4, li_6, li_7, li_8, li_9, li_10, li_12, li_21, li_24, li_31, li_60, li_63, li_127, li_128, li_256, li_312, li_384, nI_add, nu_mul, nu_sub, nu_div, nu_and, nu_or, nu_shr, nu_bit, nu_diff, bi_2, nI_leI, nI_ltI, nI_eq, vp_in_nI, nI_clamp, ar_na, ar_ba, bo_0, bo_1, bo_it, bo_if, bo_w, bo_w0, bo_w1, bo_nar, bo_n1, bo_nn0, st_bu, st_bu1, st_bu0, st_nu, forall_eq, true_implies, false_implies, forall_const, not_true_eq_false, not_false_eq_true, and_true, true_and, implies_true, and_self, Bool.false_eq_true, Bool.true_eq_false, reduceCtorEq, ite_true, ite_false, if_true, if_false, eq_self, Nat.zero_add, Nat.add_zero, Nat.le_refl, Nat.lt_irrefl, Nat.reduceEqDiff, Nat.reduceLeDiff, Nat.reduceLT, Nat.reduceAdd, Nat.reduceMul, Nat.reduceSub, wpX_settlePick, wX_settlePick_33, xc_bound H, z, w, pc_xu, pc_xa, decide_true]
  · simp (disch := first | omega | assumption) only [li_0, li_1, li_2, li_3, li_4, li_6, li_7, li_8, li_9, li_10, li_12, li_21, li_24, li_31, li_60, li_63, li_127, li_128, li_256, li_312, li_384, nI_add, nu_mul, nu_sub, nu_div, nu_and, nu_or, nu_shr, nu_bit, nu_diff, bi_2, nI_leI, nI_ltI, nI_eq, vp_in_nI, nI_clamp, ar_na, ar_ba, bo_0, bo_1, bo_it, bo_if, bo_w, bo_w0, bo_w1, bo_nar, bo_n1, bo_nn0, st_bu, st_bu1, st_bu0, st_nu, forall_eq, true_implies, false_implies, forall_const, not_true_eq_false, not_false_eq_true, and_true, true_and, implies_true, and_self, Bool.false_eq_true, Bool.true_eq_false, reduceCtorEq, ite_true, ite_false, if_true, if_false, eq_self, Nat.zero_add, Nat.add_zero, Nat.le_refl, Nat.lt_irrefl, Nat.reduceEqDiff, Nat.reduceLeDiff, Nat.reduceLT, Nat.reduceAdd, Nat.reduceMul, Nat.reduceSub, wpX_settlePick, wX_settlePick_33, xc_bound H, z, ng_3, pc_xu, pc_xa, decide_false]
theorem xc_mayPick {post : Int32 → Prop} (H : in_all bg df iq up fr dn op ov sp sv qb qi qj qv ql so ba an pk kv vo kn srt num) (hb1 : 1 ≤ b) (hb2 : b ≤ bg) (hi : i < 3) : wpX_mayPick post (nI bg, ar_b df, ar_b iq, ar_b tb, ar_b up, ar_n op, ar_n ov, ar_n sp, ar_n sv, ar_n qb, ar_n qi, ar_n qv, ar_n ql, ar_n so, ar_b fa, ar_n ba, ar_n an, ar_b co, pc_x pk, ar_b fr, ar_n kv, ar_n vo, ar_n kn) (nI b) (nI i) ↔ post (bo_i (decide (pk (b * 3 + i) = 0) && rd_ iq so ba b (an b))) := by
  have hb := H.1
  have hbb := H.2.2.1
  have han := (H.2.2.2.2.2.1 b).2.2
  have hpk := (H.2.2.2.1 (b * 3 + i)).1
  by_cases z : pk (b * 3 + i) = 0
  · simp (disch := first | omega | assumption) only [li_0, li_1, li_2, li_3, li_4, li_6, li_7, li_8, li_9, li_10, li_12, li_21, li_24, li_31, li_60, li_63, li_127, li_128, li_256, li_312, li_384, nI_add, nu_mul, nu_sub, nu_div, nu_and, nu_or, nu_shr, nu_bit, nu_diff, bi_2, nI_leI, nI_ltI, nI_eq, vp_in_nI, nI_clamp, ar_na, ar_ba, bo_0, bo_1, bo_it, bo_if, bo_w, bo_w0, bo_w1, bo_nar, bo_n1, bo_nn0, st_bu, st_bu1, st_bu0, st_nu, forall_eq, true_implies, false_implies, forall_const, not_true_eq_false, not_false_eq_true, and_true, true_and, implies_true, and_self, Bool.false_eq_true, Bool.true_eq_false, reduceCtorEq, ite_true, ite_false, if_true, if_false, eq_self, Nat.zero_add, Nat.add_zero, Nat.le_refl, Nat.lt_irrefl, Nat.reduceEqDiff, Nat.reduceLeDiff, Nat.reduceLT, Nat.reduceAdd, Nat.reduceMul, Nat.reduceSub, wpX_mayPick, pc_x0 z, z, xc_ready hb hbb, decide_true, Bool.true_and, bo_pq]
  · simp (disch := first | omega | assumption) only [li_0, li_1, li_2, li_3, li_4, li_6, li_7, li_8, li_9, li_10, li_12, li_21, li_24, li_31, li_60, li_63, li_127, li_128, li_256, li_312, li_384, nI_add, nu_mul, nu_sub, nu_div, nu_and, nu_or, nu_shr, nu_bit, nu_diff, bi_2, nI_leI, nI_ltI, nI_eq, vp_in_nI, nI_clamp, ar_na, ar_ba, bo_0, bo_1, bo_it, bo_if, bo_w, bo_w0, bo_w1, bo_nar, bo_n1, bo_nn0, st_bu, st_bu1, st_bu0, st_nu, forall_eq, true_implies, false_implies, forall_const, not_true_eq_false, not_false_eq_true, and_true, true_and, implies_true, and_self, Bool.false_eq_true, Bool.true_eq_false, reduceCtorEq, ite_true, ite_false, if_true, if_false, eq_self, Nat.zero_add, Nat.add_zero, Nat.le_refl, Nat.lt_irrefl, Nat.reduceEqDiff, Nat.reduceLeDiff, Nat.reduceLT, Nat.reduceAdd, Nat.reduceMul, Nat.reduceSub, wpX_mayPick, pc_xs (show 0 < pk (b * 3 + i) by omega), ng_3, z, decide_false, Bool.false_and]
def cp_ (bg : Nat) (iq : Nat → Bool) (so ba an pk : Nat → Nat) (x y z : Int32) : Bool := iz 1 bg x && (iz 0 2 y && (iz 1 7 z && (decide (pk (cl_ x * 3 + cl_ y) = 0) && rd_ iq so ba (cl_ x) (an (cl_ x)))))
theorem xc_pick {post : Int32 → SX → Prop} (H : in_all bg df iq up fr dn op ov sp sv qb qi qj qv ql so ba an pk kv vo kn srt num) : wpX_pick post (nI bg, ar_b df, ar_b iq, ar_b tb, ar_b up, ar_n op, ar_n ov, ar_n sp, ar_n sv, ar_n qb, ar_n qi, ar_n qv, ar_n ql, ar_n so, ar_b fa, ar_n ba, ar_n an, ar_b co, pc_x pk, ar_b fr, ar_n kv, ar_n vo, ar_n kn) x y z ↔ ((cp_ bg iq so ba an pk x y z = false → post (-nI 1) (nI bg, ar_b df, ar_b iq, ar_b tb, ar_b up, ar_n op, ar_n ov, ar_n sp, ar_n sv, ar_n qb, ar_n qi, ar_n qv, ar_n ql, ar_n so, ar_b fa, ar_n ba, ar_n an, ar_b co, pc_x pk, ar_b fr, ar_n kv, ar_n vo, ar_n kn)) ∧ (cp_ bg iq so ba an pk x y z = true → post (nI (np_ iq fa so ba an pk kv (cl_ x) (cl_ y) (cl_ z))) (nI bg, ar_b df, ar_b iq, ar_b tb, ar_b up, ar_n op, ar_n ov, ar_n sp, ar_n sv, ar_n qb, ar_n qi, ar_n qv, ar_n ql, ar_n so, ar_b fa, ar_n ba, ar_n an, ar_b co, pc_x (st_n pk (cl_ x * 3 + cl_ y) (np_ iq fa so ba an pk kv (cl_ x) (cl_ y) (cl_ z) + 1)), ar_b (st_b fr (cl_ x * 3 + cl_ y) (decide (du_ iq so ba an pk kv (cl_ x) (cl_ y) = 0))), ar_n kv, ar_n vo, ar_n kn))) := by
  have hb := H.1
  unfold cp_
  rcases iz_c 1 bg x with h | ⟨b, h1, h2, h3, rfl, h⟩
  · simp (disch := first | omega | assumption) only [li_0, li_1, li_2, li_3, li_4, li_6, li_7, li_8, li_9, li_10, li_12, li_21, li_24, li_31, li_60, li_63, li_127, li_128, li_256, li_312, li_384, nI_add, nu_mul, nu_sub, nu_div, nu_and, nu_or, nu_shr, nu_bit, nu_diff, bi_2, nI_leI, nI_ltI, nI_eq, vp_in_nI, nI_clamp, ar_na, ar_ba, bo_0, bo_1, bo_it, bo_if, bo_w, bo_w0, bo_w1, bo_nar, bo_n1, bo_nn0, st_bu, st_bu1, st_bu0, st_nu, forall_eq, true_implies, false_implies, forall_const, not_true_eq_false, not_false_eq_true, and_true, true_and, implies_true, and_self, Bool.false_eq_true, Bool.true_eq_false, reduceCtorEq, ite_true, ite_false, if_true, if_false, eq_self, Nat.zero_add, Nat.add_zero, Nat.le_refl, Nat.lt_irrefl, Nat.reduceEqDiff, Nat.reduceLeDiff, Nat.reduceLT, Nat.reduceAdd, Nat.reduceMul, Nat.reduceSub, wpX_pick, xc_isBallot, h, Bool.false_and]
  · rcases iz_c 0 2 y with g | ⟨i, g1, g2, g3, rfl, g⟩
    · simp (disch := first | omega | assumption) only [li_0, li_1, li_2, li_3, li_4, li_6, li_7, li_8, li_9, li_10, li_12, li_21, li_24, li_31, li_60, li_63, li_127, li_128, li_256, li_312, li_384, nI_add, nu_mul, nu_sub, nu_div, nu_and, nu_or, nu_shr, nu_bit, nu_diff, bi_2, nI_leI, nI_ltI, nI_eq, vp_in_nI, nI_clamp, ar_na, ar_ba, bo_0, bo_1, bo_it, bo_if, bo_w, bo_w0, bo_w1, bo_nar, bo_n1, bo_nn0, st_bu, st_bu1, st_bu0, st_nu, forall_eq, true_implies, false_implies, forall_const, not_true_eq_false, not_false_eq_true, and_true, true_and, implies_true, and_self, Bool.false_eq_true, Bool.true_eq_false, reduceCtorEq, ite_true, ite_false, if_true, if_false, eq_self, Nat.zero_add, Nat.add_zero, Nat.le_refl, Nat.lt_irrefl, Nat.reduceEqDiff, Nat.reduceLeDiff, Nat.reduceLT, Nat.reduceAdd, Nat.reduceMul, Nat.reduceSub, wpX_pick, xc_isBallot, xc_isInstance, h, g, Bool.false_and, Bool.and_false]
    · rcases iz_c 1 7 z with e | ⟨v, e1, e2, e3, rfl, e⟩
      · simp (disch := first | omega | assumption) only [li_0, li_1, li_2, li_3, li_4, li_6, li_7, li_8, li_9, li_10, li_12, li_21, li_24, li_31, li_60, li_63, li_127, li_128, li_256, li_312, li_384, nI_add, nu_mul, nu_sub, nu_div, nu_and, nu_or, nu_shr, nu_bit, nu_diff, bi_2, nI_leI, nI_ltI, nI_eq, vp_in_nI, nI_clamp, ar_na, ar_ba, bo_0, bo_1, bo_it, bo_if, bo_w, bo_w0, bo_w1, bo_nar, bo_n1, bo_nn0, st_bu, st_bu1, st_bu0, st_nu, forall_eq, true_implies, false_implies, forall_const, not_true_eq_false, not_false_eq_true, and_true, true_and, implies_true, and_self, Bool.false_eq_true, Bool.true_eq_false, reduceCtorEq, ite_true, ite_false, if_true, if_false, eq_self, Nat.zero_add, Nat.add_zero, Nat.le_refl, Nat.lt_irrefl, Nat.reduceEqDiff, Nat.reduceLeDiff, Nat.reduceLT, Nat.reduceAdd, Nat.reduceMul, Nat.reduceSub, wpX_pick, xc_isBallot, xc_isInstance, xc_isValue, h, g, e, Bool.false_and, Bool.and_false]
      · rw [cl_n h3, cl_n g3, cl_n e3]
        cases w : decide (pk (b * 3 + i) = 0) && rd_ iq so ba b (an b)
        · simp (disch := first | omega | assumption) only [li_0, li_1, li_2, li_3, li_4, li_6, li_7, li_8, li_9, li_10, li_12, li_21, li_24, li_31, li_60, li_63, li_127, li_128, li_256, li_312, li_384, nI_add, nu_mul, nu_sub, nu_div, nu_and, nu_or, nu_shr, nu_bit, nu_diff, bi_2, nI_leI, nI_ltI, nI_eq, vp_in_nI, nI_clamp, ar_na, ar_ba, bo_0, bo_1, bo_it, bo_if, bo_w, bo_w0, bo_w1, bo_nar, bo_n1, bo_nn0, st_bu, st_bu1, st_bu0, st_nu, forall_eq, true_implies, false_implies, forall_const, not_true_eq_false, not_false_eq_true, and_true, true_and, implies_true, and_self, Bool.false_eq_true, Bool.true_eq_false, reduceCtorEq, ite_true, ite_false, if_true, if_false, eq_self, Nat.zero_add, Nat.add_zero, Nat.le_refl, Nat.lt_irrefl, Nat.reduceEqDiff, Nat.reduceLeDiff, Nat.reduceLT, Nat.reduceAdd, Nat.reduceMul, Nat.reduceSub, wpX_pick, xc_isBallot, xc_isInstance, xc_isValue, h, g, e, xc_mayPick H, w, Bool.and_false]
        · simp (disch := first | omega | assumption) only [li_0, li_1, li_2, li_3, li_4, li_6, li_7, li_8, li_9, li_10, li_12, li_21, li_24, li_31, li_60, li_63, li_127, li_128, li_256, li_312, li_384, nI_add, nu_mul, nu_sub, nu_div, nu_and, nu_or, nu_shr, nu_bit, nu_diff, bi_2, nI_leI, nI_ltI, nI_eq, vp_in_nI, nI_clamp, ar_na, ar_ba, bo_0, bo_1, bo_it, bo_if, bo_w, bo_w0, bo_w1, bo_nar, bo_n1, bo_nn0, st_bu, st_bu1, st_bu0, st_nu, forall_eq, true_implies, false_implies, forall_const, not_true_eq_false, not_false_eq_true, and_true, true_and, implies_true, and_self, Bool.false_eq_true, Bool.true_eq_false, reduceCtorEq, ite_true, ite_false, if_true, if_false, eq_self, Nat.zero_add, Nat.add_zero, Nat.le_refl, Nat.lt_irrefl, Nat.reduceEqDiff, Nat.reduceLeDiff, Nat.reduceLT, Nat.reduceAdd, Nat.reduceMul, Nat.reduceSub, wpX_pick, xc_isBallot, xc_isInstance, xc_isValue, h, g, e, xc_mayPick H, w, Bool.and_self, xc_settlePick H]
theorem yc_pick {post : Int32 → SY → Prop} (H : in_all bg df iq up fr dn op ov sp sv qb qi qj qv ql so ba an pk kv vo kn srt num) : wpY_pick post (nI bg, srt, num, ar_n so, ar_n ba, ar_n an, pc_y pk, ar_n kv, ar_b fa, ar_b co, ar_b fr, ar_b dn, ar_n sp, ar_n sv, ar_n ql, ar_n qb, ar_n qj, ar_n qv, ar_n vo, ar_n kn) x y z ↔ ((cp_ bg iq so ba an pk x y z = false → post (-nI 1) (nI bg, srt, num, ar_n so, ar_n ba, ar_n an, pc_y pk, ar_n kv, ar_b fa, ar_b co, ar_b fr, ar_b dn, ar_n sp, ar_n sv, ar_n ql, ar_n qb, ar_n qj, ar_n qv, ar_n vo, ar_n kn)) ∧ (cp_ bg iq so ba an pk x y z = true → post (nI (np_ iq fa so ba an pk kv (cl_ x) (cl_ y) (cl_ z))) (nI bg, srt, num, ar_n so, ar_n ba, ar_n an, pc_y (st_n pk (cl_ x * 3 + cl_ y) (np_ iq fa so ba an pk kv (cl_ x) (cl_ y) (cl_ z) + 1)), ar_n kv, ar_b fa, ar_b co, ar_b (st_b fr (cl_ x * 3 + cl_ y) (decide (du_ iq so ba an pk kv (cl_ x) (cl_ y) = 0))), ar_b dn, ar_n sp, ar_n sv, ar_n ql, ar_n qb, ar_n qj, ar_n qv, ar_n vo, ar_n kn))) := by
  have hb := H.1
  have hs := H.2.1
  have hbb := H.2.2.1
  have hc := H.2.2.2.2.2.1
  unfold cp_
  rcases iz_c 1 bg x with h | ⟨b, h1, h2, h3, rfl, h⟩
  · simp (disch := first | omega | assumption) only [li_0, li_1, li_2, li_3, li_4, li_6, li_7, li_8, li_9, li_10, li_12, li_21, li_24, li_31, li_60, li_63, li_127, li_128, li_256, li_312, li_384, nI_add, nu_mul, nu_sub, nu_div, nu_and, nu_or, nu_shr, nu_bit, nu_diff, bi_2, nI_leI, nI_ltI, nI_eq, vp_in_nI, nI_clamp, ar_na, ar_ba, bo_0, bo_1, bo_it, bo_if, bo_w, bo_w0, bo_w1, bo_nar, bo_n1, bo_nn0, st_bu, st_bu1, st_bu0, st_nu, forall_eq, true_implies, false_implies, forall_const, not_true_eq_false, not_false_eq_true, and_true, true_and, implies_true, and_self, Bool.false_eq_true, Bool.true_eq_false, reduceCtorEq, ite_true, ite_false, if_true, if_false, eq_self, Nat.zero_add, Nat.add_zero, Nat.le_refl, Nat.lt_irrefl, Nat.reduceEqDiff, Nat.reduceLeDiff, Nat.reduceLT, Nat.reduceAdd, Nat.reduceMul, Nat.reduceSub, wpY_pick, yc_isBallot, h, Bool.false_and]
  · rcases iz_c 0 2 y with g | ⟨i, g1, g2, g3, rfl, g⟩
    · simp (disch := first | omega | assumption) only [li_0, li_1, li_2, li_3, li_4, li_6, li_7, li_8, li_9, li_10, li_12, li_21, li_24, li_31, li_60, li_63, li_127, li_128, li_256, li_312, li_384, nI_add, nu_mul, nu_sub, nu_div, nu_and, nu_or, nu_shr, nu_bit, nu_diff, bi_2, nI_leI, nI_ltI, nI_eq, vp_in_nI, nI_clamp, ar_na, ar_ba, bo_0, bo_1, bo_it, bo_if, bo_w, bo_w0, bo_w1, bo_nar, bo_n1, bo_nn0, st_bu, st_bu1, st_bu0, st_nu, forall_eq, true_implies, false_implies, forall_const, not_true_eq_false, not_false_eq_true, and_true, true_and, implies_true, and_self, Bool.false_eq_true, Bool.true_eq_false, reduceCtorEq, ite_true, ite_false, if_true, if_false, eq_self, Nat.zero_add, Nat.add_zero, Nat.le_refl, Nat.lt_irrefl, Nat.reduceEqDiff, Nat.reduceLeDiff, Nat.reduceLT, Nat.reduceAdd, Nat.reduceMul, Nat.reduceSub, wpY_pick, yc_isBallot, yc_in, h, g, Bool.false_and, Bool.and_false]
    · rcases iz_c 1 7 z with e | ⟨v, e1, e2, e3, rfl, e⟩
      · simp (disch := first | omega | assumption) only [li_0, li_1, li_2, li_3, li_4, li_6, li_7, li_8, li_9, li_10, li_12, li_21, li_24, li_31, li_60, li_63, li_127, li_128, li_256, li_312, li_384, nI_add, nu_mul, nu_sub, nu_div, nu_and, nu_or, nu_shr, nu_bit, nu_diff, bi_2, nI_leI, nI_ltI, nI_eq, vp_in_nI, nI_clamp, ar_na, ar_ba, bo_0, bo_1, bo_it, bo_if, bo_w, bo_w0, bo_w1, bo_nar, bo_n1, bo_nn0, st_bu, st_bu1, st_bu0, st_nu, forall_eq, true_implies, false_implies, forall_const, not_true_eq_false, not_false_eq_true, and_true, true_and, implies_true, and_self, Bool.false_eq_true, Bool.true_eq_false, reduceCtorEq, ite_true, ite_false, if_true, if_false, eq_self, Nat.zero_add, Nat.add_zero, Nat.le_refl, Nat.lt_irrefl, Nat.reduceEqDiff, Nat.reduceLeDiff, Nat.reduceLT, Nat.reduceAdd, Nat.reduceMul, Nat.reduceSub, wpY_pick, yc_isBallot, yc_in, h, g, e, Bool.false_and, Bool.and_false]
      · rw [cl_n h3, cl_n g3, cl_n e3]
        have hpk := (H.2.2.2.1 (b * 3 + i)).1
        cases w : rd_ iq so ba b (an b)
        · simp (disch := first | omega | assumption) only [li_0, li_1, li_2, li_3, li_4, li_6, li_7, li_8, li_9, li_10, li_12, li_21, li_24, li_31, li_60, li_63, li_127, li_128, li_256, li_312, li_384, nI_add, nu_mul, nu_sub, nu_div, nu_and, nu_or, nu_shr, nu_bit, nu_diff, bi_2, nI_leI, nI_ltI, nI_eq, vp_in_nI, nI_clamp, ar_na, ar_ba, bo_0, bo_1, bo_it, bo_if, bo_w, bo_w0, bo_w1, bo_nar, bo_n1, bo_nn0, st_bu, st_bu1, st_bu0, st_nu, forall_eq, true_implies, false_implies, forall_const, not_true_eq_false, not_false_eq_true, and_true, true_and, implies_true, and_self, Bool.false_eq_true, Bool.true_eq_false, reduceCtorEq, ite_true, ite_false, if_true, if_false, eq_self, Nat.zero_add, Nat.add_zero, Nat.le_refl, Nat.lt_irrefl, Nat.reduceEqDiff, Nat.reduceLeDiff, Nat.reduceLT, Nat.reduceAdd, Nat.reduceMul, Nat.reduceSub, wpY_pick, yc_isBallot, yc_in, h, g, e, yc_isReady hs hb hbb hc, w, Bool.and_false]
        · by_cases q : pk (b * 3 + i) = 0
          · have hdu : du_ iq so ba an pk kv b i ≤ 7 := du_7 H
            unfold np_
            by_cases z : du_ iq so ba an pk kv b i = 0
            · cases p : fa b
              · simp (disch := first | omega | assumption) only [li_0, li_1, li_2, li_3, li_4, li_6, li_7, li_8, li_9, li_10, li_12, li_21, li_24, li_31, li_60, li_63, li_127, li_128, li_256, li_312, li_384, nI_add, nu_mul, nu_sub, nu_div, nu_and, nu_or, nu_shr, nu_bit, nu_diff, bi_2, nI_leI, nI_ltI, nI_eq, vp_in_nI, nI_clamp, ar_na, ar_ba, bo_0, bo_1, bo_it, bo_if, bo_w, bo_w0, bo_w1, bo_nar, bo_n1, bo_nn0, st_bu, st_bu1, st_bu0, st_nu, forall_eq, true_implies, false_implies, forall_const, not_true_eq_false, not_false_eq_true, and_true, true_and, implies_true, and_self, Bool.false_eq_true, Bool.true_eq_false, reduceCtorEq, ite_true, ite_false, if_true, if_false, eq_self, Nat.zero_add, Nat.add_zero, Nat.le_refl, Nat.lt_irrefl, Nat.reduceEqDiff, Nat.reduceLeDiff, Nat.reduceLT, Nat.reduceAdd, Nat.reduceMul, Nat.reduceSub, wpY_pick, wY_pick_77, wY_pick_111, yc_isBallot, yc_in, h, g, e, yc_isReady hs hb hbb hc, w, cm_3, pc_y0 q, q, ng_10, yc_due H, z, p, pc_yu, pc_ya, decide_true, Bool.and_self]
              · simp (disch := first | omega | assumption) only [li_0, li_1, li_2, li_3, li_4, li_6, li_7, li_8, li_9, li_10, li_12, li_21, li_24, li_31, li_60, li_63, li_127, li_128, li_256, li_312, li_384, nI_add, nu_mul, nu_sub, nu_div, nu_and, nu_or, nu_shr, nu_bit, nu_diff, bi_2, nI_leI, nI_ltI, nI_eq, vp_in_nI, nI_clamp, ar_na, ar_ba, bo_0, bo_1, bo_it, bo_if, bo_w, bo_w0, bo_w1, bo_nar, bo_n1, bo_nn0, st_bu, st_bu1, st_bu0, st_nu, forall_eq, true_implies, false_implies, forall_const, not_true_eq_false, not_false_eq_true, and_true, true_and, implies_true, and_self, Bool.false_eq_true, Bool.true_eq_false, reduceCtorEq, ite_true, ite_false, if_true, if_false, eq_self, Nat.zero_add, Nat.add_zero, Nat.le_refl, Nat.lt_irrefl, Nat.reduceEqDiff, Nat.reduceLeDiff, Nat.reduceLT, Nat.reduceAdd, Nat.reduceMul, Nat.reduceSub, wpY_pick, wY_pick_77, wY_pick_111, yc_isBallot, yc_in, h, g, e, yc_isReady hs hb hbb hc, w, cm_3, pc_y0 q, q, ng_10, yc_due H, z, p, pc_yu, pc_ya, decide_true, Bool.and_self]
            · simp (disch := first | omega | assumption) only [li_0, li_1, li_2, li_3, li_4, li_6, li_7, li_8, li_9, li_10, li_12, li_21, li_24, li_31, li_60, li_63, li_127, li_128, li_256, li_312, li_384, nI_add, nu_mul, nu_sub, nu_div, nu_and, nu_or, nu_shr, nu_bit, nu_diff, bi_2, nI_leI, nI_ltI, nI_eq, vp_in_nI, nI_clamp, ar_na, ar_ba, bo_0, bo_1, bo_it, bo_if, bo_w, bo_w0, bo_w1, bo_nar, bo_n1, bo_nn0, st_bu, st_bu1, st_bu0, st_nu, forall_eq, true_implies, false_implies, forall_const, not_true_eq_false, not_false_eq_true, and_true, true_and, implies_true, and_self, Bool.false_eq_true, Bool.true_eq_false, reduceCtorEq, ite_true, ite_false, if_true, if_false, eq_self, Nat.zero_add, Nat.add_zero, Nat.le_refl, Nat.lt_irrefl, Nat.reduceEqDiff, Nat.reduceLeDiff, Nat.reduceLT, Nat.reduceAdd, Nat.reduceMul, Nat.reduceSub, wpY_pick, wY_pick_77, wY_pick_111, yc_isBallot, yc_in, h, g, e, yc_isReady hs hb hbb hc, w, cm_3, pc_y0 q, q, ng_10, yc_due H, z, show ¬ du_ iq so ba an pk kv b i ≤ 0 by omega, pc_yu, pc_ya, decide_true, decide_false, Bool.and_self]
          · simp (disch := first | omega | assumption) only [li_0, li_1, li_2, li_3, li_4, li_6, li_7, li_8, li_9, li_10, li_12, li_21, li_24, li_31, li_60, li_63, li_127, li_128, li_256, li_312, li_384, nI_add, nu_mul, nu_sub, nu_div, nu_and, nu_or, nu_shr, nu_bit, nu_diff, bi_2, nI_leI, nI_ltI, nI_eq, vp_in_nI, nI_clamp, ar_na, ar_ba, bo_0, bo_1, bo_it, bo_if, bo_w, bo_w0, bo_w1, bo_nar, bo_n1, bo_nn0, st_bu, st_bu1, st_bu0, st_nu, forall_eq, true_implies, false_implies, forall_const, not_true_eq_false, not_false_eq_true, and_true, true_and, implies_true, and_self, Bool.false_eq_true, Bool.true_eq_false, reduceCtorEq, ite_true, ite_false, if_true, if_false, eq_self, Nat.zero_add, Nat.add_zero, Nat.le_refl, Nat.lt_irrefl, Nat.reduceEqDiff, Nat.reduceLeDiff, Nat.reduceLT, Nat.reduceAdd, Nat.reduceMul, Nat.reduceSub, wpY_pick, yc_isBallot, yc_in, h, g, e, yc_isReady hs hb hbb hc, w, cm_3, pc_ys (show 0 < pk (b * 3 + i) by omega), q, Nat.not_lt_zero, decide_false, Bool.false_and, Bool.and_false]
theorem in_pick (H : in_all bg df iq up fr dn op ov sp sv qb qi qj qv ql so ba an pk kv vo kn srt num) (hv1 : 1 ≤ v) (hv7 : v ≤ 7) : in_all bg df iq up (st_b fr (b * 3 + i) (decide (du_ iq so ba an pk kv b i = 0))) dn op ov sp sv qb qi qj qv ql so ba an (st_n pk (b * 3 + i) (np_ iq fa so ba an pk kv b i v + 1)) kv vo kn srt num := by
  have hdu : du_ iq so ba an pk kv b i ≤ 7 := du_7 H
  obtain ⟨hb, hs, hbb, hp, hv, hc, hq, ho, ha, hd⟩ := H
  have hup : ∀ j, pk j ≠ 0 → st_n pk (b * 3 + i) (np_ iq fa so ba an pk kv b i v + 1) j ≠ 0 := by
    intro j hj
    by_cases e : j = b * 3 + i
    · rw [e, st_eq]; omega
    · rw [st_ne e]; exact hj
  refine ⟨hb, hs, hbb, ?_, in_vu (Nat.le_refl _) hup hv, hc, in_qu (Nat.le_refl _) hup hq, ho, ha, hd⟩
  intro j
  by_cases e : j = b * 3 + i
  · subst e
    rw [st_eq, st_beq]
    unfold np_
    refine ⟨?_, fun _ => by omega, fun z => ?_⟩
    · split
      · split <;> omega
      · omega
    · by_cases w : du_ iq so ba an pk kv b i = 0
      · exact decide_eq_true w
      · rw [if_neg w] at z; omega
  · rw [st_ne e, st_bne e]
    exact hp j
def cf_ (iq fr : Nat → Bool) (so pk vo : Nat → Nat) (b : Nat) : Bool := lo_a (fun i => fr (b * 3 + i) || (decide (2 ≤ pk (b * 3 + i)) && en_ iq so pk b i (vo ((b * 3 + i) * 8 + (pk (b * 3 + i) - 1))))) 3 0
def cc_ (iq co fr : Nat → Bool) (so ba an pk vo : Nat → Nat) (b : Nat) : Bool := !co b && (rd_ iq so ba b (an b) && cf_ iq fr so pk vo b)
theorem xc_pickIsChosen {post : Int32 → Prop} (H : in_all bg df iq up fr dn op ov sp sv qb qi qj qv ql so ba an pk kv vo kn srt num) (hb1 : 1 ≤ b) (hb2 : b ≤ bg) (hi : i < 3) : wpX_pickIsChosen post (nI bg, ar_b df, ar_b iq, ar_b tb, ar_b up, ar_n op, ar_n ov, ar_n sp, ar_n sv, ar_n qb, ar_n qi, ar_n qv, ar_n ql, ar_n so, ar_b fa, ar_n ba, ar_n an, ar_b co, pc_x pk, ar_b fr, ar_n kv, ar_n vo, ar_n kn) (nI b) (nI i) ↔ post (bo_i (decide (2 ≤ pk (b * 3 + i)) && en_ iq so pk b i (vo ((b * 3 + i) * 8 + (pk (b * 3 + i) - 1))))) := by
  have hb := H.1
  have hbb := H.2.2.1
  have hp := H.2.2.2.1
  have hpk := (H.2.2.2.1 (b * 3 + i)).1
  have hvo := (H.2.2.2.2.2.1 ((b * 3 + i) * 8 + (pk (b * 3 + i) - 1))).1
  rcases (by omega : pk (b * 3 + i) = 0 ∨ pk (b * 3 + i) = 1 ∨ 2 ≤ pk (b * 3 + i)) with w | w | w
  · simp (disch := first | omega | assumption) only [li_0, li_1, li_2, li_3, li_4, li_6, li_7, li_8, li_9, li_10, li_12, li_21, li_24, li_31, li_60, li_63, li_127, li_128, li_256, li_312, li_384, nI_add, nu_mul, nu_sub, nu_div, nu_and, nu_or, nu_shr, nu_bit, nu_diff, bi_2, nI_leI, nI_ltI, nI_eq, vp_in_nI, nI_clamp, ar_na, ar_ba, bo_0, bo_1, bo_it, bo_if, bo_w, bo_w0, bo_w1, bo_nar, bo_n1, bo_nn0, st_bu, st_bu1, st_bu0, st_nu, forall_eq, true_implies, false_implies, forall_const, not_true_eq_false, not_false_eq_true, and_true, true_and, implies_true, and_self, Bool.false_eq_true, Bool.true_eq_false, reduceCtorEq, ite_true, ite_false, if_true, if_false, eq_self, Nat.zero_add, Nat.add_zero, Nat.le_refl, Nat.lt_irrefl, Nat.reduceEqDiff, Nat.reduceLeDiff, Nat.reduceLT, Nat.reduceAdd, Nat.reduceMul, Nat.reduceSub, wpX_pickIsChosen, pc_x0 w, xc_isValue, show iz 1 7 (-nI 3) = false from by decide, w, decide_false, Bool.false_and]
  · simp (disch := first | omega | assumption) only [li_0, li_1, li_2, li_3, li_4, li_6, li_7, li_8, li_9, li_10, li_12, li_21, li_24, li_31, li_60, li_63, li_127, li_128, li_256, li_312, li_384, nI_add, nu_mul, nu_sub, nu_div, nu_and, nu_or, nu_shr, nu_bit, nu_diff, bi_2, nI_leI, nI_ltI, nI_eq, vp_in_nI, nI_clamp, ar_na, ar_ba, bo_0, bo_1, bo_it, bo_if, bo_w, bo_w0, bo_w1, bo_nar, bo_n1, bo_nn0, st_bu, st_bu1, st_bu0, st_nu, forall_eq, true_implies, false_implies, forall_const, not_true_eq_false, not_false_eq_true, and_true, true_and, implies_true, and_self, Bool.false_eq_true, Bool.true_eq_false, reduceCtorEq, ite_true, ite_false, if_true, if_false, eq_self, Nat.zero_add, Nat.add_zero, Nat.le_refl, Nat.lt_irrefl, Nat.reduceEqDiff, Nat.reduceLeDiff, Nat.reduceLT, Nat.reduceAdd, Nat.reduceMul, Nat.reduceSub, wpX_pickIsChosen, pc_xs (show 0 < pk (b * 3 + i) by omega), xc_isValue, w, show iz 1 7 (nI 0) = false from by decide, decide_false, Bool.false_and]
  · have e : iz 1 7 (nI (pk (b * 3 + i) - 1)) = true := by
      rw [iz_n (by omega)]; exact decide_eq_true (by omega)
    simp (disch := first | omega | assumption) only [li_0, li_1, li_2, li_3, li_4, li_6, li_7, li_8, li_9, li_10, li_12, li_21, li_24, li_31, li_60, li_63, li_127, li_128, li_256, li_312, li_384, nI_add, nu_mul, nu_sub, nu_div, nu_and, nu_or, nu_shr, nu_bit, nu_diff, bi_2, nI_leI, nI_ltI, nI_eq, vp_in_nI, nI_clamp, ar_na, ar_ba, bo_0, bo_1, bo_it, bo_if, bo_w, bo_w0, bo_w1, bo_nar, bo_n1, bo_nn0, st_bu, st_bu1, st_bu0, st_nu, forall_eq, true_implies, false_implies, forall_const, not_true_eq_false, not_false_eq_true, and_true, true_and, implies_true, and_self, Bool.false_eq_true, Bool.true_eq_false, reduceCtorEq, ite_true, ite_false, if_true, if_false, eq_self, Nat.zero_add, Nat.add_zero, Nat.le_refl, Nat.lt_irrefl, Nat.reduceEqDiff, Nat.reduceLeDiff, Nat.reduceLT, Nat.reduceAdd, Nat.reduceMul, Nat.reduceSub, wpX_pickIsChosen, pc_xs (show 0 < pk (b * 3 + i) by omega), xc_isValue, e, xc_tallyCell, xc_enough hb hbb hp, w, decide_true, Bool.true_and]
theorem xc_finish {post : Int32 → SX → Prop} (H : in_all bg df iq up fr dn op ov sp sv qb qi qj qv ql so ba an pk kv vo kn srt num) (hb1 : 1 ≤ b) (hb2 : b ≤ bg) : wpX_finish post (nI bg, ar_b df, ar_b iq, ar_b tb, ar_b up, ar_n op, ar_n ov, ar_n sp, ar_n sv, ar_n qb, ar_n qi, ar_n qv, ar_n ql, ar_n so, ar_b fa, ar_n ba, ar_n an, ar_b co, pc_x pk, ar_b fr, ar_n kv, ar_n vo, ar_n kn) (nI b) ↔ ((cc_ iq co fr so ba an pk vo b = false → post (nI 0) (nI bg, ar_b df, ar_b iq, ar_b tb, ar_b up, ar_n op, ar_n ov, ar_n sp, ar_n sv, ar_n qb, ar_n qi, ar_n qv, ar_n ql, ar_n so, ar_b fa, ar_n ba, ar_n an, ar_b co, pc_x pk, ar_b fr, ar_n kv, ar_n vo, ar_n kn)) ∧ (cc_ iq co fr so ba an pk vo b = true → post (nI 1) (nI bg, ar_b df, ar_b iq, ar_b tb, ar_b up, ar_n op, ar_n ov, ar_n sp, ar_n sv, ar_n qb, ar_n qi, ar_n qv, ar_n ql, ar_n so, ar_b fa, ar_n ba, ar_n an, ar_b (st_b co b true), pc_x pk, ar_b fr, ar_n kv, ar_n vo, ar_n kn))) := by
  have hb := H.1
  have hbb := H.2.2.1
  have han := (H.2.2.2.2.2.1 b).2.2
  unfold cc_
  cases z : co b
  · cases w : rd_ iq so ba b (an b)
    · simp (disch := first | omega | assumption) only [li_0, li_1, li_2, li_3, li_4, li_6, li_7, li_8, li_9, li_10, li_12, li_21, li_24, li_31, li_60, li_63, li_127, li_128, li_256, li_312, li_384, nI_add, nu_mul, nu_sub, nu_div, nu_and, nu_or, nu_shr, nu_bit, nu_diff, bi_2, nI_leI, nI_ltI, nI_eq, vp_in_nI, nI_clamp, ar_na, ar_ba, bo_0, bo_1, bo_it, bo_if, bo_w, bo_w0, bo_w1, bo_nar, bo_n1, bo_nn0, st_bu, st_bu1, st_bu0, st_nu, forall_eq, true_implies, false_implies, forall_const, not_true_eq_false, not_false_eq_true, and_true, true_and, implies_true, and_self, Bool.false_eq_true, Bool.true_eq_false, reduceCtorEq, ite_true, ite_false, if_true, if_false, eq_self, Nat.zero_add, Nat.add_zero, Nat.le_refl, Nat.lt_irrefl, Nat.reduceEqDiff, Nat.reduceLeDiff, Nat.reduceLT, Nat.reduceAdd, Nat.reduceMul, Nat.reduceSub, wpX_finish, z, xc_ready hb hbb, w, Bool.false_and, Bool.and_false]
    · simp (disch := first | omega | assumption) only [li_0, li_1, li_2, li_3, li_4, li_6, li_7, li_8, li_9, li_10, li_12, li_21, li_24, li_31, li_60, li_63, li_127, li_128, li_256, li_312, li_384, nI_add, nu_mul, nu_sub, nu_div, nu_and, nu_or, nu_shr, nu_bit, nu_diff, bi_2, nI_leI, nI_ltI, nI_eq, vp_in_nI, nI_clamp, ar_na, ar_ba, bo_0, bo_1, bo_it, bo_if, bo_w, bo_w0, bo_w1, bo_nar, bo_n1, bo_nn0, st_bu, st_bu1, st_bu0, st_nu, forall_eq, true_implies, false_implies, forall_const, not_true_eq_false, not_false_eq_true, and_true, true_and, implies_true, and_self, Bool.false_eq_true, Bool.true_eq_false, reduceCtorEq, ite_true, ite_false, if_true, if_false, eq_self, Nat.zero_add, Nat.add_zero, Nat.le_refl, Nat.lt_irrefl, Nat.reduceEqDiff, Nat.reduceLeDiff, Nat.reduceLT, Nat.reduceAdd, Nat.reduceMul, Nat.reduceSub, wpX_finish, z, xc_ready hb hbb, w, Bool.true_and, Bool.not_false]
      refine (lo_all (W := fun m i => wX_finish_27 post (nI b) (nI bg) (ar_b df) (ar_b iq) (ar_b tb) (ar_b up) (ar_n op) (ar_n ov) (ar_n sp) (ar_n sv) (ar_n qb) (ar_n qi) (ar_n qv) (ar_n ql) (ar_n so) (ar_b fa) (ar_n ba) (ar_n an) (ar_b co) (pc_x pk) (ar_b fr) (ar_n kv) (ar_n vo) (ar_n kn) m (nI i)) (A := post (nI 0) (nI bg, ar_b df, ar_b iq, ar_b tb, ar_b up, ar_n op, ar_n ov, ar_n sp, ar_n sv, ar_n qb, ar_n qi, ar_n qv, ar_n ql, ar_n so, ar_b fa, ar_n ba, ar_n an, ar_b co, pc_x pk, ar_b fr, ar_n kv, ar_n vo, ar_n kn)) (B := post (nI 1) (nI bg, ar_b df, ar_b iq, ar_b tb, ar_b up, ar_n op, ar_n ov, ar_n sp, ar_n sv, ar_n qb, ar_n qi, ar_n qv, ar_n ql, ar_n so, ar_b fa, ar_n ba, ar_n an, ar_b (st_b co b true), pc_x pk, ar_b fr, ar_n kv, ar_n vo, ar_n kn)) (e := 3) _ (fun _ h => h) ?_ ?_ ?_ 3 0 rfl).trans And.comm
      · intro m
        simp (disch := first | omega | assumption) only [li_0, li_1, li_2, li_3, li_4, li_6, li_7, li_8, li_9, li_10, li_12, li_21, li_24, li_31, li_60, li_63, li_127, li_128, li_256, li_312, li_384, nI_add, nu_mul, nu_sub, nu_div, nu_and, nu_or, nu_shr, nu_bit, nu_diff, bi_2, nI_leI, nI_ltI, nI_eq, vp_in_nI, nI_clamp, ar_na, ar_ba, bo_0, bo_1, bo_it, bo_if, bo_w, bo_w0, bo_w1, bo_nar, bo_n1, bo_nn0, st_bu, st_bu1, st_bu0, st_nu, forall_eq, true_implies, false_implies, forall_const, not_true_eq_false, not_false_eq_true, and_true, true_and, implies_true, and_self, Bool.false_eq_true, Bool.true_eq_false, reduceCtorEq, ite_true, ite_false, if_true, if_false, eq_self, Nat.zero_add, Nat.add_zero, Nat.le_refl, Nat.lt_irrefl, Nat.reduceEqDiff, Nat.reduceLeDiff, Nat.reduceLT, Nat.reduceAdd, Nat.reduceMul, Nat.reduceSub, wX_finish_27]
      · intro m i hi h
        rw [Bool.or_eq_false_iff] at h
        simp (disch := first | omega | assumption) only [li_0, li_1, li_2, li_3, li_4, li_6, li_7, li_8, li_9, li_10, li_12, li_21, li_24, li_31, li_60, li_63, li_127, li_128, li_256, li_312, li_384, nI_add, nu_mul, nu_sub, nu_div, nu_and, nu_or, nu_shr, nu_bit, nu_diff, bi_2, nI_leI, nI_ltI, nI_eq, vp_in_nI, nI_clamp, ar_na, ar_ba, bo_0, bo_1, bo_it, bo_if, bo_w, bo_w0, bo_w1, bo_nar, bo_n1, bo_nn0, st_bu, st_bu1, st_bu0, st_nu, forall_eq, true_implies, false_implies, forall_const, not_true_eq_false, not_false_eq_true, and_true, true_and, implies_true, and_self, Bool.false_eq_true, Bool.true_eq_false, reduceCtorEq, ite_true, ite_false, if_true, if_false, eq_self, Nat.zero_add, Nat.add_zero, Nat.le_refl, Nat.lt_irrefl, Nat.reduceEqDiff, Nat.reduceLeDiff, Nat.reduceLT, Nat.reduceAdd, Nat.reduceMul, Nat.reduceSub, wX_finish_27, Nat.not_le.mpr hi, h.1, xc_pickIsChosen H, h.2]
      · intro m i hi h
        cases q : fr (b * 3 + i)
        · rw [q, Bool.false_or] at h
          simp (disch := first | omega | assumption) only [li_0, li_1, li_2, li_3, li_4, li_6, li_7, li_8, li_9, li_10, li_12, li_21, li_24, li_31, li_60, li_63, li_127, li_128, li_256, li_312, li_384, nI_add, nu_mul, nu_sub, nu_div, nu_and, nu_or, nu_shr, nu_bit, nu_diff, bi_2, nI_leI, nI_ltI, nI_eq, vp_in_nI, nI_clamp, ar_na, ar_ba, bo_0, bo_1, bo_it, bo_if, bo_w, bo_w0, bo_w1, bo_nar, bo_n1, bo_nn0, st_bu, st_bu1, st_bu0, st_nu, forall_eq, true_implies, false_implies, forall_const, not_true_eq_false, not_false_eq_true, and_true, true_and, implies_true, and_self, Bool.false_eq_true, Bool.true_eq_false, reduceCtorEq, ite_true, ite_false, if_true, if_false, eq_self, Nat.zero_add, Nat.add_zero, Nat.le_refl, Nat.lt_irrefl, Nat.reduceEqDiff, Nat.reduceLeDiff, Nat.reduceLT, Nat.reduceAdd, Nat.reduceMul, Nat.reduceSub, wX_finish_27, Nat.not_le.mpr hi, q, xc_pickIsChosen H, h]
        · simp (disch := first | omega | assumption) only [li_0, li_1, li_2, li_3, li_4, li_6, li_7, li_8, li_9, li_10, li_12, li_21, li_24, li_31, li_60, li_63, li_127, li_128, li_256, li_312, li_384, nI_add, nu_mul, nu_sub, nu_div, nu_and, nu_or, nu_shr, nu_bit, nu_diff, bi_2, nI_leI, nI_ltI, nI_eq, vp_in_nI, nI_clamp, ar_na, ar_ba, bo_0, bo_1, bo_it, bo_if, bo_w, bo_w0, bo_w1, bo_nar, bo_n1, bo_nn0, st_bu, st_bu1, st_bu0, st_nu, forall_eq, true_implies, false_implies, forall_const, not_true_eq_false, not_false_eq_true, and_true, true_and, implies_true, and_self, Bool.false_eq_true, Bool.true_eq_false, reduceCtorEq, ite_true, ite_false, if_true, if_false, eq_self, Nat.zero_add, Nat.add_zero, Nat.le_refl, Nat.lt_irrefl, Nat.reduceEqDiff, Nat.reduceLeDiff, Nat.reduceLT, Nat.reduceAdd, Nat.reduceMul, Nat.reduceSub, wX_finish_27, Nat.not_le.mpr hi, q]
  · simp (disch := first | omega | assumption) only [li_0, li_1, li_2, li_3, li_4, li_6, li_7, li_8, li_9, li_10, li_12, li_21, li_24, li_31, li_60, li_63, li_127, li_128, li_256, li_312, li_384, nI_add, nu_mul, nu_sub, nu_div, nu_and, nu_or, nu_shr, nu_bit, nu_diff, bi_2, nI_leI, nI_ltI, nI_eq, vp_in_nI, nI_clamp, ar_na, ar_ba, bo_0, bo_1, bo_it, bo_if, bo_w, bo_w0, bo_w1, bo_nar, bo_n1, bo_nn0, st_bu, st_bu1, st_bu0, st_nu, forall_eq, true_implies, false_implies, forall_const, not_true_eq_false, not_false_eq_true, and_true, true_and, implies_true, and_self, Bool.false_eq_true, Bool.true_eq_false, reduceCtorEq, ite_true, ite_false, if_true, if_false, eq_self, Nat.zero_add, Nat.add_zero, Nat.le_refl, Nat.lt_irrefl, Nat.reduceEqDiff, Nat.reduceLeDiff, Nat.reduceLT, Nat.reduceAdd, Nat.reduceMul, Nat.reduceSub, wpX_finish, z, Bool.not_true, Bool.false_and]
theorem xc_complete {post : Int32 → SX → Prop} (H : in_all bg df iq up fr dn op ov sp sv qb qi qj qv ql so ba an pk kv vo kn srt num) : wpX_complete post (nI bg, ar_b df, ar_b iq, ar_b tb, ar_b up, ar_n op, ar_n ov, ar_n sp, ar_n sv, ar_n qb, ar_n qi, ar_n qv, ar_n ql, ar_n so, ar_b fa, ar_n ba, ar_n an, ar_b co, pc_x pk, ar_b fr, ar_n kv, ar_n vo, ar_n kn) x ↔ (((iz 1 bg x && cc_ iq co fr so ba an pk vo (cl_ x)) = false → post (nI 0) (nI bg, ar_b df, ar_b iq, ar_b tb, ar_b up, ar_n op, ar_n ov, ar_n sp, ar_n sv, ar_n qb, ar_n qi, ar_n qv, ar_n ql, ar_n so, ar_b fa, ar_n ba, ar_n an, ar_b co, pc_x pk, ar_b fr, ar_n kv, ar_n vo, ar_n kn)) ∧ ((iz 1 bg x && cc_ iq co fr so ba an pk vo (cl_ x)) = true → post (nI 1) (nI bg, ar_b df, ar_b iq, ar_b tb, ar_b up, ar_n op, ar_n ov, ar_n sp, ar_n sv, ar_n qb, ar_n qi, ar_n qv, ar_n ql, ar_n so, ar_b fa, ar_n ba, ar_n an, ar_b (st_b co (cl_ x) true), pc_x pk, ar_b fr, ar_n kv, ar_n vo, ar_n kn))) := by
  have hb := H.1
  rcases iz_c 1 bg x with h | ⟨b, h1, h2, h3, rfl, h⟩
  · simp (disch := first | omega | assumption) only [li_0, li_1, li_2, li_3, li_4, li_6, li_7, li_8, li_9, li_10, li_12, li_21, li_24, li_31, li_60, li_63, li_127, li_128, li_256, li_312, li_384, nI_add, nu_mul, nu_sub, nu_div, nu_and, nu_or, nu_shr, nu_bit, nu_diff, bi_2, nI_leI, nI_ltI, nI_eq, vp_in_nI, nI_clamp, ar_na, ar_ba, bo_0, bo_1, bo_it, bo_if, bo_w, bo_w0, bo_w1, bo_nar, bo_n1, bo_nn0, st_bu, st_bu1, st_bu0, st_nu, forall_eq, true_implies, false_implies, forall_const, not_true_eq_false, not_false_eq_true, and_true, true_and, implies_true, and_self, Bool.false_eq_true, Bool.true_eq_false, reduceCtorEq, ite_true, ite_false, if_true, if_false, eq_self, Nat.zero_add, Nat.add_zero, Nat.le_refl, Nat.lt_irrefl, Nat.reduceEqDiff, Nat.reduceLeDiff, Nat.reduceLT, Nat.reduceAdd, Nat.reduceMul, Nat.reduceSub, wpX_complete, xc_isBallot, h, Bool.false_and]
  · rw [cl_n h3]
    cases w : cc_ iq co fr so ba an pk vo b
    · simp (disch := first | omega | assumption) only [li_0, li_1, li_2, li_3, li_4, li_6, li_7, li_8, li_9, li_10, li_12, li_21, li_24, li_31, li_60, li_63, li_127, li_128, li_256, li_312, li_384, nI_add, nu_mul, nu_sub, nu_div, nu_and, nu_or, nu_shr, nu_bit, nu_diff, bi_2, nI_leI, nI_ltI, nI_eq, vp_in_nI, nI_clamp, ar_na, ar_ba, bo_0, bo_1, bo_it, bo_if, bo_w, bo_w0, bo_w1, bo_nar, bo_n1, bo_nn0, st_bu, st_bu1, st_bu0, st_nu, forall_eq, true_implies, false_implies, forall_const, not_true_eq_false, not_false_eq_true, and_true, true_and, implies_true, and_self, Bool.false_eq_true, Bool.true_eq_false, reduceCtorEq, ite_true, ite_false, if_true, if_false, eq_self, Nat.zero_add, Nat.add_zero, Nat.le_refl, Nat.lt_irrefl, Nat.reduceEqDiff, Nat.reduceLeDiff, Nat.reduceLT, Nat.reduceAdd, Nat.reduceMul, Nat.reduceSub, wpX_complete, xc_isBallot, h, xc_finish H, w, Bool.and_false]
    · simp (disch := first | omega | assumption) only [li_0, li_1, li_2, li_3, li_4, li_6, li_7, li_8, li_9, li_10, li_12, li_21, li_24, li_31, li_60, li_63, li_127, li_128, li_256, li_312, li_384, nI_add, nu_mul, nu_sub, nu_div, nu_and, nu_or, nu_shr, nu_bit, nu_diff, bi_2, nI_leI, nI_ltI, nI_eq, vp_in_nI, nI_clamp, ar_na, ar_ba, bo_0, bo_1, bo_it, bo_if, bo_w, bo_w0, bo_w1, bo_nar, bo_n1, bo_nn0, st_bu, st_bu1, st_bu0, st_nu, forall_eq, true_implies, false_implies, forall_const, not_true_eq_false, not_false_eq_true, and_true, true_and, implies_true, and_self, Bool.false_eq_true, Bool.true_eq_false, reduceCtorEq, ite_true, ite_false, if_true, if_false, eq_self, Nat.zero_add, Nat.add_zero, Nat.le_refl, Nat.lt_irrefl, Nat.reduceEqDiff, Nat.reduceLeDiff, Nat.reduceLT, Nat.reduceAdd, Nat.reduceMul, Nat.reduceSub, wpX_complete, xc_isBallot, h, xc_finish H, w, Bool.and_self]
theorem yc_complete {post : Int32 → SY → Prop} (H : in_all bg df iq up fr dn op ov sp sv qb qi qj qv ql so ba an pk kv vo kn srt num) : wpY_complete post (nI bg, srt, num, ar_n so, ar_n ba, ar_n an, pc_y pk, ar_n kv, ar_b fa, ar_b co, ar_b fr, ar_b dn, ar_n sp, ar_n sv, ar_n ql, ar_n qb, ar_n qj, ar_n qv, ar_n vo, ar_n kn) x ↔ (((iz 1 bg x && cc_ iq co fr so ba an pk vo (cl_ x)) = false → post (nI 0) (nI bg, srt, num, ar_n so, ar_n ba, ar_n an, pc_y pk, ar_n kv, ar_b fa, ar_b co, ar_b fr, ar_b dn, ar_n sp, ar_n sv, ar_n ql, ar_n qb, ar_n qj, ar_n qv, ar_n vo, ar_n kn)) ∧ ((iz 1 bg x && cc_ iq co fr so ba an pk vo (cl_ x)) = true → post (nI 1) (nI bg, srt, num, ar_n so, ar_n ba, ar_n an, pc_y pk, ar_n kv, ar_b fa, ar_b (st_b co (cl_ x) true), ar_b fr, ar_b dn, ar_n sp, ar_n sv, ar_n ql, ar_n qb, ar_n qj, ar_n qv, ar_n vo, ar_n kn))) := by
  have hb := H.1
  have hs := H.2.1
  have hbb := H.2.2.1
  have hp := H.2.2.2.1
  have hc := H.2.2.2.2.2.1
  rcases iz_c 1 bg x with h | ⟨b, h1, h2, h3, rfl, h⟩
  · simp (disch := first | omega | assumption) only [li_0, li_1, li_2, li_3, li_4, li_6, li_7, li_8, li_9, li_10, li_12, li_21, li_24, li_31, li_60, li_63, li_127, li_128, li_256, li_312, li_384, nI_add, nu_mul, nu_sub, nu_div, nu_and, nu_or, nu_shr, nu_bit, nu_diff, bi_2, nI_leI, nI_ltI, nI_eq, vp_in_nI, nI_clamp, ar_na, ar_ba, bo_0, bo_1, bo_it, bo_if, bo_w, bo_w0, bo_w1, bo_nar, bo_n1, bo_nn0, st_bu, st_bu1, st_bu0, st_nu, forall_eq, true_implies, false_implies, forall_const, not_true_eq_false, not_false_eq_true, and_true, true_and, implies_true, and_self, Bool.false_eq_true, Bool.true_eq_false, reduceCtorEq, ite_true, ite_false, if_true, if_false, eq_self, Nat.zero_add, Nat.add_zero, Nat.le_refl, Nat.lt_irrefl, Nat.reduceEqDiff, Nat.reduceLeDiff, Nat.reduceLT, Nat.reduceAdd, Nat.reduceMul, Nat.reduceSub, wpY_complete, yc_isBallot, h, Bool.false_and]
  · rw [cl_n h3]
    unfold cc_
    cases z : co b
    · cases w : rd_ iq so ba b (an b)
      · simp (disch := first | omega | assumption) only [li_0, li_1, li_2, li_3, li_4, li_6, li_7, li_8, li_9, li_10, li_12, li_21, li_24, li_31, li_60, li_63, li_127, li_128, li_256, li_312, li_384, nI_add, nu_mul, nu_sub, nu_div, nu_and, nu_or, nu_shr, nu_bit, nu_diff, bi_2, nI_leI, nI_ltI, nI_eq, vp_in_nI, nI_clamp, ar_na, ar_ba, bo_0, bo_1, bo_it, bo_if, bo_w, bo_w0, bo_w1, bo_nar, bo_n1, bo_nn0, st_bu, st_bu1, st_bu0, st_nu, forall_eq, true_implies, false_implies, forall_const, not_true_eq_false, not_false_eq_true, and_true, true_and, implies_true, and_self, Bool.false_eq_true, Bool.true_eq_false, reduceCtorEq, ite_true, ite_false, if_true, if_false, eq_self, Nat.zero_add, Nat.add_zero, Nat.le_refl, Nat.lt_irrefl, Nat.reduceEqDiff, Nat.reduceLeDiff, Nat.reduceLT, Nat.reduceAdd, Nat.reduceMul, Nat.reduceSub, wpY_complete, yc_isBallot, h, z, yc_isReady hs hb hbb hc, w, Bool.false_and, Bool.and_false]
      · simp (disch := first | omega | assumption) only [li_0, li_1, li_2, li_3, li_4, li_6, li_7, li_8, li_9, li_10, li_12, li_21, li_24, li_31, li_60, li_63, li_127, li_128, li_256, li_312, li_384, nI_add, nu_mul, nu_sub, nu_div, nu_and, nu_or, nu_shr, nu_bit, nu_diff, bi_2, nI_leI, nI_ltI, nI_eq, vp_in_nI, nI_clamp, ar_na, ar_ba, bo_0, bo_1, bo_it, bo_if, bo_w, bo_w0, bo_w1, bo_nar, bo_n1, bo_nn0, st_bu, st_bu1, st_bu0, st_nu, forall_eq, true_implies, false_implies, forall_const, not_true_eq_false, not_false_eq_true, and_true, true_and, implies_true, and_self, Bool.false_eq_true, Bool.true_eq_false, reduceCtorEq, ite_true, ite_false, if_true, if_false, eq_self, Nat.zero_add, Nat.add_zero, Nat.le_refl, Nat.lt_irrefl, Nat.reduceEqDiff, Nat.reduceLeDiff, Nat.reduceLT, Nat.reduceAdd, Nat.reduceMul, Nat.reduceSub, wpY_complete, yc_isBallot, h, z, yc_isReady hs hb hbb hc, w, Bool.true_and, Bool.not_false]
        refine (lo_all (W := fun m i => wY_complete_29 post (nI b) (nI bg) srt num (ar_n so) (ar_n ba) (ar_n an) (pc_y pk) (ar_n kv) (ar_b fa) (ar_b co) (ar_b fr) (ar_b dn) (ar_n sp) (ar_n sv) (ar_n ql) (ar_n qb) (ar_n qj) (ar_n qv) (ar_n vo) (ar_n kn) m (nI i)) (A := post (nI 0) (nI bg, srt, num, ar_n so, ar_n ba, ar_n an, pc_y pk, ar_n kv, ar_b fa, ar_b co, ar_b fr, ar_b dn, ar_n sp, ar_n sv, ar_n ql, ar_n qb, ar_n qj, ar_n qv, ar_n vo, ar_n kn)) (B := post (nI 1) (nI bg, srt, num, ar_n so, ar_n ba, ar_n an, pc_y pk, ar_n kv, ar_b fa, ar_b (st_b co b true), ar_b fr, ar_b dn, ar_n sp, ar_n sv, ar_n ql, ar_n qb, ar_n qj, ar_n qv, ar_n vo, ar_n kn)) (e := 3) _ (fun _ h => h) ?_ ?_ ?_ 3 0 rfl).trans And.comm
        · intro m
          simp (disch := first | omega | assumption) only [li_0, li_1, li_2, li_3, li_4, li_6, li_7, li_8, li_9, li_10, li_12, li_21, li_24, li_31, li_60, li_63, li_127, li_128, li_256, li_312, li_384, nI_add, nu_mul, nu_sub, nu_div, nu_and, nu_or, nu_shr, nu_bit, nu_diff, bi_2, nI_leI, nI_ltI, nI_eq, vp_in_nI, nI_clamp, ar_na, ar_ba, bo_0, bo_1, bo_it, bo_if, bo_w, bo_w0, bo_w1, bo_nar, bo_n1, bo_nn0, st_bu, st_bu1, st_bu0, st_nu, forall_eq, true_implies, false_implies, forall_const, not_true_eq_false, not_false_eq_true, and_true, true_and, implies_true, and_self, Bool.false_eq_true, Bool.true_eq_false, reduceCtorEq, ite_true, ite_false, if_true, if_false, eq_self, Nat.zero_add, Nat.add_zero, Nat.le_refl, Nat.lt_irrefl, Nat.reduceEqDiff, Nat.reduceLeDiff, Nat.reduceLT, Nat.reduceAdd, Nat.reduceMul, Nat.reduceSub, wY_complete_29]
        · intro m i hi h
          rw [Bool.or_eq_false_iff] at h
          obtain ⟨hp1, hp2, hp3⟩ := hp (b * 3 + i)
          have hvo := (hc ((b * 3 + i) * 8 + (pk (b * 3 + i) - 1))).1
          rcases (by omega : pk (b * 3 + i) = 0 ∨ pk (b * 3 + i) = 1 ∨ 2 ≤ pk (b * 3 + i)) with w | w | w
          · simp (disch := first | omega | assumption) only [li_0, li_1, li_2, li_3, li_4, li_6, li_7, li_8, li_9, li_10, li_12, li_21, li_24, li_31, li_60, li_63, li_127, li_128, li_256, li_312, li_384, nI_add, nu_mul, nu_sub, nu_div, nu_and, nu_or, nu_shr, nu_bit, nu_diff, bi_2, nI_leI, nI_ltI, nI_eq, vp_in_nI, nI_clamp, ar_na, ar_ba, bo_0, bo_1, bo_it, bo_if, bo_w, bo_w0, bo_w1, bo_nar, bo_n1, bo_nn0, st_bu, st_bu1, st_bu0, st_nu, forall_eq, true_implies, false_implies, forall_const, not_true_eq_false, not_false_eq_true, and_true, true_and, implies_true, and_self, Bool.false_eq_true, Bool.true_eq_false, reduceCtorEq, ite_true, ite_false, if_true, if_false, eq_self, Nat.zero_add, Nat.add_zero, Nat.le_refl, Nat.lt_irrefl, Nat.reduceEqDiff, Nat.reduceLeDiff, Nat.reduceLT, Nat.reduceAdd, Nat.reduceMul, Nat.reduceSub, wY_complete_29, Nat.not_le.mpr hi, cm_3, pc_y0 w, ng_10]
          · exact absurd ((hp3 w).symm.trans h.1) (by decide)
          · have h2 := h.2
            rw [decide_eq_true w, Bool.true_and] at h2
            simp (disch := first | omega | assumption) only [li_0, li_1, li_2, li_3, li_4, li_6, li_7, li_8, li_9, li_10, li_12, li_21, li_24, li_31, li_60, li_63, li_127, li_128, li_256, li_312, li_384, nI_add, nu_mul, nu_sub, nu_div, nu_and, nu_or, nu_shr, nu_bit, nu_diff, bi_2, nI_leI, nI_ltI, nI_eq, vp_in_nI, nI_clamp, ar_na, ar_ba, bo_0, bo_1, bo_it, bo_if, bo_w, bo_w0, bo_w1, bo_nar, bo_n1, bo_nn0, st_bu, st_bu1, st_bu0, st_nu, forall_eq, true_implies, false_implies, forall_const, not_true_eq_false, not_false_eq_true, and_true, true_and, implies_true, and_self, Bool.false_eq_true, Bool.true_eq_false, reduceCtorEq, ite_true, ite_false, if_true, if_false, eq_self, Nat.zero_add, Nat.add_zero, Nat.le_refl, Nat.lt_irrefl, Nat.reduceEqDiff, Nat.reduceLeDiff, Nat.reduceLT, Nat.reduceAdd, Nat.reduceMul, Nat.reduceSub, wY_complete_29, Nat.not_le.mpr hi, cm_3, cm_24, pc_ys (show 0 < pk (b * 3 + i) by omega), Nat.not_lt_zero, h.1, yc_isEnough hs hb hbb hp, h2]
        · intro m i hi h
          obtain ⟨hp1, hp2, hp3⟩ := hp (b * 3 + i)
          have hvo := (hc ((b * 3 + i) * 8 + (pk (b * 3 + i) - 1))).1
          cases q : fr (b * 3 + i)
          · rw [q, Bool.false_or, Bool.and_eq_true, decide_eq_true_eq] at h
            simp (disch := first | omega | assumption) only [li_0, li_1, li_2, li_3, li_4, li_6, li_7, li_8, li_9, li_10, li_12, li_21, li_24, li_31, li_60, li_63, li_127, li_128, li_256, li_312, li_384, nI_add, nu_mul, nu_sub, nu_div, nu_and, nu_or, nu_shr, nu_bit, nu_diff, bi_2, nI_leI, nI_ltI, nI_eq, vp_in_nI, nI_clamp, ar_na, ar_ba, bo_0, bo_1, bo_it, bo_if, bo_w, bo_w0, bo_w1, bo_nar, bo_n1, bo_nn0, st_bu, st_bu1, st_bu0, st_nu, forall_eq, true_implies, false_implies, forall_const, not_true_eq_false, not_false_eq_true, and_true, true_and, implies_true, and_self, Bool.false_eq_true, Bool.true_eq_false, reduceCtorEq, ite_true, ite_false, if_true, if_false, eq_self, Nat.zero_add, Nat.add_zero, Nat.le_refl, Nat.lt_irrefl, Nat.reduceEqDiff, Nat.reduceLeDiff, Nat.reduceLT, Nat.reduceAdd, Nat.reduceMul, Nat.reduceSub, wY_complete_29, Nat.not_le.mpr hi, cm_3, cm_24, pc_ys (show 0 < pk (b * 3 + i) by omega), Nat.not_lt_zero, q, yc_isEnough hs hb hbb hp, h.2]
          · have w := hp2 q
            simp (disch := first | omega | assumption) only [li_0, li_1, li_2, li_3, li_4, li_6, li_7, li_8, li_9, li_10, li_12, li_21, li_24, li_31, li_60, li_63, li_127, li_128, li_256, li_312, li_384, nI_add, nu_mul, nu_sub, nu_div, nu_and, nu_or, nu_shr, nu_bit, nu_diff, bi_2, nI_leI, nI_ltI, nI_eq, vp_in_nI, nI_clamp, ar_na, ar_ba, bo_0, bo_1, bo_it, bo_if, bo_w, bo_w0, bo_w1, bo_nar, bo_n1, bo_nn0, st_bu, st_bu1, st_bu0, st_nu, forall_eq, true_implies, false_implies, forall_const, not_true_eq_false, not_false_eq_true, and_true, true_and, implies_true, and_self, Bool.false_eq_true, Bool.true_eq_false, reduceCtorEq, ite_true, ite_false, if_true, if_false, eq_self, Nat.zero_add, Nat.add_zero, Nat.le_refl, Nat.lt_irrefl, Nat.reduceEqDiff, Nat.reduceLeDiff, Nat.reduceLT, Nat.reduceAdd, Nat.reduceMul, Nat.reduceSub, wY_complete_29, Nat.not_le.mpr hi, cm_3, pc_ys (show 0 < pk (b * 3 + i) by omega), Nat.not_lt_zero, q]
    · simp (disch := first | omega | assumption) only [li_0, li_1, li_2, li_3, li_4, li_6, li_7, li_8, li_9, li_10, li_12, li_21, li_24, li_31, li_60, li_63, li_127, li_128, li_256, li_312, li_384, nI_add, nu_mul, nu_sub, nu_div, nu_and, nu_or, nu_shr, nu_bit, nu_diff, bi_2, nI_leI, nI_ltI, nI_eq, vp_in_nI, nI_clamp, ar_na, ar_ba, bo_0, bo_1, bo_it, bo_if, bo_w, bo_w0, bo_w1, bo_nar, bo_n1, bo_nn0, st_bu, st_bu1, st_bu0, st_nu, forall_eq, true_implies, false_implies, forall_const, not_true_eq_false, not_false_eq_true, and_true, true_and, implies_true, and_self, Bool.false_eq_true, Bool.true_eq_false, reduceCtorEq, ite_true, ite_false, if_true, if_false, eq_self, Nat.zero_add, Nat.add_zero, Nat.le_refl, Nat.lt_irrefl, Nat.reduceEqDiff, Nat.reduceLeDiff, Nat.reduceLT, Nat.reduceAdd, Nat.reduceMul, Nat.reduceSub, wpY_complete, yc_isBallot, h, z, Bool.not_true, Bool.false_and, Bool.and_false]
end
theorem i_vc_pick {k : Nat} {u : SX} {v : SY} (I : i_Rel k u v) (hk : k + 7 ≤ 3584) (v1 : Int32) (v2 : Int32) (v3 : Int32) : wpX_pick (fun r u' => wpY_pick (fun r' v' => r' = r ∧ i_Rel (k + 7) u' v') v v1 v2 v3) u v1 v2 v3 := by
  have I' : i_Rel (k + 7) u v := I
  obtain ⟨bg, df, iq, tb, up, fa, co, fr, dn, op, ov, sp, sv, qb, qi, qj, qv, ql, so, ba, an, pk, kv, vo, kn, srt, num, rfl, rfl, H⟩ := I
  refine (xc_pick H).mpr ⟨fun h => (yc_pick H).mpr ⟨fun _ => ⟨rfl, I'⟩, fun h' => absurd (h.symm.trans h') (by decide)⟩, fun h => (yc_pick H).mpr ⟨fun h' => absurd (h.symm.trans h') (by decide), fun _ => ⟨rfl, ?_⟩⟩⟩
  unfold cp_ at h
  simp only [Bool.and_eq_true, decide_eq_true_eq] at h
  obtain ⟨z1, z2, z3, z4⟩ := h
  rcases iz_c 1 7 v3 with e | ⟨n, e1, e2, e3, rfl, e⟩
  · exact absurd (e.symm.trans z3) (by decide)
  exact ⟨_, _, _, _, _, _, _, _, _, _, _, _, _, _, _, _, _, _, _, _, _, _, _, _, _, _, _, rfl, rfl, in_pick H (by rw [cl_n e3]; exact e1) (by rw [cl_n e3]; exact e2)⟩
theorem i_vc_complete {k : Nat} {u : SX} {v : SY} (I : i_Rel k u v) (hk : k + 7 ≤ 3584) (v1 : Int32) : wpX_complete (fun r u' => wpY_complete (fun r' v' => r' = r ∧ i_Rel (k + 7) u' v') v v1) u v1 := by
  have I' : i_Rel (k + 7) u v := I
  obtain ⟨bg, df, iq, tb, up, fa, co, fr, dn, op, ov, sp, sv, qb, qi, qj, qv, ql, so, ba, an, pk, kv, vo, kn, srt, num, rfl, rfl, H⟩ := I
  exact (xc_complete H).mpr ⟨fun h => (yc_complete H).mpr ⟨fun _ => ⟨rfl, I'⟩, fun h' => absurd (h.symm.trans h') (by decide)⟩, fun h => (yc_complete H).mpr ⟨fun h' => absurd (h.symm.trans h') (by decide), fun _ => ⟨rfl, ⟨_, _, _, _, _, _, _, _, _, _, _, _, _, _, _, _, _, _, _, _, _, _, _, _, _, _, _, rfl, rfl, H⟩⟩⟩⟩
end
section
/-! a record is synced; sync -/
def sh_ (f : Nat → Nat) (base d : Nat) : Nat → Nat := fun j => if base ≤ j ∧ j < base + d then f (j + 1) else f j
theorem sh_0 {f : Nat → Nat} {base : Nat} : sh_ f base 0 = f := by
  funext j; exact if_neg (by omega)
theorem sh_s {f : Nat → Nat} {base p : Nat} : st_n (sh_ f base p) (base + p) (sh_ f base p (base + p + 1)) = sh_ f base (p + 1) := by
  funext j
  show (if j = base + p then (if base ≤ base + p + 1 ∧ base + p + 1 < base + p then f (base + p + 1 + 1) else f (base + p + 1)) else if base ≤ j ∧ j < base + p then f (j + 1) else f j) = if base ≤ j ∧ j < base + (p + 1) then f (j + 1) else f j
  by_cases e : j = base + p
  · rw [if_pos e, if_neg (by omega), if_pos (by omega), e]
  · rw [if_neg e]
    by_cases h : base ≤ j ∧ j < base + p
    · rw [if_pos h, if_pos (by omega)]
    · rw [if_neg h, if_neg (by omega)]
theorem sh_in {f : Nat → Nat} {base d j : Nat} (h1 : base ≤ j) (h2 : j < base + d) : sh_ f base d j = f (j + 1) := if_pos ⟨h1, h2⟩
theorem sh_out {f : Nat → Nat} {base d j : Nat} (h : j < base ∨ base + d ≤ j) : sh_ f base d j = f j := if_neg (by omega)
theorem lo_shift {α : Type} {f g : Nat → α → α} : ∀ d s a, (∀ k a, s ≤ k → k < s + d → g k a = f (k + 1) a) → lo_f f d (s + 1) a = lo_f g d s a
  | 0, _, _, _ => rfl
  | d + 1, s, a, h => by
    unfold lo_f
    rw [h s a (Nat.le_refl _) (by omega)]
    exact lo_shift d (s + 1) _ (fun k a h1 h2 => h k a (by omega) (by omega))
theorem or_bit {a n m : Nat} (h : (a ||| 2 ^ n) / 2 ^ m % 2 = 1) : m = n ∨ a / 2 ^ m % 2 = 1 := by
  have h' : (a ||| 2 ^ n).testBit m = true := by rw [Nat.testBit_eq_decide_div_mod_eq, decide_eq_true h]
  rw [Nat.testBit_or, Bool.or_eq_true, Nat.testBit_two_pow] at h'
  rcases h' with g | g
  · right
    rw [Nat.testBit_eq_decide_div_mod_eq, decide_eq_true_eq] at g
    exact g
  · left
    have := of_decide_eq_true g
    omega
theorem cm_8 (m : Nat) : 8 * m = m * 8 := Nat.mul_comm _ _
theorem cm_24' (b i v : Nat) : 24 * b + i * 8 + v = (b * 3 + i) * 8 + v := by omega
section
variable {bg : Nat} {df iq tb up fa co fr dn : Nat → Bool} {op ov sp sv qb qi qj qv ql so ba an pk kv vo kn : Nat → Nat} {srt num : Nat → Int32}
variable {x y z : Int32} {s k t m n i j a b v f l : Nat}
theorem xc_dropFirst {post : SX → Prop} (hn : n < 7) (hq1 : 1 ≤ ql n) (hq6 : ql n ≤ 6) : wpX_dropFirst post (nI bg, ar_b df, ar_b iq, ar_b tb, ar_b up, ar_n op, ar_n ov, ar_n sp, ar_n sv, ar_n qb, ar_n qi, ar_n qv, ar_n ql, ar_n so, ar_b fa, ar_n ba, ar_n an, ar_b co, pc_x pk, ar_b fr, ar_n kv, ar_n vo, ar_n kn) (nI n) ↔ post (nI bg, ar_b df, ar_b iq, ar_b tb, ar_b up, ar_n op, ar_n ov, ar_n sp, ar_n sv, ar_n (sh_ qb (n * 6) (ql n - 1)), ar_n (sh_ qi (n * 6) (ql n - 1)), ar_n (sh_ qv (n * 6) (ql n - 1)), ar_n (st_n ql n (ql n - 1)), ar_n so, ar_b fa, ar_n ba, ar_n an, ar_b co, pc_x pk, ar_b fr, ar_n kv, ar_n vo, ar_n kn) := by
  simp (disch := first | omega | assumption) only [li_0, li_1, li_2, li_3, li_4, li_6, li_7, li_8, li_9, li_10, li_12, li_21, li_24, li_31, li_60, li_63, li_127, li_128, li_256, li_312, li_384, nI_add, nu_mul, nu_sub, nu_div, nu_and, nu_or, nu_shr, nu_bit, nu_diff, bi_2, nI_leI, nI_ltI, nI_eq, vp_in_nI, nI_clamp, ar_na, ar_ba, bo_0, bo_1, bo_it, bo_if, bo_w, bo_w0, bo_w1, bo_nar, bo_n1, bo_nn0, st_bu, st_bu1, st_bu0, st_nu, forall_eq, true_implies, false_implies, forall_const, not_true_eq_false, not_false_eq_true, and_true, true_and, implies_true, and_self, Bool.false_eq_true, Bool.true_eq_false, reduceCtorEq, ite_true, ite_false, if_true, if_false, eq_self, Nat.zero_add, Nat.add_zero, Nat.le_refl, Nat.lt_irrefl, Nat.reduceEqDiff, Nat.reduceLeDiff, Nat.reduceLT, Nat.reduceAdd, Nat.reduceMul, Nat.reduceSub, wpX_dropFirst]
  have key := lo_fold (W := fun m p (_ : Unit) => wX_dropFirst_18 post (nI n) (nI (ql n - 1)) (nI bg) m (nI p) (ar_b df) (ar_b iq) (ar_b tb) (ar_b up) (ar_n op) (ar_n ov) (ar_n sp) (ar_n sv) (ar_n (sh_ qb (n * 6) p)) (ar_n (sh_ qi (n * 6) p)) (ar_n (sh_ qv (n * 6) p)) (ar_n (st_n ql n (ql n - 1))) (ar_n so) (ar_b fa) (ar_n ba) (ar_n an) (ar_b co) (pc_x pk) (ar_b fr) (ar_n kv) (ar_n vo) (ar_n kn)) (fin := fun _ => post (nI bg, ar_b df, ar_b iq, ar_b tb, ar_b up, ar_n op, ar_n ov, ar_n sp, ar_n sv, ar_n (sh_ qb (n * 6) (ql n - 1)), ar_n (sh_ qi (n * 6) (ql n - 1)), ar_n (sh_ qv (n * 6) (ql n - 1)), ar_n (st_n ql n (ql n - 1)), ar_n so, ar_b fa, ar_n ba, ar_n an, ar_b co, pc_x pk, ar_b fr, ar_n kv, ar_n vo, ar_n kn)) (I := fun _ _ => True) (e := ql n - 1) (fun _ a => a) (fun _ _ h => h) (fun _ _ _ _ => trivial)
    (by
      intro m _ _
      simp (disch := first | omega | assumption) only [li_0, li_1, li_2, li_3, li_4, li_6, li_7, li_8, li_9, li_10, li_12, li_21, li_24, li_31, li_60, li_63, li_127, li_128, li_256, li_312, li_384, nI_add, nu_mul, nu_sub, nu_div, nu_and, nu_or, nu_shr, nu_bit, nu_diff, bi_2, nI_leI, nI_ltI, nI_eq, vp_in_nI, nI_clamp, ar_na, ar_ba, bo_0, bo_1, bo_it, bo_if, bo_w, bo_w0, bo_w1, bo_nar, bo_n1, bo_nn0, st_bu, st_bu1, st_bu0, st_nu, forall_eq, true_implies, false_implies, forall_const, not_true_eq_false, not_false_eq_true, and_true, true_and, implies_true, and_self, Bool.false_eq_true, Bool.true_eq_false, reduceCtorEq, ite_true, ite_false, if_true, if_false, eq_self, Nat.zero_add, Nat.add_zero, Nat.le_refl, Nat.lt_irrefl, Nat.reduceEqDiff, Nat.reduceLeDiff, Nat.reduceLT, Nat.reduceAdd, Nat.reduceMul, Nat.reduceSub, wX_dropFirst_18])
    (by
      intro m p _ hp _
      simp (disch := first | omega | assumption) only [li_0, li_1, li_2, li_3, li_4, li_6, li_7, li_8, li_9, li_10, li_12, li_21, li_24, li_31, li_60, li_63, li_127, li_128, li_256, li_312, li_384, nI_add, nu_mul, nu_sub, nu_div, nu_and, nu_or, nu_shr, nu_bit, nu_diff, bi_2, nI_leI, nI_ltI, nI_eq, vp_in_nI, nI_clamp, ar_na, ar_ba, bo_0, bo_1, bo_it, bo_if, bo_w, bo_w0, bo_w1, bo_nar, bo_n1, bo_nn0, st_bu, st_bu1, st_bu0, st_nu, forall_eq, true_implies, false_implies, forall_const, not_true_eq_false, not_false_eq_true, and_true, true_and, implies_true, and_self, Bool.false_eq_true, Bool.true_eq_false, reduceCtorEq, ite_true, ite_false, if_true, if_false, eq_self, Nat.zero_add, Nat.add_zero, Nat.le_refl, Nat.lt_irrefl, Nat.reduceEqDiff, Nat.reduceLeDiff, Nat.reduceLT, Nat.reduceAdd, Nat.reduceMul, Nat.reduceSub, wX_dropFirst_18, Nat.not_le.mpr hp, sh_s]) (ql n - 1) 0 () (Nat.zero_add _) trivial
  rw [sh_0, sh_0, sh_0] at key
  exact key
theorem xc_keepAnswer {post : SX → Prop} (hn : n < 7) (hb : b ≤ 12) : wpX_keepAnswer post (nI bg, ar_b df, ar_b iq, ar_b tb, ar_b up, ar_n op, ar_n ov, ar_n sp, ar_n sv, ar_n qb, ar_n qi, ar_n qv, ar_n ql, ar_n so, ar_b fa, ar_n ba, ar_n an, ar_b co, pc_x pk, ar_b fr, ar_n kv, ar_n vo, ar_n kn) (nI b) (nI n) ↔ post (nI bg, ar_b df, ar_b iq, ar_b tb, ar_b up, ar_n op, ar_n ov, ar_n sp, ar_n sv, ar_n qb, ar_n qi, ar_n qv, ar_n ql, ar_n so, ar_b fa, ar_n ba, ar_n (st_n an b (an b ||| 2 ^ n)), ar_b co, pc_x pk, ar_b fr, ar_n (kp_ kv (b * 21 + n * 3) (fun i => sv (n * 3 + i)) 3), ar_n vo, ar_n kn) := by
  simp (disch := first | omega | assumption) only [li_0, li_1, li_2, li_3, li_4, li_6, li_7, li_8, li_9, li_10, li_12, li_21, li_24, li_31, li_60, li_63, li_127, li_128, li_256, li_312, li_384, nI_add, nu_mul, nu_sub, nu_div, nu_and, nu_or, nu_shr, nu_bit, nu_diff, bi_2, nI_leI, nI_ltI, nI_eq, vp_in_nI, nI_clamp, ar_na, ar_ba, bo_0, bo_1, bo_it, bo_if, bo_w, bo_w0, bo_w1, bo_nar, bo_n1, bo_nn0, st_bu, st_bu1, st_bu0, st_nu, forall_eq, true_implies, false_implies, forall_const, not_true_eq_false, not_false_eq_true, and_true, true_and, implies_true, and_self, Bool.false_eq_true, Bool.true_eq_false, reduceCtorEq, ite_true, ite_false, if_true, if_false, eq_self, Nat.zero_add, Nat.add_zero, Nat.le_refl, Nat.lt_irrefl, Nat.reduceEqDiff, Nat.reduceLeDiff, Nat.reduceLT, Nat.reduceAdd, Nat.reduceMul, Nat.reduceSub, wpX_keepAnswer]
  have key := lo_fold (W := fun m p (_ : Unit) => wX_keepAnswer_14 post (nI b) (nI n) (nI bg) m (nI p) (ar_b df) (ar_b iq) (ar_b tb) (ar_b up) (ar_n op) (ar_n ov) (ar_n sp) (ar_n sv) (ar_n qb) (ar_n qi) (ar_n qv) (ar_n ql) (ar_n so) (ar_b fa) (ar_n ba) (ar_n (st_n an b (an b ||| 2 ^ n))) (ar_b co) (pc_x pk) (ar_b fr) (ar_n (kp_ kv (b * 21 + n * 3) (fun i => sv (n * 3 + i)) p)) (ar_n vo) (ar_n kn)) (fin := fun _ => post (nI bg, ar_b df, ar_b iq, ar_b tb, ar_b up, ar_n op, ar_n ov, ar_n sp, ar_n sv, ar_n qb, ar_n qi, ar_n qv, ar_n ql, ar_n so, ar_b fa, ar_n ba, ar_n (st_n an b (an b ||| 2 ^ n)), ar_b co, pc_x pk, ar_b fr, ar_n (kp_ kv (b * 21 + n * 3) (fun i => sv (n * 3 + i)) 3), ar_n vo, ar_n kn)) (I := fun _ _ => True) (e := 3) (fun _ a => a) (fun _ _ h => h) (fun _ _ _ _ => trivial)
    (by
      intro m _ _
      simp (disch := first | omega | assumption) only [li_0, li_1, li_2, li_3, li_4, li_6, li_7, li_8, li_9, li_10, li_12, li_21, li_24, li_31, li_60, li_63, li_127, li_128, li_256, li_312, li_384, nI_add, nu_mul, nu_sub, nu_div, nu_and, nu_or, nu_shr, nu_bit, nu_diff, bi_2, nI_leI, nI_ltI, nI_eq, vp_in_nI, nI_clamp, ar_na, ar_ba, bo_0, bo_1, bo_it, bo_if, bo_w, bo_w0, bo_w1, bo_nar, bo_n1, bo_nn0, st_bu, st_bu1, st_bu0, st_nu, forall_eq, true_implies, false_implies, forall_const, not_true_eq_false, not_false_eq_true, and_true, true_and, implies_true, and_self, Bool.false_eq_true, Bool.true_eq_false, reduceCtorEq, ite_true, ite_false, if_true, if_false, eq_self, Nat.zero_add, Nat.add_zero, Nat.le_refl, Nat.lt_irrefl, Nat.reduceEqDiff, Nat.reduceLeDiff, Nat.reduceLT, Nat.reduceAdd, Nat.reduceMul, Nat.reduceSub, wX_keepAnswer_14])
    (by
      intro m p _ hp _
      simp (disch := first | omega | assumption) only [li_0, li_1, li_2, li_3, li_4, li_6, li_7, li_8, li_9, li_10, li_12, li_21, li_24, li_31, li_60, li_63, li_127, li_128, li_256, li_312, li_384, nI_add, nu_mul, nu_sub, nu_div, nu_and, nu_or, nu_shr, nu_bit, nu_diff, bi_2, nI_leI, nI_ltI, nI_eq, vp_in_nI, nI_clamp, ar_na, ar_ba, bo_0, bo_1, bo_it, bo_if, bo_w, bo_w0, bo_w1, bo_nar, bo_n1, bo_nn0, st_bu, st_bu1, st_bu0, st_nu, forall_eq, true_implies, false_implies, forall_const, not_true_eq_false, not_false_eq_true, and_true, true_and, implies_true, and_self, Bool.false_eq_true, Bool.true_eq_false, reduceCtorEq, ite_true, ite_false, if_true, if_false, eq_self, Nat.zero_add, Nat.add_zero, Nat.le_refl, Nat.lt_irrefl, Nat.reduceEqDiff, Nat.reduceLeDiff, Nat.reduceLT, Nat.reduceAdd, Nat.reduceMul, Nat.reduceSub, wX_keepAnswer_14, Nat.not_le.mpr hp]
      rw [← kp_s]) 3 0 () rfl trivial
  rw [kp_0] at key
  exact key
theorem xc_countVote {post : SX → Prop} (hn : n < 7) (hb : b ≤ 12) (hi : i < 3) (hv : v ≤ 7) : wpX_countVote post (nI bg, ar_b df, ar_b iq, ar_b tb, ar_b up, ar_n op, ar_n ov, ar_n sp, ar_n sv, ar_n qb, ar_n qi, ar_n qv, ar_n ql, ar_n so, ar_b fa, ar_n ba, ar_n an, ar_b co, pc_x pk, ar_b fr, ar_n kv, ar_n vo, ar_n kn) (nI b) (nI i) (nI n) (nI v) ↔ post (nI bg, ar_b df, ar_b iq, ar_b tb, ar_b up, ar_n op, ar_n ov, ar_n sp, ar_n (st_n sv (n * 3 + i) (b * 8 + v)), ar_n qb, ar_n qi, ar_n qv, ar_n ql, ar_n so, ar_b fa, ar_n ba, ar_n an, ar_b co, pc_x pk, ar_b fr, ar_n kv, ar_n (st_n vo ((b * 3 + i) * 8 + v) (vo ((b * 3 + i) * 8 + v) ||| 2 ^ n)), ar_n kn) := by
  simp (disch := first | omega | assumption) only [li_0, li_1, li_2, li_3, li_4, li_6, li_7, li_8, li_9, li_10, li_12, li_21, li_24, li_31, li_60, li_63, li_127, li_128, li_256, li_312, li_384, nI_add, nu_mul, nu_sub, nu_div, nu_and, nu_or, nu_shr, nu_bit, nu_diff, bi_2, nI_leI, nI_ltI, nI_eq, vp_in_nI, nI_clamp, ar_na, ar_ba, bo_0, bo_1, bo_it, bo_if, bo_w, bo_w0, bo_w1, bo_nar, bo_n1, bo_nn0, st_bu, st_bu1, st_bu0, st_nu, forall_eq, true_implies, false_implies, forall_const, not_true_eq_false, not_false_eq_true, and_true, true_and, implies_true, and_self, Bool.false_eq_true, Bool.true_eq_false, reduceCtorEq, ite_true, ite_false, if_true, if_false, eq_self, Nat.zero_add, Nat.add_zero, Nat.le_refl, Nat.lt_irrefl, Nat.reduceEqDiff, Nat.reduceLeDiff, Nat.reduceLT, Nat.reduceAdd, Nat.reduceMul, Nat.reduceSub, wpX_countVote, xc_tallyCell]
theorem xc_syncA {post : SX → Prop} (hn : n < 7) (hq1 : 1 ≤ ql n) (hq6 : ql n ≤ 6) (hb : qb (n * 6) ≤ 12) (hv : qv (n * 6) = 0) : wpX_syncFirst post (nI bg, ar_b df, ar_b iq, ar_b tb, ar_b up, ar_n op, ar_n ov, ar_n sp, ar_n sv, ar_n qb, ar_n qi, ar_n qv, ar_n ql, ar_n so, ar_b fa, ar_n ba, ar_n an, ar_b co, pc_x pk, ar_b fr, ar_n kv, ar_n vo, ar_n kn) (nI n) ↔ post (nI bg, ar_b df, ar_b iq, ar_b tb, ar_b up, ar_n op, ar_n ov, ar_n (st_n sp n (qb (n * 6))), ar_n sv, ar_n (sh_ qb (n * 6) (ql n - 1)), ar_n (sh_ qi (n * 6) (ql n - 1)), ar_n (sh_ qv (n * 6) (ql n - 1)), ar_n (st_n ql n (ql n - 1)), ar_n so, ar_b fa, ar_n ba, ar_n (st_n an (qb (n * 6)) (an (qb (n * 6)) ||| 2 ^ n)), ar_b co, pc_x pk, ar_b fr, ar_n (kp_ kv (qb (n * 6) * 21 + n * 3) (fun i => sv (n * 3 + i)) 3), ar_n vo, ar_n kn) := by
  simp (disch := first | omega | assumption) only [li_0, li_1, li_2, li_3, li_4, li_6, li_7, li_8, li_9, li_10, li_12, li_21, li_24, li_31, li_60, li_63, li_127, li_128, li_256, li_312, li_384, nI_add, nu_mul, nu_sub, nu_div, nu_and, nu_or, nu_shr, nu_bit, nu_diff, bi_2, nI_leI, nI_ltI, nI_eq, vp_in_nI, nI_clamp, ar_na, ar_ba, bo_0, bo_1, bo_it, bo_if, bo_w, bo_w0, bo_w1, bo_nar, bo_n1, bo_nn0, st_bu, st_bu1, st_bu0, st_nu, forall_eq, true_implies, false_implies, forall_const, not_true_eq_false, not_false_eq_true, and_true, true_and, implies_true, and_self, Bool.false_eq_true, Bool.true_eq_false, reduceCtorEq, ite_true, ite_false, if_true, if_false, eq_self, Nat.zero_add, Nat.add_zero, Nat.le_refl, Nat.lt_irrefl, Nat.reduceEqDiff, Nat.reduceLeDiff, Nat.reduceLT, Nat.reduceAdd, Nat.reduceMul, Nat.reduceSub, wpX_syncFirst, wX_syncFirst_55, hv, xc_keepAnswer, xc_dropFirst]
theorem xc_syncV {post : SX → Prop} (hn : n < 7) (hq1 : 1 ≤ ql n) (hq6 : ql n ≤ 6) (hb : qb (n * 6) ≤ 12) (hv1 : 1 ≤ qv (n * 6)) (hv7 : qv (n * 6) ≤ 7) (hi : qi (n * 6) < 3) : wpX_syncFirst post (nI bg, ar_b df, ar_b iq, ar_b tb, ar_b up, ar_n op, ar_n ov, ar_n sp, ar_n sv, ar_n qb, ar_n qi, ar_n qv, ar_n ql, ar_n so, ar_b fa, ar_n ba, ar_n an, ar_b co, pc_x pk, ar_b fr, ar_n kv, ar_n vo, ar_n kn) (nI n) ↔ post (nI bg, ar_b df, ar_b iq, ar_b tb, ar_b up, ar_n op, ar_n ov, ar_n (st_n sp n (qb (n * 6))), ar_n (st_n sv (n * 3 + qi (n * 6)) (qb (n * 6) * 8 + qv (n * 6))), ar_n (sh_ qb (n * 6) (ql n - 1)), ar_n (sh_ qi (n * 6) (ql n - 1)), ar_n (sh_ qv (n * 6) (ql n - 1)), ar_n (st_n ql n (ql n - 1)), ar_n so, ar_b fa, ar_n ba, ar_n an, ar_b co, pc_x pk, ar_b fr, ar_n kv, ar_n (st_n vo ((qb (n * 6) * 3 + qi (n * 6)) * 8 + qv (n * 6)) (vo ((qb (n * 6) * 3 + qi (n * 6)) * 8 + qv (n * 6)) ||| 2 ^ n)), ar_n kn) := by
  simp (disch := first | omega | assumption) only [li_0, li_1, li_2, li_3, li_4, li_6, li_7, li_8, li_9, li_10, li_12, li_21, li_24, li_31, li_60, li_63, li_127, li_128, li_256, li_312, li_384, nI_add, nu_mul, nu_sub, nu_div, nu_and, nu_or, nu_shr, nu_bit, nu_diff, bi_2, nI_leI, nI_ltI, nI_eq, vp_in_nI, nI_clamp, ar_na, ar_ba, bo_0, bo_1, bo_it, bo_if, bo_w, bo_w0, bo_w1, bo_nar, bo_n1, bo_nn0, st_bu, st_bu1, st_bu0, st_nu, forall_eq, true_implies, false_implies, forall_const, not_true_eq_false, not_false_eq_true, and_true, true_and, implies_true, and_self, Bool.false_eq_true, Bool.true_eq_false, reduceCtorEq, ite_true, ite_false, if_true, if_false, eq_self, Nat.zero_add, Nat.add_zero, Nat.le_refl, Nat.lt_irrefl, Nat.reduceEqDiff, Nat.reduceLeDiff, Nat.reduceLT, Nat.reduceAdd, Nat.reduceMul, Nat.reduceSub, wpX_syncFirst, wX_syncFirst_55, show ¬ qv (n * 6) = 0 by omega, xc_countVote, xc_dropFirst]
theorem yc_settle140 {post : SY → Prop} (hn : n < 7) (hq1 : 1 ≤ ql n) (hq6 : ql n ≤ 6) : wY_settle_140 post (nI n) (nI bg) srt num (ar_n so) (ar_n ba) (ar_n an) (pc_y pk) (ar_n kv) (ar_b fa) (ar_b co) (ar_b fr) (ar_b dn) (ar_n sp) (ar_n sv) (ar_n ql) (ar_n qb) (ar_n qj) (ar_n qv) (ar_n vo) (ar_n kn) ↔ post (nI bg, srt, num, ar_n so, ar_n ba, ar_n an, pc_y pk, ar_n kv, ar_b fa, ar_b co, ar_b fr, ar_b dn, ar_n sp, ar_n sv, ar_n (st_n ql n (ql n - 1)), ar_n (sh_ qb (n * 6) (ql n - 1)), ar_n (sh_ qj (n * 6) (ql n - 1)), ar_n (sh_ qv (n * 6) (ql n - 1)), ar_n vo, ar_n kn) := by
  simp (disch := first | omega | assumption) only [li_0, li_1, li_2, li_3, li_4, li_6, li_7, li_8, li_9, li_10, li_12, li_21, li_24, li_31, li_60, li_63, li_127, li_128, li_256, li_312, li_384, nI_add, nu_mul, nu_sub, nu_div, nu_and, nu_or, nu_shr, nu_bit, nu_diff, bi_2, nI_leI, nI_ltI, nI_eq, vp_in_nI, nI_clamp, ar_na, ar_ba, bo_0, bo_1, bo_it, bo_if, bo_w, bo_w0, bo_w1, bo_nar, bo_n1, bo_nn0, st_bu, st_bu1, st_bu0, st_nu, forall_eq, true_implies, false_implies, forall_const, not_true_eq_false, not_false_eq_true, and_true, true_and, implies_true, and_self, Bool.false_eq_true, Bool.true_eq_false, reduceCtorEq, ite_true, ite_false, if_true, if_false, eq_self, Nat.zero_add, Nat.add_zero, Nat.le_refl, Nat.lt_irrefl, Nat.reduceEqDiff, Nat.reduceLeDiff, Nat.reduceLT, Nat.reduceAdd, Nat.reduceMul, Nat.reduceSub, wY_settle_140, cm_6]
  have key := lo_fold (W := fun m p (_ : Unit) => wY_settle_156 post (nI n) (nI bg) m (nI (n * 6 + p)) srt num (ar_n so) (ar_n ba) (ar_n an) (pc_y pk) (ar_n kv) (ar_b fa) (ar_b co) (ar_b fr) (ar_b dn) (ar_n sp) (ar_n sv) (ar_n (st_n ql n (ql n - 1))) (ar_n (sh_ qb (n * 6) p)) (ar_n (sh_ qj (n * 6) p)) (ar_n (sh_ qv (n * 6) p)) (ar_n vo) (ar_n kn)) (fin := fun _ => post (nI bg, srt, num, ar_n so, ar_n ba, ar_n an, pc_y pk, ar_n kv, ar_b fa, ar_b co, ar_b fr, ar_b dn, ar_n sp, ar_n sv, ar_n (st_n ql n (ql n - 1)), ar_n (sh_ qb (n * 6) (ql n - 1)), ar_n (sh_ qj (n * 6) (ql n - 1)), ar_n (sh_ qv (n * 6) (ql n - 1)), ar_n vo, ar_n kn)) (I := fun _ _ => True) (e := ql n - 1) (fun _ a => a) (fun _ _ h => h) (fun _ _ _ _ => trivial)
    (by
      intro m _ _
      simp (disch := first | omega | assumption) only [li_0, li_1, li_2, li_3, li_4, li_6, li_7, li_8, li_9, li_10, li_12, li_21, li_24, li_31, li_60, li_63, li_127, li_128, li_256, li_312, li_384, nI_add, nu_mul, nu_sub, nu_div, nu_and, nu_or, nu_shr, nu_bit, nu_diff, bi_2, nI_leI, nI_ltI, nI_eq, vp_in_nI, nI_clamp, ar_na, ar_ba, bo_0, bo_1, bo_it, bo_if, bo_w, bo_w0, bo_w1, bo_nar, bo_n1, bo_nn0, st_bu, st_bu1, st_bu0, st_nu, forall_eq, true_implies, false_implies, forall_const, not_true_eq_false, not_false_eq_true, and_true, true_and, implies_true, and_self, Bool.false_eq_true, Bool.true_eq_false, reduceCtorEq, ite_true, ite_false, if_true, if_false, eq_self, Nat.zero_add, Nat.add_zero, Nat.le_refl, Nat.lt_irrefl, Nat.reduceEqDiff, Nat.reduceLeDiff, Nat.reduceLT, Nat.reduceAdd, Nat.reduceMul, Nat.reduceSub, wY_settle_156, cm_6, st_eq])
    (by
      intro m p _ hp _
      have hp' : ¬ n * 6 + (ql n - 1) ≤ n * 6 + p := by omega
      simp (disch := first | omega | assumption) only [li_0, li_1, li_2, li_3, li_4, li_6, li_7, li_8, li_9, li_10, li_12, li_21, li_24, li_31, li_60, li_63, li_127, li_128, li_256, li_312, li_384, nI_add, nu_mul, nu_sub, nu_div, nu_and, nu_or, nu_shr, nu_bit, nu_diff, bi_2, nI_leI, nI_ltI, nI_eq, vp_in_nI, nI_clamp, ar_na, ar_ba, bo_0, bo_1, bo_it, bo_if, bo_w, bo_w0, bo_w1, bo_nar, bo_n1, bo_nn0, st_bu, st_bu1, st_bu0, st_nu, forall_eq, true_implies, false_implies, forall_const, not_true_eq_false, not_false_eq_true, and_true, true_and, implies_true, and_self, Bool.false_eq_true, Bool.true_eq_false, reduceCtorEq, ite_true, ite_false, if_true, if_false, eq_self, Nat.zero_add, Nat.add_zero, Nat.le_refl, Nat.lt_irrefl, Nat.reduceEqDiff, Nat.reduceLeDiff, Nat.reduceLT, Nat.reduceAdd, Nat.reduceMul, Nat.reduceSub, wY_settle_156, cm_6, st_eq, hp', sh_s]
      exact Iff.rfl) (ql n - 1) 0 () (Nat.zero_add _) trivial
  rw [sh_0, sh_0, sh_0, Nat.add_zero] at key
  exact key
theorem yc_settle101 {post : SY → Prop} (hn : n < 7) (hb : b ≤ 12) (hq1 : 1 ≤ ql n) (hq6 : ql n ≤ 6) : (∃ m, wY_settle_101 post (nI n) (nI b) (nI bg) m (nI 0) srt num (ar_n so) (ar_n ba) (ar_n an) (pc_y pk) (ar_n kv) (ar_b fa) (ar_b co) (ar_b fr) (ar_b dn) (ar_n sp) (ar_n sv) (ar_n ql) (ar_n qb) (ar_n qj) (ar_n qv) (ar_n vo) (ar_n kn)) ↔ post (nI bg, srt, num, ar_n so, ar_n ba, ar_n an, pc_y pk, ar_n (kp_ kv (b * 21 + n * 3) (fun i => sv (n * 3 + i)) 3), ar_b fa, ar_b co, ar_b fr, ar_b dn, ar_n sp, ar_n sv, ar_n (st_n ql n (ql n - 1)), ar_n (sh_ qb (n * 6) (ql n - 1)), ar_n (sh_ qj (n * 6) (ql n - 1)), ar_n (sh_ qv (n * 6) (ql n - 1)), ar_n vo, ar_n kn) := by
  have key := lo_fold (W := fun m p (_ : Unit) => wY_settle_101 post (nI n) (nI b) (nI bg) m (nI p) srt num (ar_n so) (ar_n ba) (ar_n an) (pc_y pk) (ar_n (kp_ kv (b * 21 + n * 3) (fun i => sv (n * 3 + i)) p)) (ar_b fa) (ar_b co) (ar_b fr) (ar_b dn) (ar_n sp) (ar_n sv) (ar_n ql) (ar_n qb) (ar_n qj) (ar_n qv) (ar_n vo) (ar_n kn)) (fin := fun _ => post (nI bg, srt, num, ar_n so, ar_n ba, ar_n an, pc_y pk, ar_n (kp_ kv (b * 21 + n * 3) (fun i => sv (n * 3 + i)) 3), ar_b fa, ar_b co, ar_b fr, ar_b dn, ar_n sp, ar_n sv, ar_n (st_n ql n (ql n - 1)), ar_n (sh_ qb (n * 6) (ql n - 1)), ar_n (sh_ qj (n * 6) (ql n - 1)), ar_n (sh_ qv (n * 6) (ql n - 1)), ar_n vo, ar_n kn)) (I := fun _ _ => True) (e := 3) (fun _ a => a) (fun _ _ h => h) (fun _ _ _ _ => trivial)
    (by
      intro m _ _
      simp (disch := first | omega | assumption) only [li_0, li_1, li_2, li_3, li_4, li_6, li_7, li_8, li_9, li_10, li_12, li_21, li_24, li_31, li_60, li_63, li_127, li_128, li_256, li_312, li_384, nI_add, nu_mul, nu_sub, nu_div, nu_and, nu_or, nu_shr, nu_bit, nu_diff, bi_2, nI_leI, nI_ltI, nI_eq, vp_in_nI, nI_clamp, ar_na, ar_ba, bo_0, bo_1, bo_it, bo_if, bo_w, bo_w0, bo_w1, bo_nar, bo_n1, bo_nn0, st_bu, st_bu1, st_bu0, st_nu, forall_eq, true_implies, false_implies, forall_const, not_true_eq_false, not_false_eq_true, and_true, true_and, implies_true, and_self, Bool.false_eq_true, Bool.true_eq_false, reduceCtorEq, ite_true, ite_false, if_true, if_false, eq_self, Nat.zero_add, Nat.add_zero, Nat.le_refl, Nat.lt_irrefl, Nat.reduceEqDiff, Nat.reduceLeDiff, Nat.reduceLT, Nat.reduceAdd, Nat.reduceMul, Nat.reduceSub, wY_settle_101, yc_settle140])
    (by
      intro m p _ hp _
      simp (disch := first | omega | assumption) only [li_0, li_1, li_2, li_3, li_4, li_6, li_7, li_8, li_9, li_10, li_12, li_21, li_24, li_31, li_60, li_63, li_127, li_128, li_256, li_312, li_384, nI_add, nu_mul, nu_sub, nu_div, nu_and, nu_or, nu_shr, nu_bit, nu_diff, bi_2, nI_leI, nI_ltI, nI_eq, vp_in_nI, nI_clamp, ar_na, ar_ba, bo_0, bo_1, bo_it, bo_if, bo_w, bo_w0, bo_w1, bo_nar, bo_n1, bo_nn0, st_bu, st_bu1, st_bu0, st_nu, forall_eq, true_implies, false_implies, forall_const, not_true_eq_false, not_false_eq_true, and_true, true_and, implies_true, and_self, Bool.false_eq_true, Bool.true_eq_false, reduceCtorEq, ite_true, ite_false, if_true, if_false, eq_self, Nat.zero_add, Nat.add_zero, Nat.le_refl, Nat.lt_irrefl, Nat.reduceEqDiff, Nat.reduceLeDiff, Nat.reduceLT, Nat.reduceAdd, Nat.reduceMul, Nat.reduceSub, wY_settle_101, Nat.not_le.mpr hp, cm_3, cm_21]
      rw [← kp_s]) 3 0 () rfl trivial
  rw [kp_0] at key
  exact key
theorem yc_settleA {post : SY → Prop} (hn : n < 7) (hq1 : 1 ≤ ql n) (hq6 : ql n ≤ 6) (hb : qb (n * 6) ≤ 12) (hj : qj (n * 6) = 3) : wpY_settle post (nI bg, srt, num, ar_n so, ar_n ba, ar_n an, pc_y pk, ar_n kv, ar_b fa, ar_b co, ar_b fr, ar_b dn, ar_n sp, ar_n sv, ar_n ql, ar_n qb, ar_n qj, ar_n qv, ar_n vo, ar_n kn) (nI n) ↔ post (nI bg, srt, num, ar_n so, ar_n ba, ar_n (st_n an (qb (n * 6)) (an (qb (n * 6)) ||| 2 ^ n)), pc_y pk, ar_n (kp_ kv (qb (n * 6) * 21 + n * 3) (fun i => sv (n * 3 + i)) 3), ar_b fa, ar_b co, ar_b fr, ar_b dn, ar_n (st_n sp n (qb (n * 6))), ar_n sv, ar_n (st_n ql n (ql n - 1)), ar_n (sh_ qb (n * 6) (ql n - 1)), ar_n (sh_ qj (n * 6) (ql n - 1)), ar_n (sh_ qv (n * 6) (ql n - 1)), ar_n vo, ar_n kn) := by
  simp (disch := first | omega | assumption) only [li_0, li_1, li_2, li_3, li_4, li_6, li_7, li_8, li_9, li_10, li_12, li_21, li_24, li_31, li_60, li_63, li_127, li_128, li_256, li_312, li_384, nI_add, nu_mul, nu_sub, nu_div, nu_and, nu_or, nu_shr, nu_bit, nu_diff, bi_2, nI_leI, nI_ltI, nI_eq, vp_in_nI, nI_clamp, ar_na, ar_ba, bo_0, bo_1, bo_it, bo_if, bo_w, bo_w0, bo_w1, bo_nar, bo_n1, bo_nn0, st_bu, st_bu1, st_bu0, st_nu, forall_eq, true_implies, false_implies, forall_const, not_true_eq_false, not_false_eq_true, and_true, true_and, implies_true, and_self, Bool.false_eq_true, Bool.true_eq_false, reduceCtorEq, ite_true, ite_false, if_true, if_false, eq_self, Nat.zero_add, Nat.add_zero, Nat.le_refl, Nat.lt_irrefl, Nat.reduceEqDiff, Nat.reduceLeDiff, Nat.reduceLT, Nat.reduceAdd, Nat.reduceMul, Nat.reduceSub, wpY_settle, cm_6, hj]
  exact yc_settle101 hn hb hq1 hq6
theorem yc_settleV {post : SY → Prop} (hn : n < 7) (hq1 : 1 ≤ ql n) (hq6 : ql n ≤ 6) (hb : qb (n * 6) ≤ 12) (hv7 : qv (n * 6) ≤ 7) (hj : qj (n * 6) < 3) : wpY_settle post (nI bg, srt, num, ar_n so, ar_n ba, ar_n an, pc_y pk, ar_n kv, ar_b fa, ar_b co, ar_b fr, ar_b dn, ar_n sp, ar_n sv, ar_n ql, ar_n qb, ar_n qj, ar_n qv, ar_n vo, ar_n kn) (nI n) ↔ post (nI bg, srt, num, ar_n so, ar_n ba, ar_n an, pc_y pk, ar_n kv, ar_b fa, ar_b co, ar_b fr, ar_b dn, ar_n (st_n sp n (qb (n * 6))), ar_n (st_n sv (n * 3 + qj (n * 6)) (qb (n * 6) * 8 + qv (n * 6))), ar_n (st_n ql n (ql n - 1)), ar_n (sh_ qb (n * 6) (ql n - 1)), ar_n (sh_ qj (n * 6) (ql n - 1)), ar_n (sh_ qv (n * 6) (ql n - 1)), ar_n (st_n vo ((qb (n * 6) * 3 + qj (n * 6)) * 8 + qv (n * 6)) (vo ((qb (n * 6) * 3 + qj (n * 6)) * 8 + qv (n * 6)) ||| 2 ^ n)), ar_n kn) := by
  simp (disch := first | omega | assumption) only [li_0, li_1, li_2, li_3, li_4, li_6, li_7, li_8, li_9, li_10, li_12, li_21, li_24, li_31, li_60, li_63, li_127, li_128, li_256, li_312, li_384, nI_add, nu_mul, nu_sub, nu_div, nu_and, nu_or, nu_shr, nu_bit, nu_diff, bi_2, nI_leI, nI_ltI, nI_eq, vp_in_nI, nI_clamp, ar_na, ar_ba, bo_0, bo_1, bo_it, bo_if, bo_w, bo_w0, bo_w1, bo_nar, bo_n1, bo_nn0, st_bu, st_bu1, st_bu0, st_nu, forall_eq, true_implies, false_implies, forall_const, not_true_eq_false, not_false_eq_true, and_true, true_and, implies_true, and_self, Bool.false_eq_true, Bool.true_eq_false, reduceCtorEq, ite_true, ite_false, if_true, if_false, eq_self, Nat.zero_add, Nat.add_zero, Nat.le_refl, Nat.lt_irrefl, Nat.reduceEqDiff, Nat.reduceLeDiff, Nat.reduceLT, Nat.reduceAdd, Nat.reduceMul, Nat.reduceSub, wpY_settle, cm_3, cm_6, cm_8, cm_24', Nat.not_le.mpr hj, yc_settle140]
theorem qb_srt (hq : in_q bg up pk sp qb qi qj qv ql) (hn : n < 7) : ∀ p, p < ql n → qb (n * 6) ≤ qb (n * 6 + p)
  | 0, _ => Nat.le_refl _
  | p + 1, h => Nat.le_trans (qb_srt hq hn p (by omega)) (((hq n hn).2.2.2 p (by omega)).2.2 h)
/-- the queue behind its first record -/
theorem in_drop (H : in_all bg df iq up fr dn op ov sp sv qb qi qj qv ql so ba an pk kv vo kn srt num) {sp' sv' an' kv' vo' : Nat → Nat} (hn : n < 7) (hq1 : 1 ≤ ql n) (hsp : sp' = st_n sp n (qb (n * 6))) (hv : in_v bg pk sv' kv') (hc : in_c vo' kn an') (ha : in_a an' sp')
    (hsv : ∀ m i, m < 7 → i < 3 → sv' (m * 3 + i) = if m = n ∧ qj (n * 6) = i then 8 * qb (n * 6) + qv (n * 6) else sv (m * 3 + i)) : in_all bg df iq up fr dn op ov sp' sv' (sh_ qb (n * 6) (ql n - 1)) (sh_ qi (n * 6) (ql n - 1)) (sh_ qj (n * 6) (ql n - 1)) (sh_ qv (n * 6) (ql n - 1)) (st_n ql n (ql n - 1)) so ba an' pk kv' vo' kn srt num := by
  obtain ⟨hb, hs, hbb, hp, _, _, hq, ho, _, hd⟩ := H
  subst hsp
  refine ⟨hb, hs, hbb, hp, hv, hc, ?_, ?_, ha, hd⟩
  · intro m hm
    obtain ⟨q1, q2, q3, q4⟩ := hq m hm
    by_cases e : m = n
    · subst e
      rw [st_eq, st_eq]
      have h0 := (q4 0 (by omega)).1
      rw [Nat.add_zero] at h0
      refine ⟨by omega, h0.2.1, fun z => by have := q3 z; omega, fun p hp' => ?_⟩
      obtain ⟨g1, g2, g3⟩ := q4 (p + 1) (by omega)
      rw [sh_in (by omega) (by omega), sh_in (by omega) (by omega), sh_in (by omega) (by omega), sh_in (by omega) (by omega)]
      refine ⟨g1, qb_srt hq hm (p + 1) (by omega), fun z => ?_⟩
      rw [sh_in (by omega) (by omega)]
      exact g3 (by omega)
    · have q1n := (hq n hn).1
      rw [st_ne e, st_ne e]
      refine ⟨q1, q2, q3, fun p hp' => ?_⟩
      obtain ⟨g1, g2, g3⟩ := q4 p hp'
      rw [sh_out (by omega), sh_out (by omega), sh_out (by omega), sh_out (by omega)]
      refine ⟨g1, g2, fun z => ?_⟩
      rw [sh_out (by omega)]
      exact g3 z
  · intro m hm
    obtain ⟨q1, q2, q3, q4⟩ := hq m hm
    obtain ⟨o1, o2⟩ := ho m hm
    by_cases e : m = n
    · subst e
      rw [st_eq, st_eq]
      rw [if_neg (by omega)] at o1
      refine ⟨?_, fun i hi => ?_⟩
      · by_cases z : ql m - 1 = 0
        · rw [if_pos z, o1]
          exact congrArg qb (by omega)
        · rw [if_neg z, sh_in (by omega) (by omega), o1]
          exact congrArg qb (by omega)
      · rw [o2 i hi, hsv m i hm hi]
        unfold wv_
        obtain ⟨d, hd'⟩ : ∃ d, ql m = d + 1 := ⟨ql m - 1, by omega⟩
        rw [hd', Nat.add_sub_cancel]
        show lo_f _ d (m * 6 + 1) _ = _
        have e1 : (if m = m ∧ qj (m * 6) = i then 8 * qb (m * 6) + qv (m * 6) else sv (m * 3 + i)) = (if qj (m * 6) = i then 8 * qb (m * 6) + qv (m * 6) else sv (m * 3 + i)) := by
          by_cases z : qj (m * 6) = i
          · rw [if_pos ⟨rfl, z⟩, if_pos z]
          · rw [if_neg (fun q => z q.2), if_neg z]
        rw [e1]
        refine lo_shift _ _ _ fun k a h1 h2 => ?_
        rw [sh_in (by omega) (by omega), sh_in (by omega) (by omega), sh_in (by omega) (by omega)]
    · have q1n := (hq n hn).1
      rw [st_ne e, st_ne e]
      refine ⟨?_, fun i hi => ?_⟩
      · rw [o1]
        by_cases z : ql m = 0
        · rw [if_pos z, if_pos z]
        · rw [if_neg z, if_neg z, sh_out (by omega)]
      · rw [o2 i hi, hsv m i hm hi, if_neg (fun q => e q.1)]
        refine lo_fc _ _ _ fun k a h1 h2 => ?_
        rw [sh_out (by omega), sh_out (by omega), sh_out (by omega)]
theorem se_ (H : in_all bg df iq up fr dn op ov sp sv qb qi qj qv ql so ba an pk kv vo kn srt num) (hn : n < 7) (hq1 : 1 ≤ ql n) : ∃ sp' sv' an' kv' vo' qb' qi' qj' qv', in_all bg df iq up fr dn op ov sp' sv' qb' qi' qj' qv' (st_n ql n (ql n - 1)) so ba an' pk kv' vo' kn srt num ∧ (∀ post, (wpX_syncFirst post (nI bg, ar_b df, ar_b iq, ar_b tb, ar_b up, ar_n op, ar_n ov, ar_n sp, ar_n sv, ar_n qb, ar_n qi, ar_n qv, ar_n ql, ar_n so, ar_b fa, ar_n ba, ar_n an, ar_b co, pc_x pk, ar_b fr, ar_n kv, ar_n vo, ar_n kn) (nI n) ↔ post (nI bg, ar_b df, ar_b iq, ar_b tb, ar_b up, ar_n op, ar_n ov, ar_n sp', ar_n sv', ar_n qb', ar_n qi', ar_n qv', ar_n (st_n ql n (ql n - 1)), ar_n so, ar_b fa, ar_n ba, ar_n an', ar_b co, pc_x pk, ar_b fr, ar_n kv', ar_n vo', ar_n kn))) ∧ (∀ post, (wpY_settle post (nI bg, srt, num, ar_n so, ar_n ba, ar_n an, pc_y pk, ar_n kv, ar_b fa, ar_b co, ar_b fr, ar_b dn, ar_n sp, ar_n sv, ar_n ql, ar_n qb, ar_n qj, ar_n qv, ar_n vo, ar_n kn) (nI n) ↔ post (nI bg, srt, num, ar_n so, ar_n ba, ar_n an', pc_y pk, ar_n kv', ar_b fa, ar_b co, ar_b fr, ar_b dn, ar_n sp', ar_n sv', ar_n (st_n ql n (ql n - 1)), ar_n qb', ar_n qj', ar_n qv', ar_n vo', ar_n kn))) := by
  have H0 := H
  obtain ⟨hb, hs, hbb, hp, hv, hc, hq, ho, ha, hd⟩ := H
  obtain ⟨q1, q2, q3, q4⟩ := hq n hn
  obtain ⟨⟨r1, r2, r3⟩, r4, _⟩ := q4 0 (by omega)
  rw [Nat.add_zero] at r1 r2 r3 r4
  have hsp2 : ∀ m, sp m ≤ st_n sp n (qb (n * 6)) m := by
    intro m
    by_cases e : m = n
    · subst e; rw [st_eq]; exact r4
    · rw [st_ne e]; exact Nat.le_refl _
  rcases r3 with ⟨v0, j3⟩ | ⟨v1, v7, ji, i3, hpk⟩
  · refine ⟨_, _, _, _, _, _, _, _, _, in_drop H0 (sv' := sv) (vo' := vo) (an' := st_n an (qb (n * 6)) (an (qb (n * 6)) ||| 2 ^ n)) (kv' := kp_ kv (qb (n * 6) * 21 + n * 3) (fun i => sv (n * 3 + i)) 3) hn hq1 rfl ⟨hv.1, ?_⟩ ?_ ?_ ?_, fun post => xc_syncA hn hq1 q1 (by omega) v0, fun post => yc_settleA hn hq1 q1 (by omega) j3⟩
    · intro b' n' i' hb' hn' hi'
      by_cases e : b' = qb (n * 6) ∧ n' = n
      · obtain ⟨rfl, rfl⟩ := e
        rw [kp_in hi']
        exact hv.1 n' i' hn' hi'
      · rw [kp_out (by omega)]
        exact hv.2 b' n' i' hb' hn' hi'
    · intro j
      obtain ⟨c1, c2, c3⟩ := hc j
      refine ⟨c1, c2, ?_⟩
      by_cases e : j = qb (n * 6)
      · subst e; rw [st_eq]; exact nu_or7 c3 (nu_lt7 n hn)
      · rw [st_ne e]; exact c3
    · intro b' n' hn' h
      by_cases e : b' = qb (n * 6)
      · subst e
        rw [st_eq] at h
        rcases or_bit h with g | g
        · subst g; rw [st_eq]; exact Nat.le_refl _
        · exact Nat.le_trans (ha _ n' hn' g) (hsp2 n')
      · rw [st_ne e] at h
        exact Nat.le_trans (ha _ n' hn' h) (hsp2 n')
    · intro m i hm hi
      rw [if_neg (by omega)]
  · refine ⟨_, _, _, _, _, _, _, _, _, in_drop H0 (sv' := st_n sv (n * 3 + qi (n * 6)) (qb (n * 6) * 8 + qv (n * 6))) (vo' := st_n vo ((qb (n * 6) * 3 + qi (n * 6)) * 8 + qv (n * 6)) (vo ((qb (n * 6) * 3 + qi (n * 6)) * 8 + qv (n * 6)) ||| 2 ^ n)) (an' := an) (kv' := kv) hn hq1 rfl ⟨?_, hv.2⟩ ?_ ?_ ?_, fun post => xc_syncV hn hq1 q1 (by omega) v1 v7 i3, fun post => by have := yc_settleV (post := post) (bg := bg) (srt := srt) (num := num) (so := so) (ba := ba) (an := an) (pk := pk) (kv := kv) (fa := fa) (co := co) (fr := fr) (dn := dn) (sp := sp) (sv := sv) (ql := ql) (qb := qb) (qj := qj) (qv := qv) (vo := vo) (kn := kn) hn hq1 q1 (by omega) v7 (by omega); rw [ji] at this; exact this⟩
    · intro n' i' hn' hi'
      by_cases e : n' * 3 + i' = n * 3 + qi (n * 6)
      · rw [e, st_eq]
        obtain rfl : i' = qi (n * 6) := by omega
        refine Or.inr ⟨by omega, by omega, by omega, ?_⟩
        rw [show (qb (n * 6) * 8 + qv (n * 6)) / 8 = qb (n * 6) by omega]
        exact hpk
      · rw [st_ne e]
        exact hv.1 n' i' hn' hi'
    · intro j
      obtain ⟨c1, c2, c3⟩ := hc j
      refine ⟨?_, c2, c3⟩
      by_cases e : j = (qb (n * 6) * 3 + qi (n * 6)) * 8 + qv (n * 6)
      · rw [e, st_eq]; exact nu_or7 (hc _).1 (nu_lt7 n hn)
      · rw [st_ne e]; exact c1
    · intro b' n' hn' h
      exact Nat.le_trans (ha _ n' hn' h) (hsp2 n')
    · intro m i hm hi
      by_cases e : m = n ∧ qj (n * 6) = i
      · rw [if_pos e, e.1, ← e.2, ji, st_eq]; omega
      · rw [if_neg e, st_ne (by omega)]
end
/-- related, with so many records in a node's queue -/
def rq_ (n m : Nat) (u : SX) (v : SY) : Prop := ∃ (bg : Nat) (df iq tb up fa co fr dn : Nat → Bool) (op ov sp sv qb qi qj qv ql so ba an pk kv vo kn : Nat → Nat) (srt num : Nat → Int32), u = (nI bg, ar_b df, ar_b iq, ar_b tb, ar_b up, ar_n op, ar_n ov, ar_n sp, ar_n sv, ar_n qb, ar_n qi, ar_n qv, ar_n ql, ar_n so, ar_b fa, ar_n ba, ar_n an, ar_b co, pc_x pk, ar_b fr, ar_n kv, ar_n vo, ar_n kn) ∧ v = (nI bg, srt, num, ar_n so, ar_n ba, ar_n an, pc_y pk, ar_n kv, ar_b fa, ar_b co, ar_b fr, ar_b dn, ar_n sp, ar_n sv, ar_n ql, ar_n qb, ar_n qj, ar_n qv, ar_n vo, ar_n kn) ∧ in_all bg df iq up fr dn op ov sp sv qb qi qj qv ql so ba an pk kv vo kn srt num ∧ ql n = m
theorem rq_i {n m k : Nat} {u : SX} {v : SY} (h : rq_ n m u v) : i_Rel k u v := by
  obtain ⟨bg, df, iq, tb, up, fa, co, fr, dn, op, ov, sp, sv, qb, qi, qj, qv, ql, so, ba, an, pk, kv, vo, kn, srt, num, rfl, rfl, H, _⟩ := h
  exact ⟨_, _, _, _, _, _, _, _, _, _, _, _, _, _, _, _, _, _, _, _, _, _, _, _, _, _, _, rfl, rfl, H⟩
theorem rq_s {n m : Nat} {u : SX} {v : SY} (hn : n < 7) (h : rq_ n (m + 1) u v) : ∃ u' v', rq_ n m u' v' ∧ (∀ post, wpX_syncFirst post u (nI n) ↔ post u') ∧ (∀ post, wpY_settle post v (nI n) ↔ post v') := by
  obtain ⟨bg, df, iq, tb, up, fa, co, fr, dn, op, ov, sp, sv, qb, qi, qj, qv, ql, so, ba, an, pk, kv, vo, kn, srt, num, rfl, rfl, H, hm⟩ := h
  obtain ⟨sp', sv', an', kv', vo', qb', qi', qj', qv', H', hX, hY⟩ := se_ (tb := tb) (fa := fa) (co := co) H hn (by omega)
  exact ⟨_, _, ⟨_, _, _, _, _, _, _, _, _, _, _, _, _, _, _, _, _, _, _, _, _, _, _, _, _, _, _, rfl, rfl, H', by rw [st_eq]; omega⟩, hX, hY⟩
end
