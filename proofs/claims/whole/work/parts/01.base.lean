/-! numbers, bits, stores, loops -/
def bo_i (b : Bool) : Int32 := if b = true then 1 else 0
def ar_n (f : Nat → Nat) : Nat → Int32 := fun j => nI (f j)
def ar_b (f : Nat → Bool) : Nat → Int32 := fun j => bo_i (f j)
def st_n (f : Nat → Nat) (k x : Nat) : Nat → Nat := fun j => if j = k then x else f j
def st_b (f : Nat → Bool) (k : Nat) (x : Bool) : Nat → Bool := fun j => if j = k then x else f j
theorem ar_na (f : Nat → Nat) (j : Nat) : ar_n f j = nI (f j) := rfl
theorem ar_ba (f : Nat → Bool) (j : Nat) : ar_b f j = bo_i (f j) := rfl
theorem bo_it : bo_i true = nI 1 := rfl
theorem bo_if : bo_i false = nI 0 := rfl
theorem bo_0 (b : Bool) : bo_i b = nI 0 ↔ b = false := by cases b <;> decide
theorem bo_1 (b : Bool) : bo_i b = nI 1 ↔ b = true := by cases b <;> decide
theorem bo_n0 (b : Bool) : (¬ bo_i b = nI 0) ↔ b = true := by cases b <;> decide
theorem bo_nar (b : Bool) : vp_nar .boolean (bo_i b) = bo_i b := by
  cases b <;> (show (_ &&& (1 : Int32)) = _) <;> decide
theorem bo_n1 : vp_nar .boolean (nI 1) = nI 1 := by show (_ &&& (1 : Int32)) = _; decide
theorem bo_nn0 : vp_nar .boolean (nI 0) = nI 0 := by show (_ &&& (1 : Int32)) = _; decide
theorem bo_w (b : Bool) : narrow .boolean (.int (bo_i b)) = .int (bo_i b) := congrArg Value.int (by cases b <;> decide)
theorem bo_w1 : narrow .boolean (.int (nI 1)) = .int (nI 1) := congrArg Value.int (by decide)
theorem bo_w0 : narrow .boolean (.int (nI 0)) = .int (nI 0) := congrArg Value.int (by decide)
theorem st_nu (f : Nat → Nat) (k x : Nat) : upd (ar_n f) k (nI x) = ar_n (st_n f k x) := by
  funext j; show (if j = k then nI x else nI (f j)) = nI (if j = k then x else f j); split <;> rfl
theorem st_bu (f : Nat → Bool) (k : Nat) (x : Bool) : upd (ar_b f) k (bo_i x) = ar_b (st_b f k x) := by
  funext j; show (if j = k then bo_i x else bo_i (f j)) = bo_i (if j = k then x else f j); split <;> rfl
theorem st_bu1 (f : Nat → Bool) (k : Nat) : upd (ar_b f) k (nI 1) = ar_b (st_b f k true) := st_bu f k true
theorem st_bu0 (f : Nat → Bool) (k : Nat) : upd (ar_b f) k (nI 0) = ar_b (st_b f k false) := st_bu f k false
theorem st_ne {f : Nat → Nat} {k j x : Nat} (h : j ≠ k) : st_n f k x j = f j := if_neg h
theorem st_eq {f : Nat → Nat} {k x : Nat} : st_n f k x k = x := if_pos rfl
theorem st_bne {f : Nat → Bool} {k j : Nat} {x : Bool} (h : j ≠ k) : st_b f k x j = f j := if_neg h
theorem st_beq {f : Nat → Bool} {k : Nat} {x : Bool} : st_b f k x k = x := if_pos rfl
theorem st_self {f : Nat → Nat} {k : Nat} : st_n f k (f k) = f := by
  funext j; show (if j = k then f k else f j) = f j; split
  · rename_i h; rw [h]
  · rfl
theorem st_bself {f : Nat → Bool} {k : Nat} {x : Bool} (h : f k = x) : st_b f k x = f := by
  funext j; show (if j = k then x else f j) = f j; split
  · rename_i e; rw [e, h]
  · rfl
theorem up_self {f : Nat → Int32} {k : Nat} {x : Int32} (h : f k = x) : upd f k x = f := by
  funext j; show (if j = k then x else f j) = f j; split
  · rename_i e; rw [e, h]
  · rfl
theorem up_up {f : Nat → Int32} {k : Nat} {x y : Int32} : upd (upd f k x) k y = upd f k y := by
  funext j; show (if j = k then y else if j = k then x else f j) = if j = k then y else f j; split <;> rfl
theorem up_eq {f : Nat → Int32} {k : Nat} {x : Int32} : upd f k x k = x := if_pos rfl
theorem up_ne {f : Nat → Int32} {k j : Nat} {x : Int32} (h : j ≠ k) : upd f k x j = f j := if_neg h
/-! numbers -/
theorem nu_mul (a b : Nat) : nI a * nI b = nI (a * b) := (Int32.ofNat_mul a b).symm
theorem nu_sub {a b : Nat} (h : b ≤ a) : nI a - nI b = nI (a - b) := by
  obtain ⟨c, rfl⟩ : ∃ c, a = c + b := ⟨a - b, by omega⟩
  rw [← nI_add, Int32.add_sub_cancel, Nat.add_sub_cancel]
theorem nu_m1 {n : Nat} (h : 0 < n) : nI n + (-nI 1) = nI (n - 1) := by
  obtain ⟨c, rfl⟩ : ∃ c, n = c + 1 := ⟨n - 1, by omega⟩
  rw [Nat.add_sub_cancel, ← nI_1, Int32.add_assoc, show (1 : Int32) + (-nI 1) = 0 from rfl, Int32.add_zero]
theorem nu_div {a d : Nat} (ha : a < 2 ^ 31) (h0 : 0 < d) (hd : d < 2 ^ 31) : nI a / nI d = nI (a / d) := by
  apply Int32.toInt_inj.mp
  rw [lg_idiv_nonneg (by rw [nI_toInt ha]; omega) (by rw [nI_toInt hd]; omega), nI_toInt ha, nI_toInt hd, nI_toInt (Nat.lt_of_le_of_lt (Nat.div_le_self a d) ha)]
  first | rfl | exact (Int.natCast_ediv _ _).symm
theorem nu_rem {a d : Nat} (ha : a < 2 ^ 31) (h0 : 0 < d) (hd : d < 2 ^ 31) : nI a - nI a / nI d * nI d = nI (a % d) := by
  rw [nu_div ha h0 hd, nu_mul, nu_sub (Nat.div_mul_le_self a d)]
  exact congrArg nI (by have := Nat.div_add_mod' a d; omega)
theorem nu_and (a b : Nat) : nI a &&& nI b = nI (a &&& b) := by
  apply Int32.toBitVec_inj.1
  show BitVec.ofNat 32 a &&& BitVec.ofNat 32 b = BitVec.ofNat 32 (a &&& b)
  apply BitVec.eq_of_getLsbD_eq
  intro i hi
  simp [hi]
theorem nu_or (a b : Nat) : nI a ||| nI b = nI (a ||| b) := by
  apply Int32.toBitVec_inj.1
  show BitVec.ofNat 32 a ||| BitVec.ofNat 32 b = BitVec.ofNat 32 (a ||| b)
  apply BitVec.eq_of_getLsbD_eq
  intro i hi
  simp [hi]
theorem nu_xor (a b : Nat) : nI a ^^^ nI b = nI (a ^^^ b) := by
  apply Int32.toBitVec_inj.1
  show BitVec.ofNat 32 a ^^^ BitVec.ofNat 32 b = BitVec.ofNat 32 (a ^^^ b)
  apply BitVec.eq_of_getLsbD_eq
  intro i hi
  simp [hi]
theorem nu_shc : ∀ n, n < 32 → ((nI (n &&& 31)).toBitVec.smod 32).toNat = n := by decide +kernel
theorem nu_tn {n : Nat} (h : n < 2 ^ 32) : (nI n).toBitVec.toNat = n := Nat.mod_eq_of_lt h
theorem nu_shr {a n : Nat} (ha : a < 2 ^ 31) (hn : n < 32) : nI a >>> nI (n &&& 31) = nI (a / 2 ^ n) := by
  apply Int32.toInt_inj.mp
  have h2 : a / 2 ^ n ≤ a := Nat.div_le_self _ _
  have e : (nI a >>> nI (n &&& 31)).toInt = (nI a).toInt >>> n := by
    show ((nI a).toBitVec.sshiftRight ((nI (n &&& 31)).toBitVec.smod 32).toNat).toInt = _
    rw [nu_shc n hn, BitVec.toInt_sshiftRight]
    rfl
  rw [e, nI_toInt ha, nI_toInt (by omega), Int.shiftRight_eq_div_pow]
  rfl
theorem nu_shl {a n : Nat} (hn : n < 32) (h : a * 2 ^ n < 2 ^ 32) : nI a <<< nI (n &&& 31) = nI (a * 2 ^ n) := by
  apply Int32.toBitVec_inj.mp
  apply BitVec.eq_of_toNat_eq
  have ha : a < 2 ^ 32 := Nat.lt_of_le_of_lt (Nat.le_mul_of_pos_right a (Nat.two_pow_pos n)) h
  have e : (nI a <<< nI (n &&& 31)).toBitVec.toNat = (nI a).toBitVec.toNat * 2 ^ n % 2 ^ 32 := by
    show ((nI a).toBitVec <<< ((nI (n &&& 31)).toBitVec.smod 32).toNat).toNat = _
    rw [nu_shc n hn, BitVec.toNat_shiftLeft, Nat.shiftLeft_eq]
  rw [e, nu_tn ha, nu_tn h, Nat.mod_eq_of_lt h]
theorem nu_bit {n : Nat} (hn : n < 31) : nI 1 <<< nI (n &&& 31) = nI (2 ^ n) := by
  have h : 2 ^ n < 2 ^ 31 := Nat.pow_lt_pow_right (by decide) hn
  rw [nu_shl (by omega) (by omega), Nat.one_mul]
theorem bi_2 (x n : Nat) : x / 2 ^ n &&& 1 = x / 2 ^ n % 2 := Nat.and_one_is_mod _
theorem nu_m1x : (-nI 1 : Int32) = nI 4294967295 := by decide
theorem nu_lt7 : ∀ n, n < 7 → 2 ^ n < 128 := by decide
theorem nu_lt8 : ∀ n, n < 8 → 2 ^ n < 256 := by decide
theorem nu_and7 {a b : Nat} (h : a < 128) : a &&& b < 128 := Nat.lt_of_le_of_lt Nat.and_le_left h
theorem nu_and7r {a b : Nat} (h : b < 128) : a &&& b < 128 := Nat.lt_of_le_of_lt Nat.and_le_right h
theorem nu_or7 {a b : Nat} (h : a < 128) (h' : b < 128) : a ||| b < 128 := Nat.or_lt_two_pow (n := 7) h h'
theorem nu_xor7 {a b : Nat} (h : a < 128) (h' : b < 128) : a ^^^ b < 128 := Nat.xor_lt_two_pow (n := 7) h h'
theorem nu_tb {a : Nat} (h : a < 128) {i : Nat} (hi : 7 ≤ i) : a.testBit i = false :=
  Nat.testBit_lt_two_pow (Nat.lt_of_lt_of_le h (show 2 ^ 7 ≤ 2 ^ i from Nat.pow_le_pow_right (by decide) hi))
theorem nu_t127 (i : Nat) : (127 : Nat).testBit i = decide (i < 7) := by
  rw [show (127 : Nat) = 2 ^ 7 - 1 from rfl, Nat.testBit_two_pow_sub_one]
theorem nu_t32 (i : Nat) : (4294967295 : Nat).testBit i = decide (i < 32) := by
  rw [show (4294967295 : Nat) = 2 ^ 32 - 1 from rfl, Nat.testBit_two_pow_sub_one]
/-- the set without .. -/
theorem nu_diff {a m : Nat} (h : a < 128) : nI a &&& (nI m ^^^ (-nI 1)) = nI (a &&& (m ^^^ 127)) := by
  rw [nu_m1x, nu_xor, nu_and]
  apply congrArg nI
  apply Nat.eq_of_testBit_eq
  intro i
  rw [Nat.testBit_and, Nat.testBit_and, Nat.testBit_xor, Nat.testBit_xor, nu_t127, nu_t32]
  by_cases hi : i < 7
  · rw [decide_eq_true hi, decide_eq_true (show i < 32 by omega)]
  · rw [nu_tb h (by omega), Bool.false_and, Bool.false_and]
/-- what is in both, and nothing missing -/
theorem nu_sub0 {a b : Nat} (ha : a < 128) : a &&& (b ^^^ 127) = 0 ↔ b &&& a = a := by
  constructor
  · intro h
    apply Nat.eq_of_testBit_eq
    intro i
    have e := congrArg (fun z => Nat.testBit z i) h
    simp only [Nat.testBit_and, Nat.testBit_xor, nu_t127, Nat.zero_testBit] at e
    rw [Nat.testBit_and]
    by_cases hi : i < 7
    · rw [decide_eq_true hi] at e
      revert e; cases a.testBit i <;> cases b.testBit i <;> decide
    · rw [nu_tb ha (by omega), Bool.and_false]
  · intro h
    apply Nat.eq_of_testBit_eq
    intro i
    have e := congrArg (fun z => Nat.testBit z i) h
    simp only [Nat.testBit_and] at e
    rw [Nat.testBit_and, Nat.testBit_xor, nu_t127, Nat.zero_testBit]
    by_cases hi : i < 7
    · rw [decide_eq_true hi]
      revert e; cases a.testBit i <;> cases b.testBit i <;> decide
    · rw [nu_tb ha (by omega), Bool.false_and]
/-! loops -/
def lo_f {α : Type} (f : Nat → α → α) : Nat → Nat → α → α
  | 0, _, a => a
  | d + 1, i, a => lo_f f d (i + 1) (f i a)
def lo_a (P : Nat → Bool) : Nat → Nat → Bool
  | 0, _ => true
  | d + 1, i => P i && lo_a P d (i + 1)
def lo_s (P : Nat → Bool) : Nat → Nat → Nat
  | 0, i => i
  | d + 1, i => if P i = true then i else lo_s P d (i + 1)
theorem lo_fold {α : Type} {W : Nat → Nat → α → Prop} {fin : α → Prop} {I : Nat → α → Prop} {e : Nat} (f : Nat → α → α)
    (h0 : ∀ i a, ¬ W 0 i a) (hI : ∀ i a, i < e → I i a → I (i + 1) (f i a))
    (hx : ∀ n a, I e a → (W (n + 1) e a ↔ fin a))
    (hs : ∀ n i a, i < e → I i a → (W (n + 1) i a ↔ W n (i + 1) (f i a))) :
    ∀ d i a, i + d = e → I i a → ((∃ n, W n i a) ↔ fin (lo_f f d i a)) := by
  intro d
  induction d with
  | zero =>
    intro i a hi ha
    obtain rfl : i = e := by omega
    constructor
    · rintro ⟨n, h⟩
      cases n with
      | zero => exact absurd h (h0 _ _)
      | succ n => exact (hx n a ha).mp h
    · exact fun h => ⟨1, (hx 0 a ha).mpr h⟩
  | succ d ih =>
    intro i a hi ha
    have g := ih (i + 1) (f i a) (by omega) (hI i a (by omega) ha)
    constructor
    · rintro ⟨n, h⟩
      cases n with
      | zero => exact absurd h (h0 _ _)
      | succ n => exact g.mp ⟨n, (hs n i a (by omega) ha).mp h⟩
    · intro h
      obtain ⟨n, h⟩ := g.mpr h
      exact ⟨n + 1, (hs n i a (by omega) ha).mpr h⟩
/-- a search: A is asked where P holds first, B at the end -/
theorem lo_find {W : Nat → Nat → Prop} {A : Nat → Prop} {B : Prop} {e : Nat} (P : Nat → Bool)
    (h0 : ∀ i, ¬ W 0 i) (hx : ∀ n, W (n + 1) e ↔ B)
    (ht : ∀ n i, i < e → P i = true → (W (n + 1) i ↔ A i))
    (hf : ∀ n i, i < e → P i = false → (W (n + 1) i ↔ W n (i + 1))) :
    ∀ d i, i + d = e → ((∃ n, W n i) ↔ (lo_s P d i < e → A (lo_s P d i)) ∧ (¬ lo_s P d i < e → B)) := by
  intro d
  induction d with
  | zero =>
    intro i hi
    obtain rfl : i = e := by omega
    constructor
    · rintro ⟨n, h⟩
      cases n with
      | zero => exact absurd h (h0 _)
      | succ n => exact ⟨fun z => absurd z (Nat.lt_irrefl _), fun _ => (hx n).mp h⟩
    · exact fun h => ⟨1, (hx 0).mpr (h.2 (Nat.lt_irrefl _))⟩
  | succ d ih =>
    intro i hi
    have g := ih (i + 1) (by omega)
    cases hp : P i with
    | true =>
      have es : lo_s P (d + 1) i = i := if_pos hp
      rw [es]
      constructor
      · rintro ⟨n, h⟩
        cases n with
        | zero => exact absurd h (h0 _)
        | succ n => exact ⟨fun _ => (ht n i (by omega) hp).mp h, fun z => absurd (show i < e by omega) z⟩
      · exact fun h => ⟨1, (ht 0 i (by omega) hp).mpr (h.1 (by omega))⟩
    | false =>
      have es : lo_s P (d + 1) i = lo_s P d (i + 1) := if_neg (by rw [hp]; decide)
      rw [es]
      constructor
      · rintro ⟨n, h⟩
        cases n with
        | zero => exact absurd h (h0 _)
        | succ n => exact g.mp ⟨n, (hf n i (by omega) hp).mp h⟩
      · intro h
        obtain ⟨n, h⟩ := g.mpr h
        exact ⟨n + 1, (hf n i (by omega) hp).mpr h⟩
/-- all of them, or the first that fails -/
theorem lo_all {W : Nat → Nat → Prop} {A B : Prop} {e : Nat} (P : Nat → Bool)
    (h0 : ∀ i, ¬ W 0 i) (hx : ∀ n, W (n + 1) e ↔ B)
    (hf : ∀ n i, i < e → P i = false → (W (n + 1) i ↔ A))
    (ht : ∀ n i, i < e → P i = true → (W (n + 1) i ↔ W n (i + 1))) :
    ∀ d i, i + d = e → ((∃ n, W n i) ↔ (lo_a P d i = true → B) ∧ (lo_a P d i = false → A)) := by
  intro d
  induction d with
  | zero =>
    intro i hi
    obtain rfl : i = e := by omega
    constructor
    · rintro ⟨n, h⟩
      cases n with
      | zero => exact absurd h (h0 _)
      | succ n => exact ⟨fun _ => (hx n).mp h, fun z => nomatch z⟩
    · exact fun h => ⟨1, (hx 0).mpr (h.1 rfl)⟩
  | succ d ih =>
    intro i hi
    have g := ih (i + 1) (by omega)
    cases hp : P i with
    | false =>
      have es : lo_a P (d + 1) i = false := by show (P i && _) = false; rw [hp]; rfl
      rw [es]
      constructor
      · rintro ⟨n, h⟩
        cases n with
        | zero => exact absurd h (h0 _)
        | succ n => exact ⟨(fun z => nomatch z), fun _ => (hf n i (by omega) hp).mp h⟩
      · exact fun h => ⟨1, (hf 0 i (by omega) hp).mpr (h.2 rfl)⟩
    | true =>
      have es : lo_a P (d + 1) i = lo_a P d (i + 1) := by show (P i && _) = _; rw [hp]; rfl
      rw [es]
      constructor
      · rintro ⟨n, h⟩
        cases n with
        | zero => exact absurd h (h0 _)
        | succ n => exact g.mp ⟨n, (ht n i (by omega) hp).mp h⟩
      · intro h
        obtain ⟨n, h⟩ := g.mpr h
        exact ⟨n + 1, (ht n i (by omega) hp).mpr h⟩
/-- the same from a least index on -/
theorem lo_findL {W : Nat → Nat → Prop} {A : Nat → Prop} {B : Prop} {e lo : Nat} (P : Nat → Bool)
    (h0 : ∀ i, ¬ W 0 i) (hx : ∀ n, W (n + 1) e ↔ B)
    (ht : ∀ n i, lo ≤ i → i < e → P i = true → (W (n + 1) i ↔ A i))
    (hf : ∀ n i, lo ≤ i → i < e → P i = false → (W (n + 1) i ↔ W n (i + 1))) :
    ∀ d i, lo ≤ i → i + d = e → ((∃ n, W n i) ↔ (lo_s P d i < e → A (lo_s P d i)) ∧ (¬ lo_s P d i < e → B)) := by
  intro d
  induction d with
  | zero =>
    intro i hl hi
    obtain rfl : i = e := by omega
    constructor
    · rintro ⟨n, h⟩
      cases n with
      | zero => exact absurd h (h0 _)
      | succ n => exact ⟨fun z => absurd z (Nat.lt_irrefl _), fun _ => (hx n).mp h⟩
    · exact fun h => ⟨1, (hx 0).mpr (h.2 (Nat.lt_irrefl _))⟩
  | succ d ih =>
    intro i hl hi
    have g := ih (i + 1) (by omega) (by omega)
    cases hp : P i with
    | true =>
      have es : lo_s P (d + 1) i = i := if_pos hp
      rw [es]
      constructor
      · rintro ⟨n, h⟩
        cases n with
        | zero => exact absurd h (h0 _)
        | succ n => exact ⟨fun _ => (ht n i hl (by omega) hp).mp h, fun z => absurd (show i < e by omega) z⟩
      · exact fun h => ⟨1, (ht 0 i hl (by omega) hp).mpr (h.1 (by omega))⟩
    | false =>
      have es : lo_s P (d + 1) i = lo_s P d (i + 1) := if_neg (by rw [hp]; decide)
      rw [es]
      constructor
      · rintro ⟨n, h⟩
        cases n with
        | zero => exact absurd h (h0 _)
        | succ n => exact g.mp ⟨n, (hf n i hl (by omega) hp).mp h⟩
      · intro h
        obtain ⟨n, h⟩ := g.mpr h
        exact ⟨n + 1, (hf n i hl (by omega) hp).mpr h⟩
theorem lo_allL {W : Nat → Nat → Prop} {A B : Prop} {e lo : Nat} (P : Nat → Bool)
    (h0 : ∀ i, ¬ W 0 i) (hx : ∀ n, W (n + 1) e ↔ B)
    (hf : ∀ n i, lo ≤ i → i < e → P i = false → (W (n + 1) i ↔ A))
    (ht : ∀ n i, lo ≤ i → i < e → P i = true → (W (n + 1) i ↔ W n (i + 1))) :
    ∀ d i, lo ≤ i → i + d = e → ((∃ n, W n i) ↔ (lo_a P d i = true → B) ∧ (lo_a P d i = false → A)) := by
  intro d
  induction d with
  | zero =>
    intro i hl hi
    obtain rfl : i = e := by omega
    constructor
    · rintro ⟨n, h⟩
      cases n with
      | zero => exact absurd h (h0 _)
      | succ n => exact ⟨fun _ => (hx n).mp h, fun z => nomatch z⟩
    · exact fun h => ⟨1, (hx 0).mpr (h.1 rfl)⟩
  | succ d ih =>
    intro i hl hi
    have g := ih (i + 1) (by omega) (by omega)
    cases hp : P i with
    | false =>
      have es : lo_a P (d + 1) i = false := by show (P i && _) = false; rw [hp]; rfl
      rw [es]
      constructor
      · rintro ⟨n, h⟩
        cases n with
        | zero => exact absurd h (h0 _)
        | succ n => exact ⟨(fun z => nomatch z), fun _ => (hf n i hl (by omega) hp).mp h⟩
      · exact fun h => ⟨1, (hf 0 i hl (by omega) hp).mpr (h.2 rfl)⟩
    | true =>
      have es : lo_a P (d + 1) i = lo_a P d (i + 1) := by show (P i && _) = _; rw [hp]; rfl
      rw [es]
      constructor
      · rintro ⟨n, h⟩
        cases n with
        | zero => exact absurd h (h0 _)
        | succ n => exact g.mp ⟨n, (ht n i hl (by omega) hp).mp h⟩
      · intro h
        obtain ⟨n, h⟩ := g.mpr h
        exact ⟨n + 1, (ht n i hl (by omega) hp).mpr h⟩
theorem lo_s1 (P : Nat → Bool) : ∀ d i, i ≤ lo_s P d i ∧ lo_s P d i ≤ i + d
  | 0, i => ⟨Nat.le_refl _, Nat.le_refl _⟩
  | d + 1, i => by
    have := lo_s1 P d (i + 1)
    unfold lo_s
    split <;> omega
theorem lo_s2 (P : Nat → Bool) : ∀ d i, lo_s P d i < i + d → P (lo_s P d i) = true
  | 0, i => fun h => absurd h (Nat.lt_irrefl _)
  | d + 1, i => by
    have := lo_s2 P d (i + 1)
    unfold lo_s
    split
    · intro _; assumption
    · intro h; exact this (by omega)
theorem lo_sc {P Q : Nat → Bool} : ∀ d i, (∀ j, i ≤ j → j < i + d → P j = Q j) → lo_s P d i = lo_s Q d i
  | 0, _, _ => rfl
  | d + 1, i, h => by
    unfold lo_s
    rw [h i (by omega) (by omega), lo_sc d (i + 1) (fun j a b => h j (by omega) (by omega))]
theorem lo_ac {P Q : Nat → Bool} : ∀ d i, (∀ j, i ≤ j → j < i + d → P j = Q j) → lo_a P d i = lo_a Q d i
  | 0, _, _ => rfl
  | d + 1, i, h => by
    unfold lo_a
    rw [h i (by omega) (by omega), lo_ac d (i + 1) (fun j a b => h j (by omega) (by omega))]
theorem lo_ai {P : Nat → Bool} : ∀ d i, lo_a P d i = true ↔ ∀ j, i ≤ j → j < i + d → P j = true
  | 0, i => ⟨fun _ j a b => absurd b (by omega), fun _ => rfl⟩
  | d + 1, i => by
    unfold lo_a
    rw [Bool.and_eq_true, lo_ai d (i + 1)]
    constructor
    · rintro ⟨a, b⟩ j h1 h2
      rcases Nat.lt_or_ge i j with h | h
      · exact b j h (by omega)
      · obtain rfl : j = i := by omega
        exact a
    · exact fun h => ⟨h i (Nat.le_refl _) (by omega), fun j a b => h j (by omega) (by omega)⟩
theorem lo_fc {α : Type} {f g : Nat → α → α} : ∀ d i a, (∀ j a, i ≤ j → j < i + d → f j a = g j a) → lo_f f d i a = lo_f g d i a
  | 0, _, _, _ => rfl
  | d + 1, i, a, h => by
    unfold lo_f
    rw [h i a (by omega) (by omega), lo_fc d (i + 1) _ (fun j a x y => h j a (by omega) (by omega))]
theorem lo_fI {α : Type} {f : Nat → α → α} {I : Nat → α → Prop} : ∀ d i a, (∀ j a, i ≤ j → j < i + d → I j a → I (j + 1) (f j a)) → I i a → I (i + d) (lo_f f d i a)
  | 0, _, _, _, h => h
  | d + 1, i, a, h, ha => by
    have := lo_fI (f := f) (I := I) d (i + 1) (f i a) (fun j a x y => h j a (by omega) (by omega)) (h i a (Nat.le_refl _) (by omega) ha)
    rw [show i + (d + 1) = i + 1 + d by omega]
    exact this
