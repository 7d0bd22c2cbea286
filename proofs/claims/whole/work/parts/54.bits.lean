/-! BITS of small whole numbers -/
theorem bvn (x : Nat) : (Int32.ofInt (x : Int)).toBitVec = BitVec.ofNat 32 x := by
  rw [Int32.ofInt_eq_ofNat]; rfl
theorem toI {v : Int32} {n : Nat} (h : v.toBitVec.toNat = n) (hn : n < 2147483648) : v.toInt = (n : Int) := by
  show v.toBitVec.toInt = _
  rw [BitVec.toInt_eq_toNat_of_lt (by omega), h]
theorem b_or {x y : Nat} (hx : x < 2 ^ 31) (hy : y < 2 ^ 31) : ior x y = ((x ||| y : Nat) : Int) := by
  unfold ior
  refine toI ?_ (Nat.or_lt_two_pow hx hy)
  rw [Int32.toBitVec_or, bvn, bvn, BitVec.toNat_or, BitVec.toNat_ofNat, BitVec.toNat_ofNat, Nat.mod_eq_of_lt (by omega), Nat.mod_eq_of_lt (by omega)]
theorem b_and {x y : Nat} (hx : x < 2 ^ 31) (hy : y < 2 ^ 31) : ian x y = ((x &&& y : Nat) : Int) := by
  unfold ian
  refine toI ?_ (Nat.and_lt_two_pow x hy)
  rw [Int32.toBitVec_and, bvn, bvn, BitVec.toNat_and, BitVec.toNat_ofNat, BitVec.toNat_ofNat, Nat.mod_eq_of_lt (by omega), Nat.mod_eq_of_lt (by omega)]
theorem b_andn {x y : Nat} (hx : x < 2 ^ 31) (hy : y < 2 ^ 31) : ian x (ixo y (-1)) = ((x ^^^ (x &&& y) : Nat) : Int) := by
  unfold ian ixo
  rw [Int32.ofInt_toInt]
  refine toI ?_ (Nat.xor_lt_two_pow hx (Nat.and_lt_two_pow x hy))
  have e : (Int32.ofInt (x : Int) &&& (Int32.ofInt (y : Int) ^^^ Int32.ofInt (-1))).toBitVec = (BitVec.ofNat 32 x) ^^^ ((BitVec.ofNat 32 x) &&& (BitVec.ofNat 32 y)) := by
    rw [Int32.toBitVec_and, Int32.toBitVec_xor, bvn, bvn]
    apply BitVec.eq_of_getLsbD_eq
    intro i hi
    rw [BitVec.getLsbD_and, BitVec.getLsbD_xor, BitVec.getLsbD_xor, BitVec.getLsbD_and, show (Int32.ofInt (-1)).toBitVec = BitVec.allOnes 32 from rfl, BitVec.getLsbD_allOnes, decide_eq_true hi]
    cases (BitVec.ofNat 32 x).getLsbD i <;> cases (BitVec.ofNat 32 y).getLsbD i <;> rfl
  rw [e, BitVec.toNat_xor, BitVec.toNat_and, BitVec.toNat_ofNat, BitVec.toNat_ofNat, Nat.mod_eq_of_lt (by omega), Nat.mod_eq_of_lt (by omega)]
theorem andn_bit (x y i : Nat) : (x ^^^ (x &&& y)).testBit i = (x.testBit i && !y.testBit i) := by
  rw [Nat.testBit_xor, Nat.testBit_and]
  cases x.testBit i <;> cases y.testBit i <;> rfl
theorem shl1 : ∀ b : Nat, b < 31 → ishl 1 b = ((2 ^ b : Nat) : Int) := by
  have h : ∀ b : Fin 31, ishl 1 (b.val : Int) = ((2 ^ b.val : Nat) : Int) := by decide +kernel
  exact fun b hb => h ⟨b, hb⟩
theorem sh31 : ∀ b : Nat, b < 31 → ((Int32.ofInt (b : Int) &&& 31).toBitVec.smod 32).toNat = b := by
  have h : ∀ b : Fin 31, ((Int32.ofInt (b.val : Int) &&& 31).toBitVec.smod 32).toNat = b.val := by decide +kernel
  exact fun b hb => h ⟨b, hb⟩
theorem nI_of' (x : Nat) : Int32.ofInt (x : Int) = nI x := Int32.ofInt_eq_ofNat
theorem b_shl {x b : Nat} (hb : b < 31) (h : x * 2 ^ b < 2 ^ 31) : ishl x b = ((x * 2 ^ b : Nat) : Int) := by
  unfold ishl
  rw [nI_of' x, pk_shlN _ b (sh31 b hb) (by omega)]
  exact nI_toInt h
theorem b_shr {x b : Nat} (hb : b < 31) (h : x < 2 ^ 31) : ishr x b = ((x / 2 ^ b : Nat) : Int) := by
  unfold ishr
  rw [nI_of' x, pk_shrN h _ b (sh31 b hb)]
  exact nI_toInt (Nat.lt_of_le_of_lt (Nat.div_le_self _ _) h)
theorem b_bit {x b : Nat} (hb : b < 31) (h : x < 2 ^ 31) : ian (ishr x b) 1 = if x.testBit b then 1 else 0 := by
  rw [b_shr hb h, show (1 : Int) = ((1 : Nat) : Int) from rfl, b_and (Nat.lt_of_le_of_lt (Nat.div_le_self _ _) h) (by decide), Nat.and_one_is_mod]
  rw [Nat.testBit_eq_decide_div_mod_eq]
  by_cases hq : x / 2 ^ b % 2 = 1
  · rw [hq]; simp
  · have : x / 2 ^ b % 2 = 0 := by omega
    rw [this]; simp
theorem pow_le10 {b : Nat} (h : b < 10) : 2 ^ b ≤ 512 := by
  have := Nat.pow_le_pow_right (n := 2) (by decide) (show b ≤ 9 by omega)
  omega
theorem bit_and_eq0 {x b : Nat} (h : x &&& 2 ^ b = 0) : x.testBit b = false := by
  have : (x &&& 2 ^ b).testBit b = false := by rw [h]; exact Nat.zero_testBit b
  rw [Nat.testBit_and, Nat.testBit_two_pow_self, Bool.and_true] at this
  exact this
theorem bit_and_iff {x b : Nat} : x &&& 2 ^ b = 0 ↔ x.testBit b = false := by
  refine ⟨bit_and_eq0, fun h => ?_⟩
  apply Nat.eq_of_testBit_eq
  intro i
  rw [Nat.testBit_and, Nat.testBit_two_pow, Nat.zero_testBit]
  by_cases hi : b = i
  · subst hi; rw [h]; rfl
  · simp [hi]
theorem bit_or {x b i : Nat} : (x ||| 2 ^ b).testBit i = (x.testBit i || decide (b = i)) := by
  rw [Nat.testBit_or, Nat.testBit_two_pow]
