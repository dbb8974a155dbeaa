/-! bits of a long -/
def b6 (x : Int64) (i : Nat) : Bool := x.toBitVec.getLsbD i
def b6z (a : Int) (i : Nat) : Bool := b6 (Int64.ofInt a) i
theorem b6_or (x y : Int64) (i : Nat) : b6 (x ||| y) i = (b6 x i || b6 y i) := by unfold b6; rw [Int64.toBitVec_or, BitVec.getLsbD_or]
theorem b6z_or (a b : Int) (i : Nat) : b6z (z_lor a b) i = (b6z a i || b6z b i) := by
  unfold b6z z_lor
  rw [Int64.ofInt_toInt, b6_or]
theorem b6z_0 : ∀ i, i < 64 → b6z 0 i = false := by decide +kernel
theorem b6z_1 : ∀ n, n < 64 → ∀ i, i < 64 → b6z (z_lshl 1 (n : Nat)) i = decide (i = n) := by decide +kernel
theorem b6_sh : ∀ n, n < 64 → ((((Int32.ofInt (n : Nat)).toInt64.toUInt64 &&& Int64.toUInt64 63)).toBitVec % 64).toNat = n := by decide +kernel
theorem b6_ushr (n : Nat) (hn : n < 64) (x : Int64) (i : Nat) : b6 ((x.toUInt64 >>> ((Int32.ofInt (n : Nat)).toInt64.toUInt64 &&& Int64.toUInt64 63)).toInt64) i = b6 x (n + i) := by
  show (x.toUInt64 >>> ((Int32.ofInt (n : Nat)).toInt64.toUInt64 &&& Int64.toUInt64 63)).toBitVec.getLsbD i = x.toUInt64.toBitVec.getLsbD (n + i)
  rw [UInt64.toBitVec_shiftRight]
  show (x.toUInt64.toBitVec >>> (((Int32.ofInt (n : Nat)).toInt64.toUInt64 &&& Int64.toUInt64 63).toBitVec % 64).toNat).getLsbD i = _
  rw [b6_sh n hn, BitVec.getLsbD_ushiftRight]
theorem b6_ext {x y : Int64} (h : ∀ i, i < 64 → b6 x i = b6 y i) : x = y := Int64.toBitVec_inj.mp (BitVec.eq_of_getLsbD_eq (fun i hi => h i hi))
theorem b6_and (x y : Int64) (i : Nat) : b6 (x &&& y) i = (b6 x i && b6 y i) := by unfold b6; rw [Int64.toBitVec_and, BitVec.getLsbD_and]
theorem b6_one : ∀ i, i < 64 → b6 (Int64.ofInt 1) i = decide (i = 0) := by decide +kernel
theorem b6_zero : ∀ i, i < 64 → b6 (Int64.ofInt 0) i = false := by decide +kernel
/-- the bit at n, asked by a shift -/
theorem b6z_tst (b : Int) (n : Nat) (hn : n < 64) : z_land (z_lush b (n : Nat)) 1 = if b6z b n = true then 1 else 0 := by
  unfold z_land z_lush
  rw [Int64.ofInt_toInt]
  have e : (((Int64.ofInt b).toUInt64 >>> ((Int32.ofInt (n : Nat)).toInt64.toUInt64 &&& Int64.toUInt64 63)).toInt64 &&& Int64.ofInt 1) = if b6z b n = true then Int64.ofInt 1 else Int64.ofInt 0 := by
    apply b6_ext
    intro i hi
    rw [b6_and, b6_ushr n hn, b6_one i hi]
    by_cases c : i = 0
    · subst c
      rw [Nat.add_zero]
      by_cases q : b6z b n = true
      · rw [if_pos q, b6_one 0 (by omega)]
        unfold b6z at q
        rw [q]; rfl
      · rw [if_neg q, b6_zero 0 (by omega)]
        unfold b6z at q
        rw [Bool.not_eq_true] at q
        rw [q]; rfl
    · rw [decide_eq_false c, Bool.and_false]
      split
      · rw [b6_one i hi, decide_eq_false c]
      · rw [b6_zero i hi]
  rw [e]
  split
  · decide
  · decide
