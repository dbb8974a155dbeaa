/-! how many bits a long has -/
def n64 (a : Int) : Nat := (Int64.ofInt a).toBitVec.toNat
theorem n64_lt (a : Int) : n64 a < 2 ^ 64 := (Int64.ofInt a).toBitVec.isLt
theorem n64_add (a b : Int) : n64 (z_ladd a b) = (n64 a + n64 b) % 2 ^ 64 := by
  unfold n64 z_ladd
  rw [Int64.ofInt_toInt, Int64.toBitVec_add, BitVec.toNat_add]
theorem n64_sub (a b : Int) : n64 (z_lsub a b) = (2 ^ 64 - n64 b + n64 a) % 2 ^ 64 := by
  unfold n64 z_lsub
  rw [Int64.ofInt_toInt, Int64.toBitVec_sub, BitVec.toNat_sub]
theorem n64_and (a b : Int) : n64 (z_land a b) = n64 a &&& n64 b := by
  unfold n64 z_land
  rw [Int64.ofInt_toInt, Int64.toBitVec_and, BitVec.toNat_and]
theorem n64_ush (a : Int) (n : Nat) (hn : n < 64) : n64 (z_lush a (n : Nat)) = n64 a / 2 ^ n := by
  unfold n64 z_lush
  rw [Int64.ofInt_toInt]
  show ((Int64.ofInt a).toUInt64 >>> ((Int32.ofInt (n : Nat)).toInt64.toUInt64 &&& Int64.toUInt64 63)).toBitVec.toNat = _
  rw [UInt64.toBitVec_shiftRight]
  show ((Int64.ofInt a).toUInt64.toBitVec >>> (((Int32.ofInt (n : Nat)).toInt64.toUInt64 &&& Int64.toUInt64 63).toBitVec % 64).toNat).toNat = _
  rw [b6_sh n hn, BitVec.toNat_ushiftRight, Nat.shiftRight_eq_div_pow]
  rfl
theorem n64_c5 : n64 6148914691236517205 = 6148914691236517205 := by decide +kernel
theorem n64_c3 : n64 3689348814741910323 = 3689348814741910323 := by decide +kernel
theorem n64_cf : n64 1085102592571150095 = 1085102592571150095 := by decide +kernel
theorem n64_out (a : Int) : z_and (z_l2i a) 127 = ((n64 a % 128 : Nat) : Int) := by
  unfold z_and z_l2i n64
  rw [Int32.ofInt_toInt]
  show ((Int64.ofInt a).toInt32 &&& Int32.ofInt 127).toBitVec.toInt = _
  rw [Int32.toBitVec_and, Int64.toBitVec_toInt32, BitVec.signExtend_eq_setWidth_of_le _ (by decide)]
  have e : ((Int64.ofInt a).toBitVec.setWidth 32 &&& (Int32.ofInt 127).toBitVec).toNat = (Int64.ofInt a).toBitVec.toNat % 128 := by
    rw [BitVec.toNat_and, BitVec.toNat_setWidth, show (Int32.ofInt 127).toBitVec.toNat = 2 ^ 7 - 1 by decide, Nat.and_two_pow_sub_one_eq_mod]
    omega
  rw [BitVec.toInt_eq_toNat_of_lt (by rw [e]; omega), e]
theorem nd_and {b y m z : Nat} (hb : b < 256) (hm : m < 256) : (b + 256 * y) &&& (m + 256 * z) = (b &&& m) + 256 * (y &&& z) := by
  have h1 : ((b + 256 * y) &&& (m + 256 * z)) % 2 ^ 8 = b &&& m := by
    rw [Nat.and_mod_two_pow, show (b + 256 * y) % 2 ^ 8 = b by omega, show (m + 256 * z) % 2 ^ 8 = m by omega]
  have h2 : ((b + 256 * y) &&& (m + 256 * z)) / 2 ^ 8 = y &&& z := by
    rw [Nat.and_div_two_pow, show (b + 256 * y) / 2 ^ 8 = y by omega, show (m + 256 * z) / 2 ^ 8 = z by omega]
  omega
def p8G (b : Nat) : Nat := b - (b / 2 &&& 85)
def p8E (b : Nat) : Nat := (p8G b &&& 51) + (p8G b / 4 &&& 51)
def p8 (b : Nat) : Nat := b % 2 + b / 2 % 2 + b / 4 % 2 + b / 8 % 2 + b / 16 % 2 + b / 32 % 2 + b / 64 % 2 + b / 128 % 2
theorem p8_1 : ∀ b, b < 256 → ∀ t, t < 2 → (b / 2 + 128 * t) &&& 85 = b / 2 &&& 85 := by decide +kernel
theorem p8_2 : ∀ b, b < 256 → (b / 2 &&& 85) ≤ b := by decide +kernel
theorem p8_3 : ∀ d, d < 256 → ∀ t, t < 4 → (d / 4 + 64 * t) &&& 51 = d / 4 &&& 51 := by decide +kernel
theorem p8_4 : ∀ b, b < 256 → p8E b ≤ 68 ∧ p8E b % 16 ≤ 4 ∧ (p8E b + p8E b / 16) % 16 = p8 b ∧ p8 b ≤ 8 := by decide +kernel
abbrev n8 (b0 b1 b2 b3 b4 b5 b6 b7 : Nat) : Nat := b0 + 256 * (b1 + 256 * (b2 + 256 * (b3 + 256 * (b4 + 256 * (b5 + 256 * (b6 + 256 * b7))))))
theorem n8_and {b0 b1 b2 b3 b4 b5 b6 b7 m : Nat} (h0 : b0 < 256) (h1 : b1 < 256) (h2 : b2 < 256) (h3 : b3 < 256) (h4 : b4 < 256) (h5 : b5 < 256) (h6 : b6 < 256) (h7 : b7 < 256) (hm : m < 256) : n8 b0 b1 b2 b3 b4 b5 b6 b7 &&& n8 m m m m m m m m = n8 (b0 &&& m) (b1 &&& m) (b2 &&& m) (b3 &&& m) (b4 &&& m) (b5 &&& m) (b6 &&& m) (b7 &&& m) := by
  unfold n8
  rw [nd_and h0 hm, nd_and h1 hm, nd_and h2 hm, nd_and h3 hm, nd_and h4 hm, nd_and h5 hm, nd_and h6 hm]
theorem p8_s1 {b0 b1 b2 b3 b4 b5 b6 b7 : Nat} (h0 : b0 < 256) (h1 : b1 < 256) (h2 : b2 < 256) (h3 : b3 < 256) (h4 : b4 < 256) (h5 : b5 < 256) (h6 : b6 < 256) (h7 : b7 < 256) : (2 ^ 64 - (n8 b0 b1 b2 b3 b4 b5 b6 b7 / 2 &&& 6148914691236517205) + n8 b0 b1 b2 b3 b4 b5 b6 b7) % 2 ^ 64 = n8 (p8G b0) (p8G b1) (p8G b2) (p8G b3) (p8G b4) (p8G b5) (p8G b6) (p8G b7) := by
  have e : n8 b0 b1 b2 b3 b4 b5 b6 b7 / 2 = n8 (b0 / 2 + 128 * (b1 % 2)) (b1 / 2 + 128 * (b2 % 2)) (b2 / 2 + 128 * (b3 % 2)) (b3 / 2 + 128 * (b4 % 2)) (b4 / 2 + 128 * (b5 % 2)) (b5 / 2 + 128 * (b6 % 2)) (b6 / 2 + 128 * (b7 % 2)) (b7 / 2 + 128 * 0) := by unfold n8; omega
  rw [e, show (6148914691236517205 : Nat) = n8 85 85 85 85 85 85 85 85 by decide, n8_and (by omega) (by omega) (by omega) (by omega) (by omega) (by omega) (by omega) (by omega) (by omega), p8_1 b0 h0 _ (by omega), p8_1 b1 h1 _ (by omega), p8_1 b2 h2 _ (by omega), p8_1 b3 h3 _ (by omega), p8_1 b4 h4 _ (by omega), p8_1 b5 h5 _ (by omega), p8_1 b6 h6 _ (by omega), p8_1 b7 h7 _ (by omega)]
  have q0 := p8_2 b0 h0
  have q1 := p8_2 b1 h1
  have q2 := p8_2 b2 h2
  have q3 := p8_2 b3 h3
  have q4 := p8_2 b4 h4
  have q5 := p8_2 b5 h5
  have q6 := p8_2 b6 h6
  have q7 := p8_2 b7 h7
  unfold p8G n8
  generalize b0 / 2 &&& 85 = s0 at *
  generalize b1 / 2 &&& 85 = s1 at *
  generalize b2 / 2 &&& 85 = s2 at *
  generalize b3 / 2 &&& 85 = s3 at *
  generalize b4 / 2 &&& 85 = s4 at *
  generalize b5 / 2 &&& 85 = s5 at *
  generalize b6 / 2 &&& 85 = s6 at *
  generalize b7 / 2 &&& 85 = s7 at *
  clear e
  omega
theorem p8_and {a m n : Nat} (hm : m < 2 ^ n) : a &&& m < 2 ^ n := Nat.and_lt_two_pow a hm
theorem p8_s2 {d0 d1 d2 d3 d4 d5 d6 d7 : Nat} (h0 : d0 < 256) (h1 : d1 < 256) (h2 : d2 < 256) (h3 : d3 < 256) (h4 : d4 < 256) (h5 : d5 < 256) (h6 : d6 < 256) (h7 : d7 < 256) : ((n8 d0 d1 d2 d3 d4 d5 d6 d7 &&& 3689348814741910323) + (n8 d0 d1 d2 d3 d4 d5 d6 d7 / 4 &&& 3689348814741910323)) % 2 ^ 64 = n8 ((d0 &&& 51) + (d0 / 4 &&& 51)) ((d1 &&& 51) + (d1 / 4 &&& 51)) ((d2 &&& 51) + (d2 / 4 &&& 51)) ((d3 &&& 51) + (d3 / 4 &&& 51)) ((d4 &&& 51) + (d4 / 4 &&& 51)) ((d5 &&& 51) + (d5 / 4 &&& 51)) ((d6 &&& 51) + (d6 / 4 &&& 51)) ((d7 &&& 51) + (d7 / 4 &&& 51)) := by
  have e : n8 d0 d1 d2 d3 d4 d5 d6 d7 / 4 = n8 (d0 / 4 + 64 * (d1 % 4)) (d1 / 4 + 64 * (d2 % 4)) (d2 / 4 + 64 * (d3 % 4)) (d3 / 4 + 64 * (d4 % 4)) (d4 / 4 + 64 * (d5 % 4)) (d5 / 4 + 64 * (d6 % 4)) (d6 / 4 + 64 * (d7 % 4)) (d7 / 4 + 64 * 0) := by unfold n8; omega
  rw [e, show (3689348814741910323 : Nat) = n8 51 51 51 51 51 51 51 51 by decide, n8_and h0 h1 h2 h3 h4 h5 h6 h7 (by omega), n8_and (by omega) (by omega) (by omega) (by omega) (by omega) (by omega) (by omega) (by omega) (by omega), p8_3 d0 h0 _ (by omega), p8_3 d1 h1 _ (by omega), p8_3 d2 h2 _ (by omega), p8_3 d3 h3 _ (by omega), p8_3 d4 h4 _ (by omega), p8_3 d5 h5 _ (by omega), p8_3 d6 h6 _ (by omega), p8_3 d7 h7 _ (by omega)]
  have m : ∀ a : Nat, a &&& 51 < 64 := fun a => p8_and (n := 6) (by decide)
  have q0 := m d0
  have q1 := m d1
  have q2 := m d2
  have q3 := m d3
  have q4 := m d4
  have q5 := m d5
  have q6 := m d6
  have q7 := m d7
  have r0 := m (d0 / 4)
  have r1 := m (d1 / 4)
  have r2 := m (d2 / 4)
  have r3 := m (d3 / 4)
  have r4 := m (d4 / 4)
  have r5 := m (d5 / 4)
  have r6 := m (d6 / 4)
  have r7 := m (d7 / 4)
  unfold n8
  clear e m
  omega
theorem p8_s3 {e0 e1 e2 e3 e4 e5 e6 e7 : Nat} (h0 : e0 ≤ 68 ∧ e0 % 16 ≤ 4) (h1 : e1 ≤ 68 ∧ e1 % 16 ≤ 4) (h2 : e2 ≤ 68 ∧ e2 % 16 ≤ 4) (h3 : e3 ≤ 68 ∧ e3 % 16 ≤ 4) (h4 : e4 ≤ 68 ∧ e4 % 16 ≤ 4) (h5 : e5 ≤ 68 ∧ e5 % 16 ≤ 4) (h6 : e6 ≤ 68 ∧ e6 % 16 ≤ 4) (h7 : e7 ≤ 68 ∧ e7 % 16 ≤ 4) : ((n8 e0 e1 e2 e3 e4 e5 e6 e7 + n8 e0 e1 e2 e3 e4 e5 e6 e7 / 16) % 2 ^ 64 &&& 1085102592571150095) = n8 ((e0 + e0 / 16) % 16) ((e1 + e1 / 16) % 16) ((e2 + e2 / 16) % 16) ((e3 + e3 / 16) % 16) ((e4 + e4 / 16) % 16) ((e5 + e5 / 16) % 16) ((e6 + e6 / 16) % 16) ((e7 + e7 / 16) % 16) := by
  have e : (n8 e0 e1 e2 e3 e4 e5 e6 e7 + n8 e0 e1 e2 e3 e4 e5 e6 e7 / 16) % 2 ^ 64 = n8 (e0 + e0 / 16 + 16 * (e1 % 16)) (e1 + e1 / 16 + 16 * (e2 % 16)) (e2 + e2 / 16 + 16 * (e3 % 16)) (e3 + e3 / 16 + 16 * (e4 % 16)) (e4 + e4 / 16 + 16 * (e5 % 16)) (e5 + e5 / 16 + 16 * (e6 % 16)) (e6 + e6 / 16 + 16 * (e7 % 16)) (e7 + e7 / 16 + 16 * 0) := by unfold n8; omega
  have m : ∀ a t : Nat, (a + 16 * t) &&& 15 = a % 16 := fun a t => by
    rw [show (15 : Nat) = 2 ^ 4 - 1 by decide, Nat.and_two_pow_sub_one_eq_mod]
    omega
  rw [e, show (1085102592571150095 : Nat) = n8 15 15 15 15 15 15 15 15 by decide, n8_and (by omega) (by omega) (by omega) (by omega) (by omega) (by omega) (by omega) (by omega) (by omega), m, m, m, m, m, m, m, m]
theorem p8_s4 {p0 p1 p2 p3 p4 p5 p6 p7 y3 y4 y5 y6 : Nat} (h0 : p0 ≤ 8) (h1 : p1 ≤ 8) (h2 : p2 ≤ 8) (h3 : p3 ≤ 8) (h4 : p4 ≤ 8) (h5 : p5 ≤ 8) (h6 : p6 ≤ 8) (h7 : p7 ≤ 8) (e3 : y3 = n8 p0 p1 p2 p3 p4 p5 p6 p7) (e4 : y4 = (y3 + y3 / 2 ^ 8) % 2 ^ 64) (e5 : y5 = (y4 + y4 / 2 ^ 16) % 2 ^ 64) (e6 : y6 = (y5 + y5 / 2 ^ 32) % 2 ^ 64) : y6 % 128 = p0 + p1 + p2 + p3 + p4 + p5 + p6 + p7 := by
  have f3 : y3 / 2 ^ 8 = n8 p1 p2 p3 p4 p5 p6 p7 0 := by rw [e3]; unfold n8; omega
  have f4 : y4 = n8 (p0 + p1) (p1 + p2) (p2 + p3) (p3 + p4) (p4 + p5) (p5 + p6) (p6 + p7) p7 := by rw [e4, f3, e3]; unfold n8; omega
  have g4 : y4 / 2 ^ 16 = n8 (p2 + p3) (p3 + p4) (p4 + p5) (p5 + p6) (p6 + p7) p7 0 0 := by rw [f4]; unfold n8; omega
  have f5 : y5 = n8 (p0 + p1 + (p2 + p3)) (p1 + p2 + (p3 + p4)) (p2 + p3 + (p4 + p5)) (p3 + p4 + (p5 + p6)) (p4 + p5 + (p6 + p7)) (p5 + p6 + p7) (p6 + p7) p7 := by rw [e5, g4, f4]; unfold n8; omega
  have g5 : y5 / 2 ^ 32 = n8 (p4 + p5 + (p6 + p7)) (p5 + p6 + p7) (p6 + p7) p7 0 0 0 0 := by rw [f5]; unfold n8; omega
  rw [e6, g5, f5]
  unfold n8
  omega
/-- bits of a number from s on -/
def nbt (n : Nat) : Nat → Nat → Nat
  | 0, _ => 0
  | m + 1, s => n / 2 ^ s % 2 + nbt n m (s + 1)
theorem nbt_add (n : Nat) : ∀ (a b s : Nat), nbt n (a + b) s = nbt n a s + nbt n b (s + a) := by
  intro a
  induction a with
  | zero => intro b s; rw [Nat.zero_add, nbt, Nat.zero_add, Nat.add_zero]
  | succ a ih =>
    intro b s
    rw [show a + 1 + b = (a + b) + 1 by omega, nbt, nbt, ih b (s + 1), show s + 1 + a = s + (a + 1) by omega]
    omega
theorem nbt_8 (n s : Nat) : nbt n 8 s = p8 (n / 2 ^ s % 256) := by
  have d : ∀ j, n / 2 ^ (s + j) = n / 2 ^ s / 2 ^ j := fun j => by rw [Nat.pow_add, Nat.div_div_eq_div_mul]
  simp only [nbt]
  rw [show s + 1 + 1 = s + 2 by omega, show s + 2 + 1 = s + 3 by omega, show s + 3 + 1 = s + 4 by omega, show s + 4 + 1 = s + 5 by omega, show s + 5 + 1 = s + 6 by omega, show s + 6 + 1 = s + 7 by omega, d 1, d 2, d 3, d 4, d 5, d 6, d 7]
  unfold p8
  generalize n / 2 ^ s = N
  omega
theorem nbt_ct {P : Int → Bool} {n : Nat} : ∀ (m s : Nat), (∀ x : Nat, s ≤ x → x < s + m → n / 2 ^ x % 2 = if P x = true then 1 else 0) → pu_ct P m s = (nbt n m s : Nat) := by
  intro m
  induction m with
  | zero => intro s _; rfl
  | succ m ih =>
    intro s h
    have h0 := h s (Nat.le_refl _) (by omega)
    have h1 := ih (s + 1) (fun x a b => h x (by omega) (by omega))
    rw [pu_ct, nbt, show (s : Int) + 1 = ((s + 1 : Nat) : Int) by omega, h1, h0]
    split <;> omega
theorem pop_main (a x1 x2 x3 x4 x5 x6 : Int) (e1 : x1 = z_lsub a (z_land (z_lush a 1) 6148914691236517205)) (e2 : x2 = z_ladd (z_land x1 3689348814741910323) (z_land (z_lush x1 2) 3689348814741910323)) (e3 : x3 = z_land (z_ladd x2 (z_lush x2 4)) 1085102592571150095) (e4 : x4 = z_ladd x3 (z_lush x3 8)) (e5 : x5 = z_ladd x4 (z_lush x4 16)) (e6 : x6 = z_ladd x5 (z_lush x5 32)) : n64 x6 % 128 = nbt (n64 a) 64 0 := by
  have hl := n64_lt a
  have u : ∀ y : Int, ∀ n : Nat, n < 64 → n64 (z_lush y (n : Nat)) = n64 y / 2 ^ n := n64_ush
  have u1 := u a 1 (by omega)
  have u2 := u x1 2 (by omega)
  have u4 := u x2 4 (by omega)
  have u8 := u x3 8 (by omega)
  have u16 := u x4 16 (by omega)
  have u32 := u x5 32 (by omega)
  generalize hb0 : n64 a % 256 = b0
  generalize hb1 : n64 a / 2 ^ 8 % 256 = b1
  generalize hb2 : n64 a / 2 ^ 16 % 256 = b2
  generalize hb3 : n64 a / 2 ^ 24 % 256 = b3
  generalize hb4 : n64 a / 2 ^ 32 % 256 = b4
  generalize hb5 : n64 a / 2 ^ 40 % 256 = b5
  generalize hb6 : n64 a / 2 ^ 48 % 256 = b6'
  generalize hb7 : n64 a / 2 ^ 56 % 256 = b7
  have hx : n64 a = n8 b0 b1 b2 b3 b4 b5 b6' b7 := by unfold n8; omega
  have l0 : b0 < 256 := by omega
  have l1 : b1 < 256 := by omega
  have l2 : b2 < 256 := by omega
  have l3 : b3 < 256 := by omega
  have l4 : b4 < 256 := by omega
  have l5 : b5 < 256 := by omega
  have l6 : b6' < 256 := by omega
  have l7 : b7 < 256 := by omega
  have nb : nbt (n64 a) 64 0 = p8 b0 + p8 b1 + p8 b2 + p8 b3 + p8 b4 + p8 b5 + p8 b6' + p8 b7 := by
    rw [show 64 = 8 + (8 + (8 + (8 + (8 + (8 + (8 + 8)))))) by decide, nbt_add, nbt_add, nbt_add, nbt_add, nbt_add, nbt_add, nbt_add]
    simp only [nbt_8, Nat.zero_add, Nat.reduceAdd]
    rw [show n64 a / 2 ^ 0 % 256 = b0 by rw [Nat.pow_zero, Nat.div_one]; exact hb0, hb1, hb2, hb3, hb4, hb5, hb6, hb7]
    omega
  have g : ∀ b, b < 256 → p8G b < 256 := fun b h => by unfold p8G; omega
  have s1 : n64 x1 = n8 (p8G b0) (p8G b1) (p8G b2) (p8G b3) (p8G b4) (p8G b5) (p8G b6') (p8G b7) := by
    rw [e1, n64_sub, n64_and, n64_c5, show (1 : Int) = ((1 : Nat) : Int) from rfl, u1, hx, Nat.pow_one]
    exact p8_s1 l0 l1 l2 l3 l4 l5 l6 l7
  have s2 : n64 x2 = n8 (p8E b0) (p8E b1) (p8E b2) (p8E b3) (p8E b4) (p8E b5) (p8E b6') (p8E b7) := by
    rw [e2, n64_add, n64_and, n64_and, n64_c3, show (2 : Int) = ((2 : Nat) : Int) from rfl, u2, s1]
    exact p8_s2 (g _ l0) (g _ l1) (g _ l2) (g _ l3) (g _ l4) (g _ l5) (g _ l6) (g _ l7)
  have t0 := p8_4 b0 l0
  have t1 := p8_4 b1 l1
  have t2 := p8_4 b2 l2
  have t3 := p8_4 b3 l3
  have t4 := p8_4 b4 l4
  have t5 := p8_4 b5 l5
  have t6 := p8_4 b6' l6
  have t7 := p8_4 b7 l7
  have s3 : n64 x3 = n8 (p8 b0) (p8 b1) (p8 b2) (p8 b3) (p8 b4) (p8 b5) (p8 b6') (p8 b7) := by
    rw [e3, n64_and, n64_add, n64_cf, show (4 : Int) = ((4 : Nat) : Int) from rfl, u4, s2]
    have := p8_s3 ⟨t0.1, t0.2.1⟩ ⟨t1.1, t1.2.1⟩ ⟨t2.1, t2.2.1⟩ ⟨t3.1, t3.2.1⟩ ⟨t4.1, t4.2.1⟩ ⟨t5.1, t5.2.1⟩ ⟨t6.1, t6.2.1⟩ ⟨t7.1, t7.2.1⟩
    rw [t0.2.2.1, t1.2.2.1, t2.2.2.1, t3.2.2.1, t4.2.2.1, t5.2.2.1, t6.2.2.1, t7.2.2.1] at this
    exact this
  rw [nb]
  refine p8_s4 t0.2.2.2 t1.2.2.2 t2.2.2.2 t3.2.2.2 t4.2.2.2 t5.2.2.2 t6.2.2.2 t7.2.2.2 s3 ?_ ?_ ?_ (y4 := n64 x4) (y5 := n64 x5)
  · rw [e4, n64_add, show (8 : Int) = ((8 : Nat) : Int) from rfl, u8]
  · rw [e5, n64_add, show (16 : Int) = ((16 : Nat) : Int) from rfl, u16]
  · rw [e6, n64_add, show (32 : Int) = ((32 : Nat) : Int) from rfl, u32]
theorem b6z_n (a : Int) (x : Nat) : n64 a / 2 ^ x % 2 = if b6z a x = true then 1 else 0 := by
  unfold b6z b6 n64
  rw [← BitVec.testBit_toNat, Nat.testBit_eq_decide_div_mod_eq]
  split
  · rename_i h
    exact of_decide_eq_true h
  · rename_i h
    have := of_decide_eq_false (Bool.not_eq_true _ ▸ h)
    omega
theorem pop_ct {a : Int} {P : Int → Bool} (h : z_bsE a P) : (nbt (n64 a) 64 0 : Nat) = pu_N P 64 := by
  refine (nbt_ct 64 0 (fun x _ hx => ?_)).symm
  rw [b6z_n, h x (by omega)]
theorem ex_bitCountL {d u w} {Q : z_P} (a : Int) {P : Int → Bool} (h : z_bsE a P) (k : Q (some (z_i (pu_N P 64))) w) : z_G d u 295 0 [z_l a, z_x] [] w Q := by
  rw [← pop_ct h, ← pop_main a _ _ _ _ _ _ rfl rfl rfl rfl rfl rfl, ← n64_out] at k
  (repeat' (first | (simp (discharger := omega) only [z_add_eq, z_sub_eq, z_mul_eq]) | (with_reducible refine And.intro ?_ ?_) | (with_reducible intro _) | (exact k) | (simp only [g295_0, g295_1, g295_2, g295_3, g295_4, g295_7, g295_8, g295_9, g295_10, g295_11, g295_14, g295_15, g295_16, g295_17, g295_18, g295_21, g295_22, g295_23, g295_24, g295_25, g295_26, g295_27, g295_28, g295_29, g295_32, g295_33, g295_34, g295_35, g295_36, g295_38, g295_39, g295_40, g295_41, g295_42, g295_43, g295_45, g295_46, g295_47, g295_48, g295_49, g295_50, g295_52, g295_53, g295_54, g295_55, g295_56, g295_57, g295_59, g295_60 (st := []), z_kl_i, z_kl_l, z_kl_r, z_kl_n, z_kl_x, z_kl_vr, z_c8_0, z_c8_i, z_c8_l, z_c8_r, z_c8_vr, z_c8_n, z_vr_some, z_vr_none, Option.toList_some, Option.toList_none, List.cons_append, List.nil_append, true_and, and_true, and_self, z_k_sI, z_len_sI, z_R_sI, z_N_sI, z_set_0, z_set_1, z_set_s, eq_self, true_implies, false_implies, not_true_eq_false, not_false_eq_true, ne_eq, true_or, or_true, false_or, or_false, false_and, and_false, Int.reduceNeg, Int.reduceEq, Int.reduceNe, Int.reduceLT, Int.reduceLE, Nat.reduceLeDiff, Nat.reduceEqDiff, Nat.reduceSub, Nat.reduceAdd, reduceCtorEq, reduceIte, implies_true, List.reverse_nil]) | omega))
theorem ex_slabCount12 {d u w} {Q : z_P} (hl : z_lay w) (hv : pu_ok (pu_vC (z_I w 13))) (k : Q (some (z_i (sl_n (pu_vC (z_I w 13))))) w) : z_G (d + 2) u 45 0 [z_r 12] [] w Q := by
  have nb := sl_n_bd (pu_vC (z_I w 13))
  have n0 := pu_N_bd (P := en_P (pu_vC (z_I w 13))) (x := 64) (by omega)
  simp only [g45_0, g45_1, g45_1r, g45_2, g45_5, g45_8, g45_9, g45_10, g45_13 (st := []), z_kl_i, z_kl_l, z_kl_r, z_kl_n, z_kl_x, z_kl_vr, z_c8_0, z_c8_i, z_c8_l, z_c8_r, z_c8_vr, z_c8_n, z_vr_some, z_vr_none, Option.toList_some, Option.toList_none, List.cons_append, List.nil_append, true_and, and_true, and_self, z_k_sI, z_len_sI, z_R_sI, z_N_sI, z_set_0, z_set_1, z_set_s, eq_self, true_implies, false_implies, not_true_eq_false, not_false_eq_true, ne_eq, true_or, or_true, false_or, or_false, false_and, and_false, Int.reduceNeg, Int.reduceEq, Int.reduceNe, Int.reduceLT, Int.reduceLE, Nat.reduceLeDiff, Nat.reduceEqDiff, Nat.reduceSub, Nat.reduceAdd, reduceCtorEq, reduceIte, implies_true, List.reverse_nil, lk1 hl, ll1 hl, lk2 hl, lr2_0 hl, lr2_1 hl, lr2_2 hl, lr2_3 hl, lr2_6 hl, lr2_7 hl, lr2_8 hl, lr2_9 hl, lr2_10 hl, lr2_11 hl, lr2_13 hl, lr2_14 hl, lr2_15 hl, lr2_16 hl, lr2_17 hl, lr2_18 hl, lk3 hl, lr3_0 hl, lk4 hl, ll4 hl, lk5 hl, lr5_0 hl, lr5_2 hl, lr5_3 hl, lr5_4 hl, lk6 hl, ll6 hl, lk7 hl, ll7 hl, lk8 hl, lr8_0 hl, lk9 hl, ll9 hl, lk10 hl, ll10 hl, lk11 hl, ll11 hl, lk12 hl, lr12_0 hl, lk13 hl, ll13 hl, lk14 hl, lr14_2 hl, lr14_3 hl, lr14_4 hl, lr14_5 hl, lr14_6 hl, lr14_7 hl, lr14_9 hl, lr14_10 hl, lk15 hl, ll15 hl, lk16 hl, ll16 hl, lk17 hl, ll17 hl, lk18 hl, ll18 hl, lk19 hl, ll19 hl, lk20 hl, ll20 hl, lk21 hl, ll21 hl, lk22 hl, lr22_0 hl, lk23 hl, ll23 hl, lk24 hl, lr24_2 hl, lr24_3 hl, lr24_4 hl, lr24_5 hl, lr24_6 hl, lr24_7 hl, lr24_9 hl, lr24_10 hl, lk25 hl, ll25 hl, lk26 hl, ll26 hl, lk27 hl, ll27 hl, lk28 hl, ll28 hl, lk29 hl, ll29 hl, lk30 hl, ll30 hl, lk31 hl, ll31 hl, lk32 hl, lr32_1 hl, lk33 hl, ll33 hl, lk34 hl, lr34_0 hl, lk35 hl, ll35 hl, lk36 hl, lr36_0 hl, lk37 hl, ll37 hl, lk38 hl, lr38_0 hl, lk39 hl, ll39 hl, lk40 hl, ll40 hl, lk41 hl, lk42 hl, lr42_0 hl, lr42_1 hl, lr42_2 hl, lr42_3 hl, lk43 hl, ll43 hl, lk44 hl, ll44 hl, lk45 hl, ll45 hl, lk46 hl, ll46 hl, lk47 hl, lr47_1 hl, lk48 hl, ll48 hl]
  refine xs_bits14 hl hv (fun b hb => ?_)
  simp only [g45_0, g45_1, g45_1r, g45_2, g45_5, g45_8, g45_9, g45_10, g45_13 (st := []), z_kl_i, z_kl_l, z_kl_r, z_kl_n, z_kl_x, z_kl_vr, z_c8_0, z_c8_i, z_c8_l, z_c8_r, z_c8_vr, z_c8_n, z_vr_some, z_vr_none, Option.toList_some, Option.toList_none, List.cons_append, List.nil_append, true_and, and_true, and_self, z_k_sI, z_len_sI, z_R_sI, z_N_sI, z_set_0, z_set_1, z_set_s, eq_self, true_implies, false_implies, not_true_eq_false, not_false_eq_true, ne_eq, true_or, or_true, false_or, or_false, false_and, and_false, Int.reduceNeg, Int.reduceEq, Int.reduceNe, Int.reduceLT, Int.reduceLE, Nat.reduceLeDiff, Nat.reduceEqDiff, Nat.reduceSub, Nat.reduceAdd, reduceCtorEq, reduceIte, implies_true, List.reverse_nil, lk1 hl, ll1 hl, lk2 hl, lr2_0 hl, lr2_1 hl, lr2_2 hl, lr2_3 hl, lr2_6 hl, lr2_7 hl, lr2_8 hl, lr2_9 hl, lr2_10 hl, lr2_11 hl, lr2_13 hl, lr2_14 hl, lr2_15 hl, lr2_16 hl, lr2_17 hl, lr2_18 hl, lk3 hl, lr3_0 hl, lk4 hl, ll4 hl, lk5 hl, lr5_0 hl, lr5_2 hl, lr5_3 hl, lr5_4 hl, lk6 hl, ll6 hl, lk7 hl, ll7 hl, lk8 hl, lr8_0 hl, lk9 hl, ll9 hl, lk10 hl, ll10 hl, lk11 hl, ll11 hl, lk12 hl, lr12_0 hl, lk13 hl, ll13 hl, lk14 hl, lr14_2 hl, lr14_3 hl, lr14_4 hl, lr14_5 hl, lr14_6 hl, lr14_7 hl, lr14_9 hl, lr14_10 hl, lk15 hl, ll15 hl, lk16 hl, ll16 hl, lk17 hl, ll17 hl, lk18 hl, ll18 hl, lk19 hl, ll19 hl, lk20 hl, ll20 hl, lk21 hl, ll21 hl, lk22 hl, lr22_0 hl, lk23 hl, ll23 hl, lk24 hl, lr24_2 hl, lr24_3 hl, lr24_4 hl, lr24_5 hl, lr24_6 hl, lr24_7 hl, lr24_9 hl, lr24_10 hl, lk25 hl, ll25 hl, lk26 hl, ll26 hl, lk27 hl, ll27 hl, lk28 hl, ll28 hl, lk29 hl, ll29 hl, lk30 hl, ll30 hl, lk31 hl, ll31 hl, lk32 hl, lr32_1 hl, lk33 hl, ll33 hl, lk34 hl, lr34_0 hl, lk35 hl, ll35 hl, lk36 hl, lr36_0 hl, lk37 hl, ll37 hl, lk38 hl, lr38_0 hl, lk39 hl, ll39 hl, lk40 hl, ll40 hl, lk41 hl, lk42 hl, lr42_0 hl, lr42_1 hl, lr42_2 hl, lr42_3 hl, lk43 hl, ll43 hl, lk44 hl, ll44 hl, lk45 hl, ll45 hl, lk46 hl, ll46 hl, lk47 hl, lr47_1 hl, lk48 hl, ll48 hl]
  refine ex_bitCountL b hb ?_
  simp only [g45_0, g45_1, g45_1r, g45_2, g45_5, g45_8, g45_9, g45_10, g45_13 (st := []), z_kl_i, z_kl_l, z_kl_r, z_kl_n, z_kl_x, z_kl_vr, z_c8_0, z_c8_i, z_c8_l, z_c8_r, z_c8_vr, z_c8_n, z_vr_some, z_vr_none, Option.toList_some, Option.toList_none, List.cons_append, List.nil_append, true_and, and_true, and_self, z_k_sI, z_len_sI, z_R_sI, z_N_sI, z_set_0, z_set_1, z_set_s, eq_self, true_implies, false_implies, not_true_eq_false, not_false_eq_true, ne_eq, true_or, or_true, false_or, or_false, false_and, and_false, Int.reduceNeg, Int.reduceEq, Int.reduceNe, Int.reduceLT, Int.reduceLE, Nat.reduceLeDiff, Nat.reduceEqDiff, Nat.reduceSub, Nat.reduceAdd, reduceCtorEq, reduceIte, implies_true, List.reverse_nil, lk1 hl, ll1 hl, lk2 hl, lr2_0 hl, lr2_1 hl, lr2_2 hl, lr2_3 hl, lr2_6 hl, lr2_7 hl, lr2_8 hl, lr2_9 hl, lr2_10 hl, lr2_11 hl, lr2_13 hl, lr2_14 hl, lr2_15 hl, lr2_16 hl, lr2_17 hl, lr2_18 hl, lk3 hl, lr3_0 hl, lk4 hl, ll4 hl, lk5 hl, lr5_0 hl, lr5_2 hl, lr5_3 hl, lr5_4 hl, lk6 hl, ll6 hl, lk7 hl, ll7 hl, lk8 hl, lr8_0 hl, lk9 hl, ll9 hl, lk10 hl, ll10 hl, lk11 hl, ll11 hl, lk12 hl, lr12_0 hl, lk13 hl, ll13 hl, lk14 hl, lr14_2 hl, lr14_3 hl, lr14_4 hl, lr14_5 hl, lr14_6 hl, lr14_7 hl, lr14_9 hl, lr14_10 hl, lk15 hl, ll15 hl, lk16 hl, ll16 hl, lk17 hl, ll17 hl, lk18 hl, ll18 hl, lk19 hl, ll19 hl, lk20 hl, ll20 hl, lk21 hl, ll21 hl, lk22 hl, lr22_0 hl, lk23 hl, ll23 hl, lk24 hl, lr24_2 hl, lr24_3 hl, lr24_4 hl, lr24_5 hl, lr24_6 hl, lr24_7 hl, lr24_9 hl, lr24_10 hl, lk25 hl, ll25 hl, lk26 hl, ll26 hl, lk27 hl, ll27 hl, lk28 hl, ll28 hl, lk29 hl, ll29 hl, lk30 hl, ll30 hl, lk31 hl, ll31 hl, lk32 hl, lr32_1 hl, lk33 hl, ll33 hl, lk34 hl, lr34_0 hl, lk35 hl, ll35 hl, lk36 hl, lr36_0 hl, lk37 hl, ll37 hl, lk38 hl, lr38_0 hl, lk39 hl, ll39 hl, lk40 hl, ll40 hl, lk41 hl, lk42 hl, lr42_0 hl, lr42_1 hl, lr42_2 hl, lr42_3 hl, lk43 hl, ll43 hl, lk44 hl, ll44 hl, lk45 hl, ll45 hl, lk46 hl, ll46 hl, lk47 hl, lr47_1 hl, lk48 hl, ll48 hl]
  rw [z_sub_eq (by omega) (by omega)]
  exact k
theorem ex_slabCount22 {d u w} {Q : z_P} (hl : z_lay w) (hv : pu_ok (pu_vC (z_I w 23))) (k : Q (some (z_i (sl_n (pu_vC (z_I w 23))))) w) : z_G (d + 2) u 45 0 [z_r 22] [] w Q := by
  have nb := sl_n_bd (pu_vC (z_I w 23))
  have n0 := pu_N_bd (P := en_P (pu_vC (z_I w 23))) (x := 64) (by omega)
  simp only [g45_0, g45_1, g45_1r, g45_2, g45_5, g45_8, g45_9, g45_10, g45_13 (st := []), z_kl_i, z_kl_l, z_kl_r, z_kl_n, z_kl_x, z_kl_vr, z_c8_0, z_c8_i, z_c8_l, z_c8_r, z_c8_vr, z_c8_n, z_vr_some, z_vr_none, Option.toList_some, Option.toList_none, List.cons_append, List.nil_append, true_and, and_true, and_self, z_k_sI, z_len_sI, z_R_sI, z_N_sI, z_set_0, z_set_1, z_set_s, eq_self, true_implies, false_implies, not_true_eq_false, not_false_eq_true, ne_eq, true_or, or_true, false_or, or_false, false_and, and_false, Int.reduceNeg, Int.reduceEq, Int.reduceNe, Int.reduceLT, Int.reduceLE, Nat.reduceLeDiff, Nat.reduceEqDiff, Nat.reduceSub, Nat.reduceAdd, reduceCtorEq, reduceIte, implies_true, List.reverse_nil, lk1 hl, ll1 hl, lk2 hl, lr2_0 hl, lr2_1 hl, lr2_2 hl, lr2_3 hl, lr2_6 hl, lr2_7 hl, lr2_8 hl, lr2_9 hl, lr2_10 hl, lr2_11 hl, lr2_13 hl, lr2_14 hl, lr2_15 hl, lr2_16 hl, lr2_17 hl, lr2_18 hl, lk3 hl, lr3_0 hl, lk4 hl, ll4 hl, lk5 hl, lr5_0 hl, lr5_2 hl, lr5_3 hl, lr5_4 hl, lk6 hl, ll6 hl, lk7 hl, ll7 hl, lk8 hl, lr8_0 hl, lk9 hl, ll9 hl, lk10 hl, ll10 hl, lk11 hl, ll11 hl, lk12 hl, lr12_0 hl, lk13 hl, ll13 hl, lk14 hl, lr14_2 hl, lr14_3 hl, lr14_4 hl, lr14_5 hl, lr14_6 hl, lr14_7 hl, lr14_9 hl, lr14_10 hl, lk15 hl, ll15 hl, lk16 hl, ll16 hl, lk17 hl, ll17 hl, lk18 hl, ll18 hl, lk19 hl, ll19 hl, lk20 hl, ll20 hl, lk21 hl, ll21 hl, lk22 hl, lr22_0 hl, lk23 hl, ll23 hl, lk24 hl, lr24_2 hl, lr24_3 hl, lr24_4 hl, lr24_5 hl, lr24_6 hl, lr24_7 hl, lr24_9 hl, lr24_10 hl, lk25 hl, ll25 hl, lk26 hl, ll26 hl, lk27 hl, ll27 hl, lk28 hl, ll28 hl, lk29 hl, ll29 hl, lk30 hl, ll30 hl, lk31 hl, ll31 hl, lk32 hl, lr32_1 hl, lk33 hl, ll33 hl, lk34 hl, lr34_0 hl, lk35 hl, ll35 hl, lk36 hl, lr36_0 hl, lk37 hl, ll37 hl, lk38 hl, lr38_0 hl, lk39 hl, ll39 hl, lk40 hl, ll40 hl, lk41 hl, lk42 hl, lr42_0 hl, lr42_1 hl, lr42_2 hl, lr42_3 hl, lk43 hl, ll43 hl, lk44 hl, ll44 hl, lk45 hl, ll45 hl, lk46 hl, ll46 hl, lk47 hl, lr47_1 hl, lk48 hl, ll48 hl]
  refine xs_bits24 hl hv (fun b hb => ?_)
  simp only [g45_0, g45_1, g45_1r, g45_2, g45_5, g45_8, g45_9, g45_10, g45_13 (st := []), z_kl_i, z_kl_l, z_kl_r, z_kl_n, z_kl_x, z_kl_vr, z_c8_0, z_c8_i, z_c8_l, z_c8_r, z_c8_vr, z_c8_n, z_vr_some, z_vr_none, Option.toList_some, Option.toList_none, List.cons_append, List.nil_append, true_and, and_true, and_self, z_k_sI, z_len_sI, z_R_sI, z_N_sI, z_set_0, z_set_1, z_set_s, eq_self, true_implies, false_implies, not_true_eq_false, not_false_eq_true, ne_eq, true_or, or_true, false_or, or_false, false_and, and_false, Int.reduceNeg, Int.reduceEq, Int.reduceNe, Int.reduceLT, Int.reduceLE, Nat.reduceLeDiff, Nat.reduceEqDiff, Nat.reduceSub, Nat.reduceAdd, reduceCtorEq, reduceIte, implies_true, List.reverse_nil, lk1 hl, ll1 hl, lk2 hl, lr2_0 hl, lr2_1 hl, lr2_2 hl, lr2_3 hl, lr2_6 hl, lr2_7 hl, lr2_8 hl, lr2_9 hl, lr2_10 hl, lr2_11 hl, lr2_13 hl, lr2_14 hl, lr2_15 hl, lr2_16 hl, lr2_17 hl, lr2_18 hl, lk3 hl, lr3_0 hl, lk4 hl, ll4 hl, lk5 hl, lr5_0 hl, lr5_2 hl, lr5_3 hl, lr5_4 hl, lk6 hl, ll6 hl, lk7 hl, ll7 hl, lk8 hl, lr8_0 hl, lk9 hl, ll9 hl, lk10 hl, ll10 hl, lk11 hl, ll11 hl, lk12 hl, lr12_0 hl, lk13 hl, ll13 hl, lk14 hl, lr14_2 hl, lr14_3 hl, lr14_4 hl, lr14_5 hl, lr14_6 hl, lr14_7 hl, lr14_9 hl, lr14_10 hl, lk15 hl, ll15 hl, lk16 hl, ll16 hl, lk17 hl, ll17 hl, lk18 hl, ll18 hl, lk19 hl, ll19 hl, lk20 hl, ll20 hl, lk21 hl, ll21 hl, lk22 hl, lr22_0 hl, lk23 hl, ll23 hl, lk24 hl, lr24_2 hl, lr24_3 hl, lr24_4 hl, lr24_5 hl, lr24_6 hl, lr24_7 hl, lr24_9 hl, lr24_10 hl, lk25 hl, ll25 hl, lk26 hl, ll26 hl, lk27 hl, ll27 hl, lk28 hl, ll28 hl, lk29 hl, ll29 hl, lk30 hl, ll30 hl, lk31 hl, ll31 hl, lk32 hl, lr32_1 hl, lk33 hl, ll33 hl, lk34 hl, lr34_0 hl, lk35 hl, ll35 hl, lk36 hl, lr36_0 hl, lk37 hl, ll37 hl, lk38 hl, lr38_0 hl, lk39 hl, ll39 hl, lk40 hl, ll40 hl, lk41 hl, lk42 hl, lr42_0 hl, lr42_1 hl, lr42_2 hl, lr42_3 hl, lk43 hl, ll43 hl, lk44 hl, ll44 hl, lk45 hl, ll45 hl, lk46 hl, ll46 hl, lk47 hl, lr47_1 hl, lk48 hl, ll48 hl]
  refine ex_bitCountL b hb ?_
  simp only [g45_0, g45_1, g45_1r, g45_2, g45_5, g45_8, g45_9, g45_10, g45_13 (st := []), z_kl_i, z_kl_l, z_kl_r, z_kl_n, z_kl_x, z_kl_vr, z_c8_0, z_c8_i, z_c8_l, z_c8_r, z_c8_vr, z_c8_n, z_vr_some, z_vr_none, Option.toList_some, Option.toList_none, List.cons_append, List.nil_append, true_and, and_true, and_self, z_k_sI, z_len_sI, z_R_sI, z_N_sI, z_set_0, z_set_1, z_set_s, eq_self, true_implies, false_implies, not_true_eq_false, not_false_eq_true, ne_eq, true_or, or_true, false_or, or_false, false_and, and_false, Int.reduceNeg, Int.reduceEq, Int.reduceNe, Int.reduceLT, Int.reduceLE, Nat.reduceLeDiff, Nat.reduceEqDiff, Nat.reduceSub, Nat.reduceAdd, reduceCtorEq, reduceIte, implies_true, List.reverse_nil, lk1 hl, ll1 hl, lk2 hl, lr2_0 hl, lr2_1 hl, lr2_2 hl, lr2_3 hl, lr2_6 hl, lr2_7 hl, lr2_8 hl, lr2_9 hl, lr2_10 hl, lr2_11 hl, lr2_13 hl, lr2_14 hl, lr2_15 hl, lr2_16 hl, lr2_17 hl, lr2_18 hl, lk3 hl, lr3_0 hl, lk4 hl, ll4 hl, lk5 hl, lr5_0 hl, lr5_2 hl, lr5_3 hl, lr5_4 hl, lk6 hl, ll6 hl, lk7 hl, ll7 hl, lk8 hl, lr8_0 hl, lk9 hl, ll9 hl, lk10 hl, ll10 hl, lk11 hl, ll11 hl, lk12 hl, lr12_0 hl, lk13 hl, ll13 hl, lk14 hl, lr14_2 hl, lr14_3 hl, lr14_4 hl, lr14_5 hl, lr14_6 hl, lr14_7 hl, lr14_9 hl, lr14_10 hl, lk15 hl, ll15 hl, lk16 hl, ll16 hl, lk17 hl, ll17 hl, lk18 hl, ll18 hl, lk19 hl, ll19 hl, lk20 hl, ll20 hl, lk21 hl, ll21 hl, lk22 hl, lr22_0 hl, lk23 hl, ll23 hl, lk24 hl, lr24_2 hl, lr24_3 hl, lr24_4 hl, lr24_5 hl, lr24_6 hl, lr24_7 hl, lr24_9 hl, lr24_10 hl, lk25 hl, ll25 hl, lk26 hl, ll26 hl, lk27 hl, ll27 hl, lk28 hl, ll28 hl, lk29 hl, ll29 hl, lk30 hl, ll30 hl, lk31 hl, ll31 hl, lk32 hl, lr32_1 hl, lk33 hl, ll33 hl, lk34 hl, lr34_0 hl, lk35 hl, ll35 hl, lk36 hl, lr36_0 hl, lk37 hl, ll37 hl, lk38 hl, lr38_0 hl, lk39 hl, ll39 hl, lk40 hl, ll40 hl, lk41 hl, lk42 hl, lr42_0 hl, lr42_1 hl, lr42_2 hl, lr42_3 hl, lk43 hl, ll43 hl, lk44 hl, ll44 hl, lk45 hl, ll45 hl, lk46 hl, ll46 hl, lk47 hl, lr47_1 hl, lk48 hl, ll48 hl]
  rw [z_sub_eq (by omega) (by omega)]
  exact k
theorem ex_slabsNow {d u w} {Q : z_P} (hl : z_lay w) {V : pu_V} (hv : pu_ok V) (he : pu_eq (pu_vM (z_I w 56)) V) (k : ∀ w', z_fr [57, 61, 62, 63] [(49, 21), (49, 22)] w w' → Q (some (z_i (sl_n V))) w') : z_G (d + 5) u 234 0 [z_r 49] [] w Q := by
  simp only [g234_0, g234_0r, g234_1, g234_4, g234_4r, g234_5, g234_8 (st := []), z_kl_i, z_kl_l, z_kl_r, z_kl_n, z_kl_x, z_kl_vr, z_c8_0, z_c8_i, z_c8_l, z_c8_r, z_c8_vr, z_c8_n, z_vr_some, z_vr_none, Option.toList_some, Option.toList_none, List.cons_append, List.nil_append, true_and, and_true, and_self, z_k_sI, z_len_sI, z_R_sI, z_N_sI, z_set_0, z_set_1, z_set_s, eq_self, true_implies, false_implies, not_true_eq_false, not_false_eq_true, ne_eq, true_or, or_true, false_or, or_false, false_and, and_false, Int.reduceNeg, Int.reduceEq, Int.reduceNe, Int.reduceLT, Int.reduceLE, Nat.reduceLeDiff, Nat.reduceEqDiff, Nat.reduceSub, Nat.reduceAdd, reduceCtorEq, reduceIte, implies_true, List.reverse_nil, lk49 hl, lr49_1 hl, lr49_5 hl, lr49_6 hl, lr49_7 hl, lr49_9 hl, lr49_10 hl, lr49_12 hl, lr49_13 hl, lr49_14 hl, lr49_15 hl, lr49_16 hl, lr49_18 hl, lr49_19 hl, lr49_20 hl, lr49_23 hl, lr49_24 hl, lr49_25 hl, lr49_26 hl, lr49_27 hl, lr49_28 hl, lr49_29 hl, lr49_32 hl, lr49_33 hl, lr49_34 hl, lr49_36 hl, lr49_37 hl, lk50 hl, ll50 hl, lk51 hl, ll51 hl, lk52 hl, ll52 hl, lk53 hl, ll53 hl, lk54 hl, ll54 hl, lk55 hl, ll55 hl, lk56 hl, ll56 hl, lk57 hl, ll57 hl, lk58 hl, ll58 hl, lk59 hl, ll59 hl, lk60 hl, ll60 hl, lk61 hl, ll61 hl, lk62 hl, ll62 hl, lk63 hl, ll63 hl, lk64 hl, ll64 hl, lk65 hl, ll65 hl, lk66 hl, ll66 hl, lk67 hl, ll67 hl, lk68 hl, ll68 hl, lk69 hl, ll69 hl, lk70 hl, ll70 hl, lk71 hl, ll71 hl, lk72 hl, ll72 hl, lk73 hl, ll73 hl, lk74 hl, ll74 hl, lk75 hl, ll75 hl]
  refine xs_laysNow hl (pu_ok_eq he hv) (fun w1 h1 h2 h3 => ?_)
  have hl1 := z_fr_lay h1 hl
  have e : z_I w1 49 22 = sl_n V := h3.1.trans (sl_n_eq (pu_eq_tr (pu_vM_cg h2) he))
  simp only [g234_0, g234_0r, g234_1, g234_4, g234_4r, g234_5, g234_8 (st := []), z_kl_i, z_kl_l, z_kl_r, z_kl_n, z_kl_x, z_kl_vr, z_c8_0, z_c8_i, z_c8_l, z_c8_r, z_c8_vr, z_c8_n, z_vr_some, z_vr_none, Option.toList_some, Option.toList_none, List.cons_append, List.nil_append, true_and, and_true, and_self, z_k_sI, z_len_sI, z_R_sI, z_N_sI, z_set_0, z_set_1, z_set_s, eq_self, true_implies, false_implies, not_true_eq_false, not_false_eq_true, ne_eq, true_or, or_true, false_or, or_false, false_and, and_false, Int.reduceNeg, Int.reduceEq, Int.reduceNe, Int.reduceLT, Int.reduceLE, Nat.reduceLeDiff, Nat.reduceEqDiff, Nat.reduceSub, Nat.reduceAdd, reduceCtorEq, reduceIte, implies_true, List.reverse_nil, lk49 hl1, lr49_1 hl1, lr49_5 hl1, lr49_6 hl1, lr49_7 hl1, lr49_9 hl1, lr49_10 hl1, lr49_12 hl1, lr49_13 hl1, lr49_14 hl1, lr49_15 hl1, lr49_16 hl1, lr49_18 hl1, lr49_19 hl1, lr49_20 hl1, lr49_23 hl1, lr49_24 hl1, lr49_25 hl1, lr49_26 hl1, lr49_27 hl1, lr49_28 hl1, lr49_29 hl1, lr49_32 hl1, lr49_33 hl1, lr49_34 hl1, lr49_36 hl1, lr49_37 hl1, lk50 hl1, ll50 hl1, lk51 hl1, ll51 hl1, lk52 hl1, ll52 hl1, lk53 hl1, ll53 hl1, lk54 hl1, ll54 hl1, lk55 hl1, ll55 hl1, lk56 hl1, ll56 hl1, lk57 hl1, ll57 hl1, lk58 hl1, ll58 hl1, lk59 hl1, ll59 hl1, lk60 hl1, ll60 hl1, lk61 hl1, ll61 hl1, lk62 hl1, ll62 hl1, lk63 hl1, ll63 hl1, lk64 hl1, ll64 hl1, lk65 hl1, ll65 hl1, lk66 hl1, ll66 hl1, lk67 hl1, ll67 hl1, lk68 hl1, ll68 hl1, lk69 hl1, ll69 hl1, lk70 hl1, ll70 hl1, lk71 hl1, ll71 hl1, lk72 hl1, ll72 hl1, lk73 hl1, ll73 hl1, lk74 hl1, ll74 hl1, lk75 hl1, ll75 hl1, e]
  exact fun _ => k w1 h1
