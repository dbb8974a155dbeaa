/-! bits of an int -/
def b5z (a : Int) (i : Nat) : Bool := bt (Int32.ofInt a) i
theorem b5z_or (a b : Int) (i : Nat) : b5z (z_or a b) i = (b5z a i || b5z b i) := by
  unfold b5z z_or
  rw [Int32.ofInt_toInt, b_or]
theorem b5z_and (a b : Int) (i : Nat) : b5z (z_and a b) i = (b5z a i && b5z b i) := by
  unfold b5z z_and
  rw [Int32.ofInt_toInt, b_and]
theorem b5z_xor (a b : Int) (i : Nat) : b5z (z_xor a b) i = (b5z a i ^^ b5z b i) := by
  unfold b5z z_xor
  rw [Int32.ofInt_toInt, b_xor]
theorem b5z_0 : ∀ i, i < 32 → b5z 0 i = false := by decide +kernel
theorem b5z_m : ∀ i, i < 32 → b5z (-1) i = true := by decide +kernel
theorem b5z_1 : ∀ n, n < 32 → ∀ i, i < 32 → b5z (z_shl 1 (n : Nat)) i = decide (i = n) := by decide +kernel
theorem b5z_not (a : Int) {i : Nat} (hi : i < 32) : b5z (z_xor a (-1)) i = !b5z a i := by
  rw [b5z_xor, b5z_m i hi]
  cases b5z a i <;> rfl
theorem b5z_sh {r : Int} (r0 : 0 ≤ r) (r1 : r ≤ 31) {i : Nat} (hi : i < 32) : b5z (z_shl 1 r) i = true ↔ (i : Int) = r := by
  have h := b5z_1 r.toNat (by omega) i hi
  rw [show ((r.toNat : Nat) : Int) = r by omega] at h
  rw [h, decide_eq_true_eq]
  omega
theorem b5z_ext {a b : Int} (ha : z_rg a) (hb : z_rg b) (h : ∀ i, i < 32 → b5z a i = b5z b i) : a = b := by
  have e : Int32.ofInt a = Int32.ofInt b := b_ext h
  rw [← z_of ha, ← z_of hb, e]
theorem b5_nI : ∀ n, n < 32 → Int32.ofInt ((n : Nat) : Int) = nI n := by decide +kernel
theorem b5_one : ∀ i, i < 32 → bt (Int32.ofInt 1) i = decide (i = 0) := by decide +kernel
theorem b5_zero : ∀ i, i < 32 → bt (Int32.ofInt 0) i = false := by decide +kernel
theorem b5_and1 (x : Int32) : (x &&& Int32.ofInt 1) = if bt x 0 = true then Int32.ofInt 1 else Int32.ofInt 0 := by
  apply b_ext
  intro i hi
  rw [b_and, b5_one i hi]
  by_cases c : i = 0
  · subst c
    rw [decide_eq_true rfl, Bool.and_true]
    by_cases q : bt x 0 = true
    · rw [if_pos q, b5_one 0 (by omega)]
      exact q.trans (decide_eq_true rfl).symm
    · rw [if_neg q, b5_zero 0 (by omega)]
      exact Bool.eq_false_iff.2 q
  · rw [decide_eq_false c, Bool.and_false]
    by_cases q : bt x 0 = true
    · rw [if_pos q, b5_one i hi, decide_eq_false c]
    · rw [if_neg q, b5_zero i hi]
theorem z_and1 (x : Int) : z_and x 1 = 0 ∨ z_and x 1 = 1 := by
  unfold z_and
  rw [b5_and1]
  by_cases q : bt (Int32.ofInt x) 0 = true
  · rw [if_pos q]; exact Or.inr (by decide)
  · rw [if_neg q]; exact Or.inl (by decide)
/-- the bit at n, asked by a shift -/
theorem b5z_tu (b : Int) (n : Nat) (hn : n < 32) : z_and (z_ush b (n : Nat)) 1 = if b5z b n = true then 1 else 0 := by
  unfold z_and z_ush
  rw [Int32.ofInt_toInt, b5_nI n hn, b5_and1, b_ushr n hn, Nat.add_zero]
  unfold b5z
  by_cases q : bt (Int32.ofInt b) n = true
  · rw [if_pos q, if_pos q]; decide
  · rw [if_neg q, if_neg q]; decide
theorem b5z_ts (b : Int) (n : Nat) (hn : n < 32) : z_and (z_shr b (n : Nat)) 1 = if b5z b n = true then 1 else 0 := by
  unfold z_and z_shr
  rw [Int32.ofInt_toInt, b5_nI n hn, b5_and1, b_sshr n hn _ (by omega : 0 < 32), if_pos (by omega : n + 0 < 32), Nat.add_zero]
  unfold b5z
  by_cases q : bt (Int32.ofInt b) n = true
  · rw [if_pos q, if_pos q]; decide
  · rw [if_neg q, if_neg q]; decide
theorem b5z_tuI (b : Int) {r : Int} (r0 : 0 ≤ r) (r1 : r ≤ 31) : z_and (z_ush b r) 1 = if b5z b r.toNat = true then 1 else 0 := by
  have h := b5z_tu b r.toNat (by omega)
  rw [show ((r.toNat : Nat) : Int) = r by omega] at h
  exact h
theorem b5z_tsI (b : Int) {r : Int} (r0 : 0 ≤ r) (r1 : r ≤ 31) : z_and (z_shr b r) 1 = if b5z b r.toNat = true then 1 else 0 := by
  have h := b5z_ts b r.toNat (by omega)
  rw [show ((r.toNat : Nat) : Int) = r by omega] at h
  exact h
/-! sets of numbers as bits -/
def bs (P : Int → Bool) : Nat → Int
  | 0 => 0
  | n + 1 => if P n = true then z_or (bs P n) (z_shl 1 (n : Nat)) else bs P n
theorem bs_rg (P : Int → Bool) : ∀ n : Nat, z_rg (bs P n) := by
  intro n
  induction n with
  | zero => rw [bs]; exact ⟨by decide, by decide⟩
  | succ n ih =>
    rw [bs]
    split
    · exact z_rgT _
    · exact ih
theorem bs_b (P : Int → Bool) : ∀ n : Nat, n ≤ 32 → ∀ i : Nat, i < 32 → (b5z (bs P n) i = true ↔ (i < n ∧ P i = true)) := by
  intro n
  induction n with
  | zero =>
    intro _ i hi
    rw [bs, b5z_0 i hi]
    exact ⟨fun h => absurd h (by decide), fun h => absurd h.1 (by omega)⟩
  | succ n ih =>
    intro hn i hi
    rw [bs]
    by_cases p : P n = true
    · rw [if_pos p, b5z_or, Bool.or_eq_true, ih (by omega) i hi, b5z_1 n (by omega) i hi, decide_eq_true_eq]
      refine ⟨fun h => ?_, fun h => ?_⟩
      · rcases h with h | h
        · exact ⟨by have := h.1; omega, h.2⟩
        · subst h; exact ⟨by omega, p⟩
      · by_cases c : i = n
        · exact Or.inr c
        · exact Or.inl ⟨by have := h.1; omega, h.2⟩
    · rw [if_neg p, ih (by omega) i hi]
      refine ⟨fun h => ⟨by have := h.1; omega, h.2⟩, fun h => ⟨?_, h.2⟩⟩
      have : i ≠ n := fun q => p (by rw [← q]; exact h.2)
      have := h.1
      omega
/-- a number that has these bits is this set -/
theorem bs_of {P : Int → Bool} {n : Nat} (hn : n ≤ 32) {a : Int} (ha : z_rg a) (h : ∀ i : Nat, i < 32 → (b5z a i = true ↔ (i < n ∧ P i = true))) : a = bs P n :=
  b5z_ext ha (bs_rg P n) (fun i hi => Bool.eq_iff_iff.2 ((h i hi).trans (bs_b P n hn i hi).symm))
theorem bs_cg {P R : Int → Bool} : ∀ n : Nat, (∀ i : Int, 0 ≤ i → i < n → P i = R i) → bs P n = bs R n := by
  intro n
  induction n with
  | zero => intro _; rfl
  | succ n ih =>
    intro h
    rw [bs, bs, h n (by omega) (by omega), ih (fun i a b => h i a (by omega))]
theorem z_or_p : ∀ n, n < 10 → ∀ a, a < 2 ^ n → z_or (a : Nat) (z_shl 1 (n : Nat)) = ((a + 2 ^ n : Nat) : Int) := by decide +kernel
theorem bs_10 (P : Int → Bool) : ∀ n : Nat, n ≤ 10 → ∃ v : Nat, v < 2 ^ n ∧ bs P n = v := by
  intro n
  induction n with
  | zero => intro _; exact ⟨0, by decide, rfl⟩
  | succ n ih =>
    intro hn
    obtain ⟨v, h1, h2⟩ := ih (by omega)
    rw [bs, h2]
    have e : 2 ^ (n + 1) = 2 ^ n + 2 ^ n := by rw [Nat.pow_succ]; omega
    by_cases p : P n = true
    · rw [if_pos p, z_or_p n (by omega) v h1]
      exact ⟨v + 2 ^ n, by omega, rfl⟩
    · rw [if_neg p]
      exact ⟨v, by omega, rfl⟩
/-- how many of ten bits -/
def tb (a : Int) : Nat → Int → Int → Int
  | 0, _, t => t
  | n + 1, s, t => tb a n (s + 1) (t + z_and (z_shr a s) 1)
theorem tb_ct (P : Int → Bool) : ∀ (n : Nat) (s t : Int), 0 ≤ s → s + n ≤ 10 → tb (bs P 10) n s t = t + pu_ct P n s := by
  intro n
  induction n with
  | zero => intro s t _ _; rw [tb, pu_ct]; omega
  | succ n ih =>
    intro s t s0 s1
    have q := bs_b P 10 (by omega) s.toNat (by omega)
    rw [show ((s.toNat : Nat) : Int) = s by omega] at q
    rw [tb, ih (s + 1) _ (by omega) (by omega), b5z_tsI _ s0 (by omega)]
    by_cases p : P s = true
    · rw [if_pos (q.2 ⟨by omega, p⟩), pu_ct_y p]
      omega
    · rw [if_neg (fun x => p (q.1 x).2), pu_ct_n (Bool.eq_false_iff.2 p)]
      omega
def bc_1 (a : Int) : Int := z_sub a (z_and (z_ush a 1) 1431655765)
def bc_2 (a : Int) : Int := z_add (z_and a 858993459) (z_and (z_ush a 2) 858993459)
def bc_3 (a : Int) : Int := z_and (z_add a (z_ush a 4)) 252645135
def bc_4 (a : Int) : Int := z_add a (z_ush a 8)
def bc_5 (a : Int) : Int := z_and (z_add a (z_ush a 16)) 63
def bc (a : Int) : Int := bc_5 (bc_4 (bc_3 (bc_2 (bc_1 a))))
theorem bc_10 : ∀ v, v < 1024 → bc (v : Nat) = tb (v : Nat) 10 0 0 := by decide +kernel
theorem bc_ct (P : Int → Bool) : bc (bs P 10) = pu_ct P 10 0 := by
  obtain ⟨v, h1, h2⟩ := bs_10 P 10 (by omega)
  have h := tb_ct P 10 0 0 (by omega) (by omega)
  rw [h2] at h ⊢
  rw [bc_10 v h1, h]
  omega
theorem ex_bitCount {d u w} {Q : z_P} (a : Int) (k : Q (some (z_i (bc a))) w) : z_G d u 294 0 [z_i a] [] w Q := by
  (repeat' (first | (simp (discharger := omega) only [z_add_eq, z_sub_eq, z_mul_eq]) | (with_reducible refine And.intro ?_ ?_) | (with_reducible intro _) | (exact k) | (simp only [g294_0, g294_1, g294_2, g294_3, g294_4, g294_7, g294_8, g294_9, g294_10, g294_11, g294_14, g294_15, g294_16, g294_17, g294_18, g294_21, g294_22, g294_23, g294_24, g294_25, g294_26, g294_27, g294_28, g294_29, g294_32, g294_33, g294_34, g294_35, g294_36, g294_38, g294_39, g294_40, g294_41, g294_42, g294_43, g294_45, g294_46, g294_47, g294_48, g294_49, g294_51, g294_52 (st := []), z_kl_i, z_kl_l, z_kl_r, z_kl_n, z_kl_x, z_kl_vr, z_c8_0, z_c8_i, z_c8_l, z_c8_r, z_c8_vr, z_c8_n, z_vr_some, z_vr_none, Option.toList_some, Option.toList_none, List.cons_append, List.nil_append, true_and, and_true, and_self, z_k_sI, z_len_sI, z_R_sI, z_N_sI, z_set_0, z_set_1, z_set_s, eq_self, true_implies, false_implies, not_true_eq_false, not_false_eq_true, ne_eq, true_or, or_true, false_or, or_false, false_and, and_false, Int.reduceNeg, Int.reduceEq, Int.reduceNe, Int.reduceLT, Int.reduceLE, Nat.reduceLeDiff, Nat.reduceEqDiff, Nat.reduceSub, Nat.reduceAdd, reduceCtorEq, reduceIte, implies_true, List.reverse_nil]) | omega))
theorem ex_bits {d u w} {Q : z_P} (a : Int) (k : Q (some (z_i (tb a 10 0 0))) w) : z_G d u 172 0 [z_i a, z_x, z_x] [] w Q := by
  have loop : ∀ (n : Nat) (t s : Int), 0 ≤ s → s + n = 10 → 0 ≤ t → t ≤ s → tb a n s t = tb a 10 0 0 → z_G d u 172 4 [z_i a, z_i t, z_i s] [] w Q := by
    intro n
    induction n with
    | zero =>
      intro t s s0 s1 t0 t1 g
      have kk : Q (some (z_i t)) w := by
        rw [← g] at k
        exact k
      rw [g172_4]
      simp only [g172_0, g172_1, g172_2, g172_3, g172_5, g172_7, g172_10, g172_11, g172_12, g172_13, g172_14, g172_15, g172_16, g172_17, g172_18, g172_21, g172_24, g172_25 (st := []), z_kl_i, z_kl_l, z_kl_r, z_kl_n, z_kl_x, z_kl_vr, z_c8_0, z_c8_i, z_c8_l, z_c8_r, z_c8_vr, z_c8_n, z_vr_some, z_vr_none, Option.toList_some, Option.toList_none, List.cons_append, List.nil_append, true_and, and_true, and_self, z_k_sI, z_len_sI, z_R_sI, z_N_sI, z_set_0, z_set_1, z_set_s, eq_self, true_implies, false_implies, not_true_eq_false, not_false_eq_true, ne_eq, true_or, or_true, false_or, or_false, false_and, and_false, Int.reduceNeg, Int.reduceEq, Int.reduceNe, Int.reduceLT, Int.reduceLE, Nat.reduceLeDiff, Nat.reduceEqDiff, Nat.reduceSub, Nat.reduceAdd, reduceCtorEq, reduceIte, implies_true, List.reverse_nil]
      exact ⟨fun _ => kk, fun c => absurd c (by omega)⟩
    | succ n ih =>
      intro t s s0 s1 t0 t1 g
      have b1 := z_and1 (z_shr a s)
      rw [tb] at g
      rw [g172_4]
      simp only [g172_0, g172_1, g172_2, g172_3, g172_5, g172_7, g172_10, g172_11, g172_12, g172_13, g172_14, g172_15, g172_16, g172_17, g172_18, g172_21, g172_24, g172_25 (st := []), z_kl_i, z_kl_l, z_kl_r, z_kl_n, z_kl_x, z_kl_vr, z_c8_0, z_c8_i, z_c8_l, z_c8_r, z_c8_vr, z_c8_n, z_vr_some, z_vr_none, Option.toList_some, Option.toList_none, List.cons_append, List.nil_append, true_and, and_true, and_self, z_k_sI, z_len_sI, z_R_sI, z_N_sI, z_set_0, z_set_1, z_set_s, eq_self, true_implies, false_implies, not_true_eq_false, not_false_eq_true, ne_eq, true_or, or_true, false_or, or_false, false_and, and_false, Int.reduceNeg, Int.reduceEq, Int.reduceNe, Int.reduceLT, Int.reduceLE, Nat.reduceLeDiff, Nat.reduceEqDiff, Nat.reduceSub, Nat.reduceAdd, reduceCtorEq, reduceIte, implies_true, List.reverse_nil]
      refine ⟨fun c => absurd c (by omega), fun _ => ?_⟩
      rw [z_add_eq (a := t) (by omega) (by omega), z_add_eq (a := s) (by omega) (by omega)]
      exact ih _ _ (by omega) (by omega) (by omega) (by omega) g
  simp only [g172_0, g172_1, g172_2, g172_3, g172_5, g172_7, g172_10, g172_11, g172_12, g172_13, g172_14, g172_15, g172_16, g172_17, g172_18, g172_21, g172_24, g172_25 (st := []), z_kl_i, z_kl_l, z_kl_r, z_kl_n, z_kl_x, z_kl_vr, z_c8_0, z_c8_i, z_c8_l, z_c8_r, z_c8_vr, z_c8_n, z_vr_some, z_vr_none, Option.toList_some, Option.toList_none, List.cons_append, List.nil_append, true_and, and_true, and_self, z_k_sI, z_len_sI, z_R_sI, z_N_sI, z_set_0, z_set_1, z_set_s, eq_self, true_implies, false_implies, not_true_eq_false, not_false_eq_true, ne_eq, true_or, or_true, false_or, or_false, false_and, and_false, Int.reduceNeg, Int.reduceEq, Int.reduceNe, Int.reduceLT, Int.reduceLE, Nat.reduceLeDiff, Nat.reduceEqDiff, Nat.reduceSub, Nat.reduceAdd, reduceCtorEq, reduceIte, implies_true, List.reverse_nil]
  exact loop 10 0 0 (by omega) (by omega) (by omega) (by omega) rfl
theorem ex_hasM {d u w} {Q : z_P} (a b : Int) (b0 : 0 ≤ b) (b1 : b ≤ 31) (k1 : b5z a b.toNat = true → Q (some (z_i 1)) w) (k0 : b5z a b.toNat = false → Q (some (z_i 0)) w) : z_G d u 171 0 [z_i a, z_i b] [] w Q := by
  have e := b5z_tsI a b0 b1
  simp only [g171_0, g171_1, g171_2, g171_3, g171_4, g171_5, g171_6, g171_9, g171_10, g171_13, g171_14 (st := []), z_kl_i, z_kl_l, z_kl_r, z_kl_n, z_kl_x, z_kl_vr, z_c8_0, z_c8_i, z_c8_l, z_c8_r, z_c8_vr, z_c8_n, z_vr_some, z_vr_none, Option.toList_some, Option.toList_none, List.cons_append, List.nil_append, true_and, and_true, and_self, z_k_sI, z_len_sI, z_R_sI, z_N_sI, z_set_0, z_set_1, z_set_s, eq_self, true_implies, false_implies, not_true_eq_false, not_false_eq_true, ne_eq, true_or, or_true, false_or, or_false, false_and, and_false, Int.reduceNeg, Int.reduceEq, Int.reduceNe, Int.reduceLT, Int.reduceLE, Nat.reduceLeDiff, Nat.reduceEqDiff, Nat.reduceSub, Nat.reduceAdd, reduceCtorEq, reduceIte, implies_true, List.reverse_nil, e]
  by_cases q : b5z a b.toNat = true
  · rw [if_pos q]
    refine ⟨fun c => absurd rfl c, fun _ => k1 q⟩
  · rw [if_neg q]
    refine ⟨fun _ => k0 (Bool.eq_false_iff.2 q), fun c => absurd c (by decide)⟩
