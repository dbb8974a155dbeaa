/-! what a text is: the pure reading, for both sides -/
def z_sg (T : Int → Int) (n a : Int) : Int := if a < n then T a else -1
def z_skf (T : Int → Int) (n : Int) : Nat → Int → Int
  | 0, a => a
  | f + 1, a => if z_sg T n a = 32 then z_skf T n f (a + 1) else a
/-- the first place from a on that is no blank -/
def z_sk (T : Int → Int) (n a : Int) : Int := z_skf T n (n - a).toNat a
abbrev z_dg (c : Int) : Prop := 48 ≤ c ∧ c ≤ 57
abbrev z_ltr (c : Int) : Prop := 97 ≤ c ∧ c ≤ 122
/-- a reading: the place where it fails, or what it gives -/
def z_bn {α β : Type} (r : Int ⊕ α) (f : α → Int ⊕ β) : Int ⊕ β := match r with
  | .inl e => .inl e
  | .inr x => f x
theorem z_bn_l {α β : Type} (e : Int) (f : α → Int ⊕ β) : z_bn (.inl e) f = .inl e := rfl
theorem z_bn_r {α β : Type} (x : α) (f : α → Int ⊕ β) : z_bn (.inr x) f = f x := rfl
/-- digits at a: their number, and the place behind them -/
def z_di (T : Int → Int) (n hi a : Int) : Int ⊕ (Int × Int) :=
  if z_dg (z_sg T n a) then
    if z_dg (z_sg T n (a + 1)) then
      if z_dg (z_sg T n (a + 2)) then .inl (a + 2)
      else if 10 * (z_sg T n a - 48) + (z_sg T n (a + 1) - 48) ≤ hi then .inr (10 * (z_sg T n a - 48) + (z_sg T n (a + 1) - 48), a + 2) else .inl (a + 1)
    else if z_sg T n a - 48 ≤ hi then .inr (z_sg T n a - 48, a + 1) else .inl a
  else .inl a
def z_nu (T : Int → Int) (n hi a : Int) : Int ⊕ (Int × Int) := z_di T n hi (z_sk T n a)
def z_sn (T : Int → Int) (n a : Int) : Int ⊕ (Int × Int) := if z_sg T n (z_sk T n a) = 45 then z_bn (z_di T n 63 (z_sk T n a + 1)) (fun q => .inr (-q.1, q.2)) else z_di T n 63 (z_sk T n a)
def z_co (T : Int → Int) (n a : Int) : Int ⊕ Int := if z_sg T n (z_sk T n a) = 44 then .inr (z_sk T n a + 1) else .inl (z_sk T n a)
/-- numbers with commas between: bounds, -1 is a signed one -/
def z_one (T : Int → Int) (n b a : Int) : Int ⊕ (Int × Int) := if b = -1 then z_sn T n a else z_nu T n b a
def z_kb (t : Int) : List Int := if t = 0 then [63, 63, 63, 63, 9] else if t = 1 then [23] else if t = 2 then [23, 9] else [-1, -1]
def z_lts (T : Int → Int) (n : Int) : Nat → Int → Int
  | 0, _ => 0
  | f + 1, a => if z_ltr (z_sg T n a) then 1 + z_lts T n f (a + 1) else 0
/-- a name behind its n: region, letters, the place behind -/
def z_nam (T : Int → Int) (n : Int) (nl : Int → Int) (a : Int) : Int ⊕ (Int × Int × Int) :=
  if z_dg (z_sg T n (z_sk T n a)) ∧ nl (z_sg T n (z_sk T n a) - 48) ≤ 0 then
    if 1 ≤ z_lts T n 4 (z_sk T n (z_sk T n a + 1)) ∧ ¬ z_ltr (z_sg T n (z_sk T n (z_sk T n a + 1) + z_lts T n 4 (z_sk T n (z_sk T n a + 1)))) then .inr (z_sg T n (z_sk T n a) - 48, z_lts T n 4 (z_sk T n (z_sk T n a + 1)), z_sk T n (z_sk T n a + 1) + z_lts T n 4 (z_sk T n (z_sk T n a + 1))) else .inl (z_sk T n (z_sk T n a + 1) + z_lts T n 4 (z_sk T n (z_sk T n a + 1)))
  else .inl (z_sk T n a)
theorem z_sg_bd {T : Int → Int} {n a : Int} (hT : ∀ a, 0 ≤ a → a < n → 0 ≤ T a ∧ T a ≤ 255) (h0 : 0 ≤ a) : (z_sg T n a = -1 ∧ n ≤ a) ∨ (0 ≤ z_sg T n a ∧ z_sg T n a ≤ 255 ∧ a < n) := by
  unfold z_sg
  by_cases h : a < n
  · rw [if_pos h]; have := hT a h0 h; omega
  · rw [if_neg h]; omega
theorem z_skf_bd {T : Int → Int} {n : Int} : ∀ (f : Nat) (a : Int), (n - a).toNat = f → a ≤ z_skf T n f a ∧ (a ≤ n → z_skf T n f a ≤ n) ∧ z_sg T n (z_skf T n f a) ≠ 32 := by
  intro f
  induction f with
  | zero =>
    intro a h
    have : z_sg T n a = -1 := by unfold z_sg; rw [if_neg (by omega)]
    exact ⟨by simp [z_skf], fun q => by simpa [z_skf] using q, by simp only [z_skf]; rw [this]; decide⟩
  | succ f ih =>
    intro a h
    unfold z_skf
    by_cases q : z_sg T n a = 32
    · rw [if_pos q]
      have := ih (a + 1) (by omega)
      exact ⟨by omega, fun _ => this.2.1 (by omega), this.2.2⟩
    · rw [if_neg q]; exact ⟨Int.le_refl _, fun q => q, q⟩
theorem z_sk_bd {T : Int → Int} {n : Int} (a : Int) : a ≤ z_sk T n a ∧ (a ≤ n → z_sk T n a ≤ n) ∧ z_sg T n (z_sk T n a) ≠ 32 := z_skf_bd _ a rfl
theorem z_sk_eq {T : Int → Int} {n a : Int} (h : z_sg T n a ≠ 32) : z_sk T n a = a := by
  unfold z_sk
  cases (n - a).toNat with
  | zero => rfl
  | succ f => unfold z_skf; rw [if_neg h]
theorem z_sk_st {T : Int → Int} {n a : Int} (h : z_sg T n a = 32) : z_sk T n a = z_sk T n (a + 1) := by
  have hn : a < n := by
    by_cases q : a < n
    · exact q
    · unfold z_sg at h; rw [if_neg q] at h; exact absurd h (by decide)
  unfold z_sk
  rw [show (n - a).toNat = (n - (a + 1)).toNat + 1 by omega]
  show (if z_sg T n a = 32 then z_skf T n _ (a + 1) else a) = _
  rw [if_pos h]
theorem z_sk_sk {T : Int → Int} {n : Int} (a : Int) : z_sk T n (z_sk T n a) = z_sk T n a := z_sk_eq (z_sk_bd a).2.2
/-! the reference's readers -/
def z_tp (w : z_W) (T : Int → Int) (n : Int) : Prop := (∀ a, z_I w 50 a = T a) ∧ z_I w 49 2 = n ∧ 0 ≤ n ∧ n ≤ 480 ∧ (∀ a, 0 ≤ a → a < n → 0 ≤ T a ∧ T a ≤ 255)
theorem z_tp_fr {w w' : z_W} {T : Int → Int} {n : Int} {S : List Nat} {F : List (Nat × Int)} (h : z_fr S F w w') (s : 50 ∉ S ∧ 49 ∉ S) (f : (∀ q ∈ F, q.1 ≠ 50) ∧ (49, 2) ∉ F) (ht : z_tp w T n) : z_tp w' T n :=
  ⟨fun a => (h.2 50 a s.1 (fun q => f.1 _ q rfl)).trans (ht.1 a), (h.2 49 2 s.2 f.2).trans ht.2.1, ht.2.2⟩
theorem c_hereS {d u w} {Q : z_P} {T : Int → Int} {n : Int} (hl : z_lay w) (ht : z_tp w T n) (h0 : 0 ≤ z_I w 49 3) (k : Q (some (z_i (z_sg T n (z_I w 49 3)))) w) : z_G d u 177 0 [z_r 49] [] w Q := by
  obtain ⟨h1, h2, h3, h4, h5⟩ := ht
  refine c_here hl h0 (by omega) ?_
  unfold z_sg at k
  rw [h2, h1]
  exact k
theorem c_ahead {d u} {Q : z_P} {T : Int → Int} {n : Int} : ∀ (f : Nat) (w : z_W), z_lay w → z_tp w T n → 0 ≤ z_I w 49 3 → z_I w 49 3 ≤ n → (n - z_I w 49 3).toNat < f → (∀ w', z_fr [] [(49, 3)] w w' → z_I w' 49 3 = z_sk T n (z_I w 49 3) → Q (some (z_i (z_sg T n (z_sk T n (z_I w 49 3))))) w') → z_G (d + 1) u 178 0 [z_r 49] [] w Q := by
  intro f
  induction f with
  | zero => intro w _ _ _ _ h; exact absurd h (Nat.not_lt_zero _)
  | succ f ih =>
    intro w hl ht h0 h1 h k
    rw [g178_0r]
    simp only [g178_1, g178_4, g178_6, g178_9, g178_9r, g178_10, g178_10r, g178_11, g178_14, g178_15, g178_16, g178_19, g178_22, g178_22r, g178_23, g178_26 (st := []), z_kl_i, z_kl_l, z_kl_r, z_kl_n, z_kl_x, z_kl_vr, z_c8_0, z_c8_i, z_c8_l, z_c8_r, z_c8_vr, z_c8_n, z_vr_some, z_vr_none, Option.toList_some, Option.toList_none, List.cons_append, List.nil_append, true_and, and_true, and_self, z_k_sI, z_len_sI, z_R_sI, z_N_sI, z_set_0, z_set_1, z_set_s, eq_self, true_implies, false_implies, not_true_eq_false, not_false_eq_true, ne_eq, true_or, or_true, false_or, or_false, false_and, and_false, Int.reduceNeg, Int.reduceEq, Int.reduceNe, Int.reduceLT, Int.reduceLE, Nat.reduceLeDiff, Nat.reduceEqDiff, Nat.reduceSub, Nat.reduceAdd, reduceCtorEq, reduceIte, implies_true, List.reverse_nil, lk49 hl, lr49_1 hl, lr49_5 hl, lr49_6 hl, lr49_7 hl, lr49_9 hl, lr49_10 hl, lr49_12 hl, lr49_13 hl, lr49_14 hl, lr49_15 hl, lr49_16 hl, lr49_18 hl, lr49_19 hl, lr49_20 hl, lr49_23 hl, lr49_24 hl, lr49_25 hl, lr49_26 hl, lr49_27 hl, lr49_28 hl, lr49_29 hl, lr49_32 hl, lr49_33 hl, lr49_34 hl, lr49_36 hl, lr49_37 hl, lk50 hl, ll50 hl, lk51 hl, ll51 hl, lk52 hl, ll52 hl, lk53 hl, ll53 hl, lk54 hl, ll54 hl, lk55 hl, ll55 hl, lk56 hl, ll56 hl, lk57 hl, ll57 hl, lk58 hl, ll58 hl, lk59 hl, ll59 hl, lk60 hl, ll60 hl, lk61 hl, ll61 hl, lk62 hl, ll62 hl, lk63 hl, ll63 hl, lk64 hl, ll64 hl, lk65 hl, ll65 hl, lk66 hl, ll66 hl, lk67 hl, ll67 hl, lk68 hl, ll68 hl, lk69 hl, ll69 hl, lk70 hl, ll70 hl, lk71 hl, ll71 hl, lk72 hl, ll72 hl, lk73 hl, ll73 hl, lk74 hl, ll74 hl, lk75 hl, ll75 hl]
    refine c_hereS hl ht h0 ?_
    simp only [g178_1, g178_4, g178_6, g178_9, g178_9r, g178_10, g178_10r, g178_11, g178_14, g178_15, g178_16, g178_19, g178_22, g178_22r, g178_23, g178_26 (st := []), z_kl_i, z_kl_l, z_kl_r, z_kl_n, z_kl_x, z_kl_vr, z_c8_0, z_c8_i, z_c8_l, z_c8_r, z_c8_vr, z_c8_n, z_vr_some, z_vr_none, Option.toList_some, Option.toList_none, List.cons_append, List.nil_append, true_and, and_true, and_self, z_k_sI, z_len_sI, z_R_sI, z_N_sI, z_set_0, z_set_1, z_set_s, eq_self, true_implies, false_implies, not_true_eq_false, not_false_eq_true, ne_eq, true_or, or_true, false_or, or_false, false_and, and_false, Int.reduceNeg, Int.reduceEq, Int.reduceNe, Int.reduceLT, Int.reduceLE, Nat.reduceLeDiff, Nat.reduceEqDiff, Nat.reduceSub, Nat.reduceAdd, reduceCtorEq, reduceIte, implies_true, List.reverse_nil, lk49 hl, lr49_1 hl, lr49_5 hl, lr49_6 hl, lr49_7 hl, lr49_9 hl, lr49_10 hl, lr49_12 hl, lr49_13 hl, lr49_14 hl, lr49_15 hl, lr49_16 hl, lr49_18 hl, lr49_19 hl, lr49_20 hl, lr49_23 hl, lr49_24 hl, lr49_25 hl, lr49_26 hl, lr49_27 hl, lr49_28 hl, lr49_29 hl, lr49_32 hl, lr49_33 hl, lr49_34 hl, lr49_36 hl, lr49_37 hl, lk50 hl, ll50 hl, lk51 hl, ll51 hl, lk52 hl, ll52 hl, lk53 hl, ll53 hl, lk54 hl, ll54 hl, lk55 hl, ll55 hl, lk56 hl, ll56 hl, lk57 hl, ll57 hl, lk58 hl, ll58 hl, lk59 hl, ll59 hl, lk60 hl, ll60 hl, lk61 hl, ll61 hl, lk62 hl, ll62 hl, lk63 hl, ll63 hl, lk64 hl, ll64 hl, lk65 hl, ll65 hl, lk66 hl, ll66 hl, lk67 hl, ll67 hl, lk68 hl, ll68 hl, lk69 hl, ll69 hl, lk70 hl, ll70 hl, lk71 hl, ll71 hl, lk72 hl, ll72 hl, lk73 hl, ll73 hl, lk74 hl, ll74 hl, lk75 hl, ll75 hl]
    have hb := z_sg_bd ht.2.2.2.2 h0
    have h4 := ht.2.2.2.1
    refine ⟨fun c => ?_, fun c => ?_⟩
    · refine c_hereS hl ht h0 ?_
      simp only [g178_1, g178_4, g178_6, g178_9, g178_9r, g178_10, g178_10r, g178_11, g178_14, g178_15, g178_16, g178_19, g178_22, g178_22r, g178_23, g178_26 (st := []), z_kl_i, z_kl_l, z_kl_r, z_kl_n, z_kl_x, z_kl_vr, z_c8_0, z_c8_i, z_c8_l, z_c8_r, z_c8_vr, z_c8_n, z_vr_some, z_vr_none, Option.toList_some, Option.toList_none, List.cons_append, List.nil_append, true_and, and_true, and_self, z_k_sI, z_len_sI, z_R_sI, z_N_sI, z_set_0, z_set_1, z_set_s, eq_self, true_implies, false_implies, not_true_eq_false, not_false_eq_true, ne_eq, true_or, or_true, false_or, or_false, false_and, and_false, Int.reduceNeg, Int.reduceEq, Int.reduceNe, Int.reduceLT, Int.reduceLE, Nat.reduceLeDiff, Nat.reduceEqDiff, Nat.reduceSub, Nat.reduceAdd, reduceCtorEq, reduceIte, implies_true, List.reverse_nil]
      have e : z_sk T n (z_I w 49 3) = z_I w 49 3 := z_sk_eq c
      have := k w z_fr_rf e.symm
      rw [e] at this
      exact this
    · have c32 : z_sg T n (z_I w 49 3) = 32 := by omega
      intro _
      rw [z_add_eq (by omega) (by omega)]
      have hf : z_fr [] [(49, 3)] w (z_sI w 49 3 (z_I w 49 3 + 1)) := z_fr_sF z_fr_rf (by decide)
      have e3 : z_I (z_sI w 49 3 (z_I w 49 3 + 1)) 49 3 = z_I w 49 3 + 1 := z_I_at rfl
      refine ih _ (z_fr_lay hf hl) (z_tp_fr hf (by decide) (by decide) ht) (by omega) (by omega) (by omega) (fun w' hf' he => ?_)
      rw [e3] at he ⊢
      rw [← z_sk_st c32] at he ⊢
      exact k w' (z_fr_tr hf hf') he
theorem c_bad {d u w} {Q : z_P} (hl : z_lay w) (h0 : 0 ≤ z_I w 49 3) (k : ∀ w', z_fr [] [(49, 4)] w w' → (z_I w 49 4 ≠ -1 → z_I w' 49 4 = z_I w 49 4) → (z_I w 49 4 = -1 → z_I w' 49 4 = z_I w 49 3) → Q none w') : z_G d u 179 0 [z_r 49] [] w Q := by
  simp only [g179_0, g179_0r, g179_1, g179_1r, g179_2, g179_5, g179_6, g179_9, g179_9r, g179_10, g179_13, g179_16, g179_16r, g179_17, g179_20, g179_23, z_kl_i, z_kl_l, z_kl_r, z_kl_n, z_kl_x, z_kl_vr, z_c8_0, z_c8_i, z_c8_l, z_c8_r, z_c8_vr, z_c8_n, z_vr_some, z_vr_none, Option.toList_some, Option.toList_none, List.cons_append, List.nil_append, true_and, and_true, and_self, z_k_sI, z_len_sI, z_R_sI, z_N_sI, z_set_0, z_set_1, z_set_s, eq_self, true_implies, false_implies, not_true_eq_false, not_false_eq_true, ne_eq, true_or, or_true, false_or, or_false, false_and, and_false, Int.reduceNeg, Int.reduceEq, Int.reduceNe, Int.reduceLT, Int.reduceLE, Nat.reduceLeDiff, Nat.reduceEqDiff, Nat.reduceSub, Nat.reduceAdd, reduceCtorEq, reduceIte, implies_true, List.reverse_nil, lk49 hl, lr49_1 hl, lr49_5 hl, lr49_6 hl, lr49_7 hl, lr49_9 hl, lr49_10 hl, lr49_12 hl, lr49_13 hl, lr49_14 hl, lr49_15 hl, lr49_16 hl, lr49_18 hl, lr49_19 hl, lr49_20 hl, lr49_23 hl, lr49_24 hl, lr49_25 hl, lr49_26 hl, lr49_27 hl, lr49_28 hl, lr49_29 hl, lr49_32 hl, lr49_33 hl, lr49_34 hl, lr49_36 hl, lr49_37 hl, lk50 hl, ll50 hl, lk51 hl, ll51 hl, lk52 hl, ll52 hl, lk53 hl, ll53 hl, lk54 hl, ll54 hl, lk55 hl, ll55 hl, lk56 hl, ll56 hl, lk57 hl, ll57 hl, lk58 hl, ll58 hl, lk59 hl, ll59 hl, lk60 hl, ll60 hl, lk61 hl, ll61 hl, lk62 hl, ll62 hl, lk63 hl, ll63 hl, lk64 hl, ll64 hl, lk65 hl, ll65 hl, lk66 hl, ll66 hl, lk67 hl, ll67 hl, lk68 hl, ll68 hl, lk69 hl, ll69 hl, lk70 hl, ll70 hl, lk71 hl, ll71 hl, lk72 hl, ll72 hl, lk73 hl, ll73 hl, lk74 hl, ll74 hl, lk75 hl, ll75 hl]
  refine fun _ => ⟨fun c _ => k _ (z_fr_sF z_fr_rf (by decide)) (fun _ => z_I_at rfl) (fun h => absurd h c), fun c _ => k _ (z_fr_sF z_fr_rf (by decide)) (fun h => absurd h (by omega)) (fun _ => z_I_at rfl)⟩
theorem c_isDigit {d u w} {Q : z_P} (c : Int) (k1 : z_dg c → Q (some (z_i 1)) w) (k0 : ¬ z_dg c → Q (some (z_i 0)) w) : z_G d u 180 0 [z_i c] [] w Q := by
  unfold z_dg at k1 k0
  (repeat' (first | (simp (discharger := omega) only [z_add_eq, z_sub_eq, z_mul_eq]) | (with_reducible refine And.intro ?_ ?_) | (with_reducible intro _) | (exact k1 (by omega)) | (exact k0 (by omega)) | (simp only [g180_0, g180_1, g180_3, g180_6, g180_7, g180_9, g180_12, g180_13, g180_16, g180_17 (st := []), z_kl_i, z_kl_l, z_kl_r, z_kl_n, z_kl_x, z_kl_vr, z_c8_0, z_c8_i, z_c8_l, z_c8_r, z_c8_vr, z_c8_n, z_vr_some, z_vr_none, Option.toList_some, Option.toList_none, List.cons_append, List.nil_append, true_and, and_true, and_self, z_k_sI, z_len_sI, z_R_sI, z_N_sI, z_set_0, z_set_1, z_set_s, eq_self, true_implies, false_implies, not_true_eq_false, not_false_eq_true, ne_eq, true_or, or_true, false_or, or_false, false_and, and_false, Int.reduceNeg, Int.reduceEq, Int.reduceNe, Int.reduceLT, Int.reduceLE, Nat.reduceLeDiff, Nat.reduceEqDiff, Nat.reduceSub, Nat.reduceAdd, reduceCtorEq, reduceIte, implies_true, List.reverse_nil]) | omega))
theorem c_isLetter {d u w} {Q : z_P} (c : Int) (k1 : z_ltr c → Q (some (z_i 1)) w) (k0 : ¬ z_ltr c → Q (some (z_i 0)) w) : z_G d u 181 0 [z_i c] [] w Q := by
  unfold z_ltr at k1 k0
  (repeat' (first | (simp (discharger := omega) only [z_add_eq, z_sub_eq, z_mul_eq]) | (with_reducible refine And.intro ?_ ?_) | (with_reducible intro _) | (exact k1 (by omega)) | (exact k0 (by omega)) | (simp only [g181_0, g181_1, g181_3, g181_6, g181_7, g181_9, g181_12, g181_13, g181_16, g181_17 (st := []), z_kl_i, z_kl_l, z_kl_r, z_kl_n, z_kl_x, z_kl_vr, z_c8_0, z_c8_i, z_c8_l, z_c8_r, z_c8_vr, z_c8_n, z_vr_some, z_vr_none, Option.toList_some, Option.toList_none, List.cons_append, List.nil_append, true_and, and_true, and_self, z_k_sI, z_len_sI, z_R_sI, z_N_sI, z_set_0, z_set_1, z_set_s, eq_self, true_implies, false_implies, not_true_eq_false, not_false_eq_true, ne_eq, true_or, or_true, false_or, or_false, false_and, and_false, Int.reduceNeg, Int.reduceEq, Int.reduceNe, Int.reduceLT, Int.reduceLE, Nat.reduceLeDiff, Nat.reduceEqDiff, Nat.reduceSub, Nat.reduceAdd, reduceCtorEq, reduceIte, implies_true, List.reverse_nil]) | omega))
