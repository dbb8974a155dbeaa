/-- what a reading leaves: the place alone -/
def z_acc (w w' : z_W) (n : Int) (o : Int ⊕ Int) : Prop := 0 ≤ z_I w' 49 3 ∧ z_I w' 49 3 ≤ n ∧ (z_I w 49 4 ≠ -1 → z_I w' 49 4 = z_I w 49 4) ∧ (z_I w 49 4 = -1 → (∀ q, o = .inr q → z_I w' 49 3 = q ∧ z_I w' 49 4 = -1) ∧ ∀ e, o = .inl e → z_I w' 49 4 = e ∧ 0 ≤ e)
def z_sd (o : Int ⊕ (Int × Int)) : Int ⊕ Int := z_bn o (fun p => .inr p.2)
theorem z_res_acc {w w' : z_W} {n z : Int} {o : Int ⊕ (Int × Int)} (h : z_res w w' n z o) : z_acc w w' n (z_sd o) := by
  refine ⟨h.1, h.2.1, h.2.2.1, fun c => ⟨fun q e => ?_, fun e h' => ?_⟩⟩
  · cases o with
    | inl e' => exact z_qlr e
    | inr p =>
      obtain ⟨v, q'⟩ := p
      have e : (Sum.inr q' : Int ⊕ Int) = .inr q := e
      cases e
      have := (h.2.2.2 c).1 v _ rfl
      exact ⟨this.2.1, this.2.2⟩
  · cases o with
    | inl e' => cases h'; exact (h.2.2.2 c).2 _ rfl
    | inr p => exact z_qrl h'
theorem z_acc_bind {w w1 w2 : z_W} {n : Int} {o : Int ⊕ Int} {o2 : Int → Int ⊕ Int} (h : z_acc w w1 n o) (h2 : z_acc w1 w2 n (o2 (z_I w1 49 3))) : z_acc w w2 n (z_bn o o2) := by
  refine ⟨h2.1, h2.2.1, fun c => ?_, fun c => ?_⟩
  · have e := h.2.2.1 c
    exact (h2.2.2.1 (by rw [e]; exact c)).trans e
  · cases o with
    | inl e' =>
      have r := (h.2.2.2 c).2 _ rfl
      exact ⟨fun q e => z_qlr e, fun e h' => by cases h'; exact ⟨(h2.2.2.1 (by omega)).trans r.1, r.2⟩⟩
    | inr q =>
      have r := (h.2.2.2 c).1 q rfl
      have s := h2.2.2.2 r.2
      rw [r.1] at s
      exact s
/-- the place alone in place of the state -/
theorem z_acc_mv {w w1 w1' w2 : z_W} {n : Int} {o : Int ⊕ Int} (e3 : z_I w1' 49 3 = z_I w1 49 3) (e4 : z_I w1' 49 4 = z_I w1 49 4) (h : z_acc w w1 n o) : z_acc w w1' n o := by
  unfold z_acc at h ⊢
  rw [e3, e4]; exact h
theorem z_acc_mv0 {w w' w1 : z_W} {n : Int} {o : Int ⊕ Int} (e4 : z_I w' 49 4 = z_I w 49 4) (h : z_acc w w1 n o) : z_acc w' w1 n o := by
  unfold z_acc at h ⊢
  rw [e4]; exact h
theorem z_acc_rf {w : z_W} {n : Int} (h0 : 0 ≤ z_I w 49 3) (h1 : z_I w 49 3 ≤ n) : z_acc w w n (.inr (z_I w 49 3)) :=
  ⟨h0, h1, fun _ => rfl, fun c => ⟨fun q e => by cases e; exact ⟨rfl, c⟩, fun e h => z_qrl h⟩⟩
def z_p1 (T : Int → Int) (n b a : Int) : Int ⊕ Int := z_sd (z_one T n b a)
def z_pm (T : Int → Int) (n : Int) : List Int → Int → Int ⊕ Int
  | [], a => .inr a
  | b :: bs, a => z_bn (z_bn (z_co T n a) (z_p1 T n b)) (z_pm T n bs)
def z_pn (T : Int → Int) (n : Int) : List Int → Int → Int ⊕ Int
  | [], a => .inr a
  | b :: bs, a => z_bn (z_p1 T n b a) (z_pm T n bs)
theorem z_p1_nu {T : Int → Int} {n b a : Int} (h : b ≠ -1) : z_p1 T n b a = z_sd (z_nu T n b a) := by
  unfold z_p1 z_one; rw [if_neg h]
theorem z_p1_sn {T : Int → Int} {n a : Int} : z_p1 T n (-1) a = z_sd (z_sn T n a) := by
  unfold z_p1 z_one; rw [if_pos rfl]
theorem z_co_snd {o : Int ⊕ Int} : z_sd (z_bn o (fun q => .inr ((0 : Int), q))) = o := by
  cases o <;> rfl
/-- number and comma, the place alone -/
theorem c_numberP {d u w} {Q : z_P} {T : Int → Int} {n : Int} (hl : z_lay w) (ht : z_tp w T n) (h0 : 0 ≤ z_I w 49 3) (h1 : z_I w 49 3 ≤ n) (hi : Int) (hh : hi ≠ -1) (k : ∀ w' z, z_fr [] [(49, 3), (49, 4)] w w' → z_lay w' → z_tp w' T n → z_acc w w' n (z_p1 T n hi (z_I w 49 3)) → Q (some (z_i z)) w') : z_G (d + 2) u 183 0 [z_r 49, z_i 0, z_i hi] [] w Q :=
  c_number hl ht h0 h1 hi (fun w' z hf hr => k w' z hf (z_fr_lay hf hl) (z_tp_fr hf (by decide) (by decide) ht) (by rw [z_p1_nu hh]; exact z_res_acc hr))
theorem c_signedP {d u w} {Q : z_P} {T : Int → Int} {n : Int} (hl : z_lay w) (ht : z_tp w T n) (h0 : 0 ≤ z_I w 49 3) (h1 : z_I w 49 3 ≤ n) (k : ∀ w' z, z_fr [] [(49, 3), (49, 4)] w w' → z_lay w' → z_tp w' T n → z_acc w w' n (z_p1 T n (-1) (z_I w 49 3)) → Q (some (z_i z)) w') : z_G (d + 2) u 184 0 [z_r 49, z_i 63, z_x, z_x] [] w Q :=
  c_signedNumber hl ht h0 h1 (fun w' z hf hr => k w' z hf (z_fr_lay hf hl) (z_tp_fr hf (by decide) (by decide) ht) (by rw [z_p1_sn]; exact z_res_acc hr))
theorem c_commaP {d u w} {Q : z_P} {T : Int → Int} {n : Int} (hl : z_lay w) (ht : z_tp w T n) (h0 : 0 ≤ z_I w 49 3) (h1 : z_I w 49 3 ≤ n) (k : ∀ w', z_fr [] [(49, 3), (49, 4)] w w' → z_lay w' → z_tp w' T n → z_acc w w' n (z_co T n (z_I w 49 3)) → Q none w') : z_G (d + 2) u 185 0 [z_r 49] [] w Q :=
  c_comma hl ht h0 h1 (fun w' hf hr => k w' hf (z_fr_lay hf hl) (z_tp_fr hf (by decide) (by decide) ht) (by have := z_res_acc hr; rw [z_co_snd] at this; exact this))
set_option maxRecDepth 20000 in
theorem c_five {d u w} {Q : z_P} {T : Int → Int} {n : Int} (p : Nat) (f : Int) (hp : p = 51 ∨ p = 54) (hl : z_lay w) (ht : z_tp w T n) (h0 : 0 ≤ z_I w 49 3) (h1 : z_I w 49 3 ≤ n) (f0 : 0 ≤ f) (f1 : f + 5 ≤ z_len w p) (f2 : z_len w p ≤ 1000) (hk : z_k w p = 100) (k : ∀ w', z_fr [p] [(49, 3), (49, 4)] w w' → z_lay w' → z_tp w' T n → z_acc w w' n (z_pn T n [63, 63, 63, 63, 9] (z_I w 49 3)) → (∀ j, (j < f ∨ f + 5 ≤ j) → z_I w' p j = z_I w p j) → Q none w') : z_G (d + 3) u 186 0 [z_r 49, z_r p, z_i f, z_x] [] w Q := by
  have hp50 : 50 ∉ [p] ∧ 49 ∉ [p] := by rcases hp with rfl | rfl <;> decide
  have hp49 : p ≠ 49 := by rcases hp with rfl | rfl <;> decide
  have tail : ∀ (i hi : Int) (w0 w1 : z_W), z_fr [p] [(49, 3), (49, 4)] w w0 → z_fr [] [(49, 3), (49, 4)] w0 w1 → z_lay w1 → z_tp w1 T n → 0 ≤ z_I w1 49 3 → z_I w1 49 3 ≤ n → (∀ j, (j < f ∨ f + 5 ≤ j) → z_I w1 p j = z_I w p j) → 0 ≤ i → i ≤ 4 → hi = (if i < 4 then 63 else 9) → (∀ w2, z_fr [p] [(49, 3), (49, 4)] w w2 → z_lay w2 → z_tp w2 T n → 0 ≤ z_I w2 49 3 → z_I w2 49 3 ≤ n → (∀ j, (j < f ∨ f + 5 ≤ j) → z_I w2 p j = z_I w p j) → z_acc w1 w2 n (z_p1 T n hi (z_I w1 49 3)) → z_G (d + 3) u 186 2 [z_r 49, z_r p, z_i f, z_i (i + 1)] [] w2 Q) → z_G (d + 3) u 186 15 [z_r 49, z_r p, z_i f, z_i i] [] w1 Q := by
    intro i hi w0 w1 hf0 hf1 hl1 ht1 a0 a1 ho i0 i1 hh kk
    have hfw : z_fr [p] [(49, 3), (49, 4)] w w1 := z_fr_tr hf0 (z_fr_mo hf1 (by simp) (by simp))
    have st : ∀ w2 z, z_fr [] [(49, 3), (49, 4)] w1 w2 → z_lay w2 → z_tp w2 T n → z_acc w1 w2 n (z_p1 T n hi (z_I w1 49 3)) → z_G (d + 3) u 186 36 [z_r 49, z_r p, z_i f, z_i i] [z_i z, z_i (f + i), z_r p] w2 Q := by
      intro w2 z hf2 hl2 ht2 hr
      have hfw2 := z_fr_tr hfw (z_fr_mo hf2 (by simp) (by simp) : z_fr [p] [(49, 3), (49, 4)] w1 w2)
      have e1 := z_fr_k hfw2 p
      have e2 := z_fr_len hfw2 p
      simp only [g186_0, g186_1, g186_3, g186_4, g186_7, g186_8, g186_11, g186_11r, g186_12, g186_15, g186_15r, g186_16, g186_17, g186_18, g186_19, g186_19r, g186_20, g186_21, g186_22, g186_23, g186_26, g186_28, g186_31, g186_33, g186_36, g186_37, g186_40, g186_43, z_kl_i, z_kl_l, z_kl_r, z_kl_n, z_kl_x, z_kl_vr, z_c8_0, z_c8_i, z_c8_l, z_c8_r, z_c8_vr, z_c8_n, z_vr_some, z_vr_none, Option.toList_some, Option.toList_none, List.cons_append, List.nil_append, true_and, and_true, and_self, z_k_sI, z_len_sI, z_R_sI, z_N_sI, z_set_0, z_set_1, z_set_s, eq_self, true_implies, false_implies, not_true_eq_false, not_false_eq_true, ne_eq, true_or, or_true, false_or, or_false, false_and, and_false, Int.reduceNeg, Int.reduceEq, Int.reduceNe, Int.reduceLT, Int.reduceLE, Nat.reduceLeDiff, Nat.reduceEqDiff, Nat.reduceSub, Nat.reduceAdd, reduceCtorEq, reduceIte, implies_true, List.reverse_nil, lk49 hl2, lr49_1 hl2, lr49_5 hl2, lr49_6 hl2, lr49_7 hl2, lr49_9 hl2, lr49_10 hl2, lr49_12 hl2, lr49_13 hl2, lr49_14 hl2, lr49_15 hl2, lr49_16 hl2, lr49_18 hl2, lr49_19 hl2, lr49_20 hl2, lr49_23 hl2, lr49_24 hl2, lr49_25 hl2, lr49_26 hl2, lr49_27 hl2, lr49_28 hl2, lr49_29 hl2, lr49_32 hl2, lr49_33 hl2, lr49_34 hl2, lr49_36 hl2, lr49_37 hl2, lk50 hl2, ll50 hl2, lk51 hl2, ll51 hl2, lk52 hl2, ll52 hl2, lk53 hl2, ll53 hl2, lk54 hl2, ll54 hl2, lk55 hl2, ll55 hl2, lk56 hl2, ll56 hl2, lk57 hl2, ll57 hl2, lk58 hl2, ll58 hl2, lk59 hl2, ll59 hl2, lk60 hl2, ll60 hl2, lk61 hl2, ll61 hl2, lk62 hl2, ll62 hl2, lk63 hl2, ll63 hl2, lk64 hl2, ll64 hl2, lk65 hl2, ll65 hl2, lk66 hl2, ll66 hl2, lk67 hl2, ll67 hl2, lk68 hl2, ll68 hl2, lk69 hl2, ll69 hl2, lk70 hl2, ll70 hl2, lk71 hl2, ll71 hl2, lk72 hl2, ll72 hl2, lk73 hl2, ll73 hl2, lk74 hl2, ll74 hl2, lk75 hl2, ll75 hl2]
      rw [z_add_eq (by omega) (by omega)]
      refine ⟨by omega, by omega, by omega, ?_⟩
      have hf3 : z_fr [p] [(49, 3), (49, 4)] w (z_sI w2 p (f + i) z) := z_fr_sI hfw2 (by simp)
      have q3 : z_I (z_sI w2 p (f + i) z) 49 3 = z_I w2 49 3 := z_I_np (fun e => hp49 e.symm)
      have q4 : z_I (z_sI w2 p (f + i) z) 49 4 = z_I w2 49 4 := z_I_np (fun e => hp49 e.symm)
      exact kk _ hf3 (z_fr_lay hf3 hl) (z_tp_fr hf3 hp50 (by decide) ht) (by rw [q3]; exact hr.1) (by rw [q3]; exact hr.2.1) (fun j q => by rw [z_I_ne (by omega), hf2.2 p j (by simp) (by simp [hp49])]; exact ho j q) (z_acc_mv (w2 := w2) q3 q4 hr)
    simp only [g186_0, g186_1, g186_3, g186_4, g186_7, g186_8, g186_11, g186_11r, g186_12, g186_15, g186_15r, g186_16, g186_17, g186_18, g186_19, g186_19r, g186_20, g186_21, g186_22, g186_23, g186_26, g186_28, g186_31, g186_33, g186_37, g186_40, g186_43, z_kl_i, z_kl_l, z_kl_r, z_kl_n, z_kl_x, z_kl_vr, z_c8_0, z_c8_i, z_c8_l, z_c8_r, z_c8_vr, z_c8_n, z_vr_some, z_vr_none, Option.toList_some, Option.toList_none, List.cons_append, List.nil_append, true_and, and_true, and_self, z_k_sI, z_len_sI, z_R_sI, z_N_sI, z_set_0, z_set_1, z_set_s, eq_self, true_implies, false_implies, not_true_eq_false, not_false_eq_true, ne_eq, true_or, or_true, false_or, or_false, false_and, and_false, Int.reduceNeg, Int.reduceEq, Int.reduceNe, Int.reduceLT, Int.reduceLE, Nat.reduceLeDiff, Nat.reduceEqDiff, Nat.reduceSub, Nat.reduceAdd, reduceCtorEq, reduceIte, implies_true, List.reverse_nil, lk49 hl1, lr49_1 hl1, lr49_5 hl1, lr49_6 hl1, lr49_7 hl1, lr49_9 hl1, lr49_10 hl1, lr49_12 hl1, lr49_13 hl1, lr49_14 hl1, lr49_15 hl1, lr49_16 hl1, lr49_18 hl1, lr49_19 hl1, lr49_20 hl1, lr49_23 hl1, lr49_24 hl1, lr49_25 hl1, lr49_26 hl1, lr49_27 hl1, lr49_28 hl1, lr49_29 hl1, lr49_32 hl1, lr49_33 hl1, lr49_34 hl1, lr49_36 hl1, lr49_37 hl1, lk50 hl1, ll50 hl1, lk51 hl1, ll51 hl1, lk52 hl1, ll52 hl1, lk53 hl1, ll53 hl1, lk54 hl1, ll54 hl1, lk55 hl1, ll55 hl1, lk56 hl1, ll56 hl1, lk57 hl1, ll57 hl1, lk58 hl1, ll58 hl1, lk59 hl1, ll59 hl1, lk60 hl1, ll60 hl1, lk61 hl1, ll61 hl1, lk62 hl1, ll62 hl1, lk63 hl1, ll63 hl1, lk64 hl1, ll64 hl1, lk65 hl1, ll65 hl1, lk66 hl1, ll66 hl1, lk67 hl1, ll67 hl1, lk68 hl1, ll68 hl1, lk69 hl1, ll69 hl1, lk70 hl1, ll70 hl1, lk71 hl1, ll71 hl1, lk72 hl1, ll72 hl1, lk73 hl1, ll73 hl1, lk74 hl1, ll74 hl1, lk75 hl1, ll75 hl1]
    rw [z_add_eq (by omega) (by omega)]
    refine ⟨fun c => ?_, fun c => ?_⟩
    · refine c_numberP hl1 ht1 a0 a1 _ (by decide) (fun w2 z hf2 hl2 ht2 hr => ?_)
      rw [if_neg (by omega)] at hh
      subst hh
      simp only [g186_0, g186_1, g186_3, g186_4, g186_7, g186_8, g186_11, g186_11r, g186_12, g186_15, g186_15r, g186_16, g186_17, g186_18, g186_19, g186_19r, g186_20, g186_21, g186_22, g186_23, g186_26, g186_28, g186_31, g186_33, g186_37, g186_40, g186_43, z_kl_i, z_kl_l, z_kl_r, z_kl_n, z_kl_x, z_kl_vr, z_c8_0, z_c8_i, z_c8_l, z_c8_r, z_c8_vr, z_c8_n, z_vr_some, z_vr_none, Option.toList_some, Option.toList_none, List.cons_append, List.nil_append, true_and, and_true, and_self, z_k_sI, z_len_sI, z_R_sI, z_N_sI, z_set_0, z_set_1, z_set_s, eq_self, true_implies, false_implies, not_true_eq_false, not_false_eq_true, ne_eq, true_or, or_true, false_or, or_false, false_and, and_false, Int.reduceNeg, Int.reduceEq, Int.reduceNe, Int.reduceLT, Int.reduceLE, Nat.reduceLeDiff, Nat.reduceEqDiff, Nat.reduceSub, Nat.reduceAdd, reduceCtorEq, reduceIte, implies_true, List.reverse_nil]
      exact st w2 z hf2 hl2 ht2 hr
    · refine c_numberP hl1 ht1 a0 a1 _ (by decide) (fun w2 z hf2 hl2 ht2 hr => ?_)
      rw [if_pos (by omega)] at hh
      subst hh
      simp only [g186_0, g186_1, g186_3, g186_4, g186_7, g186_8, g186_11, g186_11r, g186_12, g186_15, g186_15r, g186_16, g186_17, g186_18, g186_19, g186_19r, g186_20, g186_21, g186_22, g186_23, g186_26, g186_28, g186_31, g186_33, g186_37, g186_40, g186_43, z_kl_i, z_kl_l, z_kl_r, z_kl_n, z_kl_x, z_kl_vr, z_c8_0, z_c8_i, z_c8_l, z_c8_r, z_c8_vr, z_c8_n, z_vr_some, z_vr_none, Option.toList_some, Option.toList_none, List.cons_append, List.nil_append, true_and, and_true, and_self, z_k_sI, z_len_sI, z_R_sI, z_N_sI, z_set_0, z_set_1, z_set_s, eq_self, true_implies, false_implies, not_true_eq_false, not_false_eq_true, ne_eq, true_or, or_true, false_or, or_false, false_and, and_false, Int.reduceNeg, Int.reduceEq, Int.reduceNe, Int.reduceLT, Int.reduceLE, Nat.reduceLeDiff, Nat.reduceEqDiff, Nat.reduceSub, Nat.reduceAdd, reduceCtorEq, reduceIte, implies_true, List.reverse_nil]
      exact st w2 z hf2 hl2 ht2 hr
  have step : ∀ (i hi : Int) (w1 : z_W), 1 ≤ i → i ≤ 4 → hi = (if i < 4 then 63 else 9) → z_fr [p] [(49, 3), (49, 4)] w w1 → z_lay w1 → z_tp w1 T n → 0 ≤ z_I w1 49 3 → z_I w1 49 3 ≤ n → (∀ j, (j < f ∨ f + 5 ≤ j) → z_I w1 p j = z_I w p j) → (∀ w', z_fr [p] [(49, 3), (49, 4)] w w' → z_lay w' → z_tp w' T n → 0 ≤ z_I w' 49 3 → z_I w' 49 3 ≤ n → (∀ j, (j < f ∨ f + 5 ≤ j) → z_I w' p j = z_I w p j) → z_acc w1 w' n (z_bn (z_co T n (z_I w1 49 3)) (z_p1 T n hi)) → z_G (d + 3) u 186 2 [z_r 49, z_r p, z_i f, z_i (i + 1)] [] w' Q) → z_G (d + 3) u 186 2 [z_r 49, z_r p, z_i f, z_i i] [] w1 Q := by
    intro i hi w1 i0 i1 hh hf1 hl1 ht1 a0 a1 ho kk
    rw [g186_2]
    simp only [g186_0, g186_1, g186_3, g186_4, g186_7, g186_8, g186_11, g186_11r, g186_12, g186_16, g186_17, g186_18, g186_19, g186_19r, g186_20, g186_21, g186_22, g186_23, g186_26, g186_28, g186_31, g186_33, g186_36, g186_37, g186_40, g186_43, z_kl_i, z_kl_l, z_kl_r, z_kl_n, z_kl_x, z_kl_vr, z_c8_0, z_c8_i, z_c8_l, z_c8_r, z_c8_vr, z_c8_n, z_vr_some, z_vr_none, Option.toList_some, Option.toList_none, List.cons_append, List.nil_append, true_and, and_true, and_self, z_k_sI, z_len_sI, z_R_sI, z_N_sI, z_set_0, z_set_1, z_set_s, eq_self, true_implies, false_implies, not_true_eq_false, not_false_eq_true, ne_eq, true_or, or_true, false_or, or_false, false_and, and_false, Int.reduceNeg, Int.reduceEq, Int.reduceNe, Int.reduceLT, Int.reduceLE, Nat.reduceLeDiff, Nat.reduceEqDiff, Nat.reduceSub, Nat.reduceAdd, reduceCtorEq, reduceIte, implies_true, List.reverse_nil, lk49 hl1, lr49_1 hl1, lr49_5 hl1, lr49_6 hl1, lr49_7 hl1, lr49_9 hl1, lr49_10 hl1, lr49_12 hl1, lr49_13 hl1, lr49_14 hl1, lr49_15 hl1, lr49_16 hl1, lr49_18 hl1, lr49_19 hl1, lr49_20 hl1, lr49_23 hl1, lr49_24 hl1, lr49_25 hl1, lr49_26 hl1, lr49_27 hl1, lr49_28 hl1, lr49_29 hl1, lr49_32 hl1, lr49_33 hl1, lr49_34 hl1, lr49_36 hl1, lr49_37 hl1, lk50 hl1, ll50 hl1, lk51 hl1, ll51 hl1, lk52 hl1, ll52 hl1, lk53 hl1, ll53 hl1, lk54 hl1, ll54 hl1, lk55 hl1, ll55 hl1, lk56 hl1, ll56 hl1, lk57 hl1, ll57 hl1, lk58 hl1, ll58 hl1, lk59 hl1, ll59 hl1, lk60 hl1, ll60 hl1, lk61 hl1, ll61 hl1, lk62 hl1, ll62 hl1, lk63 hl1, ll63 hl1, lk64 hl1, ll64 hl1, lk65 hl1, ll65 hl1, lk66 hl1, ll66 hl1, lk67 hl1, ll67 hl1, lk68 hl1, ll68 hl1, lk69 hl1, ll69 hl1, lk70 hl1, ll70 hl1, lk71 hl1, ll71 hl1, lk72 hl1, ll72 hl1, lk73 hl1, ll73 hl1, lk74 hl1, ll74 hl1, lk75 hl1, ll75 hl1]
    refine ⟨fun c => absurd c (by omega), fun _ => ⟨fun c => absurd c (by omega), fun _ => ?_⟩⟩
    refine c_commaP hl1 ht1 a0 a1 (fun w2 hf2 hl2 ht2 hr2 => ?_)
    simp only [g186_0, g186_1, g186_3, g186_4, g186_7, g186_8, g186_11, g186_11r, g186_12, g186_16, g186_17, g186_18, g186_19, g186_19r, g186_20, g186_21, g186_22, g186_23, g186_26, g186_28, g186_31, g186_33, g186_36, g186_37, g186_40, g186_43, z_kl_i, z_kl_l, z_kl_r, z_kl_n, z_kl_x, z_kl_vr, z_c8_0, z_c8_i, z_c8_l, z_c8_r, z_c8_vr, z_c8_n, z_vr_some, z_vr_none, Option.toList_some, Option.toList_none, List.cons_append, List.nil_append, true_and, and_true, and_self, z_k_sI, z_len_sI, z_R_sI, z_N_sI, z_set_0, z_set_1, z_set_s, eq_self, true_implies, false_implies, not_true_eq_false, not_false_eq_true, ne_eq, true_or, or_true, false_or, or_false, false_and, and_false, Int.reduceNeg, Int.reduceEq, Int.reduceNe, Int.reduceLT, Int.reduceLE, Nat.reduceLeDiff, Nat.reduceEqDiff, Nat.reduceSub, Nat.reduceAdd, reduceCtorEq, reduceIte, implies_true, List.reverse_nil, lk49 hl2, lr49_1 hl2, lr49_5 hl2, lr49_6 hl2, lr49_7 hl2, lr49_9 hl2, lr49_10 hl2, lr49_12 hl2, lr49_13 hl2, lr49_14 hl2, lr49_15 hl2, lr49_16 hl2, lr49_18 hl2, lr49_19 hl2, lr49_20 hl2, lr49_23 hl2, lr49_24 hl2, lr49_25 hl2, lr49_26 hl2, lr49_27 hl2, lr49_28 hl2, lr49_29 hl2, lr49_32 hl2, lr49_33 hl2, lr49_34 hl2, lr49_36 hl2, lr49_37 hl2, lk50 hl2, ll50 hl2, lk51 hl2, ll51 hl2, lk52 hl2, ll52 hl2, lk53 hl2, ll53 hl2, lk54 hl2, ll54 hl2, lk55 hl2, ll55 hl2, lk56 hl2, ll56 hl2, lk57 hl2, ll57 hl2, lk58 hl2, ll58 hl2, lk59 hl2, ll59 hl2, lk60 hl2, ll60 hl2, lk61 hl2, ll61 hl2, lk62 hl2, ll62 hl2, lk63 hl2, ll63 hl2, lk64 hl2, ll64 hl2, lk65 hl2, ll65 hl2, lk66 hl2, ll66 hl2, lk67 hl2, ll67 hl2, lk68 hl2, ll68 hl2, lk69 hl2, ll69 hl2, lk70 hl2, ll70 hl2, lk71 hl2, ll71 hl2, lk72 hl2, ll72 hl2, lk73 hl2, ll73 hl2, lk74 hl2, ll74 hl2, lk75 hl2, ll75 hl2]
    refine tail i hi w1 w2 hf1 hf2 hl2 ht2 hr2.1 hr2.2.1 (fun j q => by rw [hf2.2 p j (by simp) (by simp [hp49])]; exact ho j q) (by omega) i1 hh (fun w3 hf3 hl3 ht3 b0 b1 ho3 hr3 => ?_)
    exact kk w3 hf3 hl3 ht3 b0 b1 ho3 (z_acc_bind hr2 hr3)
  have first : z_G (d + 3) u 186 2 [z_r 49, z_r p, z_i f, z_i 0] [] w Q := by
    rw [g186_2]
    simp only [g186_0, g186_1, g186_3, g186_4, g186_7, g186_8, g186_11, g186_11r, g186_12, g186_16, g186_17, g186_18, g186_19, g186_19r, g186_20, g186_21, g186_22, g186_23, g186_26, g186_28, g186_31, g186_33, g186_36, g186_37, g186_40, g186_43, z_kl_i, z_kl_l, z_kl_r, z_kl_n, z_kl_x, z_kl_vr, z_c8_0, z_c8_i, z_c8_l, z_c8_r, z_c8_vr, z_c8_n, z_vr_some, z_vr_none, Option.toList_some, Option.toList_none, List.cons_append, List.nil_append, true_and, and_true, and_self, z_k_sI, z_len_sI, z_R_sI, z_N_sI, z_set_0, z_set_1, z_set_s, eq_self, true_implies, false_implies, not_true_eq_false, not_false_eq_true, ne_eq, true_or, or_true, false_or, or_false, false_and, and_false, Int.reduceNeg, Int.reduceEq, Int.reduceNe, Int.reduceLT, Int.reduceLE, Nat.reduceLeDiff, Nat.reduceEqDiff, Nat.reduceSub, Nat.reduceAdd, reduceCtorEq, reduceIte, implies_true, List.reverse_nil, lk49 hl, lr49_1 hl, lr49_5 hl, lr49_6 hl, lr49_7 hl, lr49_9 hl, lr49_10 hl, lr49_12 hl, lr49_13 hl, lr49_14 hl, lr49_15 hl, lr49_16 hl, lr49_18 hl, lr49_19 hl, lr49_20 hl, lr49_23 hl, lr49_24 hl, lr49_25 hl, lr49_26 hl, lr49_27 hl, lr49_28 hl, lr49_29 hl, lr49_32 hl, lr49_33 hl, lr49_34 hl, lr49_36 hl, lr49_37 hl, lk50 hl, ll50 hl, lk51 hl, ll51 hl, lk52 hl, ll52 hl, lk53 hl, ll53 hl, lk54 hl, ll54 hl, lk55 hl, ll55 hl, lk56 hl, ll56 hl, lk57 hl, ll57 hl, lk58 hl, ll58 hl, lk59 hl, ll59 hl, lk60 hl, ll60 hl, lk61 hl, ll61 hl, lk62 hl, ll62 hl, lk63 hl, ll63 hl, lk64 hl, ll64 hl, lk65 hl, ll65 hl, lk66 hl, ll66 hl, lk67 hl, ll67 hl, lk68 hl, ll68 hl, lk69 hl, ll69 hl, lk70 hl, ll70 hl, lk71 hl, ll71 hl, lk72 hl, ll72 hl, lk73 hl, ll73 hl, lk74 hl, ll74 hl, lk75 hl, ll75 hl]
    refine tail 0 63 w w z_fr_rf z_fr_rf hl ht h0 h1 (fun _ _ => rfl) (by omega) (by omega) (by decide) (fun w1 hf1 hl1 ht1 a0 a1 ho1 hr1 => ?_)
    refine step 1 63 w1 (by omega) (by omega) (by decide) hf1 hl1 ht1 a0 a1 ho1 (fun w2 hf2 hl2 ht2 b0 b1 ho2 hr2 => ?_)
    refine step 2 63 w2 (by omega) (by omega) (by decide) hf2 hl2 ht2 b0 b1 ho2 (fun w3 hf3 hl3 ht3 c0 c1 ho3 hr3 => ?_)
    refine step 3 63 w3 (by omega) (by omega) (by decide) hf3 hl3 ht3 c0 c1 ho3 (fun w4 hf4 hl4 ht4 d0 d1 ho4 hr4 => ?_)
    refine step 4 9 w4 (by omega) (by omega) (by decide) hf4 hl4 ht4 d0 d1 ho4 (fun w5 hf5 hl5 ht5 e0 e1 ho5 hr5 => ?_)
    rw [g186_2]
    simp only [g186_0, g186_1, g186_3, g186_4, g186_7, g186_8, g186_11, g186_11r, g186_12, g186_16, g186_17, g186_18, g186_19, g186_19r, g186_20, g186_21, g186_22, g186_23, g186_26, g186_28, g186_31, g186_33, g186_36, g186_37, g186_40, g186_43, z_kl_i, z_kl_l, z_kl_r, z_kl_n, z_kl_x, z_kl_vr, z_c8_0, z_c8_i, z_c8_l, z_c8_r, z_c8_vr, z_c8_n, z_vr_some, z_vr_none, Option.toList_some, Option.toList_none, List.cons_append, List.nil_append, true_and, and_true, and_self, z_k_sI, z_len_sI, z_R_sI, z_N_sI, z_set_0, z_set_1, z_set_s, eq_self, true_implies, false_implies, not_true_eq_false, not_false_eq_true, ne_eq, true_or, or_true, false_or, or_false, false_and, and_false, Int.reduceNeg, Int.reduceEq, Int.reduceNe, Int.reduceLT, Int.reduceLE, Nat.reduceLeDiff, Nat.reduceEqDiff, Nat.reduceSub, Nat.reduceAdd, reduceCtorEq, reduceIte, implies_true, List.reverse_nil, lk49 hl5, lr49_1 hl5, lr49_5 hl5, lr49_6 hl5, lr49_7 hl5, lr49_9 hl5, lr49_10 hl5, lr49_12 hl5, lr49_13 hl5, lr49_14 hl5, lr49_15 hl5, lr49_16 hl5, lr49_18 hl5, lr49_19 hl5, lr49_20 hl5, lr49_23 hl5, lr49_24 hl5, lr49_25 hl5, lr49_26 hl5, lr49_27 hl5, lr49_28 hl5, lr49_29 hl5, lr49_32 hl5, lr49_33 hl5, lr49_34 hl5, lr49_36 hl5, lr49_37 hl5, lk50 hl5, ll50 hl5, lk51 hl5, ll51 hl5, lk52 hl5, ll52 hl5, lk53 hl5, ll53 hl5, lk54 hl5, ll54 hl5, lk55 hl5, ll55 hl5, lk56 hl5, ll56 hl5, lk57 hl5, ll57 hl5, lk58 hl5, ll58 hl5, lk59 hl5, ll59 hl5, lk60 hl5, ll60 hl5, lk61 hl5, ll61 hl5, lk62 hl5, ll62 hl5, lk63 hl5, ll63 hl5, lk64 hl5, ll64 hl5, lk65 hl5, ll65 hl5, lk66 hl5, ll66 hl5, lk67 hl5, ll67 hl5, lk68 hl5, ll68 hl5, lk69 hl5, ll69 hl5, lk70 hl5, ll70 hl5, lk71 hl5, ll71 hl5, lk72 hl5, ll72 hl5, lk73 hl5, ll73 hl5, lk74 hl5, ll74 hl5, lk75 hl5, ll75 hl5]
    refine ⟨fun _ => ?_, fun c => absurd (by omega) c⟩
    exact k w5 hf5 hl5 ht5 (z_acc_bind hr1 (z_acc_bind hr2 (z_acc_bind hr3 (z_acc_bind hr4 (z_acc_bind hr5 (z_acc_rf e0 e1)))))) ho5
  simp only [g186_0, g186_1, g186_3, g186_4, g186_7, g186_8, g186_11, g186_11r, g186_12, g186_15, g186_15r, g186_16, g186_17, g186_18, g186_19, g186_19r, g186_20, g186_21, g186_22, g186_23, g186_26, g186_28, g186_31, g186_33, g186_36, g186_37, g186_40, g186_43, z_kl_i, z_kl_l, z_kl_r, z_kl_n, z_kl_x, z_kl_vr, z_c8_0, z_c8_i, z_c8_l, z_c8_r, z_c8_vr, z_c8_n, z_vr_some, z_vr_none, Option.toList_some, Option.toList_none, List.cons_append, List.nil_append, true_and, and_true, and_self, z_k_sI, z_len_sI, z_R_sI, z_N_sI, z_set_0, z_set_1, z_set_s, eq_self, true_implies, false_implies, not_true_eq_false, not_false_eq_true, ne_eq, true_or, or_true, false_or, or_false, false_and, and_false, Int.reduceNeg, Int.reduceEq, Int.reduceNe, Int.reduceLT, Int.reduceLE, Nat.reduceLeDiff, Nat.reduceEqDiff, Nat.reduceSub, Nat.reduceAdd, reduceCtorEq, reduceIte, implies_true, List.reverse_nil, lk49 hl, lr49_1 hl, lr49_5 hl, lr49_6 hl, lr49_7 hl, lr49_9 hl, lr49_10 hl, lr49_12 hl, lr49_13 hl, lr49_14 hl, lr49_15 hl, lr49_16 hl, lr49_18 hl, lr49_19 hl, lr49_20 hl, lr49_23 hl, lr49_24 hl, lr49_25 hl, lr49_26 hl, lr49_27 hl, lr49_28 hl, lr49_29 hl, lr49_32 hl, lr49_33 hl, lr49_34 hl, lr49_36 hl, lr49_37 hl, lk50 hl, ll50 hl, lk51 hl, ll51 hl, lk52 hl, ll52 hl, lk53 hl, ll53 hl, lk54 hl, ll54 hl, lk55 hl, ll55 hl, lk56 hl, ll56 hl, lk57 hl, ll57 hl, lk58 hl, ll58 hl, lk59 hl, ll59 hl, lk60 hl, ll60 hl, lk61 hl, ll61 hl, lk62 hl, ll62 hl, lk63 hl, ll63 hl, lk64 hl, ll64 hl, lk65 hl, ll65 hl, lk66 hl, ll66 hl, lk67 hl, ll67 hl, lk68 hl, ll68 hl, lk69 hl, ll69 hl, lk70 hl, ll70 hl, lk71 hl, ll71 hl, lk72 hl, ll72 hl, lk73 hl, ll73 hl, lk74 hl, ll74 hl, lk75 hl, ll75 hl]
  exact first
/-- lengths of names -/
def z_nb (w : z_W) : Prop := ∀ r, 0 ≤ r → r < 10 → 0 ≤ z_I w 53 r ∧ z_I w 53 r ≤ 4
/-- letters at a, at most f -/
theorem z_lts_bd {T : Int → Int} {n : Int} : ∀ (f : Nat) (a : Int), 0 ≤ z_lts T n f a ∧ z_lts T n f a ≤ f := by
  intro f
  induction f with
  | zero => intro a; exact ⟨Int.le_refl _, Int.le_refl _⟩
  | succ f ih =>
    intro a
    unfold z_lts
    by_cases q : z_ltr (z_sg T n a)
    · rw [if_pos q]; have := ih (a + 1); omega
    · rw [if_neg q]; omega
