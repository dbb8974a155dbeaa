/-! the reference, exactly: acts, what is kept, the log -/
set_option maxRecDepth 20000 in
theorem ex_keep {d u w} {Q : z_P} (hl : z_lay w) (h0 : 0 ≤ z_I w 49 30 ∧ z_I w 49 30 ≤ 40) (k : ∀ w', z_fr [70] [(49, 30)] w w' → z_I w' 49 30 = pu_up (z_I w 49 30) → (∀ i, 0 ≤ i → i < 301 → z_I w' 70 (301 * (pu_up (z_I w 49 30) - 1) + i) = z_I w 56 i) → (∀ g i, 2 ≤ g → g ≤ pu_up (z_I w 49 30) → 0 ≤ i → i < 301 → z_I w' 70 (301 * (pu_up (z_I w 49 30) - g) + i) = z_I w 70 (301 * (z_I w 49 30 - (g - 1)) + i)) → Q none w') : z_G d u 233 0 [z_r 49, z_x] [] w Q := by
  have l2 : ∀ (n : Nat) (j : Int) (w1 w' : z_W), 0 ≤ j → j ≤ 301 → (301 - j).toNat < n → z_fr [70] [(49, 30)] w w1 → z_fr [70] [] w1 w' → 0 ≤ z_I w1 49 30 → z_I w1 49 30 ≤ 39 → z_I w1 49 30 + 1 = pu_up (z_I w 49 30) → (∀ g i, 2 ≤ g → g ≤ pu_up (z_I w 49 30) → 0 ≤ i → i < 301 → z_I w1 70 (301 * (pu_up (z_I w 49 30) - g) + i) = z_I w 70 (301 * (z_I w 49 30 - (g - 1)) + i)) → (∀ i, 0 ≤ i → i < j → z_I w' 70 (301 * z_I w1 49 30 + i) = z_I w 56 i) → (∀ i, (i < 301 * z_I w1 49 30 ∨ 301 * z_I w1 49 30 + 301 ≤ i) → z_I w' 70 i = z_I w1 70 i) → z_G d u 233 54 [z_r 49, z_i j] [] w' Q := by
    intro n
    induction n with
    | zero => intro j w1 w' _ _ h; exact absurd h (Nat.not_lt_zero _)
    | succ n ih =>
      intro j w1 w' j0 j1 h hf1 hf a0 a1 au hr hi ho
      have hfw : z_fr [70] [(49, 30)] w w' := z_fr_tr hf1 (z_fr_mo hf (by decide) (by decide))
      have hl' := z_fr_lay hfw hl
      have e30 : z_I w' 49 30 = z_I w1 49 30 := hf.2 49 30 (by decide) (by decide)
      rw [g233_54]
      simp only [g233_0, g233_0r, g233_1, g233_4, g233_6, g233_9, g233_12, g233_13, g233_14, g233_17, g233_20, g233_20r, g233_21, g233_24, g233_25, g233_28, g233_29, g233_29r, g233_30, g233_33, g233_34, g233_35, g233_36, g233_39, g233_42, g233_42r, g233_43, g233_43r, g233_44, g233_47, g233_48, g233_49, g233_52, g233_53, g233_55, g233_58, g233_61, g233_61r, g233_62, g233_65, g233_68, g233_68r, g233_69, g233_72, g233_73, g233_74, g233_75, g233_75r, g233_76, g233_79, g233_80, g233_81, g233_82, g233_85, g233_88, g233_88r, g233_89, g233_89r, g233_90, g233_93, g233_94, g233_95, g233_98, z_kl_i, z_kl_l, z_kl_r, z_kl_n, z_kl_x, z_kl_vr, z_c8_0, z_c8_i, z_c8_l, z_c8_r, z_c8_vr, z_c8_n, z_vr_some, z_vr_none, Option.toList_some, Option.toList_none, List.cons_append, List.nil_append, true_and, and_true, and_self, z_k_sI, z_len_sI, z_R_sI, z_N_sI, z_set_0, z_set_1, z_set_s, eq_self, true_implies, false_implies, not_true_eq_false, not_false_eq_true, ne_eq, true_or, or_true, false_or, or_false, false_and, and_false, Int.reduceNeg, Int.reduceEq, Int.reduceNe, Int.reduceLT, Int.reduceLE, Nat.reduceLeDiff, Nat.reduceEqDiff, Nat.reduceSub, Nat.reduceAdd, reduceCtorEq, reduceIte, implies_true, List.reverse_nil, lk49 hl', lr49_1 hl', lr49_5 hl', lr49_6 hl', lr49_7 hl', lr49_9 hl', lr49_10 hl', lr49_12 hl', lr49_13 hl', lr49_14 hl', lr49_15 hl', lr49_16 hl', lr49_18 hl', lr49_19 hl', lr49_20 hl', lr49_23 hl', lr49_24 hl', lr49_25 hl', lr49_26 hl', lr49_27 hl', lr49_28 hl', lr49_29 hl', lr49_32 hl', lr49_33 hl', lr49_34 hl', lr49_36 hl', lr49_37 hl', lk50 hl', ll50 hl', lk51 hl', ll51 hl', lk52 hl', ll52 hl', lk53 hl', ll53 hl', lk54 hl', ll54 hl', lk55 hl', ll55 hl', lk56 hl', ll56 hl', lk57 hl', ll57 hl', lk58 hl', ll58 hl', lk59 hl', ll59 hl', lk60 hl', ll60 hl', lk61 hl', ll61 hl', lk62 hl', ll62 hl', lk63 hl', ll63 hl', lk64 hl', ll64 hl', lk65 hl', ll65 hl', lk66 hl', ll66 hl', lk67 hl', ll67 hl', lk68 hl', ll68 hl', lk69 hl', ll69 hl', lk70 hl', ll70 hl', lk71 hl', ll71 hl', lk72 hl', ll72 hl', lk73 hl', ll73 hl', lk74 hl', ll74 hl', lk75 hl', ll75 hl']
      refine ⟨fun _ _ => ?_, fun c _ => ?_⟩
      · rw [e30, z_add_eq (by omega) (by omega)]
        have hf2 : z_fr [70] [(49, 30)] w (z_sI w' 49 30 (z_I w1 49 30 + 1)) := z_fr_sF hfw (by decide)
        refine k _ hf2 (by rw [z_I_at rfl, au]) (fun i i0 i1 => ?_) (fun g i g0 g1 i0 i1 => ?_)
        · rw [z_I_np (by decide), ← au, show z_I w1 49 30 + 1 - 1 = z_I w1 49 30 by omega]
          exact hi i i0 (by omega)
        · rw [z_I_np (by decide), ho _ (by omega)]
          exact hr g i g0 g1 i0 i1
      · rw [e30, z_mul_eq (by omega) (by omega), z_add_eq (by omega) (by omega), z_add_eq (by omega) (by omega)]
        refine ⟨by omega, by omega, fun _ => ⟨by omega, by omega, ?_⟩⟩
        refine ih _ w1 _ (by omega) (by omega) (by omega) hf1 (z_fr_sI hf (by decide)) a0 a1 au hr (fun i i0 i1 => ?_) (fun i i0 => ?_)
        · by_cases q : i = j
          · rw [z_I_at (by omega), q, hfw.2 56 j (by decide) (by simp)]
          · rw [z_I_ne (by omega)]; exact hi i i0 (by omega)
        · rw [z_I_ne (by omega)]; exact ho i i0
  have l1 : ∀ (n : Nat) (j : Int) (w' : z_W), 301 ≤ j → j ≤ 12040 → (12040 - j).toNat < n → z_fr [70] [] w w' → (∀ i, 0 ≤ i → i < j - 301 → z_I w' 70 i = z_I w 70 (i + 301)) → (∀ i, j - 301 ≤ i → z_I w' 70 i = z_I w 70 i) → z_I w 49 30 = 40 → z_G d u 233 13 [z_r 49, z_i j] [] w' Q := by
    intro n
    induction n with
    | zero => intro j w' _ _ h; exact absurd h (Nat.not_lt_zero _)
    | succ n ih =>
      intro j w' j0 j1 h hf hlo hhi h40
      have hl' := z_fr_lay hf hl
      have e30 : z_I w' 49 30 = z_I w 49 30 := hf.2 49 30 (by decide) (by decide)
      rw [g233_13]
      simp only [g233_0, g233_0r, g233_1, g233_4, g233_6, g233_9, g233_12, g233_14, g233_17, g233_20, g233_20r, g233_21, g233_24, g233_25, g233_28, g233_29, g233_29r, g233_30, g233_33, g233_34, g233_35, g233_36, g233_39, g233_42, g233_42r, g233_43, g233_43r, g233_44, g233_47, g233_48, g233_49, g233_52, g233_53, g233_55, g233_58, g233_61, g233_61r, g233_62, g233_65, g233_68, g233_68r, g233_69, g233_72, g233_73, g233_74, g233_75, g233_75r, g233_76, g233_79, g233_80, g233_81, g233_82, g233_85, g233_88, g233_88r, g233_89, g233_89r, g233_90, g233_93, g233_94, g233_95, g233_98, z_kl_i, z_kl_l, z_kl_r, z_kl_n, z_kl_x, z_kl_vr, z_c8_0, z_c8_i, z_c8_l, z_c8_r, z_c8_vr, z_c8_n, z_vr_some, z_vr_none, Option.toList_some, Option.toList_none, List.cons_append, List.nil_append, true_and, and_true, and_self, z_k_sI, z_len_sI, z_R_sI, z_N_sI, z_set_0, z_set_1, z_set_s, eq_self, true_implies, false_implies, not_true_eq_false, not_false_eq_true, ne_eq, true_or, or_true, false_or, or_false, false_and, and_false, Int.reduceNeg, Int.reduceEq, Int.reduceNe, Int.reduceLT, Int.reduceLE, Nat.reduceLeDiff, Nat.reduceEqDiff, Nat.reduceSub, Nat.reduceAdd, reduceCtorEq, reduceIte, implies_true, List.reverse_nil, lk49 hl', lr49_1 hl', lr49_5 hl', lr49_6 hl', lr49_7 hl', lr49_9 hl', lr49_10 hl', lr49_12 hl', lr49_13 hl', lr49_14 hl', lr49_15 hl', lr49_16 hl', lr49_18 hl', lr49_19 hl', lr49_20 hl', lr49_23 hl', lr49_24 hl', lr49_25 hl', lr49_26 hl', lr49_27 hl', lr49_28 hl', lr49_29 hl', lr49_32 hl', lr49_33 hl', lr49_34 hl', lr49_36 hl', lr49_37 hl', lk50 hl', ll50 hl', lk51 hl', ll51 hl', lk52 hl', ll52 hl', lk53 hl', ll53 hl', lk54 hl', ll54 hl', lk55 hl', ll55 hl', lk56 hl', ll56 hl', lk57 hl', ll57 hl', lk58 hl', ll58 hl', lk59 hl', ll59 hl', lk60 hl', ll60 hl', lk61 hl', ll61 hl', lk62 hl', ll62 hl', lk63 hl', ll63 hl', lk64 hl', ll64 hl', lk65 hl', ll65 hl', lk66 hl', ll66 hl', lk67 hl', ll67 hl', lk68 hl', ll68 hl', lk69 hl', ll69 hl', lk70 hl', ll70 hl', lk71 hl', ll71 hl', lk72 hl', ll72 hl', lk73 hl', ll73 hl', lk74 hl', ll74 hl', lk75 hl', ll75 hl']
      refine ⟨fun _ _ => ?_, fun c => ?_⟩
      · rw [e30, h40, z_sub_eq (by omega) (by omega)]
        have e39 : z_I (z_sI w' 49 30 (40 - 1)) 49 30 = 39 := z_I_at rfl
        have up : pu_up (z_I w 49 30) = 40 := by unfold pu_up; rw [if_neg (by omega)]
        refine l2 302 0 _ _ (by omega) (by omega) (by omega) (z_fr_sF (p := 49) (k := 30) (z_fr_mo hf (by decide) (by decide)) (by decide)) z_fr_rf (by omega) (by omega) (by omega) (fun g i g0 g1 i0 i1 => ?_) (fun i i0 i1 => by omega) (fun i _ => rfl)
        rw [up] at g1 ⊢
        rw [z_I_np (by decide)]
        rw [hlo _ (by omega) (by omega), h40, show 301 * (40 - g) + i + 301 = 301 * (40 - (g - 1)) + i by omega]
      · rw [z_sub_eq (by omega) (by omega), z_add_eq (by omega) (by omega)]
        refine ⟨by omega, by omega, fun _ => ⟨by omega, by omega, ?_⟩⟩
        refine ih _ _ (by omega) (by omega) (by omega) (z_fr_sI hf (by decide)) (fun i i0 i1 => ?_) (fun i i0 => ?_) h40
        · by_cases q : i = j - 301
          · rw [z_I_at q, hhi _ (by omega), q, show j - 301 + 301 = j by omega]
          · rw [z_I_ne q]; exact hlo i i0 (by omega)
        · rw [z_I_ne (by omega)]; exact hhi i (by omega)
  simp only [g233_0, g233_0r, g233_1, g233_4, g233_6, g233_9, g233_12, g233_14, g233_17, g233_20, g233_20r, g233_21, g233_24, g233_25, g233_28, g233_29, g233_29r, g233_30, g233_33, g233_34, g233_35, g233_36, g233_39, g233_42, g233_42r, g233_43, g233_43r, g233_44, g233_47, g233_48, g233_49, g233_52, g233_53, g233_55, g233_58, g233_61, g233_61r, g233_62, g233_65, g233_68, g233_68r, g233_69, g233_72, g233_73, g233_74, g233_75, g233_75r, g233_76, g233_79, g233_80, g233_81, g233_82, g233_85, g233_88, g233_88r, g233_89, g233_89r, g233_90, g233_93, g233_94, g233_95, g233_98, z_kl_i, z_kl_l, z_kl_r, z_kl_n, z_kl_x, z_kl_vr, z_c8_0, z_c8_i, z_c8_l, z_c8_r, z_c8_vr, z_c8_n, z_vr_some, z_vr_none, Option.toList_some, Option.toList_none, List.cons_append, List.nil_append, true_and, and_true, and_self, z_k_sI, z_len_sI, z_R_sI, z_N_sI, z_set_0, z_set_1, z_set_s, eq_self, true_implies, false_implies, not_true_eq_false, not_false_eq_true, ne_eq, true_or, or_true, false_or, or_false, false_and, and_false, Int.reduceNeg, Int.reduceEq, Int.reduceNe, Int.reduceLT, Int.reduceLE, Nat.reduceLeDiff, Nat.reduceEqDiff, Nat.reduceSub, Nat.reduceAdd, reduceCtorEq, reduceIte, implies_true, List.reverse_nil, lk49 hl, lr49_1 hl, lr49_5 hl, lr49_6 hl, lr49_7 hl, lr49_9 hl, lr49_10 hl, lr49_12 hl, lr49_13 hl, lr49_14 hl, lr49_15 hl, lr49_16 hl, lr49_18 hl, lr49_19 hl, lr49_20 hl, lr49_23 hl, lr49_24 hl, lr49_25 hl, lr49_26 hl, lr49_27 hl, lr49_28 hl, lr49_29 hl, lr49_32 hl, lr49_33 hl, lr49_34 hl, lr49_36 hl, lr49_37 hl, lk50 hl, ll50 hl, lk51 hl, ll51 hl, lk52 hl, ll52 hl, lk53 hl, ll53 hl, lk54 hl, ll54 hl, lk55 hl, ll55 hl, lk56 hl, ll56 hl, lk57 hl, ll57 hl, lk58 hl, ll58 hl, lk59 hl, ll59 hl, lk60 hl, ll60 hl, lk61 hl, ll61 hl, lk62 hl, ll62 hl, lk63 hl, ll63 hl, lk64 hl, ll64 hl, lk65 hl, ll65 hl, lk66 hl, ll66 hl, lk67 hl, ll67 hl, lk68 hl, ll68 hl, lk69 hl, ll69 hl, lk70 hl, ll70 hl, lk71 hl, ll71 hl, lk72 hl, ll72 hl, lk73 hl, ll73 hl, lk74 hl, ll74 hl, lk75 hl, ll75 hl]
  intro _
  refine ⟨fun c => ?_, fun c => l1 _ 301 w (by omega) (by omega) (Nat.lt_succ_self _) z_fr_rf (fun i i0 i1 => by omega) (fun _ _ => rfl) (by omega)⟩
  have up : pu_up (z_I w 49 30) = z_I w 49 30 + 1 := by unfold pu_up; rw [if_pos (by omega)]
  exact l2 302 0 w w (by omega) (by omega) (by omega) z_fr_rf z_fr_rf h0.1 (by omega) up.symm (fun g i g0 g1 i0 i1 => by rw [up, show z_I w 49 30 + 1 - g = z_I w 49 30 - (g - 1) by omega]) (fun i i0 i1 => by omega) (fun _ _ => rfl)
set_option maxRecDepth 20000 in
theorem ex_note {d u w} {Q : z_P} {V : pu_V} (hv : pu_ok V) (he : pu_eq (pu_vM (z_I w 56)) V) (hl : z_lay w) (h0 : 0 ≤ z_I w 56 120) (h1 : z_I w 56 120 ≤ 60) (a b : Int) (k : ∀ w', z_fr [56, 57, 61, 62, 63] [(49, 21), (49, 22)] w w' → (∀ j, 0 ≤ j → j < 120 → z_I w' 56 j = z_I w 56 j) → z_I w' 56 120 = pu_m6 (z_I w 56 120 + 1) → (∀ x, 0 ≤ x → x ≤ 2 → z_I w' 56 (121 + (3 * (pu_m6 (z_I w 56 120 + 1) - 1) + x)) = if x = 0 then a else if x = 2 then sl_n V else b) → (∀ i x, 0 ≤ i → i < pu_m6 (z_I w 56 120 + 1) - 1 → 0 ≤ x → x ≤ 2 → z_I w' 56 (121 + (3 * (pu_m6 (z_I w 56 120 + 1) - 1 - 1 - i) + x)) = z_I w 56 (121 + (3 * (z_I w 56 120 - 1 - i) + x))) → Q none w') : z_G (d + 6) u 235 0 [z_r 49, z_i a, z_i b, z_x] [] w Q := by
  have p58 : ∀ w' v, z_fr [56, 57, 61, 62, 63] [(49, 21), (49, 22)] w w' → z_I w' 56 120 + 1 = pu_m6 (z_I w 56 120 + 1) → 0 ≤ z_I w' 56 120 → z_I w' 56 120 ≤ 59 → (∀ j, 0 ≤ j → j < 120 → z_I w' 56 j = z_I w 56 j) → (∀ i x, 0 ≤ i → i < z_I w' 56 120 → 0 ≤ x → x ≤ 2 → z_I w' 56 (121 + (3 * (z_I w' 56 120 - 1 - i) + x)) = z_I w 56 (121 + (3 * (z_I w 56 120 - 1 - i) + x))) → z_G (d + 6) u 235 58 [z_r 49, z_i a, z_i b, v] [] w' Q := by
    intro w' v hf nu n0 n1 hj hx
    have hl' := z_fr_lay hf hl
    simp only [g235_0, g235_0r, g235_1, g235_4, g235_6, g235_7, g235_9, g235_12, g235_13, g235_15, g235_18, g235_21, g235_21r, g235_22, g235_25, g235_27, g235_28, g235_29, g235_30, g235_31, g235_31r, g235_32, g235_35, g235_37, g235_38, g235_39, g235_40, g235_41, g235_44, g235_47, g235_47r, g235_48, g235_51, g235_53, g235_54, g235_55, g235_56, g235_57, g235_58, g235_60, g235_61, g235_61r, g235_62, g235_65, g235_67, g235_68, g235_69, g235_70, g235_71, g235_71r, g235_72, g235_75, g235_76, g235_77, g235_78, g235_78r, g235_79, g235_82, g235_83, g235_84, g235_85, g235_86, g235_87, g235_87r, g235_88, g235_91, g235_92, g235_93, g235_94, g235_94r, g235_95, g235_98, g235_99, g235_99r, g235_100, g235_103, g235_105, g235_106, g235_107, g235_108, g235_109, g235_110, z_kl_i, z_kl_l, z_kl_r, z_kl_n, z_kl_x, z_kl_vr, z_c8_0, z_c8_i, z_c8_l, z_c8_r, z_c8_vr, z_c8_n, z_vr_some, z_vr_none, Option.toList_some, Option.toList_none, List.cons_append, List.nil_append, true_and, and_true, and_self, z_k_sI, z_len_sI, z_R_sI, z_N_sI, z_set_0, z_set_1, z_set_s, eq_self, true_implies, false_implies, not_true_eq_false, not_false_eq_true, ne_eq, true_or, or_true, false_or, or_false, false_and, and_false, Int.reduceNeg, Int.reduceEq, Int.reduceNe, Int.reduceLT, Int.reduceLE, Nat.reduceLeDiff, Nat.reduceEqDiff, Nat.reduceSub, Nat.reduceAdd, reduceCtorEq, reduceIte, implies_true, List.reverse_nil, lk49 hl', lr49_1 hl', lr49_5 hl', lr49_6 hl', lr49_7 hl', lr49_9 hl', lr49_10 hl', lr49_12 hl', lr49_13 hl', lr49_14 hl', lr49_15 hl', lr49_16 hl', lr49_18 hl', lr49_19 hl', lr49_20 hl', lr49_23 hl', lr49_24 hl', lr49_25 hl', lr49_26 hl', lr49_27 hl', lr49_28 hl', lr49_29 hl', lr49_32 hl', lr49_33 hl', lr49_34 hl', lr49_36 hl', lr49_37 hl', lk50 hl', ll50 hl', lk51 hl', ll51 hl', lk52 hl', ll52 hl', lk53 hl', ll53 hl', lk54 hl', ll54 hl', lk55 hl', ll55 hl', lk56 hl', ll56 hl', lk57 hl', ll57 hl', lk58 hl', ll58 hl', lk59 hl', ll59 hl', lk60 hl', ll60 hl', lk61 hl', ll61 hl', lk62 hl', ll62 hl', lk63 hl', ll63 hl', lk64 hl', ll64 hl', lk65 hl', ll65 hl', lk66 hl', ll66 hl', lk67 hl', ll67 hl', lk68 hl', ll68 hl', lk69 hl', ll69 hl', lk70 hl', ll70 hl', lk71 hl', ll71 hl', lk72 hl', ll72 hl', lk73 hl', ll73 hl', lk74 hl', ll74 hl', lk75 hl', ll75 hl']
    rw [z_mul_eq (by omega) (by omega), z_add_eq (by omega) (by omega), z_add_eq (b := 1) (by omega) (by omega), z_add_eq (b := 2) (by omega) (by omega)]
    (repeat' (first | (with_reducible refine And.intro ?_ ?_) | (with_reducible intro _) | omega))
    refine ex_slabsNow (V := V) ?_ hv ?_ (fun w2 hf2 => ?_)
    · exact hl'
    · exact pu_eq_tr (pu_vM_cg (fun j j0 j1 => by rw [z_I_ne (by omega), z_I_ne (by omega)]; exact hj j j0 j1)) he
    · have hf3 := z_fr_tr (z_fr_sI (p := 56) (z_fr_sI (p := 56) hf (by decide)) (by decide)) (z_fr_mo hf2 (by decide) (by decide))
      have e : z_I w2 56 120 = z_I w' 56 120 := by
        rw [hf2.2 56 120 (by decide) (by decide), z_I_ne (by omega), z_I_ne (by omega)]
      have hl2 := z_fr_lay hf3 hl
      simp only [g235_0, g235_0r, g235_1, g235_4, g235_6, g235_7, g235_9, g235_12, g235_13, g235_15, g235_18, g235_21, g235_21r, g235_22, g235_25, g235_27, g235_28, g235_29, g235_30, g235_31, g235_31r, g235_32, g235_35, g235_37, g235_38, g235_39, g235_40, g235_41, g235_44, g235_47, g235_47r, g235_48, g235_51, g235_53, g235_54, g235_55, g235_56, g235_57, g235_58, g235_60, g235_61, g235_61r, g235_62, g235_65, g235_67, g235_68, g235_69, g235_70, g235_71, g235_71r, g235_72, g235_75, g235_76, g235_77, g235_78, g235_78r, g235_79, g235_82, g235_83, g235_84, g235_85, g235_86, g235_87, g235_87r, g235_88, g235_91, g235_92, g235_93, g235_94, g235_94r, g235_95, g235_98, g235_99, g235_99r, g235_100, g235_103, g235_105, g235_106, g235_107, g235_108, g235_109, g235_110, z_kl_i, z_kl_l, z_kl_r, z_kl_n, z_kl_x, z_kl_vr, z_c8_0, z_c8_i, z_c8_l, z_c8_r, z_c8_vr, z_c8_n, z_vr_some, z_vr_none, Option.toList_some, Option.toList_none, List.cons_append, List.nil_append, true_and, and_true, and_self, z_k_sI, z_len_sI, z_R_sI, z_N_sI, z_set_0, z_set_1, z_set_s, eq_self, true_implies, false_implies, not_true_eq_false, not_false_eq_true, ne_eq, true_or, or_true, false_or, or_false, false_and, and_false, Int.reduceNeg, Int.reduceEq, Int.reduceNe, Int.reduceLT, Int.reduceLE, Nat.reduceLeDiff, Nat.reduceEqDiff, Nat.reduceSub, Nat.reduceAdd, reduceCtorEq, reduceIte, implies_true, List.reverse_nil, lk49 hl2, lr49_1 hl2, lr49_5 hl2, lr49_6 hl2, lr49_7 hl2, lr49_9 hl2, lr49_10 hl2, lr49_12 hl2, lr49_13 hl2, lr49_14 hl2, lr49_15 hl2, lr49_16 hl2, lr49_18 hl2, lr49_19 hl2, lr49_20 hl2, lr49_23 hl2, lr49_24 hl2, lr49_25 hl2, lr49_26 hl2, lr49_27 hl2, lr49_28 hl2, lr49_29 hl2, lr49_32 hl2, lr49_33 hl2, lr49_34 hl2, lr49_36 hl2, lr49_37 hl2, lk50 hl2, ll50 hl2, lk51 hl2, ll51 hl2, lk52 hl2, ll52 hl2, lk53 hl2, ll53 hl2, lk54 hl2, ll54 hl2, lk55 hl2, ll55 hl2, lk56 hl2, ll56 hl2, lk57 hl2, ll57 hl2, lk58 hl2, ll58 hl2, lk59 hl2, ll59 hl2, lk60 hl2, ll60 hl2, lk61 hl2, ll61 hl2, lk62 hl2, ll62 hl2, lk63 hl2, ll63 hl2, lk64 hl2, ll64 hl2, lk65 hl2, ll65 hl2, lk66 hl2, ll66 hl2, lk67 hl2, ll67 hl2, lk68 hl2, ll68 hl2, lk69 hl2, ll69 hl2, lk70 hl2, ll70 hl2, lk71 hl2, ll71 hl2, lk72 hl2, ll72 hl2, lk73 hl2, ll73 hl2, lk74 hl2, ll74 hl2, lk75 hl2, ll75 hl2]
      (repeat' (first | (with_reducible refine And.intro ?_ ?_) | (with_reducible intro _) | omega))
      rw [z_I_ne (by omega), e, z_add_eq (by omega) (by omega)]
      (repeat' (first | (with_reducible refine And.intro ?_ ?_) | (with_reducible intro _) | omega))
      refine k _ (z_fr_sI (z_fr_sI hf3 (by decide)) (by decide)) (fun j j0 j1 => ?_) (by rw [z_I_at rfl, nu]) (fun x x0 x1 => ?_) (fun i x i0 i1 x0 x1 => ?_)
      · rw [z_I_ne (by omega), z_I_ne (by omega), hf2.2 56 j (by decide) (by simp), z_I_ne (by omega), z_I_ne (by omega)]; exact hj j j0 j1
      · rw [← nu, z_I_ne (by omega)]
        by_cases cx2 : x = 2
        · rw [if_neg (by omega), if_pos cx2, z_I_at (by omega)]
        rw [z_I_ne (by omega), hf2.2 56 _ (by decide) (by simp)]
        by_cases cx : x = 0
        · rw [if_pos cx, z_I_ne (by omega), z_I_at (by omega)]
        · rw [if_neg cx, if_neg cx2, z_I_at (by omega)]
      · rw [← nu] at i1 ⊢
        rw [z_I_ne (by omega), z_I_ne (by omega), hf2.2 56 _ (by decide) (by simp), z_I_ne (by omega), z_I_ne (by omega), ← hx i x i0 (by omega) x0 x1, show z_I w' 56 120 + 1 - 1 - 1 - i = z_I w' 56 120 - 1 - i by omega]
  have loop : ∀ (n : Nat) (i : Int) (w' : z_W), 3 ≤ i → i ≤ 180 → (180 - i).toNat < n → z_fr [56, 57, 61, 62, 63] [(49, 21), (49, 22)] w w' → z_I w 56 120 = 60 → z_I w' 56 120 = 60 → (∀ j, 0 ≤ j → j < 120 → z_I w' 56 j = z_I w 56 j) → (∀ j, 0 ≤ j → j < i - 3 → z_I w' 56 (121 + j) = z_I w 56 (121 + (j + 3))) → (∀ j, i - 3 ≤ j → z_I w' 56 (121 + j) = z_I w 56 (121 + j)) → z_G (d + 6) u 235 14 [z_r 49, z_i a, z_i b, z_i i] [] w' Q := by
    intro n
    induction n with
    | zero => intro e w' _ _ h; exact absurd h (Nat.not_lt_zero _)
    | succ n ih =>
      intro i w' i0 i1 h hf hw hn hj hlo hhi
      have hl' := z_fr_lay hf hl
      rw [g235_14]
      simp only [g235_0, g235_0r, g235_1, g235_4, g235_6, g235_7, g235_9, g235_12, g235_13, g235_15, g235_18, g235_21, g235_21r, g235_22, g235_25, g235_27, g235_28, g235_29, g235_30, g235_31, g235_31r, g235_32, g235_35, g235_37, g235_38, g235_39, g235_40, g235_41, g235_44, g235_47, g235_47r, g235_48, g235_51, g235_53, g235_54, g235_55, g235_56, g235_57, g235_60, g235_61, g235_61r, g235_62, g235_65, g235_67, g235_68, g235_69, g235_70, g235_71, g235_71r, g235_72, g235_75, g235_76, g235_77, g235_78, g235_78r, g235_79, g235_82, g235_83, g235_84, g235_85, g235_86, g235_87, g235_87r, g235_88, g235_91, g235_92, g235_93, g235_94, g235_94r, g235_95, g235_98, g235_99, g235_99r, g235_100, g235_103, g235_105, g235_106, g235_107, g235_108, g235_109, g235_110, z_kl_i, z_kl_l, z_kl_r, z_kl_n, z_kl_x, z_kl_vr, z_c8_0, z_c8_i, z_c8_l, z_c8_r, z_c8_vr, z_c8_n, z_vr_some, z_vr_none, Option.toList_some, Option.toList_none, List.cons_append, List.nil_append, true_and, and_true, and_self, z_k_sI, z_len_sI, z_R_sI, z_N_sI, z_set_0, z_set_1, z_set_s, eq_self, true_implies, false_implies, not_true_eq_false, not_false_eq_true, ne_eq, true_or, or_true, false_or, or_false, false_and, and_false, Int.reduceNeg, Int.reduceEq, Int.reduceNe, Int.reduceLT, Int.reduceLE, Nat.reduceLeDiff, Nat.reduceEqDiff, Nat.reduceSub, Nat.reduceAdd, reduceCtorEq, reduceIte, implies_true, List.reverse_nil, lk49 hl', lr49_1 hl', lr49_5 hl', lr49_6 hl', lr49_7 hl', lr49_9 hl', lr49_10 hl', lr49_12 hl', lr49_13 hl', lr49_14 hl', lr49_15 hl', lr49_16 hl', lr49_18 hl', lr49_19 hl', lr49_20 hl', lr49_23 hl', lr49_24 hl', lr49_25 hl', lr49_26 hl', lr49_27 hl', lr49_28 hl', lr49_29 hl', lr49_32 hl', lr49_33 hl', lr49_34 hl', lr49_36 hl', lr49_37 hl', lk50 hl', ll50 hl', lk51 hl', ll51 hl', lk52 hl', ll52 hl', lk53 hl', ll53 hl', lk54 hl', ll54 hl', lk55 hl', ll55 hl', lk56 hl', ll56 hl', lk57 hl', ll57 hl', lk58 hl', ll58 hl', lk59 hl', ll59 hl', lk60 hl', ll60 hl', lk61 hl', ll61 hl', lk62 hl', ll62 hl', lk63 hl', ll63 hl', lk64 hl', ll64 hl', lk65 hl', ll65 hl', lk66 hl', ll66 hl', lk67 hl', ll67 hl', lk68 hl', ll68 hl', lk69 hl', ll69 hl', lk70 hl', ll70 hl', lk71 hl', ll71 hl', lk72 hl', ll72 hl', lk73 hl', ll73 hl', lk74 hl', ll74 hl', lk75 hl', ll75 hl']
      refine ⟨fun c => ?_, fun c => ?_⟩
      · (repeat' (first | (with_reducible refine And.intro ?_ ?_) | (with_reducible intro _) | omega))
        rw [hn, z_sub_eq (by omega) (by omega)]
        (repeat' (first | (with_reducible refine And.intro ?_ ?_) | (with_reducible intro _) | omega))
        have e59 : z_I (z_sI w' 56 120 (60 - 1)) 56 120 = 59 := z_I_at rfl
        have um : pu_m6 (z_I w 56 120 + 1) = 60 := by unfold pu_m6; rw [if_neg (by omega)]
        refine p58 _ _ (z_fr_sI (p := 56) hf (by decide)) (by omega) (by omega) (by omega) (fun j j0 j1 => by rw [z_I_ne (by omega)]; exact hj j j0 j1) (fun t x t0 t1 x0 x1 => ?_)
        rw [e59] at t1 ⊢
        rw [z_I_ne (by omega), hlo _ (by omega) (by omega), hw, show 3 * (59 - 1 - t) + x + 3 = 3 * (60 - 1 - t) + x by omega]
      · rw [z_add_eq (a := 121) (by omega) (by omega), z_sub_eq (by omega) (by omega), z_add_eq (a := i) (by omega) (by omega)]
        (repeat' (first | (with_reducible refine And.intro ?_ ?_) | (with_reducible intro _) | omega))
        refine ih _ _ (by omega) (by omega) (by omega) (z_fr_sI (p := 56) hf (by decide)) hw (by rw [z_I_ne (by omega)]; exact hn) (fun j j0 j1 => by rw [z_I_ne (by omega)]; exact hj j j0 j1) (fun j j0 j1 => ?_) (fun j j0 => by rw [z_I_ne (by omega)]; exact hhi j (by omega))
        by_cases q : j = i - 3
        · rw [z_I_at (by omega), hhi i (by omega), q, show i - 3 + 3 = i by omega]
        · rw [z_I_ne (by omega)]; exact hlo j j0 (by omega)
  simp only [g235_0, g235_0r, g235_1, g235_4, g235_6, g235_7, g235_9, g235_12, g235_13, g235_15, g235_18, g235_21, g235_21r, g235_22, g235_25, g235_27, g235_28, g235_29, g235_30, g235_31, g235_31r, g235_32, g235_35, g235_37, g235_38, g235_39, g235_40, g235_41, g235_44, g235_47, g235_47r, g235_48, g235_51, g235_53, g235_54, g235_55, g235_56, g235_57, g235_60, g235_61, g235_61r, g235_62, g235_65, g235_67, g235_68, g235_69, g235_70, g235_71, g235_71r, g235_72, g235_75, g235_76, g235_77, g235_78, g235_78r, g235_79, g235_82, g235_83, g235_84, g235_85, g235_86, g235_87, g235_87r, g235_88, g235_91, g235_92, g235_93, g235_94, g235_94r, g235_95, g235_98, g235_99, g235_99r, g235_100, g235_103, g235_105, g235_106, g235_107, g235_108, g235_109, g235_110, z_kl_i, z_kl_l, z_kl_r, z_kl_n, z_kl_x, z_kl_vr, z_c8_0, z_c8_i, z_c8_l, z_c8_r, z_c8_vr, z_c8_n, z_vr_some, z_vr_none, Option.toList_some, Option.toList_none, List.cons_append, List.nil_append, true_and, and_true, and_self, z_k_sI, z_len_sI, z_R_sI, z_N_sI, z_set_0, z_set_1, z_set_s, eq_self, true_implies, false_implies, not_true_eq_false, not_false_eq_true, ne_eq, true_or, or_true, false_or, or_false, false_and, and_false, Int.reduceNeg, Int.reduceEq, Int.reduceNe, Int.reduceLT, Int.reduceLE, Nat.reduceLeDiff, Nat.reduceEqDiff, Nat.reduceSub, Nat.reduceAdd, reduceCtorEq, reduceIte, implies_true, List.reverse_nil, lk49 hl, lr49_1 hl, lr49_5 hl, lr49_6 hl, lr49_7 hl, lr49_9 hl, lr49_10 hl, lr49_12 hl, lr49_13 hl, lr49_14 hl, lr49_15 hl, lr49_16 hl, lr49_18 hl, lr49_19 hl, lr49_20 hl, lr49_23 hl, lr49_24 hl, lr49_25 hl, lr49_26 hl, lr49_27 hl, lr49_28 hl, lr49_29 hl, lr49_32 hl, lr49_33 hl, lr49_34 hl, lr49_36 hl, lr49_37 hl, lk50 hl, ll50 hl, lk51 hl, ll51 hl, lk52 hl, ll52 hl, lk53 hl, ll53 hl, lk54 hl, ll54 hl, lk55 hl, ll55 hl, lk56 hl, ll56 hl, lk57 hl, ll57 hl, lk58 hl, ll58 hl, lk59 hl, ll59 hl, lk60 hl, ll60 hl, lk61 hl, ll61 hl, lk62 hl, ll62 hl, lk63 hl, ll63 hl, lk64 hl, ll64 hl, lk65 hl, ll65 hl, lk66 hl, ll66 hl, lk67 hl, ll67 hl, lk68 hl, ll68 hl, lk69 hl, ll69 hl, lk70 hl, ll70 hl, lk71 hl, ll71 hl, lk72 hl, ll72 hl, lk73 hl, ll73 hl, lk74 hl, ll74 hl, lk75 hl, ll75 hl]
  (repeat' (first | (with_reducible refine And.intro ?_ ?_) | (with_reducible intro _) | omega))
  · exact p58 w _ z_fr_rf (by unfold pu_m6; rw [if_pos (by omega)]) h0 (by omega) (fun _ _ _ => rfl) (fun _ _ _ _ _ _ => rfl)
  · exact loop 178 3 w (by omega) (by omega) (by omega) z_fr_rf (by omega) (by omega) (fun _ _ _ => rfl) (fun j j0 j1 => by omega) (fun _ _ => rfl)
set_option maxRecDepth 20000 in
theorem ex_act {d u w} {Q : z_P} {m : Int} {S : pu_S} (hl : z_lay w) (hS : st_M w m S) (hk : st_ok m S) (hm : m ≠ 0) (t a b c e f : Int) (t0 : 0 ≤ t) (t1 : t ≤ 3) (hw : pu_why (S.2.1 0) t a b c e f = -1) (k : ∀ w', z_fr [56, 57, 61, 62, 63, 70] [(49, 21), (49, 22), (49, 30)] w w' → st_M w' m (pu_act1 S t a b c e f) → Q (some (z_i (pu_ans (S.2.1 0) t a))) w') : z_G (d + 7) u 236 0 [z_r 49, z_i t, z_i a, z_i b, z_i c, z_i e, z_i f, z_x] [] w Q := by
  obtain ⟨s1, s2, s3, s4, s5, s6, s7⟩ := hS
  have s3 := s3 hm
  have k0 := hk.2.2.1 0 (by omega) hk.2.1.1
  have hn := hk.2.1
  simp only [g236_0, g236_0r, g236_1, g236_4, g236_4r, g236_5, g236_6, g236_7, g236_8, g236_10, g236_12, g236_14, g236_17, g236_19, g236_19r, g236_20, g236_21, g236_22, g236_25, g236_27, g236_30, g236_31, g236_34, g236_36 (st := []), z_kl_i, z_kl_l, z_kl_r, z_kl_n, z_kl_x, z_kl_vr, z_c8_0, z_c8_i, z_c8_l, z_c8_r, z_c8_vr, z_c8_n, z_vr_some, z_vr_none, Option.toList_some, Option.toList_none, List.cons_append, List.nil_append, true_and, and_true, and_self, z_k_sI, z_len_sI, z_R_sI, z_N_sI, z_set_0, z_set_1, z_set_s, eq_self, true_implies, false_implies, not_true_eq_false, not_false_eq_true, ne_eq, true_or, or_true, false_or, or_false, false_and, and_false, Int.reduceNeg, Int.reduceEq, Int.reduceNe, Int.reduceLT, Int.reduceLE, Nat.reduceLeDiff, Nat.reduceEqDiff, Nat.reduceSub, Nat.reduceAdd, reduceCtorEq, reduceIte, implies_true, List.reverse_nil, lk49 hl, lr49_1 hl, lr49_5 hl, lr49_6 hl, lr49_7 hl, lr49_9 hl, lr49_10 hl, lr49_12 hl, lr49_13 hl, lr49_14 hl, lr49_15 hl, lr49_16 hl, lr49_18 hl, lr49_19 hl, lr49_20 hl, lr49_23 hl, lr49_24 hl, lr49_25 hl, lr49_26 hl, lr49_27 hl, lr49_28 hl, lr49_29 hl, lr49_32 hl, lr49_33 hl, lr49_34 hl, lr49_36 hl, lr49_37 hl, lk50 hl, ll50 hl, lk51 hl, ll51 hl, lk52 hl, ll52 hl, lk53 hl, ll53 hl, lk54 hl, ll54 hl, lk55 hl, ll55 hl, lk56 hl, ll56 hl, lk57 hl, ll57 hl, lk58 hl, ll58 hl, lk59 hl, ll59 hl, lk60 hl, ll60 hl, lk61 hl, ll61 hl, lk62 hl, ll62 hl, lk63 hl, ll63 hl, lk64 hl, ll64 hl, lk65 hl, ll65 hl, lk66 hl, ll66 hl, lk67 hl, ll67 hl, lk68 hl, ll68 hl, lk69 hl, ll69 hl, lk70 hl, ll70 hl, lk71 hl, ll71 hl, lk72 hl, ll72 hl, lk73 hl, ll73 hl, lk74 hl, ll74 hl, lk75 hl, ll75 hl]
  refine ex_keep hl (by rw [s2]; exact hn) (fun w1 hf1 g30 gnew gold => ?_)
  rw [s2] at g30 gnew gold
  have hl1 := z_fr_lay hf1 hl
  have e56 : z_I w1 56 = z_I w 56 := funext fun j => hf1.2 56 j (by decide) (by simp)
  have e17 : z_I w1 49 17 = m := (hf1.2 49 17 (by decide) (by decide)).trans s1
  simp only [g236_0, g236_0r, g236_1, g236_4, g236_4r, g236_5, g236_6, g236_7, g236_8, g236_10, g236_12, g236_14, g236_17, g236_19, g236_19r, g236_20, g236_21, g236_22, g236_25, g236_27, g236_30, g236_31, g236_34, g236_36 (st := []), z_kl_i, z_kl_l, z_kl_r, z_kl_n, z_kl_x, z_kl_vr, z_c8_0, z_c8_i, z_c8_l, z_c8_r, z_c8_vr, z_c8_n, z_vr_some, z_vr_none, Option.toList_some, Option.toList_none, List.cons_append, List.nil_append, true_and, and_true, and_self, z_k_sI, z_len_sI, z_R_sI, z_N_sI, z_set_0, z_set_1, z_set_s, eq_self, true_implies, false_implies, not_true_eq_false, not_false_eq_true, ne_eq, true_or, or_true, false_or, or_false, false_and, and_false, Int.reduceNeg, Int.reduceEq, Int.reduceNe, Int.reduceLT, Int.reduceLE, Nat.reduceLeDiff, Nat.reduceEqDiff, Nat.reduceSub, Nat.reduceAdd, reduceCtorEq, reduceIte, implies_true, List.reverse_nil, lk49 hl1, lr49_1 hl1, lr49_5 hl1, lr49_6 hl1, lr49_7 hl1, lr49_9 hl1, lr49_10 hl1, lr49_12 hl1, lr49_13 hl1, lr49_14 hl1, lr49_15 hl1, lr49_16 hl1, lr49_18 hl1, lr49_19 hl1, lr49_20 hl1, lr49_23 hl1, lr49_24 hl1, lr49_25 hl1, lr49_26 hl1, lr49_27 hl1, lr49_28 hl1, lr49_29 hl1, lr49_32 hl1, lr49_33 hl1, lr49_34 hl1, lr49_36 hl1, lr49_37 hl1, lk50 hl1, ll50 hl1, lk51 hl1, ll51 hl1, lk52 hl1, ll52 hl1, lk53 hl1, ll53 hl1, lk54 hl1, ll54 hl1, lk55 hl1, ll55 hl1, lk56 hl1, ll56 hl1, lk57 hl1, ll57 hl1, lk58 hl1, ll58 hl1, lk59 hl1, ll59 hl1, lk60 hl1, ll60 hl1, lk61 hl1, ll61 hl1, lk62 hl1, ll62 hl1, lk63 hl1, ll63 hl1, lk64 hl1, ll64 hl1, lk65 hl1, ll65 hl1, lk66 hl1, ll66 hl1, lk67 hl1, ll67 hl1, lk68 hl1, ll68 hl1, lk69 hl1, ll69 hl1, lk70 hl1, ll70 hl1, lk71 hl1, ll71 hl1, lk72 hl1, ll72 hl1, lk73 hl1, ll73 hl1, lk74 hl1, ll74 hl1, lk75 hl1, ll75 hl1]
  refine ex_doNow hl1 (by rw [e17]; exact hm) (by rw [e56]; exact pu_ok_eq s3 k0.1) _ _ _ _ _ _ t0 t1 (by rw [e56, pu_why_eq s3]; exact hw) (fun w2 hf2 h120 v2 => ?_)
  rw [e56] at v2 ⊢
  have ea : pu_ans (pu_vM (z_I w 56)) t a = pu_ans (S.2.1 0) t a := pu_ans_eq s3 (fun q => by
    rcases q with rfl | rfl
    · have := pu_why1 hw; exact ⟨this.1, this.2.1⟩
    · have := (pu_why2 hw).1; exact ⟨this.1, this.2.1⟩)
  rw [ea]
  have hl2 := z_fr_lay hf2 hl1
  have h2 : z_I w2 56 120 = S.2.2.1 0 := by rw [h120 120 (by omega), e56, s4]
  have e70 : ∀ j, z_I w2 70 j = z_I w1 70 j := fun j => hf2.2 70 j (by decide) (by simp)
  have up1 : pu_up S.1 ≤ S.1 + 1 ∧ pu_up S.1 ≤ 40 ∧ 1 ≤ pu_up S.1 := by unfold pu_up; split <;> omega
  have tail : ∀ x, x = (if t = 0 then pu_ans (S.2.1 0) t a else a) → z_G (d + 7) u 236 31 [z_r 49, z_i t, z_i a, z_i b, z_i c, z_i e, z_i f, z_i (pu_ans (S.2.1 0) t a)] [z_i x, z_i t, z_r 49] w2 Q := by
    intro x hx
    simp only [g236_0, g236_0r, g236_1, g236_4, g236_4r, g236_5, g236_6, g236_7, g236_8, g236_10, g236_12, g236_14, g236_17, g236_19, g236_19r, g236_20, g236_21, g236_22, g236_25, g236_27, g236_30, g236_31, g236_34, g236_36 (st := []), z_kl_i, z_kl_l, z_kl_r, z_kl_n, z_kl_x, z_kl_vr, z_c8_0, z_c8_i, z_c8_l, z_c8_r, z_c8_vr, z_c8_n, z_vr_some, z_vr_none, Option.toList_some, Option.toList_none, List.cons_append, List.nil_append, true_and, and_true, and_self, z_k_sI, z_len_sI, z_R_sI, z_N_sI, z_set_0, z_set_1, z_set_s, eq_self, true_implies, false_implies, not_true_eq_false, not_false_eq_true, ne_eq, true_or, or_true, false_or, or_false, false_and, and_false, Int.reduceNeg, Int.reduceEq, Int.reduceNe, Int.reduceLT, Int.reduceLE, Nat.reduceLeDiff, Nat.reduceEqDiff, Nat.reduceSub, Nat.reduceAdd, reduceCtorEq, reduceIte, implies_true, List.reverse_nil, lk49 hl2, lr49_1 hl2, lr49_5 hl2, lr49_6 hl2, lr49_7 hl2, lr49_9 hl2, lr49_10 hl2, lr49_12 hl2, lr49_13 hl2, lr49_14 hl2, lr49_15 hl2, lr49_16 hl2, lr49_18 hl2, lr49_19 hl2, lr49_20 hl2, lr49_23 hl2, lr49_24 hl2, lr49_25 hl2, lr49_26 hl2, lr49_27 hl2, lr49_28 hl2, lr49_29 hl2, lr49_32 hl2, lr49_33 hl2, lr49_34 hl2, lr49_36 hl2, lr49_37 hl2, lk50 hl2, ll50 hl2, lk51 hl2, ll51 hl2, lk52 hl2, ll52 hl2, lk53 hl2, ll53 hl2, lk54 hl2, ll54 hl2, lk55 hl2, ll55 hl2, lk56 hl2, ll56 hl2, lk57 hl2, ll57 hl2, lk58 hl2, ll58 hl2, lk59 hl2, ll59 hl2, lk60 hl2, ll60 hl2, lk61 hl2, ll61 hl2, lk62 hl2, ll62 hl2, lk63 hl2, ll63 hl2, lk64 hl2, ll64 hl2, lk65 hl2, ll65 hl2, lk66 hl2, ll66 hl2, lk67 hl2, ll67 hl2, lk68 hl2, ll68 hl2, lk69 hl2, ll69 hl2, lk70 hl2, ll70 hl2, lk71 hl2, ll71 hl2, lk72 hl2, ll72 hl2, lk73 hl2, ll73 hl2, lk74 hl2, ll74 hl2, lk75 hl2, ll75 hl2]
    refine ex_note (V := pu_do (S.2.1 0) t a b c e f) (pu_do_ok k0.1 ⟨t0, t1⟩ hw) (pu_eq_tr v2 (pu_do_eq s3 _ _ _ _ _ _)) hl2 (by rw [h2]; exact k0.2.1) (by rw [h2]; exact k0.2.2.1) _ _ (fun w3 hf3 n0 n1 n2 n3 => ?_)
    simp only [g236_0, g236_0r, g236_1, g236_4, g236_4r, g236_5, g236_6, g236_7, g236_8, g236_10, g236_12, g236_14, g236_17, g236_19, g236_19r, g236_20, g236_21, g236_22, g236_25, g236_27, g236_30, g236_31, g236_34, g236_36 (st := []), z_kl_i, z_kl_l, z_kl_r, z_kl_n, z_kl_x, z_kl_vr, z_c8_0, z_c8_i, z_c8_l, z_c8_r, z_c8_vr, z_c8_n, z_vr_some, z_vr_none, Option.toList_some, Option.toList_none, List.cons_append, List.nil_append, true_and, and_true, and_self, z_k_sI, z_len_sI, z_R_sI, z_N_sI, z_set_0, z_set_1, z_set_s, eq_self, true_implies, false_implies, not_true_eq_false, not_false_eq_true, ne_eq, true_or, or_true, false_or, or_false, false_and, and_false, Int.reduceNeg, Int.reduceEq, Int.reduceNe, Int.reduceLT, Int.reduceLE, Nat.reduceLeDiff, Nat.reduceEqDiff, Nat.reduceSub, Nat.reduceAdd, reduceCtorEq, reduceIte, implies_true, List.reverse_nil]
    rw [h2] at n1 n2 n3
    have hf12 : z_fr [56, 70] [(49, 30)] w w2 := z_fr_tr (z_fr_mo hf1 (by decide) (by decide)) (z_fr_mo hf2 (by decide) (by decide))
    have hA : z_fr [56, 57, 61, 62, 63, 70] [(49, 21), (49, 22), (49, 30)] w w3 := z_fr_tr (z_fr_mo hf12 (by decide) (by decide)) (z_fr_mo hf3 (by decide) (by decide))
    have r70 : ∀ j, z_I w3 70 j = z_I w1 70 j := fun j => (hf3.2 70 j (by decide) (by simp)).trans (e70 j)
    have v3 : pu_eq (pu_vM (z_I w3 56)) (pu_do (S.2.1 0) t a b c e f) := pu_eq_tr (pu_vM_cg n0) (pu_eq_tr v2 (pu_do_eq s3 _ _ _ _ _ _))
    refine k w3 hA ⟨(hA.2 49 17 (by decide) (by decide)).trans s1, ?_, fun _ => v3, n1, fun g g1 g2 => ?_, fun i y i0 i1 y0 y1 => ?_, fun g i y g1 g2 i0 i1 y0 y1 => ?_⟩
    · show _ = pu_up S.1
      rw [hf3.2 49 30 (by decide) (by decide), hf2.2 49 30 (by decide) (by decide), g30]
    · replace g2 : g ≤ pu_up S.1 := g2
      show pu_eq (pu_vM (fun j => z_I w3 70 (301 * (pu_up S.1 - g) + j))) (if g = 0 then _ else S.2.1 (g - 1)) ∧ z_I w3 70 (301 * (pu_up S.1 - g) + 120) = (if g = 0 then _ else S.2.2.1 (g - 1))
      rw [if_neg (by omega), if_neg (by omega)]
      by_cases c1 : g = 1
      · subst c1
        refine ⟨pu_eq_tr (pu_vM_cg (fun j j0 j1 => ?_)) s3, ?_⟩
        · show z_I w3 70 _ = _
          rw [r70, gnew j j0 (by omega)]
        · rw [r70, gnew 120 (by omega) (by omega), s4]
          rfl
      · have s5' := s5 (g - 1) (by omega) (by omega)
        refine ⟨pu_eq_tr (pu_vM_cg (fun j j0 j1 => ?_)) s5'.1, ?_⟩
        · show z_I w3 70 _ = z_I w 70 _
          rw [r70, gold g j (by omega) g2 j0 (by omega)]
        · rw [r70, gold g 120 (by omega) g2 (by omega) (by omega)]
          exact s5'.2
    · replace i1 : i < pu_m6 (S.2.2.1 0 + 1) := i1
      show z_I w3 56 (121 + (3 * (pu_m6 (S.2.2.1 0 + 1) - 1 - i) + y)) = if i = 0 then (if y = 0 then t else if y = 2 then sl_n (pu_do (S.2.1 0) t a b c e f) else if t = 0 then pu_fr (S.2.1 0) else a) else S.2.2.2 0 (i - 1) y
      by_cases ci : i = 0
      · rw [if_pos ci, ci, show pu_m6 (S.2.2.1 0 + 1) - 1 - 0 = pu_m6 (S.2.2.1 0 + 1) - 1 by omega, n2 y y0 y1]
        by_cases cy : y = 0
        · rw [if_pos cy, if_pos cy]
        · by_cases cy2 : y = 2
          · rw [if_neg cy, if_neg cy, if_pos cy2, if_pos cy2]
          rw [if_neg cy, if_neg cy, if_neg cy2, if_neg cy2, hx]
          by_cases ct : t = 0
          · rw [if_pos ct, if_pos ct]
            unfold pu_ans
            rw [if_pos ct]
          · rw [if_neg ct, if_neg ct]
      · have ml : pu_m6 (S.2.2.1 0 + 1) ≤ S.2.2.1 0 + 1 := by unfold pu_m6; split <;> omega
        rw [if_neg ci, show pu_m6 (S.2.2.1 0 + 1) - 1 - i = pu_m6 (S.2.2.1 0 + 1) - 1 - 1 - (i - 1) by omega, n3 (i - 1) y (by omega) (by omega) y0 y1, h120 _ (by omega), e56]
        exact s6 (i - 1) y (by omega) (by omega) y0 y1
    · replace g2 : g ≤ pu_up S.1 := g2
      replace i1 : i < (if g = 0 then pu_m6 (S.2.2.1 0 + 1) else S.2.2.1 (g - 1)) := i1
      show z_I w3 70 (301 * (pu_up S.1 - g) + (121 + (3 * ((if g = 0 then pu_m6 (S.2.2.1 0 + 1) else S.2.2.1 (g - 1)) - 1 - i) + y))) = if g = 0 then _ else S.2.2.2 (g - 1) i y
      rw [if_neg (by omega)] at i1 ⊢
      rw [if_neg (by omega)]
      have b0 := (hk.2.2.1 (g - 1) (by omega) (by omega)).2
      by_cases c1 : g = 1
      · subst c1
        rw [r70, gnew _ (by omega) (by omega), show (1 : Int) - 1 = 0 by omega]
        exact s6 i y i0 i1 y0 y1
      · rw [r70, gold g _ (by omega) g2 (by omega) (by omega)]
        exact s7 (g - 1) i y (by omega) (by omega) i0 i1 y0 y1
  simp only [g236_0, g236_0r, g236_1, g236_4, g236_4r, g236_5, g236_6, g236_7, g236_8, g236_10, g236_12, g236_14, g236_17, g236_19, g236_19r, g236_20, g236_21, g236_22, g236_25, g236_27, g236_30, g236_34, g236_36 (st := []), z_kl_i, z_kl_l, z_kl_r, z_kl_n, z_kl_x, z_kl_vr, z_c8_0, z_c8_i, z_c8_l, z_c8_r, z_c8_vr, z_c8_n, z_vr_some, z_vr_none, Option.toList_some, Option.toList_none, List.cons_append, List.nil_append, true_and, and_true, and_self, z_k_sI, z_len_sI, z_R_sI, z_N_sI, z_set_0, z_set_1, z_set_s, eq_self, true_implies, false_implies, not_true_eq_false, not_false_eq_true, ne_eq, true_or, or_true, false_or, or_false, false_and, and_false, Int.reduceNeg, Int.reduceEq, Int.reduceNe, Int.reduceLT, Int.reduceLE, Nat.reduceLeDiff, Nat.reduceEqDiff, Nat.reduceSub, Nat.reduceAdd, reduceCtorEq, reduceIte, implies_true, List.reverse_nil, lk49 hl2, lr49_1 hl2, lr49_5 hl2, lr49_6 hl2, lr49_7 hl2, lr49_9 hl2, lr49_10 hl2, lr49_12 hl2, lr49_13 hl2, lr49_14 hl2, lr49_15 hl2, lr49_16 hl2, lr49_18 hl2, lr49_19 hl2, lr49_20 hl2, lr49_23 hl2, lr49_24 hl2, lr49_25 hl2, lr49_26 hl2, lr49_27 hl2, lr49_28 hl2, lr49_29 hl2, lr49_32 hl2, lr49_33 hl2, lr49_34 hl2, lr49_36 hl2, lr49_37 hl2, lk50 hl2, ll50 hl2, lk51 hl2, ll51 hl2, lk52 hl2, ll52 hl2, lk53 hl2, ll53 hl2, lk54 hl2, ll54 hl2, lk55 hl2, ll55 hl2, lk56 hl2, ll56 hl2, lk57 hl2, ll57 hl2, lk58 hl2, ll58 hl2, lk59 hl2, ll59 hl2, lk60 hl2, ll60 hl2, lk61 hl2, ll61 hl2, lk62 hl2, ll62 hl2, lk63 hl2, ll63 hl2, lk64 hl2, ll64 hl2, lk65 hl2, ll65 hl2, lk66 hl2, ll66 hl2, lk67 hl2, ll67 hl2, lk68 hl2, ll68 hl2, lk69 hl2, ll69 hl2, lk70 hl2, ll70 hl2, lk71 hl2, ll71 hl2, lk72 hl2, ll72 hl2, lk73 hl2, ll73 hl2, lk74 hl2, ll74 hl2, lk75 hl2, ll75 hl2]
  exact ⟨fun ct => tail _ (by rw [if_neg ct]), fun ct => tail _ (by rw [if_pos (by omega)])⟩
theorem st_M_fr {w w' : z_W} {m : Int} {S : pu_S} {X : List Nat} {F : List (Nat × Int)} (h : z_fr X F w w') (s : 49 ∉ X ∧ 56 ∉ X ∧ 70 ∉ X) (f : (49, 17) ∉ F ∧ (49, 30) ∉ F ∧ (∀ q ∈ F, q.1 ≠ 56 ∧ q.1 ≠ 70)) (hS : st_M w m S) : st_M w' m S := by
  have e56 : z_I w' 56 = z_I w 56 := funext fun j => h.2 56 j s.2.1 (fun q => (f.2.2 _ q).1 rfl)
  have e70 : ∀ j, z_I w' 70 j = z_I w 70 j := fun j => h.2 70 j s.2.2 (fun q => (f.2.2 _ q).2 rfl)
  unfold st_M
  rw [e56, h.2 49 17 s.1 f.1, h.2 49 30 s.1 f.2.1]
  simp only [e70]
  exact hS
theorem pu_why_bd (V : pu_V) (t a b c e f : Int) : -1 ≤ pu_why V t a b c e f ∧ pu_why V t a b c e f ≤ 3 := by
  unfold pu_why
  (repeat' split) <;> omega
theorem ex_whyS {d u w} {Q : z_P} {m : Int} {S : pu_S} (hl : z_lay w) (hS : st_M w m S) (hk : st_ok m S) (t a b c e f : Int) (t0 : 0 ≤ t) (t1 : t ≤ 3) (k : ∀ w' y, z_fr [57] [] w w' → y = (if m = 0 then 0 else pu_why (S.2.1 0) t a b c e f) → Q (some (z_i y)) w') : z_G (d + 5) u 230 0 [z_r 49, z_i t, z_i a, z_i b, z_i c, z_i e, z_i f] [] w Q := by
  have s1 := hS.1
  have ok0 := (hk.2.2.1 0 (by omega) hk.2.1.1).1
  refine ex_whyNot hl (fun hm => pu_ok_eq (hS.2.2.1 (by rw [← s1]; exact hm)) ok0) _ _ _ _ _ _ t0 t1 (fun w' h => k w' _ h ?_)
  rw [s1]
  by_cases hm : m = 0
  · rw [if_pos hm, if_pos hm]
  · rw [if_neg hm, if_neg hm, pu_why_eq (hS.2.2.1 hm)]
set_option maxRecDepth 20000 in
theorem ex_hand {d u w} {Q : z_P} {m : Int} {S : pu_S} (hl : z_lay w) (hS : st_M w m S) (hk : st_ok m S) (t a b c e f : Int) (t0 : 0 ≤ t) (t1 : t ≤ 3) (k1 : m ≠ 0 → pu_why (S.2.1 0) t a b c e f = -1 → ∀ w', z_fr [56, 57, 61, 62, 63, 70] [(49, 21), (49, 22), (49, 30)] w w' → st_M w' m (pu_act1 S t a b c e f) → Q (some (z_i (pu_ans (S.2.1 0) t a))) w') (k0 : ∀ w1 y, y = (if m = 0 then 0 else pu_why (S.2.1 0) t a b c e f) → y ≠ -1 → z_fr [57] [] w w1 → Q (some (z_i (-1))) (z_sI w1 58 y (z_add (z_I w1 58 y) 1))) : z_G (d + 8) u 237 0 [z_r 49, z_i t, z_i a, z_i b, z_i c, z_i e, z_i f, z_x] [] w Q := by
  simp only [g237_0, g237_0r, g237_1, g237_2, g237_3, g237_4, g237_6, g237_8, g237_10, g237_13, g237_15, g237_17, g237_18, g237_21, g237_21r, g237_22, g237_25, g237_27, g237_28, g237_29, g237_30, g237_31, g237_32, g237_33 (st := []), g237_34, g237_34r, g237_35, g237_36, g237_37, g237_38, g237_40, g237_42, g237_44, g237_47 (st := []), z_kl_i, z_kl_l, z_kl_r, z_kl_n, z_kl_x, z_kl_vr, z_c8_0, z_c8_i, z_c8_l, z_c8_r, z_c8_vr, z_c8_n, z_vr_some, z_vr_none, Option.toList_some, Option.toList_none, List.cons_append, List.nil_append, true_and, and_true, and_self, z_k_sI, z_len_sI, z_R_sI, z_N_sI, z_set_0, z_set_1, z_set_s, eq_self, true_implies, false_implies, not_true_eq_false, not_false_eq_true, ne_eq, true_or, or_true, false_or, or_false, false_and, and_false, Int.reduceNeg, Int.reduceEq, Int.reduceNe, Int.reduceLT, Int.reduceLE, Nat.reduceLeDiff, Nat.reduceEqDiff, Nat.reduceSub, Nat.reduceAdd, reduceCtorEq, reduceIte, implies_true, List.reverse_nil, lk49 hl, lr49_1 hl, lr49_5 hl, lr49_6 hl, lr49_7 hl, lr49_9 hl, lr49_10 hl, lr49_12 hl, lr49_13 hl, lr49_14 hl, lr49_15 hl, lr49_16 hl, lr49_18 hl, lr49_19 hl, lr49_20 hl, lr49_23 hl, lr49_24 hl, lr49_25 hl, lr49_26 hl, lr49_27 hl, lr49_28 hl, lr49_29 hl, lr49_32 hl, lr49_33 hl, lr49_34 hl, lr49_36 hl, lr49_37 hl, lk50 hl, ll50 hl, lk51 hl, ll51 hl, lk52 hl, ll52 hl, lk53 hl, ll53 hl, lk54 hl, ll54 hl, lk55 hl, ll55 hl, lk56 hl, ll56 hl, lk57 hl, ll57 hl, lk58 hl, ll58 hl, lk59 hl, ll59 hl, lk60 hl, ll60 hl, lk61 hl, ll61 hl, lk62 hl, ll62 hl, lk63 hl, ll63 hl, lk64 hl, ll64 hl, lk65 hl, ll65 hl, lk66 hl, ll66 hl, lk67 hl, ll67 hl, lk68 hl, ll68 hl, lk69 hl, ll69 hl, lk70 hl, ll70 hl, lk71 hl, ll71 hl, lk72 hl, ll72 hl, lk73 hl, ll73 hl, lk74 hl, ll74 hl, lk75 hl, ll75 hl]
  refine ex_whyS hl hS hk _ _ _ _ _ _ t0 t1 (fun w1 y hf1 hy => ?_)
  have hl1 := z_fr_lay hf1 hl
  have hS1 := st_M_fr hf1 (by decide) (by decide) hS
  have yb : -1 ≤ y ∧ y ≤ 3 := by
    rw [hy]
    split
    · omega
    · exact pu_why_bd _ _ _ _ _ _ _
  simp only [g237_0, g237_0r, g237_1, g237_2, g237_3, g237_4, g237_6, g237_8, g237_10, g237_13, g237_15, g237_17, g237_18, g237_21, g237_21r, g237_22, g237_25, g237_27, g237_28, g237_29, g237_30, g237_31, g237_32, g237_33 (st := []), g237_34, g237_34r, g237_35, g237_36, g237_37, g237_38, g237_40, g237_42, g237_44, g237_47 (st := []), z_kl_i, z_kl_l, z_kl_r, z_kl_n, z_kl_x, z_kl_vr, z_c8_0, z_c8_i, z_c8_l, z_c8_r, z_c8_vr, z_c8_n, z_vr_some, z_vr_none, Option.toList_some, Option.toList_none, List.cons_append, List.nil_append, true_and, and_true, and_self, z_k_sI, z_len_sI, z_R_sI, z_N_sI, z_set_0, z_set_1, z_set_s, eq_self, true_implies, false_implies, not_true_eq_false, not_false_eq_true, ne_eq, true_or, or_true, false_or, or_false, false_and, and_false, Int.reduceNeg, Int.reduceEq, Int.reduceNe, Int.reduceLT, Int.reduceLE, Nat.reduceLeDiff, Nat.reduceEqDiff, Nat.reduceSub, Nat.reduceAdd, reduceCtorEq, reduceIte, implies_true, List.reverse_nil, lk49 hl1, lr49_1 hl1, lr49_5 hl1, lr49_6 hl1, lr49_7 hl1, lr49_9 hl1, lr49_10 hl1, lr49_12 hl1, lr49_13 hl1, lr49_14 hl1, lr49_15 hl1, lr49_16 hl1, lr49_18 hl1, lr49_19 hl1, lr49_20 hl1, lr49_23 hl1, lr49_24 hl1, lr49_25 hl1, lr49_26 hl1, lr49_27 hl1, lr49_28 hl1, lr49_29 hl1, lr49_32 hl1, lr49_33 hl1, lr49_34 hl1, lr49_36 hl1, lr49_37 hl1, lk50 hl1, ll50 hl1, lk51 hl1, ll51 hl1, lk52 hl1, ll52 hl1, lk53 hl1, ll53 hl1, lk54 hl1, ll54 hl1, lk55 hl1, ll55 hl1, lk56 hl1, ll56 hl1, lk57 hl1, ll57 hl1, lk58 hl1, ll58 hl1, lk59 hl1, ll59 hl1, lk60 hl1, ll60 hl1, lk61 hl1, ll61 hl1, lk62 hl1, ll62 hl1, lk63 hl1, ll63 hl1, lk64 hl1, ll64 hl1, lk65 hl1, ll65 hl1, lk66 hl1, ll66 hl1, lk67 hl1, ll67 hl1, lk68 hl1, ll68 hl1, lk69 hl1, ll69 hl1, lk70 hl1, ll70 hl1, lk71 hl1, ll71 hl1, lk72 hl1, ll72 hl1, lk73 hl1, ll73 hl1, lk74 hl1, ll74 hl1, lk75 hl1, ll75 hl1]
  refine ⟨fun c => ?_, fun c => ?_⟩
  · have hm : m ≠ 0 := fun q => by rw [if_pos q] at hy; omega
    rw [if_neg hm] at hy
    refine ex_act hl1 hS1 hk hm _ _ _ _ _ _ t0 t1 (by omega) (fun w2 hf2 hS2 => ?_)
    simp only [g237_0, g237_0r, g237_1, g237_2, g237_3, g237_4, g237_6, g237_8, g237_10, g237_13, g237_15, g237_17, g237_18, g237_21, g237_21r, g237_22, g237_25, g237_27, g237_28, g237_29, g237_30, g237_31, g237_32, g237_33 (st := []), g237_34, g237_34r, g237_35, g237_36, g237_37, g237_38, g237_40, g237_42, g237_44, g237_47 (st := []), z_kl_i, z_kl_l, z_kl_r, z_kl_n, z_kl_x, z_kl_vr, z_c8_0, z_c8_i, z_c8_l, z_c8_r, z_c8_vr, z_c8_n, z_vr_some, z_vr_none, Option.toList_some, Option.toList_none, List.cons_append, List.nil_append, true_and, and_true, and_self, z_k_sI, z_len_sI, z_R_sI, z_N_sI, z_set_0, z_set_1, z_set_s, eq_self, true_implies, false_implies, not_true_eq_false, not_false_eq_true, ne_eq, true_or, or_true, false_or, or_false, false_and, and_false, Int.reduceNeg, Int.reduceEq, Int.reduceNe, Int.reduceLT, Int.reduceLE, Nat.reduceLeDiff, Nat.reduceEqDiff, Nat.reduceSub, Nat.reduceAdd, reduceCtorEq, reduceIte, implies_true, List.reverse_nil]
    exact k1 hm (by omega) w2 (z_fr_tr (z_fr_mo hf1 (by decide) (by decide)) hf2) hS2
  · (repeat' (first | (with_reducible refine And.intro ?_ ?_) | (with_reducible intro _) | omega))
    exact k0 w1 y hy c hf1
