def z_clc (w w' : z_W) (n : Int) (o : Int ⊕ (Int × (Int → Int) × Int)) : Prop := z_nc w' ∧ (0 ≤ z_I w' 5 5 ∧ z_I w' 5 5 ≤ n) ∧ (0 ≤ z_I w' 5 1 ∧ z_I w' 5 1 ≤ 24) ∧ (z_I w 5 6 ≠ -1 → z_I w' 5 6 = z_I w 5 6) ∧ (z_I w 5 6 = -1 → (∀ ec2 nl2 q, o = .inr (ec2, nl2, q) → z_I w' 5 5 = q ∧ z_I w' 5 6 = -1 ∧ z_I w' 5 1 = ec2 ∧ ∀ j, 0 ≤ j → j < 10 → z_I w' 7 (5 * j) = nl2 j) ∧ ∀ e, o = .inl e → z_I w' 5 6 = e ∧ 0 ≤ e)
set_option maxRecDepth 20000 in
theorem c_readClause {d u w} {Q : z_P} {T : Int → Int} {n ec : Int} {nl : Int → Int} (hl : z_lay w) (ht : z_tc w T n) (hN : z_NS w) (h0 : 0 ≤ z_I w 5 5) (h1 : z_I w 5 5 ≤ n) (hb : z_nc w) (hn : ∀ r, 0 ≤ r → r < 10 → z_I w 7 (5 * r) = nl r) (he : z_I w 5 1 = ec) (e0 : 0 ≤ ec) (e24 : ec ≤ 24) (k : ∀ w', z_fr [6, 7] [(5, 1), (5, 5), (5, 6)] w w' → z_clc w w' n (z_cl T n ec nl (z_I w 5 5)) → Q none w') : z_G (d + 4) u 76 0 [z_r 5, z_x] [] w Q := by
  have hn4 := ht.2.2.2.1
  have sb := z_sk_bd (T := T) (n := n) (z_I w 5 5)
  have sb2 := sb.2.1 h1
  simp only [g76_0, g76_0r, g76_1, g76_4, g76_4r, g76_5, g76_8, g76_9, g76_10, g76_12, g76_15, g76_15r, g76_16, g76_19, g76_21, g76_24, g76_24r, g76_25, g76_25r, g76_26, g76_29, g76_30, g76_31, g76_34, g76_34r, g76_35, g76_36, g76_36r, g76_37, g76_40, g76_40r, g76_41, g76_44, g76_47, g76_48, g76_49, g76_50, g76_53, g76_53r, g76_54, g76_54r, g76_55, g76_58, g76_59, g76_60, g76_63, g76_67, g76_69, g76_72, g76_72r, g76_73, g76_73r, g76_74, g76_77, g76_78, g76_79, g76_82, g76_82r, g76_83, g76_86, g76_89, g76_89r, g76_90, g76_93, z_kl_i, z_kl_l, z_kl_r, z_kl_n, z_kl_x, z_kl_vr, z_c8_0, z_c8_i, z_c8_l, z_c8_r, z_c8_vr, z_c8_n, z_vr_some, z_vr_none, Option.toList_some, Option.toList_none, List.cons_append, List.nil_append, true_and, and_true, and_self, z_k_sI, z_len_sI, z_R_sI, z_N_sI, z_set_0, z_set_1, z_set_s, eq_self, true_implies, false_implies, not_true_eq_false, not_false_eq_true, ne_eq, true_or, or_true, false_or, or_false, false_and, and_false, Int.reduceNeg, Int.reduceEq, Int.reduceNe, Int.reduceLT, Int.reduceLE, Nat.reduceLeDiff, Nat.reduceEqDiff, Nat.reduceSub, Nat.reduceAdd, reduceCtorEq, reduceIte, implies_true, List.reverse_nil, lk1 hl, ll1 hl, lk2 hl, lr2_0 hl, lr2_1 hl, lr2_2 hl, lr2_3 hl, lr2_6 hl, lr2_7 hl, lr2_8 hl, lr2_9 hl, lr2_10 hl, lr2_11 hl, lr2_13 hl, lr2_14 hl, lr2_15 hl, lr2_16 hl, lr2_17 hl, lr2_18 hl, lk3 hl, lr3_0 hl, lk4 hl, ll4 hl, lk5 hl, lr5_0 hl, lr5_2 hl, lr5_3 hl, lr5_4 hl, lk6 hl, ll6 hl, lk7 hl, ll7 hl, lk8 hl, lr8_0 hl, lk9 hl, ll9 hl, lk10 hl, ll10 hl, lk11 hl, ll11 hl, lk12 hl, lr12_0 hl, lk13 hl, ll13 hl, lk14 hl, lr14_2 hl, lr14_3 hl, lr14_4 hl, lr14_5 hl, lr14_6 hl, lr14_7 hl, lr14_9 hl, lr14_10 hl, lk15 hl, ll15 hl, lk16 hl, ll16 hl, lk17 hl, ll17 hl, lk18 hl, ll18 hl, lk19 hl, ll19 hl, lk20 hl, ll20 hl, lk21 hl, ll21 hl, lk22 hl, lr22_0 hl, lk23 hl, ll23 hl, lk24 hl, lr24_2 hl, lr24_3 hl, lr24_4 hl, lr24_5 hl, lr24_6 hl, lr24_7 hl, lr24_9 hl, lr24_10 hl, lk25 hl, ll25 hl, lk26 hl, ll26 hl, lk27 hl, ll27 hl, lk28 hl, ll28 hl, lk29 hl, ll29 hl, lk30 hl, ll30 hl, lk31 hl, ll31 hl, lk32 hl, lr32_1 hl, lk33 hl, ll33 hl, lk34 hl, lr34_0 hl, lk35 hl, ll35 hl, lk36 hl, lr36_0 hl, lk37 hl, ll37 hl, lk38 hl, lr38_0 hl, lk39 hl, ll39 hl, lk40 hl, ll40 hl, lk41 hl, lk42 hl, lr42_0 hl, lr42_1 hl, lr42_2 hl, lr42_3 hl, lk43 hl, ll43 hl, lk44 hl, ll44 hl, lk45 hl, ll45 hl, lk46 hl, ll46 hl, lk47 hl, lr47_1 hl, lk48 hl, ll48 hl]
  refine c_skip _ w hl ht h0 h1 (Nat.lt_succ_self _) (fun w1 hf1 e1 => ?_)
  have hl1 := z_fr_lay hf1 hl
  have ht1 := z_tc_fr hf1 (by decide) (by decide) ht
  have e6 : z_I w1 5 6 = z_I w 5 6 := hf1.2 5 6 (by decide) (by decide)
  have e8 : z_I w1 5 1 = ec := (hf1.2 5 1 (by decide) (by decide)).trans he
  have e7 : ∀ j, z_I w1 7 j = z_I w 7 j := fun j => hf1.2 7 j (by decide) (by simp)
  have eN : ∀ j, z_I w1 1 j = z_I w 1 j := fun j => hf1.2 1 j (by decide) (by simp)
  have bd := z_sg_bd (a := z_sk T n (z_I w 5 5)) ht.2.2.2.2 (by omega)
  have hfw1 : z_fr [6, 7] [(5, 1), (5, 5), (5, 6)] w w1 := z_fr_mo hf1 (by decide) (by decide)
  have hf2 : z_fr [6, 7] [(5, 1), (5, 5), (5, 6)] w (z_sI w1 5 5 (z_sk T n (z_I w 5 5) + 1)) := z_fr_sF hfw1 (by decide)
  have hl2 := z_fr_lay hf2 hl
  have ht2 := z_tc_fr hf2 (by decide) (by decide) ht
  have q5 : z_I (z_sI w1 5 5 (z_sk T n (z_I w 5 5) + 1)) 5 5 = z_sk T n (z_I w 5 5) + 1 := z_I_at rfl
  have q6 : z_I (z_sI w1 5 5 (z_sk T n (z_I w 5 5) + 1)) 5 6 = z_I w 5 6 := (z_I_ne (by decide)).trans e6
  have q8 : z_I (z_sI w1 5 5 (z_sk T n (z_I w 5 5) + 1)) 5 1 = ec := (z_I_ne (by decide)).trans e8
  have q7 : ∀ j, z_I (z_sI w1 5 5 (z_sk T n (z_I w 5 5) + 1)) 7 j = z_I w 7 j := fun j => (z_I_np (by decide)).trans (e7 j)
  have qN : ∀ j, z_I (z_sI w1 5 5 (z_sk T n (z_I w 5 5) + 1)) 1 j = z_I w 1 j := fun j => (z_I_np (by decide)).trans (eN j)
  have p66 : ¬ (z_sg T n (z_sk T n (z_I w 5 5)) = 101 ∧ ec < 24) → z_G (d + 4) u 76 66 [z_r 5, z_i (z_sg T n (z_sk T n (z_I w 5 5)))] [] w1 Q := by
    intro hno
    simp only [g76_1, g76_4, g76_4r, g76_5, g76_8, g76_9, g76_10, g76_12, g76_15, g76_15r, g76_16, g76_19, g76_21, g76_24, g76_24r, g76_25, g76_25r, g76_26, g76_29, g76_30, g76_31, g76_34, g76_34r, g76_35, g76_36, g76_36r, g76_37, g76_40, g76_40r, g76_41, g76_44, g76_47, g76_48, g76_49, g76_50, g76_53, g76_53r, g76_54, g76_54r, g76_55, g76_58, g76_59, g76_60, g76_63, g76_66, g76_67, g76_69, g76_72, g76_72r, g76_73, g76_73r, g76_74, g76_77, g76_78, g76_79, g76_82, g76_82r, g76_83, g76_86, g76_89, g76_89r, g76_90, g76_93, z_kl_i, z_kl_l, z_kl_r, z_kl_n, z_kl_x, z_kl_vr, z_c8_0, z_c8_i, z_c8_l, z_c8_r, z_c8_vr, z_c8_n, z_vr_some, z_vr_none, Option.toList_some, Option.toList_none, List.cons_append, List.nil_append, true_and, and_true, and_self, z_k_sI, z_len_sI, z_R_sI, z_N_sI, z_set_0, z_set_1, z_set_s, eq_self, true_implies, false_implies, not_true_eq_false, not_false_eq_true, ne_eq, true_or, or_true, false_or, or_false, false_and, and_false, Int.reduceNeg, Int.reduceEq, Int.reduceNe, Int.reduceLT, Int.reduceLE, Nat.reduceLeDiff, Nat.reduceEqDiff, Nat.reduceSub, Nat.reduceAdd, reduceCtorEq, reduceIte, implies_true, List.reverse_nil, lk1 hl1, ll1 hl1, lk2 hl1, lr2_0 hl1, lr2_1 hl1, lr2_2 hl1, lr2_3 hl1, lr2_6 hl1, lr2_7 hl1, lr2_8 hl1, lr2_9 hl1, lr2_10 hl1, lr2_11 hl1, lr2_13 hl1, lr2_14 hl1, lr2_15 hl1, lr2_16 hl1, lr2_17 hl1, lr2_18 hl1, lk3 hl1, lr3_0 hl1, lk4 hl1, ll4 hl1, lk5 hl1, lr5_0 hl1, lr5_2 hl1, lr5_3 hl1, lr5_4 hl1, lk6 hl1, ll6 hl1, lk7 hl1, ll7 hl1, lk8 hl1, lr8_0 hl1, lk9 hl1, ll9 hl1, lk10 hl1, ll10 hl1, lk11 hl1, ll11 hl1, lk12 hl1, lr12_0 hl1, lk13 hl1, ll13 hl1, lk14 hl1, lr14_2 hl1, lr14_3 hl1, lr14_4 hl1, lr14_5 hl1, lr14_6 hl1, lr14_7 hl1, lr14_9 hl1, lr14_10 hl1, lk15 hl1, ll15 hl1, lk16 hl1, ll16 hl1, lk17 hl1, ll17 hl1, lk18 hl1, ll18 hl1, lk19 hl1, ll19 hl1, lk20 hl1, ll20 hl1, lk21 hl1, ll21 hl1, lk22 hl1, lr22_0 hl1, lk23 hl1, ll23 hl1, lk24 hl1, lr24_2 hl1, lr24_3 hl1, lr24_4 hl1, lr24_5 hl1, lr24_6 hl1, lr24_7 hl1, lr24_9 hl1, lr24_10 hl1, lk25 hl1, ll25 hl1, lk26 hl1, ll26 hl1, lk27 hl1, ll27 hl1, lk28 hl1, ll28 hl1, lk29 hl1, ll29 hl1, lk30 hl1, ll30 hl1, lk31 hl1, ll31 hl1, lk32 hl1, lr32_1 hl1, lk33 hl1, ll33 hl1, lk34 hl1, lr34_0 hl1, lk35 hl1, ll35 hl1, lk36 hl1, lr36_0 hl1, lk37 hl1, ll37 hl1, lk38 hl1, lr38_0 hl1, lk39 hl1, ll39 hl1, lk40 hl1, ll40 hl1, lk41 hl1, lk42 hl1, lr42_0 hl1, lr42_1 hl1, lr42_2 hl1, lr42_3 hl1, lk43 hl1, ll43 hl1, lk44 hl1, ll44 hl1, lk45 hl1, ll45 hl1, lk46 hl1, ll46 hl1, lk47 hl1, lr47_1 hl1, lk48 hl1, ll48 hl1]
    refine ⟨fun c => ?_, fun c => ?_⟩
    · refine c_fail hl1 (by omega) (fun w2 hf2 hw2 hw3 hw4 => ?_)
      have e3 : z_I w2 5 5 = z_I w1 5 5 := hf2.2 5 5 (by decide) (by decide)
      have e8' : z_I w2 5 1 = z_I w1 5 1 := hf2.2 5 1 (by decide) (by decide)
      simp only [g76_1, g76_4, g76_4r, g76_5, g76_8, g76_9, g76_10, g76_12, g76_15, g76_15r, g76_16, g76_19, g76_21, g76_24, g76_24r, g76_25, g76_25r, g76_26, g76_29, g76_30, g76_31, g76_34, g76_34r, g76_35, g76_36, g76_36r, g76_37, g76_40, g76_40r, g76_41, g76_44, g76_47, g76_48, g76_49, g76_50, g76_53, g76_53r, g76_54, g76_54r, g76_55, g76_58, g76_59, g76_60, g76_63, g76_66, g76_67, g76_69, g76_72, g76_72r, g76_73, g76_73r, g76_74, g76_77, g76_78, g76_79, g76_82, g76_82r, g76_83, g76_86, g76_89, g76_89r, g76_90, g76_93, z_kl_i, z_kl_l, z_kl_r, z_kl_n, z_kl_x, z_kl_vr, z_c8_0, z_c8_i, z_c8_l, z_c8_r, z_c8_vr, z_c8_n, z_vr_some, z_vr_none, Option.toList_some, Option.toList_none, List.cons_append, List.nil_append, true_and, and_true, and_self, z_k_sI, z_len_sI, z_R_sI, z_N_sI, z_set_0, z_set_1, z_set_s, eq_self, true_implies, false_implies, not_true_eq_false, not_false_eq_true, ne_eq, true_or, or_true, false_or, or_false, false_and, and_false, Int.reduceNeg, Int.reduceEq, Int.reduceNe, Int.reduceLT, Int.reduceLE, Nat.reduceLeDiff, Nat.reduceEqDiff, Nat.reduceSub, Nat.reduceAdd, reduceCtorEq, reduceIte, implies_true, List.reverse_nil]
      refine k w2 (z_fr_tr hfw1 (z_fr_mo hf2 (by decide) (by decide))) ⟨fun r r0 r1 => by rw [hf2.2 7 _ (by decide) (by simp), e7]; exact hb r r0 r1, by omega, by omega, fun q => by rw [hw3 (by rw [e6]; exact q)]; exact e6, fun q => ?_⟩
      unfold z_cl
      rw [if_neg hno, if_neg c]
      exact ⟨fun a b q e => z_qlr e, fun e h => by cases h; exact ⟨(hw4 (e6.trans q)).trans e1, by omega⟩⟩
    · have c110 : z_sg T n (z_sk T n (z_I w 5 5)) = 110 := by omega
      intro _
      rw [e1, z_add_eq (by omega) (by omega)]
      refine c_readName (nl := nl) hl2 ht2 (by omega) (by omega) (fun r r0 r1 => by rw [q7]; exact hb r r0 r1) (fun r r0 r1 => by rw [q7]; exact hn r r0 r1) (fun w3 g1 g2 g3 g4 g5 g6 => ?_)
      simp only [g76_1, g76_4, g76_4r, g76_5, g76_8, g76_9, g76_10, g76_12, g76_15, g76_15r, g76_16, g76_19, g76_21, g76_24, g76_24r, g76_25, g76_25r, g76_26, g76_29, g76_30, g76_31, g76_34, g76_34r, g76_35, g76_36, g76_36r, g76_37, g76_40, g76_40r, g76_41, g76_44, g76_47, g76_48, g76_49, g76_50, g76_53, g76_53r, g76_54, g76_54r, g76_55, g76_58, g76_59, g76_60, g76_63, g76_66, g76_67, g76_69, g76_72, g76_72r, g76_73, g76_73r, g76_74, g76_77, g76_78, g76_79, g76_82, g76_82r, g76_83, g76_86, g76_89, g76_89r, g76_90, g76_93, z_kl_i, z_kl_l, z_kl_r, z_kl_n, z_kl_x, z_kl_vr, z_c8_0, z_c8_i, z_c8_l, z_c8_r, z_c8_vr, z_c8_n, z_vr_some, z_vr_none, Option.toList_some, Option.toList_none, List.cons_append, List.nil_append, true_and, and_true, and_self, z_k_sI, z_len_sI, z_R_sI, z_N_sI, z_set_0, z_set_1, z_set_s, eq_self, true_implies, false_implies, not_true_eq_false, not_false_eq_true, ne_eq, true_or, or_true, false_or, or_false, false_and, and_false, Int.reduceNeg, Int.reduceEq, Int.reduceNe, Int.reduceLT, Int.reduceLE, Nat.reduceLeDiff, Nat.reduceEqDiff, Nat.reduceSub, Nat.reduceAdd, reduceCtorEq, reduceIte, implies_true, List.reverse_nil]
      rw [q6] at g5 g6
      rw [q5] at g6
      have q8' : z_I w3 5 1 = ec := (g1.2 5 1 (by decide) (by decide)).trans q8
      refine k w3 (z_fr_tr hf2 (z_fr_mo g1 (by decide) (by decide))) ⟨g2, ⟨g3, g4⟩, by omega, g5, fun cw => ?_⟩
      have g7 := g6 cw
      unfold z_cl
      rw [if_neg hno, if_pos c110]
      refine ⟨fun a b q e => ?_, fun e h => ?_⟩
      · cases h2 : z_nam T n nl (z_sk T n (z_I w 5 5) + 1) with
        | inl e' => rw [h2] at e; exact z_qlr e
        | inr r =>
          obtain ⟨r, m, q'⟩ := r
          have g8 := g7.1 r m q' h2
          rw [h2] at e
          simp only [z_bn_r, Sum.inr.injEq, Prod.mk.injEq] at e
          refine ⟨g8.1.trans e.2.2, g8.2.1, q8'.trans e.1, fun j j0 j1 => ?_⟩
          rw [← e.2.1]
          exact g8.2.2 j j0 j1
      · cases h2 : z_nam T n nl (z_sk T n (z_I w 5 5) + 1) with
        | inl e' => rw [h2] at h; cases h; exact g7.2 _ h2
        | inr r => rw [h2] at h; exact z_qrl h
  simp only [g76_0, g76_0r, g76_1, g76_4, g76_4r, g76_5, g76_8, g76_9, g76_10, g76_12, g76_15, g76_15r, g76_16, g76_19, g76_21, g76_24, g76_24r, g76_25, g76_25r, g76_26, g76_29, g76_30, g76_31, g76_34, g76_34r, g76_35, g76_36, g76_36r, g76_37, g76_40, g76_40r, g76_41, g76_44, g76_47, g76_48, g76_49, g76_50, g76_53, g76_53r, g76_54, g76_54r, g76_55, g76_58, g76_59, g76_60, g76_63, g76_67, g76_69, g76_72, g76_72r, g76_73, g76_73r, g76_74, g76_77, g76_78, g76_79, g76_82, g76_82r, g76_83, g76_86, g76_89, g76_89r, g76_90, g76_93, z_kl_i, z_kl_l, z_kl_r, z_kl_n, z_kl_x, z_kl_vr, z_c8_0, z_c8_i, z_c8_l, z_c8_r, z_c8_vr, z_c8_n, z_vr_some, z_vr_none, Option.toList_some, Option.toList_none, List.cons_append, List.nil_append, true_and, and_true, and_self, z_k_sI, z_len_sI, z_R_sI, z_N_sI, z_set_0, z_set_1, z_set_s, eq_self, true_implies, false_implies, not_true_eq_false, not_false_eq_true, ne_eq, true_or, or_true, false_or, or_false, false_and, and_false, Int.reduceNeg, Int.reduceEq, Int.reduceNe, Int.reduceLT, Int.reduceLE, Nat.reduceLeDiff, Nat.reduceEqDiff, Nat.reduceSub, Nat.reduceAdd, reduceCtorEq, reduceIte, implies_true, List.reverse_nil, lk1 hl1, ll1 hl1, lk2 hl1, lr2_0 hl1, lr2_1 hl1, lr2_2 hl1, lr2_3 hl1, lr2_6 hl1, lr2_7 hl1, lr2_8 hl1, lr2_9 hl1, lr2_10 hl1, lr2_11 hl1, lr2_13 hl1, lr2_14 hl1, lr2_15 hl1, lr2_16 hl1, lr2_17 hl1, lr2_18 hl1, lk3 hl1, lr3_0 hl1, lk4 hl1, ll4 hl1, lk5 hl1, lr5_0 hl1, lr5_2 hl1, lr5_3 hl1, lr5_4 hl1, lk6 hl1, ll6 hl1, lk7 hl1, ll7 hl1, lk8 hl1, lr8_0 hl1, lk9 hl1, ll9 hl1, lk10 hl1, ll10 hl1, lk11 hl1, ll11 hl1, lk12 hl1, lr12_0 hl1, lk13 hl1, ll13 hl1, lk14 hl1, lr14_2 hl1, lr14_3 hl1, lr14_4 hl1, lr14_5 hl1, lr14_6 hl1, lr14_7 hl1, lr14_9 hl1, lr14_10 hl1, lk15 hl1, ll15 hl1, lk16 hl1, ll16 hl1, lk17 hl1, ll17 hl1, lk18 hl1, ll18 hl1, lk19 hl1, ll19 hl1, lk20 hl1, ll20 hl1, lk21 hl1, ll21 hl1, lk22 hl1, lr22_0 hl1, lk23 hl1, ll23 hl1, lk24 hl1, lr24_2 hl1, lr24_3 hl1, lr24_4 hl1, lr24_5 hl1, lr24_6 hl1, lr24_7 hl1, lr24_9 hl1, lr24_10 hl1, lk25 hl1, ll25 hl1, lk26 hl1, ll26 hl1, lk27 hl1, ll27 hl1, lk28 hl1, ll28 hl1, lk29 hl1, ll29 hl1, lk30 hl1, ll30 hl1, lk31 hl1, ll31 hl1, lk32 hl1, lr32_1 hl1, lk33 hl1, ll33 hl1, lk34 hl1, lr34_0 hl1, lk35 hl1, ll35 hl1, lk36 hl1, lr36_0 hl1, lk37 hl1, ll37 hl1, lk38 hl1, lr38_0 hl1, lk39 hl1, ll39 hl1, lk40 hl1, ll40 hl1, lk41 hl1, lk42 hl1, lr42_0 hl1, lr42_1 hl1, lr42_2 hl1, lr42_3 hl1, lk43 hl1, ll43 hl1, lk44 hl1, ll44 hl1, lk45 hl1, ll45 hl1, lk46 hl1, ll46 hl1, lk47 hl1, lr47_1 hl1, lk48 hl1, ll48 hl1]
  refine c_sign' hl1 ht1 (by omega) ?_
  rw [e1]
  simp only [g76_0, g76_0r, g76_1, g76_4, g76_4r, g76_5, g76_8, g76_9, g76_10, g76_12, g76_15, g76_15r, g76_16, g76_19, g76_21, g76_24, g76_24r, g76_25, g76_25r, g76_26, g76_29, g76_30, g76_31, g76_34, g76_34r, g76_35, g76_36, g76_36r, g76_37, g76_40, g76_40r, g76_41, g76_44, g76_47, g76_48, g76_49, g76_50, g76_53, g76_53r, g76_54, g76_54r, g76_55, g76_58, g76_59, g76_60, g76_63, g76_67, g76_69, g76_72, g76_72r, g76_73, g76_73r, g76_74, g76_77, g76_78, g76_79, g76_82, g76_82r, g76_83, g76_86, g76_89, g76_89r, g76_90, g76_93, z_kl_i, z_kl_l, z_kl_r, z_kl_n, z_kl_x, z_kl_vr, z_c8_0, z_c8_i, z_c8_l, z_c8_r, z_c8_vr, z_c8_n, z_vr_some, z_vr_none, Option.toList_some, Option.toList_none, List.cons_append, List.nil_append, true_and, and_true, and_self, z_k_sI, z_len_sI, z_R_sI, z_N_sI, z_set_0, z_set_1, z_set_s, eq_self, true_implies, false_implies, not_true_eq_false, not_false_eq_true, ne_eq, true_or, or_true, false_or, or_false, false_and, and_false, Int.reduceNeg, Int.reduceEq, Int.reduceNe, Int.reduceLT, Int.reduceLE, Nat.reduceLeDiff, Nat.reduceEqDiff, Nat.reduceSub, Nat.reduceAdd, reduceCtorEq, reduceIte, implies_true, List.reverse_nil, lk1 hl1, ll1 hl1, lk2 hl1, lr2_0 hl1, lr2_1 hl1, lr2_2 hl1, lr2_3 hl1, lr2_6 hl1, lr2_7 hl1, lr2_8 hl1, lr2_9 hl1, lr2_10 hl1, lr2_11 hl1, lr2_13 hl1, lr2_14 hl1, lr2_15 hl1, lr2_16 hl1, lr2_17 hl1, lr2_18 hl1, lk3 hl1, lr3_0 hl1, lk4 hl1, ll4 hl1, lk5 hl1, lr5_0 hl1, lr5_2 hl1, lr5_3 hl1, lr5_4 hl1, lk6 hl1, ll6 hl1, lk7 hl1, ll7 hl1, lk8 hl1, lr8_0 hl1, lk9 hl1, ll9 hl1, lk10 hl1, ll10 hl1, lk11 hl1, ll11 hl1, lk12 hl1, lr12_0 hl1, lk13 hl1, ll13 hl1, lk14 hl1, lr14_2 hl1, lr14_3 hl1, lr14_4 hl1, lr14_5 hl1, lr14_6 hl1, lr14_7 hl1, lr14_9 hl1, lr14_10 hl1, lk15 hl1, ll15 hl1, lk16 hl1, ll16 hl1, lk17 hl1, ll17 hl1, lk18 hl1, ll18 hl1, lk19 hl1, ll19 hl1, lk20 hl1, ll20 hl1, lk21 hl1, ll21 hl1, lk22 hl1, lr22_0 hl1, lk23 hl1, ll23 hl1, lk24 hl1, lr24_2 hl1, lr24_3 hl1, lr24_4 hl1, lr24_5 hl1, lr24_6 hl1, lr24_7 hl1, lr24_9 hl1, lr24_10 hl1, lk25 hl1, ll25 hl1, lk26 hl1, ll26 hl1, lk27 hl1, ll27 hl1, lk28 hl1, ll28 hl1, lk29 hl1, ll29 hl1, lk30 hl1, ll30 hl1, lk31 hl1, ll31 hl1, lk32 hl1, lr32_1 hl1, lk33 hl1, ll33 hl1, lk34 hl1, lr34_0 hl1, lk35 hl1, ll35 hl1, lk36 hl1, lr36_0 hl1, lk37 hl1, ll37 hl1, lk38 hl1, lr38_0 hl1, lk39 hl1, ll39 hl1, lk40 hl1, ll40 hl1, lk41 hl1, lk42 hl1, lr42_0 hl1, lr42_1 hl1, lr42_2 hl1, lr42_3 hl1, lk43 hl1, ll43 hl1, lk44 hl1, ll44 hl1, lk45 hl1, ll45 hl1, lk46 hl1, ll46 hl1, lk47 hl1, lr47_1 hl1, lk48 hl1, ll48 hl1]
  refine ⟨fun c => p66 (fun q => c q.1), fun c _ => ⟨fun c2 => p66 (fun q => by omega), fun c2 _ => ?_⟩⟩
  have hyes : z_sg T n (z_sk T n (z_I w 5 5)) = 101 ∧ ec < 24 := ⟨by omega, by omega⟩
  rw [e1, z_add_eq (by omega) (by omega)]
  rw [q8, qN 0, hN.1]
  intro _ _
  rw [z_mul_eq (by omega) (by omega)]
  have hN2 : z_NS (z_sI w1 5 5 (z_sk T n (z_I w 5 5) + 1)) := by
    unfold z_NS
    rw [qN, qN, qN, qN]; exact hN
  refine c_readNumbers (T := T) (n := n) 6 0 _ (by omega) (by omega) (Or.inl rfl) hl2 ht2 hN2 (by omega) (by omega) (by omega) (by rw [ll6 hl2, qN 0, hN.1]; omega) (by rw [ll6 hl2]; omega) (lk6 hl2) (fun w3 g1 g2 g3 g4 _ => ?_)
  rw [q5, qN 0, hN.1] at g4
  rw [show z_bl 0 (5 : Int).toNat 0 = [63, 63, 63, 63, 9] from z_bl_0] at g4
  have q8' : z_I w3 5 1 = ec := (g1.2 5 1 (by decide) (by decide)).trans q8
  have q7' : ∀ j, z_I w3 7 j = z_I w 7 j := fun j => (g1.2 7 j (by decide) (by simp)).trans (q7 j)
  simp only [g76_0, g76_0r, g76_1, g76_4, g76_4r, g76_5, g76_8, g76_9, g76_10, g76_12, g76_15, g76_15r, g76_16, g76_19, g76_21, g76_24, g76_24r, g76_25, g76_25r, g76_26, g76_29, g76_30, g76_31, g76_34, g76_34r, g76_35, g76_36, g76_36r, g76_37, g76_40, g76_40r, g76_41, g76_44, g76_47, g76_48, g76_49, g76_50, g76_53, g76_53r, g76_54, g76_54r, g76_55, g76_58, g76_59, g76_60, g76_63, g76_67, g76_69, g76_72, g76_72r, g76_73, g76_73r, g76_74, g76_77, g76_78, g76_79, g76_82, g76_82r, g76_83, g76_86, g76_89, g76_89r, g76_90, g76_93, z_kl_i, z_kl_l, z_kl_r, z_kl_n, z_kl_x, z_kl_vr, z_c8_0, z_c8_i, z_c8_l, z_c8_r, z_c8_vr, z_c8_n, z_vr_some, z_vr_none, Option.toList_some, Option.toList_none, List.cons_append, List.nil_append, true_and, and_true, and_self, z_k_sI, z_len_sI, z_R_sI, z_N_sI, z_set_0, z_set_1, z_set_s, eq_self, true_implies, false_implies, not_true_eq_false, not_false_eq_true, ne_eq, true_or, or_true, false_or, or_false, false_and, and_false, Int.reduceNeg, Int.reduceEq, Int.reduceNe, Int.reduceLT, Int.reduceLE, Nat.reduceLeDiff, Nat.reduceEqDiff, Nat.reduceSub, Nat.reduceAdd, reduceCtorEq, reduceIte, implies_true, List.reverse_nil, lk1 g2, ll1 g2, lk2 g2, lr2_0 g2, lr2_1 g2, lr2_2 g2, lr2_3 g2, lr2_6 g2, lr2_7 g2, lr2_8 g2, lr2_9 g2, lr2_10 g2, lr2_11 g2, lr2_13 g2, lr2_14 g2, lr2_15 g2, lr2_16 g2, lr2_17 g2, lr2_18 g2, lk3 g2, lr3_0 g2, lk4 g2, ll4 g2, lk5 g2, lr5_0 g2, lr5_2 g2, lr5_3 g2, lr5_4 g2, lk6 g2, ll6 g2, lk7 g2, ll7 g2, lk8 g2, lr8_0 g2, lk9 g2, ll9 g2, lk10 g2, ll10 g2, lk11 g2, ll11 g2, lk12 g2, lr12_0 g2, lk13 g2, ll13 g2, lk14 g2, lr14_2 g2, lr14_3 g2, lr14_4 g2, lr14_5 g2, lr14_6 g2, lr14_7 g2, lr14_9 g2, lr14_10 g2, lk15 g2, ll15 g2, lk16 g2, ll16 g2, lk17 g2, ll17 g2, lk18 g2, ll18 g2, lk19 g2, ll19 g2, lk20 g2, ll20 g2, lk21 g2, ll21 g2, lk22 g2, lr22_0 g2, lk23 g2, ll23 g2, lk24 g2, lr24_2 g2, lr24_3 g2, lr24_4 g2, lr24_5 g2, lr24_6 g2, lr24_7 g2, lr24_9 g2, lr24_10 g2, lk25 g2, ll25 g2, lk26 g2, ll26 g2, lk27 g2, ll27 g2, lk28 g2, ll28 g2, lk29 g2, ll29 g2, lk30 g2, ll30 g2, lk31 g2, ll31 g2, lk32 g2, lr32_1 g2, lk33 g2, ll33 g2, lk34 g2, lr34_0 g2, lk35 g2, ll35 g2, lk36 g2, lr36_0 g2, lk37 g2, ll37 g2, lk38 g2, lr38_0 g2, lk39 g2, ll39 g2, lk40 g2, ll40 g2, lk41 g2, lk42 g2, lr42_0 g2, lr42_1 g2, lr42_2 g2, lr42_3 g2, lk43 g2, ll43 g2, lk44 g2, ll44 g2, lk45 g2, ll45 g2, lk46 g2, ll46 g2, lk47 g2, lr47_1 g2, lk48 g2, ll48 g2]
  intro _
  rw [q8', z_add_eq (by omega) (by omega)]
  unfold z_ace at g4
  rw [q6] at g4
  have r3 : z_I (z_sI w3 5 1 (ec + 1)) 5 5 = z_I w3 5 5 := z_I_ne (by decide)
  have r4 : z_I (z_sI w3 5 1 (ec + 1)) 5 6 = z_I w3 5 6 := z_I_ne (by decide)
  have r8 : z_I (z_sI w3 5 1 (ec + 1)) 5 1 = ec + 1 := z_I_at rfl
  have r7 : ∀ j, z_I (z_sI w3 5 1 (ec + 1)) 7 j = z_I w 7 j := fun j => (z_I_np (by decide)).trans (q7' j)
  refine k _ (z_fr_sF (z_fr_tr hf2 (z_fr_mo g1 (by decide) (by decide))) (by decide)) ⟨fun r r0 r1 => by rw [r7]; exact hb r r0 r1, by rw [r3]; exact ⟨g4.1, g4.2.1⟩, by omega, by rw [r4]; exact g4.2.2.1, fun cw => ?_⟩
  rw [r3, r4, r8]
  have g5 := g4.2.2.2 cw
  unfold z_cl
  rw [if_pos hyes]
  refine ⟨fun a b q e => ?_, fun e h => ?_⟩
  · cases h2 : z_pn T n [63, 63, 63, 63, 9] (z_sk T n (z_I w 5 5) + 1) with
    | inl e' => rw [h2] at e; exact z_qlr e
    | inr r =>
      have g6 := g5.1 r h2
      rw [h2] at e
      simp only [z_bn_r, Sum.inr.injEq, Prod.mk.injEq] at e
      refine ⟨g6.1.trans e.2.2, g6.2, e.1, fun j j0 j1 => ?_⟩
      rw [r7, ← e.2.1]
      exact hn j j0 j1
  · cases h2 : z_pn T n [63, 63, 63, 63, 9] (z_sk T n (z_I w 5 5) + 1) with
    | inl e' => rw [h2] at h; cases h; exact g5.2 _ h2
    | inr r => rw [h2] at h; exact z_qrl h
