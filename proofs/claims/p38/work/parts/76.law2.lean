/-! the law: feed, end, fault, text -/
theorem z_LI_tc {L : Int} {w : z_W} {B : Int} (H : z_LI L w B) : z_tc w (z_I w 50) (z_I w 49 2) := by
  obtain ⟨a1, a2, a3, a4, a5, a6, a7, a8, a9⟩ := H
  exact ⟨a7, a8, a3.2.2.2.2.2.2.2.1.1, a3.2.2.2.2.2.2.2.1.2, a4⟩
theorem z_LI_tp {L : Int} {w : z_W} {B : Int} (H : z_LI L w B) : z_tp w (z_I w 50) (z_I w 49 2) := z_tp_of H.2.2.1 H.2.2.2.1

theorem c_op0 {d : Nat} {u : Nat × Nat} {w : z_W} {Q : z_P} {L B i : Int} {a5 a6 : z_V} (HX : z_LX L w B) (hB : B ≤ 200000) (i0 : 0 ≤ i) (i6 : i + 6 < L) (hL : L ≤ 3584) (hu : 2 ≤ u.1 ∧ 74 ≤ u.2) (k : ∀ u' w' a5 a6, u.1 ≤ u'.1 + 2 → u.2 ≤ u'.2 + 74 → z_LX L w' (B + 40) → z_G (d + 25) u' 300 1586 [z_r 0, z_r 2, z_r 49, z_r 76, z_i i, a5, a6] [] w' Q) : z_G (d + 25) u 300 204 [z_r 0, z_r 2, z_r 49, z_r 76, z_i i, a5, a6] [] w Q := by
  have H := HX.1
  have ha1 : z_add i 1 = i + 1 := z_add_eq (by omega) (by omega)
  have ha2 : z_add i 2 = i + 2 := z_add_eq (by omega) (by omega)
  have ha3 : z_add i 3 = i + 3 := z_add_eq (by omega) (by omega)
  have ha4 : z_add i 4 = i + 4 := z_add_eq (by omega) (by omega)
  have ha5 : z_add i 5 = i + 5 := z_add_eq (by omega) (by omega)
  have ha6 : z_add i 6 = i + 6 := z_add_eq (by omega) (by omega)
  have hb1 : 0 ≤ i + 1 := by omega
  have hb2 : 0 ≤ i + 2 := by omega
  have hb3 : 0 ≤ i + 3 := by omega
  have hb4 : 0 ≤ i + 4 := by omega
  have hb5 : 0 ≤ i + 5 := by omega
  have hb6 : 0 ≤ i + 6 := by omega
  have hc1 : i + 1 < L := by omega
  have hc2 : i + 2 < L := by omega
  have hc3 : i + 3 < L := by omega
  have hc4 : i + 4 < L := by omega
  have hc5 : i + 5 < L := by omega
  have hc6 : i + 6 < L := by omega
  have hN := H.1.2.2.2
  have HX0 := HX
  obtain ⟨_, m, S, h, V, N, Lg, X⟩ := HX
  have hl := H.1
  have kz := hl.2.2.1
  have kl := H.2.1
  have kc := (hl.1 (2, 11, 19) (by decide)).1
  have km := (hl.1 (49, 12, 39) (by decide)).1
  simp only at kc km
  simp only [g300_204, g300_204r, g300_205, g300_205r, g300_206, g300_208, g300_209, g300_210, g300_211, g300_211r, g300_212, g300_214, g300_215, g300_216, g300_217, g300_217r, g300_218, g300_220, g300_221, g300_222, g300_223, g300_223r, g300_224, g300_226, g300_227, g300_228, g300_229, g300_229r, g300_230, g300_232, g300_233, g300_234, g300_235, z_kl_i, z_kl_l, z_kl_r, z_kl_n, z_kl_x, z_kl_vr, z_c8_0, z_c8_i, z_c8_l, z_c8_r, z_c8_vr, z_c8_n, z_vr_some, z_vr_none, Option.toList_some, Option.toList_none, List.cons_append, List.nil_append, true_and, and_true, and_self, z_k_sI, z_len_sI, z_R_sI, z_N_sI, z_set_0, z_set_1, z_set_s, eq_self, true_implies, false_implies, not_true_eq_false, not_false_eq_true, ne_eq, true_or, or_true, false_or, or_false, false_and, and_false, Int.reduceNeg, Int.reduceEq, Int.reduceNe, Int.reduceLT, Int.reduceLE, Nat.reduceLeDiff, Nat.reduceEqDiff, Nat.reduceSub, Nat.reduceAdd, reduceCtorEq, reduceIte, implies_true, List.reverse_nil, ha1, hb1, hc1, ha2, hb2, hc2, ha3, hb3, hc3, ha4, hb4, hc4, ha5, hb5, hc5, ha6, hb6, hc6, kz, kl, kc, km]
  (repeat' (first | (with_reducible refine And.intro ?_ ?_) | (with_reducible intro _) | omega))
  have hc := z_LI_tc H
  have hp := z_LI_tp H
  refine c_feedC hl hc _ _ _ _ _ (fun q1 => ?_) (fun q1 w1 h1 t1 => ?_)
  · have w1e : z_I w 0 = z_I w 0 := rfl
    simp only [g300_238, g300_238r, g300_239, g300_239r, g300_240, g300_240r, g300_241, g300_243, g300_244, g300_245, g300_246, g300_246r, g300_247, g300_249, g300_250, g300_251, g300_252, g300_252r, g300_253, g300_255, g300_256, g300_257, g300_258, g300_258r, g300_259, g300_261, g300_262, g300_263, g300_264, g300_264r, g300_265, g300_267, g300_268, g300_269, g300_270, z_kl_i, z_kl_l, z_kl_r, z_kl_n, z_kl_x, z_kl_vr, z_c8_0, z_c8_i, z_c8_l, z_c8_r, z_c8_vr, z_c8_n, z_vr_some, z_vr_none, Option.toList_some, Option.toList_none, List.cons_append, List.nil_append, true_and, and_true, and_self, z_k_sI, z_len_sI, z_R_sI, z_N_sI, z_set_0, z_set_1, z_set_s, eq_self, true_implies, false_implies, not_true_eq_false, not_false_eq_true, ne_eq, true_or, or_true, false_or, or_false, false_and, and_false, Int.reduceNeg, Int.reduceEq, Int.reduceNe, Int.reduceLT, Int.reduceLE, Nat.reduceLeDiff, Nat.reduceEqDiff, Nat.reduceSub, Nat.reduceAdd, reduceCtorEq, reduceIte, implies_true, List.reverse_nil, ha1, hb1, hc1, ha2, hb2, hc2, ha3, hb3, hc3, ha4, hb4, hc4, ha5, hb5, hc5, ha6, hb6, hc6, kz, kl, kc, km]
    (repeat' (first | (with_reducible refine And.intro ?_ ?_) | (with_reducible intro _) | omega))
    refine c_feedM hl hp _ _ _ _ _ (fun q2 => ?_) (fun q2 w2 h2 t2 => ?_)
    · simp only [g300_273, g300_273r, g300_274, z_kl_i, z_kl_l, z_kl_r, z_kl_n, z_kl_x, z_kl_vr, z_c8_0, z_c8_i, z_c8_l, z_c8_r, z_c8_vr, z_c8_n, z_vr_some, z_vr_none, Option.toList_some, Option.toList_none, List.cons_append, List.nil_append, true_and, and_true, and_self, z_k_sI, z_len_sI, z_R_sI, z_N_sI, z_set_0, z_set_1, z_set_s, eq_self, true_implies, false_implies, not_true_eq_false, not_false_eq_true, ne_eq, true_or, or_true, false_or, or_false, false_and, and_false, Int.reduceNeg, Int.reduceEq, Int.reduceNe, Int.reduceLT, Int.reduceLE, Nat.reduceLeDiff, Nat.reduceEqDiff, Nat.reduceSub, Nat.reduceAdd, reduceCtorEq, reduceIte, implies_true, List.reverse_nil]
      exact k _ _ _ _ (by first | omega | (simp only; omega)) (by first | omega | (simp only; omega)) (z_LX_mono (by omega) HX0)
    · exact absurd q1 (by omega)
  · have hl1 := z_fr_lay h1 hl
    have kz1 := hl1.2.2.1
    have kl1 : z_len w1 0 = L := (z_fr_len h1 0).trans H.2.1
    have kc1 := (hl1.1 (2, 11, 19) (by decide)).1
    have km1 := (hl1.1 (49, 12, 39) (by decide)).1
    simp only at kc1 km1
    have e0 : ∀ j, z_I w1 0 j = z_I w 0 j := fun j => h1.2 0 j (by decide) (by simp)
    simp only [g300_238, g300_238r, g300_239, g300_239r, g300_240, g300_240r, g300_241, g300_243, g300_244, g300_245, g300_246, g300_246r, g300_247, g300_249, g300_250, g300_251, g300_252, g300_252r, g300_253, g300_255, g300_256, g300_257, g300_258, g300_258r, g300_259, g300_261, g300_262, g300_263, g300_264, g300_264r, g300_265, g300_267, g300_268, g300_269, g300_270, z_kl_i, z_kl_l, z_kl_r, z_kl_n, z_kl_x, z_kl_vr, z_c8_0, z_c8_i, z_c8_l, z_c8_r, z_c8_vr, z_c8_n, z_vr_some, z_vr_none, Option.toList_some, Option.toList_none, List.cons_append, List.nil_append, true_and, and_true, and_self, z_k_sI, z_len_sI, z_R_sI, z_N_sI, z_set_0, z_set_1, z_set_s, eq_self, true_implies, false_implies, not_true_eq_false, not_false_eq_true, ne_eq, true_or, or_true, false_or, or_false, false_and, and_false, Int.reduceNeg, Int.reduceEq, Int.reduceNe, Int.reduceLT, Int.reduceLE, Nat.reduceLeDiff, Nat.reduceEqDiff, Nat.reduceSub, Nat.reduceAdd, reduceCtorEq, reduceIte, implies_true, List.reverse_nil, ha1, hb1, hc1, ha2, hb2, hc2, ha3, hb3, hc3, ha4, hb4, hc4, ha5, hb5, hc5, ha6, hb6, hc6, kz1, kl1, kc1, km1, e0]
    (repeat' (first | (with_reducible refine And.intro ?_ ?_) | (with_reducible intro _) | omega))
    refine c_feedM hl1 (z_tp_fr h1 (by decide) (by decide) hp) _ _ _ _ _ (fun q2 => absurd q2 (by omega)) (fun q2 w2 h2 t2 => ?_)
    simp only [g300_273, g300_273r, g300_274, z_kl_i, z_kl_l, z_kl_r, z_kl_n, z_kl_x, z_kl_vr, z_c8_0, z_c8_i, z_c8_l, z_c8_r, z_c8_vr, z_c8_n, z_vr_some, z_vr_none, Option.toList_some, Option.toList_none, List.cons_append, List.nil_append, true_and, and_true, and_self, z_k_sI, z_len_sI, z_R_sI, z_N_sI, z_set_0, z_set_1, z_set_s, eq_self, true_implies, false_implies, not_true_eq_false, not_false_eq_true, ne_eq, true_or, or_true, false_or, or_false, false_and, and_false, Int.reduceNeg, Int.reduceEq, Int.reduceNe, Int.reduceLT, Int.reduceLE, Nat.reduceLeDiff, Nat.reduceEqDiff, Nat.reduceSub, Nat.reduceAdd, reduceCtorEq, reduceIte, implies_true, List.reverse_nil]
    refine k _ _ _ _ (by first | omega | (simp only; omega)) (by first | omega | (simp only; omega)) ?_
    have h12 : z_fr [4, 50] [(3, 1), (49, 2)] w w2 := z_fr_tr (z_fr_mo h1 (by decide) (by decide)) (z_fr_mo h2 (by decide) (by decide))
    refine ⟨?_, m, S, h, V, N, Lg, x_A_t (z_fr_mo h12 (by decide) (by decide)) X⟩
    refine ⟨z_fr_lay h12 hl, (z_fr_len h12 0).trans H.2.1, z_IM_e2 (fun p j p1 p2 p3 p4 => h12.2 p j (by simp only [List.mem_cons, List.not_mem_nil, or_false]; omega) (by simp only [List.mem_cons, List.not_mem_nil, or_false]; intro x; rcases x with x | x; cases x; omega; exact p4 x)) (by rw [t2.2.1]; exact ⟨t2.2.2.1, t2.2.2.2.1⟩) H.2.2.1, ?_, z_IC_mono (by omega) (z_IC_fr h12 (by decide) (by decide) H.2.2.2.2.1), z_IS_fr h12 hl (by decide) (by decide) H.2.2.2.2.2.1, fun a => ?_, ?_, ?_⟩
    · intro a a0 a1
      rw [t2.2.1] at a1
      rw [t2.1 a]
      exact t2.2.2.2.2 a a0 a1
    · rw [t2.1 a, h2.2 4 a (by decide) (by simp), t1.1 a]
    · rw [t2.2.1, h2.2 3 1 (by decide) (by decide), t1.2.1]
    · exact sc_R_gw (z_gw_of h12) hl H.2.2.2.2.2.1 (by decide) (by decide) (by decide) (h12.2 2 4 (by decide) (by decide)) (h12.2 49 11 (by decide) (by decide)) H.2.2.2.2.2.2.2.2
theorem c_op1 {d : Nat} {u : Nat × Nat} {w : z_W} {Q : z_P} {L B i : Int} {a5 a6 : z_V} (HX : z_LX L w B) (hB : B ≤ 200000) (i0 : 0 ≤ i) (i6 : i + 6 < L) (hL : L ≤ 3584) (hu : 2 ≤ u.1 ∧ 74 ≤ u.2) (k : ∀ u' w' a5 a6, u.1 ≤ u'.1 + 2 → u.2 ≤ u'.2 + 74 → z_LX L w' (B + 40) → z_G (d + 25) u' 300 1586 [z_r 0, z_r 2, z_r 49, z_r 76, z_i i, a5, a6] [] w' Q) : z_G (d + 25) u 300 277 [z_r 0, z_r 2, z_r 49, z_r 76, z_i i, a5, a6] [] w Q := by
  have H := HX.1
  have ha1 : z_add i 1 = i + 1 := z_add_eq (by omega) (by omega)
  have ha2 : z_add i 2 = i + 2 := z_add_eq (by omega) (by omega)
  have ha3 : z_add i 3 = i + 3 := z_add_eq (by omega) (by omega)
  have ha4 : z_add i 4 = i + 4 := z_add_eq (by omega) (by omega)
  have ha5 : z_add i 5 = i + 5 := z_add_eq (by omega) (by omega)
  have ha6 : z_add i 6 = i + 6 := z_add_eq (by omega) (by omega)
  have hb1 : 0 ≤ i + 1 := by omega
  have hb2 : 0 ≤ i + 2 := by omega
  have hb3 : 0 ≤ i + 3 := by omega
  have hb4 : 0 ≤ i + 4 := by omega
  have hb5 : 0 ≤ i + 5 := by omega
  have hb6 : 0 ≤ i + 6 := by omega
  have hc1 : i + 1 < L := by omega
  have hc2 : i + 2 < L := by omega
  have hc3 : i + 3 < L := by omega
  have hc4 : i + 4 < L := by omega
  have hc5 : i + 5 < L := by omega
  have hc6 : i + 6 < L := by omega
  have hN := H.1.2.2.2
  have HX0 := HX
  obtain ⟨_, m, S, h, V, N, Lg, X⟩ := HX
  have hl := H.1
  have kz := hl.2.2.1
  have kl := H.2.1
  have kc := (hl.1 (2, 11, 19) (by decide)).1
  have km := (hl.1 (49, 12, 39) (by decide)).1
  simp only at kc km
  simp only [g300_277, g300_277r, g300_278, g300_278r, g300_279, g300_281, g300_282, g300_283, g300_284, z_kl_i, z_kl_l, z_kl_r, z_kl_n, z_kl_x, z_kl_vr, z_c8_0, z_c8_i, z_c8_l, z_c8_r, z_c8_vr, z_c8_n, z_vr_some, z_vr_none, Option.toList_some, Option.toList_none, List.cons_append, List.nil_append, true_and, and_true, and_self, z_k_sI, z_len_sI, z_R_sI, z_N_sI, z_set_0, z_set_1, z_set_s, eq_self, true_implies, false_implies, not_true_eq_false, not_false_eq_true, ne_eq, true_or, or_true, false_or, or_false, false_and, and_false, Int.reduceNeg, Int.reduceEq, Int.reduceNe, Int.reduceLT, Int.reduceLE, Nat.reduceLeDiff, Nat.reduceEqDiff, Nat.reduceSub, Nat.reduceAdd, reduceCtorEq, reduceIte, implies_true, List.reverse_nil, ha1, hb1, hc1, ha2, hb2, hc2, ha3, hb3, hc3, ha4, hb4, hc4, ha5, hb5, hc5, ha6, hb6, hc6, kz, kl, kc, km]
  (repeat' (first | (with_reducible refine And.intro ?_ ?_) | (with_reducible intro _) | omega))
  have hc := z_LI_tc H
  refine c_endC hl hc _ (fun q1 q2 => ?_) (fun q1 => ?_)
  · have h1 : z_fr [] [(3, 1)] w (z_sI w 3 1 (z_I w 0 (i + 1))) := z_fr_sF z_fr_rf (by decide)
    have e31 : z_I (z_sI w 3 1 (z_I w 0 (i + 1))) 3 1 = z_I w 0 (i + 1) := z_I_at rfl
    have e0 : z_I (z_sI w 3 1 (z_I w 0 (i + 1))) 0 (i + 1) = z_I w 0 (i + 1) := h1.2 0 _ (by decide) (by simp)
    generalize z_sI w 3 1 (z_I w 0 (i + 1)) = w1 at h1 e31 e0 ⊢
    have hl1 := z_fr_lay h1 hl
    have kz1 := hl1.2.2.1
    have kl1 : z_len w1 0 = L := (z_fr_len h1 0).trans H.2.1
    have kc1 := (hl1.1 (2, 11, 19) (by decide)).1
    have km1 := (hl1.1 (49, 12, 39) (by decide)).1
    simp only at kc1 km1
    simp only [g300_287, g300_287r, g300_288, g300_288r, g300_289, g300_289r, g300_290, g300_292, g300_293, g300_294, g300_295, z_kl_i, z_kl_l, z_kl_r, z_kl_n, z_kl_x, z_kl_vr, z_c8_0, z_c8_i, z_c8_l, z_c8_r, z_c8_vr, z_c8_n, z_vr_some, z_vr_none, Option.toList_some, Option.toList_none, List.cons_append, List.nil_append, true_and, and_true, and_self, z_k_sI, z_len_sI, z_R_sI, z_N_sI, z_set_0, z_set_1, z_set_s, eq_self, true_implies, false_implies, not_true_eq_false, not_false_eq_true, ne_eq, true_or, or_true, false_or, or_false, false_and, and_false, Int.reduceNeg, Int.reduceEq, Int.reduceNe, Int.reduceLT, Int.reduceLE, Nat.reduceLeDiff, Nat.reduceEqDiff, Nat.reduceSub, Nat.reduceAdd, reduceCtorEq, reduceIte, implies_true, List.reverse_nil, ha1, hb1, hc1, ha2, hb2, hc2, ha3, hb3, hc3, ha4, hb4, hc4, ha5, hb5, hc5, ha6, hb6, hc6, kz1, kl1, kc1, km1, e0]
    (repeat' (first | (with_reducible refine And.intro ?_ ?_) | (with_reducible intro _) | omega))
    have e2 : z_I w1 49 2 = z_I w 49 2 := h1.2 49 2 (by decide) (by decide)
    have hM1 : z_IM w1 := z_IM_e2 (fun p j p1 _ _ _ => h1.2 p j (by simp) (by simp only [List.mem_cons, List.not_mem_nil, or_false]; intro x; cases x; omega)) (by rw [e2]; exact H.2.2.1.2.2.2.2.2.2.2.1) H.2.2.1
    refine c_end hl1 hM1 _ (fun r1 r2 hM2 => ?_) (fun r => absurd r (by omega))
    simp only [g300_298, g300_298r, g300_299, z_kl_i, z_kl_l, z_kl_r, z_kl_n, z_kl_x, z_kl_vr, z_c8_0, z_c8_i, z_c8_l, z_c8_r, z_c8_vr, z_c8_n, z_vr_some, z_vr_none, Option.toList_some, Option.toList_none, List.cons_append, List.nil_append, true_and, and_true, and_self, z_k_sI, z_len_sI, z_R_sI, z_N_sI, z_set_0, z_set_1, z_set_s, eq_self, true_implies, false_implies, not_true_eq_false, not_false_eq_true, ne_eq, true_or, or_true, false_or, or_false, false_and, and_false, Int.reduceNeg, Int.reduceEq, Int.reduceNe, Int.reduceLT, Int.reduceLE, Nat.reduceLeDiff, Nat.reduceEqDiff, Nat.reduceSub, Nat.reduceAdd, reduceCtorEq, reduceIte, implies_true, List.reverse_nil]
    refine k _ _ _ _ (by first | omega | (simp only; omega)) (by first | omega | (simp only; omega)) ?_
    have h2 : z_fr [] [(49, 2)] w1 (z_sI w1 49 2 (z_I w 0 (i + 1))) := z_fr_sF z_fr_rf (by decide)
    have e49 : z_I (z_sI w1 49 2 (z_I w 0 (i + 1))) 49 2 = z_I w 0 (i + 1) := z_I_at rfl
    generalize z_sI w1 49 2 (z_I w 0 (i + 1)) = w2 at h2 e49 hM2 ⊢
    have h12 : z_fr [] [(3, 1), (49, 2)] w w2 := z_fr_tr (z_fr_mo h1 (by decide) (by decide)) (z_fr_mo h2 (by decide) (by decide))
    refine ⟨?_, m, S, h, V, N, Lg, x_A_t (z_fr_mo h12 (by decide) (by decide)) X⟩
    refine ⟨z_fr_lay h12 hl, (z_fr_len h12 0).trans H.2.1, hM2, ?_, z_IC_mono (by omega) (z_IC_fr h12 (by decide) (by decide) H.2.2.2.2.1), z_IS_fr h12 hl (by decide) (by decide) H.2.2.2.2.2.1, fun a => ?_, ?_, ?_⟩
    · intro a a0 a1
      rw [e49] at a1
      rw [h12.2 50 a (by simp) (by simp)]
      exact H.2.2.2.1 a a0 (by omega)
    · rw [h12.2 4 a (by simp) (by simp), h12.2 50 a (by simp) (by simp)]; exact H.2.2.2.2.2.2.1 a
    · rw [h2.2 3 1 (by decide) (by decide), e31, e49]
    · exact sc_R_gw (z_gw_of h12) hl H.2.2.2.2.2.1 (by decide) (by decide) (by decide) (h12.2 2 4 (by decide) (by decide)) (h12.2 49 11 (by decide) (by decide)) H.2.2.2.2.2.2.2.2
  · skip
    simp only [g300_287, g300_287r, g300_288, g300_288r, g300_289, g300_289r, g300_290, g300_292, g300_293, g300_294, g300_295, z_kl_i, z_kl_l, z_kl_r, z_kl_n, z_kl_x, z_kl_vr, z_c8_0, z_c8_i, z_c8_l, z_c8_r, z_c8_vr, z_c8_n, z_vr_some, z_vr_none, Option.toList_some, Option.toList_none, List.cons_append, List.nil_append, true_and, and_true, and_self, z_k_sI, z_len_sI, z_R_sI, z_N_sI, z_set_0, z_set_1, z_set_s, eq_self, true_implies, false_implies, not_true_eq_false, not_false_eq_true, ne_eq, true_or, or_true, false_or, or_false, false_and, and_false, Int.reduceNeg, Int.reduceEq, Int.reduceNe, Int.reduceLT, Int.reduceLE, Nat.reduceLeDiff, Nat.reduceEqDiff, Nat.reduceSub, Nat.reduceAdd, reduceCtorEq, reduceIte, implies_true, List.reverse_nil, ha1, hb1, hc1, ha2, hb2, hc2, ha3, hb3, hc3, ha4, hb4, hc4, ha5, hb5, hc5, ha6, hb6, hc6, kz, kl, kc, km]
    (repeat' (first | (with_reducible refine And.intro ?_ ?_) | (with_reducible intro _) | omega))
    refine c_end hl H.2.2.1 _ (fun r1 r2 hM2 => absurd q1 (by omega)) (fun r => ?_)
    simp only [g300_298, g300_298r, g300_299, z_kl_i, z_kl_l, z_kl_r, z_kl_n, z_kl_x, z_kl_vr, z_c8_0, z_c8_i, z_c8_l, z_c8_r, z_c8_vr, z_c8_n, z_vr_some, z_vr_none, Option.toList_some, Option.toList_none, List.cons_append, List.nil_append, true_and, and_true, and_self, z_k_sI, z_len_sI, z_R_sI, z_N_sI, z_set_0, z_set_1, z_set_s, eq_self, true_implies, false_implies, not_true_eq_false, not_false_eq_true, ne_eq, true_or, or_true, false_or, or_false, false_and, and_false, Int.reduceNeg, Int.reduceEq, Int.reduceNe, Int.reduceLT, Int.reduceLE, Nat.reduceLeDiff, Nat.reduceEqDiff, Nat.reduceSub, Nat.reduceAdd, reduceCtorEq, reduceIte, implies_true, List.reverse_nil]
    exact k _ _ _ _ (by first | omega | (simp only; omega)) (by first | omega | (simp only; omega)) (z_LX_mono (by omega) HX0)
theorem c_op2 {d : Nat} {u : Nat × Nat} {w : z_W} {Q : z_P} {L B i : Int} {a5 a6 : z_V} (HX : z_LX L w B) (hB : B ≤ 200000) (i0 : 0 ≤ i) (i6 : i + 6 < L) (hL : L ≤ 3584) (hu : 2 ≤ u.1 ∧ 74 ≤ u.2) (k : ∀ u' w' a5 a6, u.1 ≤ u'.1 + 2 → u.2 ≤ u'.2 + 74 → z_LX L w' (B + 40) → z_G (d + 25) u' 300 1586 [z_r 0, z_r 2, z_r 49, z_r 76, z_i i, a5, a6] [] w' Q) : z_G (d + 25) u 300 302 [z_r 0, z_r 2, z_r 49, z_r 76, z_i i, a5, a6] [] w Q := by
  have H := HX.1
  have ha1 : z_add i 1 = i + 1 := z_add_eq (by omega) (by omega)
  have ha2 : z_add i 2 = i + 2 := z_add_eq (by omega) (by omega)
  have ha3 : z_add i 3 = i + 3 := z_add_eq (by omega) (by omega)
  have ha4 : z_add i 4 = i + 4 := z_add_eq (by omega) (by omega)
  have ha5 : z_add i 5 = i + 5 := z_add_eq (by omega) (by omega)
  have ha6 : z_add i 6 = i + 6 := z_add_eq (by omega) (by omega)
  have hb1 : 0 ≤ i + 1 := by omega
  have hb2 : 0 ≤ i + 2 := by omega
  have hb3 : 0 ≤ i + 3 := by omega
  have hb4 : 0 ≤ i + 4 := by omega
  have hb5 : 0 ≤ i + 5 := by omega
  have hb6 : 0 ≤ i + 6 := by omega
  have hc1 : i + 1 < L := by omega
  have hc2 : i + 2 < L := by omega
  have hc3 : i + 3 < L := by omega
  have hc4 : i + 4 < L := by omega
  have hc5 : i + 5 < L := by omega
  have hc6 : i + 6 < L := by omega
  have hN := H.1.2.2.2
  have HX0 := HX
  obtain ⟨_, m, S, h, V, N, Lg, X⟩ := HX
  have hl := H.1
  have kz := hl.2.2.1
  have kl := H.2.1
  have kc := (hl.1 (2, 11, 19) (by decide)).1
  have km := (hl.1 (49, 12, 39) (by decide)).1
  simp only at kc km
  simp only [g300_302, g300_302r, g300_303, g300_303r, g300_304, g300_306, g300_307, g300_308, g300_309, z_kl_i, z_kl_l, z_kl_r, z_kl_n, z_kl_x, z_kl_vr, z_c8_0, z_c8_i, z_c8_l, z_c8_r, z_c8_vr, z_c8_n, z_vr_some, z_vr_none, Option.toList_some, Option.toList_none, List.cons_append, List.nil_append, true_and, and_true, and_self, z_k_sI, z_len_sI, z_R_sI, z_N_sI, z_set_0, z_set_1, z_set_s, eq_self, true_implies, false_implies, not_true_eq_false, not_false_eq_true, ne_eq, true_or, or_true, false_or, or_false, false_and, and_false, Int.reduceNeg, Int.reduceEq, Int.reduceNe, Int.reduceLT, Int.reduceLE, Nat.reduceLeDiff, Nat.reduceEqDiff, Nat.reduceSub, Nat.reduceAdd, reduceCtorEq, reduceIte, implies_true, List.reverse_nil, ha1, hb1, hc1, ha2, hb2, hc2, ha3, hb3, hc3, ha4, hb4, hc4, ha5, hb5, hc5, ha6, hb6, hc6, kz, kl, kc, km]
  (repeat' (first | (with_reducible refine And.intro ?_ ?_) | (with_reducible intro _) | omega))
  refine c_faultC hl (z_LI_tc H) H.2.2.2.2.1.1 _ (fun w1 z1 h1 => ?_)
  have H1 := z_LI_cf H h1 (by decide) (by decide) (by omega) (z_IC_fr h1 (by decide) (by decide) H.2.2.2.2.1)
  have hl1 := H1.1
  have kz1 := hl1.2.2.1
  have kl1 := H1.2.1
  have kc1 := (hl1.1 (2, 11, 19) (by decide)).1
  have km1 := (hl1.1 (49, 12, 39) (by decide)).1
  simp only at kc1 km1
  simp only [g300_312, g300_312r, g300_313, g300_313r, g300_314, g300_314r, g300_315, g300_317, g300_318, g300_319, g300_320, z_kl_i, z_kl_l, z_kl_r, z_kl_n, z_kl_x, z_kl_vr, z_c8_0, z_c8_i, z_c8_l, z_c8_r, z_c8_vr, z_c8_n, z_vr_some, z_vr_none, Option.toList_some, Option.toList_none, List.cons_append, List.nil_append, true_and, and_true, and_self, z_k_sI, z_len_sI, z_R_sI, z_N_sI, z_set_0, z_set_1, z_set_s, eq_self, true_implies, false_implies, not_true_eq_false, not_false_eq_true, ne_eq, true_or, or_true, false_or, or_false, false_and, and_false, Int.reduceNeg, Int.reduceEq, Int.reduceNe, Int.reduceLT, Int.reduceLE, Nat.reduceLeDiff, Nat.reduceEqDiff, Nat.reduceSub, Nat.reduceAdd, reduceCtorEq, reduceIte, implies_true, List.reverse_nil, ha1, hb1, hc1, ha2, hb2, hc2, ha3, hb3, hc3, ha4, hb4, hc4, ha5, hb5, hc5, ha6, hb6, hc6, kz1, kl1, kc1, km1]
  (repeat' (first | (with_reducible refine And.intro ?_ ?_) | (with_reducible intro _) | omega))
  refine c_faultV hl1 H1.2.2.1 H1.2.2.2.1 _ (fun w2 z2 h2 q2 v55 v54 => ?_)
  have H2 := z_LI_mdR H1 h2 (by decide) (by decide) q2 (sc_R_flt h2 hl1 H1.2.2.2.2.2.1 H1.2.2.1.2.2.2.2.2.2.1 v55 v54 H1.2.2.2.2.2.2.2.2)
  simp only [g300_323, g300_323r, g300_324, z_kl_i, z_kl_l, z_kl_r, z_kl_n, z_kl_x, z_kl_vr, z_c8_0, z_c8_i, z_c8_l, z_c8_r, z_c8_vr, z_c8_n, z_vr_some, z_vr_none, Option.toList_some, Option.toList_none, List.cons_append, List.nil_append, true_and, and_true, and_self, z_k_sI, z_len_sI, z_R_sI, z_N_sI, z_set_0, z_set_1, z_set_s, eq_self, true_implies, false_implies, not_true_eq_false, not_false_eq_true, ne_eq, true_or, or_true, false_or, or_false, false_and, and_false, Int.reduceNeg, Int.reduceEq, Int.reduceNe, Int.reduceLT, Int.reduceLE, Nat.reduceLeDiff, Nat.reduceEqDiff, Nat.reduceSub, Nat.reduceAdd, reduceCtorEq, reduceIte, implies_true, List.reverse_nil]
  exact k _ _ _ _ (by first | omega | (simp only; omega)) (by first | omega | (simp only; omega)) ⟨H2, m, S, h, V, N, Lg, x_A_t (z_fr_mo h2 (by decide) (by decide)) (x_A_t (z_fr_mo h1 (by decide) (by decide)) X)⟩
theorem c_op3 {d : Nat} {u : Nat × Nat} {w : z_W} {Q : z_P} {L B i : Int} {a5 a6 : z_V} (HX : z_LX L w B) (hB : B ≤ 200000) (i0 : 0 ≤ i) (i6 : i + 6 < L) (hL : L ≤ 3584) (hu : 2 ≤ u.1 ∧ 74 ≤ u.2) (k : ∀ u' w' a5 a6, u.1 ≤ u'.1 + 2 → u.2 ≤ u'.2 + 74 → z_LX L w' (B + 40) → z_G (d + 25) u' 300 1586 [z_r 0, z_r 2, z_r 49, z_r 76, z_i i, a5, a6] [] w' Q) : z_G (d + 25) u 300 327 [z_r 0, z_r 2, z_r 49, z_r 76, z_i i, a5, a6] [] w Q := by
  have H := HX.1
  have ha1 : z_add i 1 = i + 1 := z_add_eq (by omega) (by omega)
  have ha2 : z_add i 2 = i + 2 := z_add_eq (by omega) (by omega)
  have ha3 : z_add i 3 = i + 3 := z_add_eq (by omega) (by omega)
  have ha4 : z_add i 4 = i + 4 := z_add_eq (by omega) (by omega)
  have ha5 : z_add i 5 = i + 5 := z_add_eq (by omega) (by omega)
  have ha6 : z_add i 6 = i + 6 := z_add_eq (by omega) (by omega)
  have hb1 : 0 ≤ i + 1 := by omega
  have hb2 : 0 ≤ i + 2 := by omega
  have hb3 : 0 ≤ i + 3 := by omega
  have hb4 : 0 ≤ i + 4 := by omega
  have hb5 : 0 ≤ i + 5 := by omega
  have hb6 : 0 ≤ i + 6 := by omega
  have hc1 : i + 1 < L := by omega
  have hc2 : i + 2 < L := by omega
  have hc3 : i + 3 < L := by omega
  have hc4 : i + 4 < L := by omega
  have hc5 : i + 5 < L := by omega
  have hc6 : i + 6 < L := by omega
  have hN := H.1.2.2.2
  have HX0 := HX
  obtain ⟨_, m, S, h, V, N, Lg, X⟩ := HX
  have hl := H.1
  have kz := hl.2.2.1
  have kl := H.2.1
  have kc := (hl.1 (2, 11, 19) (by decide)).1
  have km := (hl.1 (49, 12, 39) (by decide)).1
  simp only at kc km
  simp only [g300_327, g300_327r, g300_328, g300_328r, g300_329, g300_331, g300_332, g300_333, g300_334, z_kl_i, z_kl_l, z_kl_r, z_kl_n, z_kl_x, z_kl_vr, z_c8_0, z_c8_i, z_c8_l, z_c8_r, z_c8_vr, z_c8_n, z_vr_some, z_vr_none, Option.toList_some, Option.toList_none, List.cons_append, List.nil_append, true_and, and_true, and_self, z_k_sI, z_len_sI, z_R_sI, z_N_sI, z_set_0, z_set_1, z_set_s, eq_self, true_implies, false_implies, not_true_eq_false, not_false_eq_true, ne_eq, true_or, or_true, false_or, or_false, false_and, and_false, Int.reduceNeg, Int.reduceEq, Int.reduceNe, Int.reduceLT, Int.reduceLE, Nat.reduceLeDiff, Nat.reduceEqDiff, Nat.reduceSub, Nat.reduceAdd, reduceCtorEq, reduceIte, implies_true, List.reverse_nil, ha1, hb1, hc1, ha2, hb2, hc2, ha3, hb3, hc3, ha4, hb4, hc4, ha5, hb5, hc5, ha6, hb6, hc6, kz, kl, kc, km]
  (repeat' (first | (with_reducible refine And.intro ?_ ?_) | (with_reducible intro _) | omega))
  refine x_textC hl H.2.2.2.2.1 H.2.2.2.2.2.1 (z_LI_tc H) _ (fun w1 z1 h1 q1 q2 f0 f1 fx g0 g1 => ?_)
  have hl1 := z_gw_lay h1 hl
  have kz1 := hl1.2.2.1
  have kl1 : z_len w1 0 = L := ((h1.2.1 0 (by omega)).2).trans H.2.1
  have kc1 := (hl1.1 (2, 11, 19) (by decide)).1
  have km1 := (hl1.1 (49, 12, 39) (by decide)).1
  simp only at kc1 km1
  have e0 : z_I w1 0 (i + 1) = z_I w 0 (i + 1) := h1.2.2.2 0 _ (by omega) (by decide) (by simp)
  have e50 : z_I w1 50 = z_I w 50 := funext fun j => h1.2.2.2 50 j (by omega) (by decide) (by simp)
  have e4 : ∀ a, z_I w1 4 a = z_I w 4 a := fun a => h1.2.2.2 4 a (by omega) (by decide) (by simp)
  have e2 : z_I w1 49 2 = z_I w 49 2 := h1.2.2.2 49 2 (by omega) (by decide) (by decide)
  have e11 : z_I w1 49 11 = z_I w 49 11 := h1.2.2.2 49 11 (by omega) (by decide) (by decide)
  have hM1 : z_IM w1 := z_IM_e2 (fun p j p1 p2 _ _ => h1.2.2.2 p j (by omega) (fun x => by have := (by decide : ∀ p ∈ z_SX, p ≤ 48) p x; omega) (fun x => by have := (by decide : ∀ q ∈ z_FX, q.1 ≤ 48) _ x; simp only at this; omega)) (by rw [e2]; exact H.2.2.1.2.2.2.2.2.2.2.1) H.2.2.1
  have hT1 : z_IT w1 := fun a a0 a1 => by rw [e2] at a1; rw [e50]; exact H.2.2.2.1 a a0 a1
  have HR := H.2.2.2.2.2.2.2.2
  have HS := H.2.2.2.2.2.1
  have h24 : z_I w 2 4 = z_I w 49 11 := HR.1.symm
  simp only [g300_337, g300_337r, g300_338, g300_338r, g300_339, g300_339r, g300_340, g300_342, g300_343, g300_344, g300_345, z_kl_i, z_kl_l, z_kl_r, z_kl_n, z_kl_x, z_kl_vr, z_c8_0, z_c8_i, z_c8_l, z_c8_r, z_c8_vr, z_c8_n, z_vr_some, z_vr_none, Option.toList_some, Option.toList_none, List.cons_append, List.nil_append, true_and, and_true, and_self, z_k_sI, z_len_sI, z_R_sI, z_N_sI, z_set_0, z_set_1, z_set_s, eq_self, true_implies, false_implies, not_true_eq_false, not_false_eq_true, ne_eq, true_or, or_true, false_or, or_false, false_and, and_false, Int.reduceNeg, Int.reduceEq, Int.reduceNe, Int.reduceLT, Int.reduceLE, Nat.reduceLeDiff, Nat.reduceEqDiff, Nat.reduceSub, Nat.reduceAdd, reduceCtorEq, reduceIte, implies_true, List.reverse_nil, ha1, hb1, hc1, ha2, hb2, hc2, ha3, hb3, hc3, ha4, hb4, hc4, ha5, hb5, hc5, ha6, hb6, hc6, kz1, kl1, kc1, km1, e0]
  (repeat' (first | (with_reducible refine And.intro ?_ ?_) | (with_reducible intro _) | omega))
  have fin : ∀ w2, z_fr z_ST z_FT w1 w2 → z_IM w2 → z_I w2 49 2 ≤ z_I w 49 2 → z_I w1 3 1 = z_I w2 49 2 → sc_R w2 → z_LI L w2 (B + 40) := by
    intro w2 h2 hM2 g1 g2 g3
    refine ⟨z_fr_lay h2 hl1, (z_fr_len h2 0).trans kl1, hM2, ?_, z_IC_mono (by omega) (z_IC_fr h2 (by decide) (by decide) q1), z_IS_fr h2 hl1 (by decide) (by decide) q2, fun a => ?_, ?_, g3⟩
    · intro a a0 a1
      rw [h2.2 50 a (by decide) (by simp), e50]
      exact H.2.2.2.1 a a0 (by omega)
    · rw [h2.2 4 a (by decide) (by simp), h2.2 50 a (by decide) (by simp), e50, e4]; exact H.2.2.2.2.2.2.1 a
    · rw [h2.2 3 1 (by decide) (by decide), g2]
  have nn := H.2.2.1.2.2.2.2.2.2.2.1
  have h12 : ∀ t, 0 ≤ t → t ≤ 4 → z_I w 55 t ≤ 12 := fun t t0 t1 => (H.2.2.1.2.2.2.2.2.2.1 t t0 t1).2
  have hR1 : z_I w1 2 4 = z_I w 2 4 → sc_R w1 := fun e24 => sc_R_gw h1 hl HS (by decide) (by decide) (by decide) e24 e11 HR
  have m1 := xm_g hl h1 (by decide) (by decide)
  by_cases c0 : z_I w 0 (i + 1) = 0
  · rw [c0] at f0 f1 fx g0 g1 ⊢
    refine x_text0 hl1 hM1 hT1 (fun w2 z2 h2 hM2 p1 p2 p3 p4 p5 => ?_)
    rw [e50, e2] at p2 p3 p4 p5
    have c2 := xc_m h2 (by decide) (by decide)
    by_cases hm : z_ma (z_I w 50) (z_I w 49 2)
    · obtain ⟨v1, v2, v3, v4, v5⟩ := g0 ⟨rfl, hm⟩
      obtain ⟨u1, u2, u3, u4⟩ := p4 hm
      have y1 := f0 ⟨rfl, hm⟩
      have y2 := p2 hm
      (try rw [v1])
      (try rw [u1])
      simp only [g300_348, g300_348r, g300_349, z_kl_i, z_kl_l, z_kl_r, z_kl_n, z_kl_x, z_kl_vr, z_c8_0, z_c8_i, z_c8_l, z_c8_r, z_c8_vr, z_c8_n, z_vr_some, z_vr_none, Option.toList_some, Option.toList_none, List.cons_append, List.nil_append, true_and, and_true, and_self, z_k_sI, z_len_sI, z_R_sI, z_N_sI, z_set_0, z_set_1, z_set_s, eq_self, true_implies, false_implies, not_true_eq_false, not_false_eq_true, ne_eq, true_or, or_true, false_or, or_false, false_and, and_false, Int.reduceNeg, Int.reduceEq, Int.reduceNe, Int.reduceLT, Int.reduceLE, Nat.reduceLeDiff, Nat.reduceEqDiff, Nat.reduceSub, Nat.reduceAdd, reduceCtorEq, reduceIte, implies_true, List.reverse_nil]
      exact k _ _ _ _ (by first | omega | (simp only; omega)) (by first | omega | (simp only; omega)) ⟨fin w2 (z_fr_mo h2 (by decide) (by decide)) hM2 (by omega) (by omega) (sc_R_gw (z_gw_of h2) hl1 q2 (by decide) (by decide) (by decide) (h2.2 2 4 (by decide) (by decide)) p1 (hR1 y1.2)), _, _, _, _, _, _, x_A_map X (mp_W_ok _ _) (mp_W_nc _ _) v2 v3 v4 v5 m1 c2 u2 u3 u4 (fun j => h2.2 58 j (by decide) (by simp))⟩
    · have y1 := fx (fun x => hm x.2) (fun x => absurd x.1 (by decide))
      have y2 := p3 hm
      obtain ⟨v1, _, v3⟩ := g1 (fun x => hm x.2)
      obtain ⟨u1, u2⟩ := p5 hm
      (try rw [v3 (fun x => absurd x.1 (by decide))])
      (try rw [u2])
      simp only [g300_348, g300_348r, g300_349, z_kl_i, z_kl_l, z_kl_r, z_kl_n, z_kl_x, z_kl_vr, z_c8_0, z_c8_i, z_c8_l, z_c8_r, z_c8_vr, z_c8_n, z_vr_some, z_vr_none, Option.toList_some, Option.toList_none, List.cons_append, List.nil_append, true_and, and_true, and_self, z_k_sI, z_len_sI, z_R_sI, z_N_sI, z_set_0, z_set_1, z_set_s, eq_self, true_implies, false_implies, not_true_eq_false, not_false_eq_true, ne_eq, true_or, or_true, false_or, or_false, false_and, and_false, Int.reduceNeg, Int.reduceEq, Int.reduceNe, Int.reduceLT, Int.reduceLE, Nat.reduceLeDiff, Nat.reduceEqDiff, Nat.reduceSub, Nat.reduceAdd, reduceCtorEq, reduceIte, implies_true, List.reverse_nil]
      exact k _ _ _ _ (by first | omega | (simp only; omega)) (by first | omega | (simp only; omega)) ⟨fin w2 (z_fr_mo h2 (by decide) (by decide)) hM2 (by omega) (by omega) (sc_R_gw (z_gw_of h2) hl1 q2 (by decide) (by decide) (by decide) (h2.2 2 4 (by decide) (by decide)) p1 (hR1 y1.2)), _, _, _, _, _, _, x_A_e c2 u1 (x_A_e v1 m1 X)⟩
  · obtain ⟨v1, v2, v3⟩ := g1 (fun x => c0 x.1)
    by_cases c1 : z_I w 0 (i + 1) = 1
    · rw [c1] at f0 f1 fx v2 v3 ⊢
      refine x_text1 hl1 hM1 hT1 (fun w2 z2 h2 hM2 g2 g3 o55 o54 hv pm pz pn => ?_)
      rw [e50, e2, e11] at g2 g3 hv pz pn
      rw [e11] at o55 o54
      have X2 := x_A_e (xc_m h2 (by decide) (by decide)) pm (x_A_e v1 m1 X)
      by_cases hm : z_I w 49 11 < 4 ∧ z_sc2 (z_I w 50) (z_I w 49 2) 12 0
      · have y1 := f1 ⟨rfl, by omega, hm.2⟩
        have y2 := g2 hm
        (try rw [v2 ⟨rfl, by omega, hm.2⟩])
        (try rw [pz hm])
        (try rw [h24])
        simp only [g300_348, g300_348r, g300_349, z_kl_i, z_kl_l, z_kl_r, z_kl_n, z_kl_x, z_kl_vr, z_c8_0, z_c8_i, z_c8_l, z_c8_r, z_c8_vr, z_c8_n, z_vr_some, z_vr_none, Option.toList_some, Option.toList_none, List.cons_append, List.nil_append, true_and, and_true, and_self, z_k_sI, z_len_sI, z_R_sI, z_N_sI, z_set_0, z_set_1, z_set_s, eq_self, true_implies, false_implies, not_true_eq_false, not_false_eq_true, ne_eq, true_or, or_true, false_or, or_false, false_and, and_false, Int.reduceNeg, Int.reduceEq, Int.reduceNe, Int.reduceLT, Int.reduceLE, Nat.reduceLeDiff, Nat.reduceEqDiff, Nat.reduceSub, Nat.reduceAdd, reduceCtorEq, reduceIte, implies_true, List.reverse_nil]
        exact k _ _ _ _ (by first | omega | (simp only; omega)) (by first | omega | (simp only; omega)) ⟨fin w2 h2 hM2 (by omega) (by omega) (sc_R_new hl HS HR h1 q2 h2 y1.2.1 y2.2 y1.2.2 o55 o54 (hv hm) h12), _, _, _, _, _, _, X2⟩
      · have m1 := fx (fun x => absurd x.1 (by decide)) (fun x => hm ⟨by omega, x.2.2⟩)
        have m2 := g3 hm
        (try rw [v3 (fun x => hm ⟨by omega, x.2.2⟩)])
        (try rw [pn hm])
        simp only [g300_348, g300_348r, g300_349, z_kl_i, z_kl_l, z_kl_r, z_kl_n, z_kl_x, z_kl_vr, z_c8_0, z_c8_i, z_c8_l, z_c8_r, z_c8_vr, z_c8_n, z_vr_some, z_vr_none, Option.toList_some, Option.toList_none, List.cons_append, List.nil_append, true_and, and_true, and_self, z_k_sI, z_len_sI, z_R_sI, z_N_sI, z_set_0, z_set_1, z_set_s, eq_self, true_implies, false_implies, not_true_eq_false, not_false_eq_true, ne_eq, true_or, or_true, false_or, or_false, false_and, and_false, Int.reduceNeg, Int.reduceEq, Int.reduceNe, Int.reduceLT, Int.reduceLE, Nat.reduceLeDiff, Nat.reduceEqDiff, Nat.reduceSub, Nat.reduceAdd, reduceCtorEq, reduceIte, implies_true, List.reverse_nil]
        refine k _ _ _ _ (by first | omega | (simp only; omega)) (by first | omega | (simp only; omega)) ⟨fin w2 h2 hM2 (by omega) (by omega) (sc_R_ge (z_gw_of h2) hl1 q2 (by decide) (h2.2 2 4 (by decide) (by decide)) (by omega) (fun t t0 t1 => o55 t (by omega)) (fun t j t0 t1 j0 j1 => o54 _ ?_) (hR1 m1.2)), _, _, _, _, _, _, X2⟩
        have h4 := HS.1
        have := h12 t t0 (by omega)
        have e55 : z_I w1 55 t = z_I w 55 t := h1.2.2.2 55 t (by omega) (by decide) (by simp)
        omega
    · refine c_textX hl1 _ c0 c1 ?_
      have m1' := fx (fun x => c0 x.1) (fun x => c1 x.1)
      (try rw [v3 (fun x => c1 x.1)])
      simp only [g300_348, g300_348r, g300_349, z_kl_i, z_kl_l, z_kl_r, z_kl_n, z_kl_x, z_kl_vr, z_c8_0, z_c8_i, z_c8_l, z_c8_r, z_c8_vr, z_c8_n, z_vr_some, z_vr_none, Option.toList_some, Option.toList_none, List.cons_append, List.nil_append, true_and, and_true, and_self, z_k_sI, z_len_sI, z_R_sI, z_N_sI, z_set_0, z_set_1, z_set_s, eq_self, true_implies, false_implies, not_true_eq_false, not_false_eq_true, ne_eq, true_or, or_true, false_or, or_false, false_and, and_false, Int.reduceNeg, Int.reduceEq, Int.reduceNe, Int.reduceLT, Int.reduceLE, Nat.reduceLeDiff, Nat.reduceEqDiff, Nat.reduceSub, Nat.reduceAdd, reduceCtorEq, reduceIte, implies_true, List.reverse_nil]
      exact k _ _ _ _ (by first | omega | (simp only; omega)) (by first | omega | (simp only; omega)) ⟨fin w1 z_fr_rf hM1 (by omega) (by omega) (hR1 m1'.2), _, _, _, _, _, _, x_A_e v1 m1 X⟩
theorem c_loop {d : Nat} {L : Int} {Q : z_P} (hL : L ≤ 3584) (hQ : ∀ w, Q (some (z_i 1)) w) : ∀ (m : Nat) (i : Int) (w : z_W) (u : Nat × Nat) (a5 a6 : z_V), z_LX L w (40 * i) → 0 ≤ i → i ≤ 3591 → (L - i).toNat < m → 2 * m ≤ u.1 → 74 * m ≤ u.2 → z_G (d + 25) u 300 23 [z_r 0, z_r 2, z_r 49, z_r 76, z_i i, a5, a6] [] w Q := by
  intro m
  induction m with
  | zero => intro i w u a5 a6 _ _ _ h; exact absurd h (Nat.not_lt_zero _)
  | succ m ih =>
    intro i w u a5 a6 H i0 i1 hm hu hv
    have hl := H.1.1
    have kz := hl.2.2.1
    have kl := H.1.2.1
    simp only [g300_23, g300_25, g300_25r, g300_26, g300_27, g300_29, g300_30, z_kl_i, z_kl_l, z_kl_r, z_kl_n, z_kl_x, z_kl_vr, z_c8_0, z_c8_i, z_c8_l, z_c8_r, z_c8_vr, z_c8_n, z_vr_some, z_vr_none, Option.toList_some, Option.toList_none, List.cons_append, List.nil_append, true_and, and_true, and_self, z_k_sI, z_len_sI, z_R_sI, z_N_sI, z_set_0, z_set_1, z_set_s, eq_self, true_implies, false_implies, not_true_eq_false, not_false_eq_true, ne_eq, true_or, or_true, false_or, or_false, false_and, and_false, Int.reduceNeg, Int.reduceEq, Int.reduceNe, Int.reduceLT, Int.reduceLE, Nat.reduceLeDiff, Nat.reduceEqDiff, Nat.reduceSub, Nat.reduceAdd, reduceCtorEq, reduceIte, implies_true, List.reverse_nil, kz, kl]
    intro L0
    rw [z_sub_eq (by omega) (by omega)]
    refine ⟨fun _ => ?_, fun c => ?_⟩
    · simp only [g300_1592, g300_1593 (st := []), z_kl_i, z_kl_l, z_kl_r, z_kl_n, z_kl_x, z_kl_vr, z_c8_0, z_c8_i, z_c8_l, z_c8_r, z_c8_vr, z_c8_n, z_vr_some, z_vr_none, Option.toList_some, Option.toList_none, List.cons_append, List.nil_append, true_and, and_true, and_self, z_k_sI, z_len_sI, z_R_sI, z_N_sI, z_set_0, z_set_1, z_set_s, eq_self, true_implies, false_implies, not_true_eq_false, not_false_eq_true, ne_eq, true_or, or_true, false_or, or_false, false_and, and_false, Int.reduceNeg, Int.reduceEq, Int.reduceNe, Int.reduceLT, Int.reduceLE, Nat.reduceLeDiff, Nat.reduceEqDiff, Nat.reduceSub, Nat.reduceAdd, reduceCtorEq, reduceIte, implies_true, List.reverse_nil]
      exact hQ w
    · have nxt : ∀ u' w' a5 a6, u.1 ≤ u'.1 + 2 → u.2 ≤ u'.2 + 74 → z_LX L w' (40 * i + 40) → z_G (d + 25) u' 300 1586 [z_r 0, z_r 2, z_r 49, z_r 76, z_i i, a5, a6] [] w' Q := by
        intro u' w' a5 a6 g1 g2 H'
        simp only [g300_1586, g300_1589, z_kl_i, z_kl_l, z_kl_r, z_kl_n, z_kl_x, z_kl_vr, z_c8_0, z_c8_i, z_c8_l, z_c8_r, z_c8_vr, z_c8_n, z_vr_some, z_vr_none, Option.toList_some, Option.toList_none, List.cons_append, List.nil_append, true_and, and_true, and_self, z_k_sI, z_len_sI, z_R_sI, z_N_sI, z_set_0, z_set_1, z_set_s, eq_self, true_implies, false_implies, not_true_eq_false, not_false_eq_true, ne_eq, true_or, or_true, false_or, or_false, false_and, and_false, Int.reduceNeg, Int.reduceEq, Int.reduceNe, Int.reduceLT, Int.reduceLE, Nat.reduceLeDiff, Nat.reduceEqDiff, Nat.reduceSub, Nat.reduceAdd, reduceCtorEq, reduceIte, implies_true, List.reverse_nil]
        rw [z_add_eq (by omega) (by omega)]
        exact ih (i + 7) w' u' _ _ (z_LX_mono (by omega) H') (by omega) (by omega) (by omega) (by omega) (by omega)
      have ge : 0 ≤ i := i0
      have lt : i < L := by omega
      simp only [g300_33, g300_33r, g300_34, g300_36, g300_37, g300_39, g300_40, z_kl_i, z_kl_l, z_kl_r, z_kl_n, z_kl_x, z_kl_vr, z_c8_0, z_c8_i, z_c8_l, z_c8_r, z_c8_vr, z_c8_n, z_vr_some, z_vr_none, Option.toList_some, Option.toList_none, List.cons_append, List.nil_append, true_and, and_true, and_self, z_k_sI, z_len_sI, z_R_sI, z_N_sI, z_set_0, z_set_1, z_set_s, eq_self, true_implies, false_implies, not_true_eq_false, not_false_eq_true, ne_eq, true_or, or_true, false_or, or_false, false_and, and_false, Int.reduceNeg, Int.reduceEq, Int.reduceNe, Int.reduceLT, Int.reduceLE, Nat.reduceLeDiff, Nat.reduceEqDiff, Nat.reduceSub, Nat.reduceAdd, reduceCtorEq, reduceIte, implies_true, List.reverse_nil, kz, kl]
      (repeat' (first | (with_reducible refine And.intro ?_ ?_) | (with_reducible intro _) | omega))
      all_goals (try exact nxt u w _ _ (by omega) (by omega) (z_LX_mono (by omega) H))
      all_goals (try exact c_op0 H (by omega) i0 (by omega) hL ⟨by omega, by omega⟩ nxt)
      all_goals (try exact c_op1 H (by omega) i0 (by omega) hL ⟨by omega, by omega⟩ nxt)
      all_goals (try exact c_op2 H (by omega) i0 (by omega) hL ⟨by omega, by omega⟩ nxt)
      all_goals (try exact c_op3 H (by omega) i0 (by omega) hL ⟨by omega, by omega⟩ nxt)
      all_goals (try exact c_op4 H (by omega) i0 (by omega) hL ⟨by omega, by omega⟩ nxt)
      all_goals (try exact c_op5 H (by omega) i0 (by omega) hL ⟨by omega, by omega⟩ nxt)
      all_goals (try exact c_op6 H (by omega) i0 (by omega) hL ⟨by omega, by omega⟩ nxt)
      all_goals (try exact c_op7 H (by omega) i0 (by omega) hL ⟨by omega, by omega⟩ nxt)
      all_goals (try exact c_op8 H (by omega) i0 (by omega) hL ⟨by omega, by omega⟩ nxt)
      all_goals (try exact c_op9 H (by omega) i0 (by omega) hL ⟨by omega, by omega⟩ nxt)
      all_goals (try exact c_op10 H (by omega) i0 (by omega) hL ⟨by omega, by omega⟩ nxt)
      all_goals (try exact c_op11 H (by omega) i0 (by omega) hL ⟨by omega, by omega⟩ nxt)
      all_goals (try exact c_op12 H (by omega) i0 (by omega) hL ⟨by omega, by omega⟩ nxt)
      all_goals (try exact c_op13 H (by omega) i0 (by omega) hL ⟨by omega, by omega⟩ nxt)
      all_goals (try exact c_op14 H (by omega) i0 (by omega) hL ⟨by omega, by omega⟩ nxt)
      all_goals (try exact c_op15 H (by omega) i0 (by omega) hL ⟨by omega, by omega⟩ nxt)
      all_goals (try exact c_op16 H (by omega) i0 (by omega) hL ⟨by omega, by omega⟩ nxt)
      all_goals (try exact c_op17 H (by omega) i0 (by omega) hL ⟨by omega, by omega⟩ nxt)
      all_goals (try exact c_op18 H (by omega) i0 (by omega) hL ⟨by omega, by omega⟩ nxt)
      all_goals (try exact c_op19 H (by omega) i0 (by omega) hL ⟨by omega, by omega⟩ nxt)
      all_goals (try exact c_op20 H (by omega) i0 (by omega) hL ⟨by omega, by omega⟩ nxt)
      all_goals (try exact c_op21 H (by omega) i0 (by omega) hL ⟨by omega, by omega⟩ nxt)
      all_goals (try exact c_op22 H (by omega) i0 (by omega) hL ⟨by omega, by omega⟩ nxt)
      all_goals (try exact c_op23 H (by omega) i0 (by omega) hL ⟨by omega, by omega⟩ nxt)
      all_goals (try exact c_op24 H (by omega) i0 (by omega) hL ⟨by omega, by omega⟩ nxt)
      all_goals (try exact c_op25 H (by omega) i0 (by omega) hL ⟨by omega, by omega⟩ nxt)
      all_goals (try exact c_op26 H (by omega) i0 (by omega) hL ⟨by omega, by omega⟩ nxt)
      all_goals (try exact c_op27 H (by omega) i0 (by omega) hL ⟨by omega, by omega⟩ nxt)
      all_goals (try exact c_op28 H (by omega) i0 (by omega) hL ⟨by omega, by omega⟩ nxt)
      all_goals (try exact c_op29 H (by omega) i0 (by omega) hL ⟨by omega, by omega⟩ nxt)
      all_goals (try exact c_op30 H (by omega) i0 (by omega) hL ⟨by omega, by omega⟩ nxt)
      all_goals (try exact c_op31 H (by omega) i0 (by omega) hL ⟨by omega, by omega⟩ nxt)
      all_goals (try exact c_op32 H (by omega) i0 (by omega) hL ⟨by omega, by omega⟩ nxt)
      all_goals (try exact c_op33 H (by omega) i0 (by omega) hL ⟨by omega, by omega⟩ nxt)
      all_goals (try exact c_op34 H (by omega) i0 (by omega) hL ⟨by omega, by omega⟩ nxt)
      all_goals (try exact c_op35 H (by omega) i0 (by omega) hL ⟨by omega, by omega⟩ nxt)
      all_goals (try exact c_op36 H (by omega) i0 (by omega) hL ⟨by omega, by omega⟩ nxt)
