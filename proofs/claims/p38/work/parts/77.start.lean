/-! the law's start -/
def z_KF : List (Nat × Nat × Int) := [(76, 101, 1), (75, 100, 301), (74, 100, 120), (73, 100, 48), (72, 100, 1152), (71, 100, 4096), (70, 100, 12040), (69, 100, 1152), (68, 100, 2), (67, 100, 2304), (66, 100, 2304), (65, 100, 10), (64, 100, 10), (63, 100, 48), (62, 100, 1152), (61, 100, 49), (60, 100, 10), (59, 100, 40), (58, 100, 4), (57, 100, 120), (56, 100, 301), (55, 100, 5), (54, 100, 360), (53, 100, 10), (52, 100, 40), (51, 100, 120), (50, 100, 480), (49, 12, 39), (48, 100, 10), (47, 1, 2), (46, 100, 2257), (45, 100, 2257), (44, 100, 2257), (43, 100, 2257), (42, 4, 5), (41, 0, 7), (40, 100, 4), (39, 100, 300), (38, 6, 2), (37, 100, 120), (36, 3, 2), (35, 100, 300), (34, 6, 2), (33, 100, 4800), (32, 5, 3), (31, 100, 10), (30, 100, 10), (29, 100, 25), (28, 100, 25), (27, 100, 1128), (26, 100, 47), (25, 100, 48), (24, 8, 11), (23, 100, 120), (22, 3, 2), (21, 100, 10), (20, 100, 10), (19, 100, 25), (18, 100, 25), (17, 100, 1128), (16, 100, 47), (15, 100, 48), (14, 8, 11), (13, 100, 120), (12, 3, 2), (11, 102, 4), (10, 100, 50), (9, 100, 72), (8, 9, 2), (7, 100, 50), (6, 100, 120), (5, 7, 7), (4, 100, 480), (3, 10, 2), (2, 11, 19), (1, 103, 4)]
def z_RF : List (Nat × Int × Nat) := [(49, 37, 75), (49, 36, 74), (49, 34, 73), (49, 33, 72), (49, 32, 71), (49, 29, 70), (49, 28, 69), (49, 27, 68), (49, 26, 67), (49, 25, 66), (49, 24, 65), (49, 23, 64), (49, 20, 63), (49, 19, 62), (49, 18, 61), (49, 16, 60), (49, 15, 59), (49, 14, 58), (49, 13, 57), (49, 12, 56), (49, 10, 55), (49, 9, 54), (49, 7, 53), (49, 6, 52), (49, 5, 51), (49, 1, 50), (2, 18, 47), (47, 1, 48), (2, 17, 42), (42, 3, 46), (42, 2, 45), (42, 1, 44), (42, 0, 43), (2, 16, 41), (2, 15, 40), (2, 14, 38), (38, 0, 39), (2, 13, 36), (36, 0, 37), (2, 11, 34), (34, 0, 35), (2, 10, 32), (32, 1, 33), (2, 9, 24), (24, 2, 22), (24, 10, 31), (24, 9, 30), (24, 7, 29), (24, 6, 28), (24, 5, 27), (24, 4, 26), (24, 3, 25), (2, 8, 22), (22, 0, 23), (2, 7, 14), (14, 2, 12), (14, 10, 21), (14, 9, 20), (14, 7, 19), (14, 6, 18), (14, 5, 17), (14, 4, 16), (14, 3, 15), (2, 6, 12), (12, 0, 13), (2, 3, 11), (2, 2, 10), (2, 1, 5), (5, 4, 3), (5, 3, 8), (8, 0, 9), (5, 2, 7), (5, 0, 6), (2, 0, 3), (3, 0, 4)]
theorem z_at_sub {w : z_W} {n : Nat} {K K' : List (Nat × Nat × Int)} {R : List (Nat × Int × Nat)} {V : List (Nat × Int × Int)} {F : List Nat} {s : Int → Int} (h : z_at w n K R V F s) (hk : ∀ e ∈ K', e ∈ K) : z_at w n K' R V F s :=
  ⟨h.1, h.2.1, fun e he => h.2.2.1 e (hk e he), h.2.2.2⟩
set_option maxRecDepth 20000 in
theorem z_LI_start {w : z_W} {L : Int} {s : Int → Int} (h : z_at w 77 (z_KF ++ [(0, 103, L)]) z_RF [(24, 0, 1), (14, 0, 1)] [37, 23, 13] s) : z_LI L w 0 := by
  have k0 := (h.2.2.1 (0, 103, L) (List.mem_append_right _ List.mem_cons_self)).2
  simp only at k0
  have hk : ∀ e ∈ z_lk, e ∈ z_KF := by decide +kernel
  have hr : ∀ e ∈ z_lr, e ∈ z_RF := by decide +kernel
  have z : ∀ p j, p ≠ 13 → p ≠ 23 → p ≠ 37 → ¬ (p = 14 ∧ j = 0) → ¬ (p = 24 ∧ j = 0) → z_I w p j = z_g0 s p j := by
    intro p j h1 h2 h3 h4 h5
    refine h.2.2.2.2.2.2 p j ?_ ?_
    · simp only [List.mem_cons, List.not_mem_nil, or_false]; omega
    · intro e he
      simp only [List.mem_cons, List.not_mem_nil, or_false] at he
      rcases he with rfl | rfl
      · simp only; omega
      · simp only; omega
  have z0 : ∀ p j, 2 ≤ p → p ≠ 13 → p ≠ 23 → p ≠ 37 → ¬ (p = 14 ∧ j = 0) → ¬ (p = 24 ∧ j = 0) → z_I w p j = 0 := by
    intro p j h0 h1 h2 h3 h4 h5
    rw [z p j h1 h2 h3 h4 h5]
    unfold z_g0
    rw [if_neg (by omega), if_neg (by omega)]
  have zz : ∀ p j, 2 ≤ p → p ≠ 13 → p ≠ 23 → p ≠ 37 → p ≠ 14 → p ≠ 24 → z_I w p j = 0 := fun p j h0 h1 h2 h3 h4 h5 => z0 p j h0 h1 h2 h3 (by omega) (by omega)
  have e14 : z_I w 14 0 = 1 := (h.2.2.2.2.1 (14, 0, 1) (by decide)).2
  have ev : ∀ p, p ∈ [37, 23, 13] → z_ev (z_I w p) := by
    intro p hp e e0 e1
    rw [(h.2.2.2.2.2.1 p hp).2 (96 + e) (by omega) (by omega)]
    omega
  refine ⟨⟨fun q hq => (h.2.2.1 q (List.mem_append_left _ (hk q hq))).2, fun q hq => (h.2.2.2.1 q (hr q hq)).2, k0.1, by rw [h.1]; exact Nat.le_refl _⟩, k0.2, ?_, ?_, ?_, ?_, ?_, ?_, ?_⟩
  · unfold z_IM
    have d : ∀ p j, p = 49 ∨ p = 54 ∨ p = 55 ∨ p = 56 ∨ p = 60 ∨ p = 70 ∨ p = 75 → z_I w p j = 0 := fun p j c => zz p j (by omega) (by omega) (by omega) (by omega) (by omega) (by omega)
    simp only [d 49 _ (by omega), d 60 _ (by omega), d 54 _ (by omega), d 55 _ (by omega), d 56 _ (by omega), d 70 _ (by omega), d 75 _ (by omega)]
    (repeat' (first | (with_reducible refine And.intro ?_ ?_) | (with_reducible intro _) | omega))
    all_goals (first | omega | (exfalso; omega) | trace_state)
  · intro a a0 a1
    rw [zz 49 2 (by decide) (by decide) (by decide) (by decide) (by decide) (by decide)] at a1
    omega
  · refine ⟨?_, ?_, ⟨ev 13 (by decide), ev 23 (by decide), ev 37 (by decide)⟩, ?_, ?_, ?_, ?_, ?_⟩
    · unfold z_NS
      rw [z 1 0 (by decide) (by decide) (by decide) (by decide) (by decide), z 1 1 (by decide) (by decide) (by decide) (by decide) (by decide), z 1 2 (by decide) (by decide) (by decide) (by decide) (by decide), z 1 3 (by decide) (by decide) (by decide) (by decide) (by decide)]
      exact ⟨rfl, rfl, rfl, rfl⟩
    · intro r _ _
      rw [zz 10 _ (by decide) (by decide) (by decide) (by decide) (by decide) (by decide)]; decide
    · intro q; rw [e14] at q; exact absurd q (by decide)
    · unfold z_hi z_ev
      simp only [zz 32 _ (by decide) (by decide) (by decide) (by decide) (by decide) (by decide), zz 33 _ (by decide) (by decide) (by decide) (by decide) (by decide) (by decide)]
      (repeat' (first | (with_reducible refine And.intro ?_ ?_) | (with_reducible intro _) | omega))
    · rw [zz 34 1 (by decide) (by decide) (by decide) (by decide) (by decide) (by decide)]; decide
    · rw [zz 38 1 (by decide) (by decide) (by decide) (by decide) (by decide) (by decide)]; decide
    · unfold z_EN
      simp only [zz 42 _ (by decide) (by decide) (by decide) (by decide) (by decide) (by decide), zz 44 _ (by decide) (by decide) (by decide) (by decide) (by decide) (by decide), zz 45 _ (by decide) (by decide) (by decide) (by decide) (by decide) (by decide)]
      (repeat' (first | (with_reducible refine And.intro ?_ ?_) | (with_reducible intro _) | omega))
  · have q := zz 2 4 (by decide) (by decide) (by decide) (by decide) (by decide) (by decide)
    exact ⟨by omega, fun s s0 s1 => absurd s1 (by omega)⟩
  · intro a
    rw [zz 4 a (by decide) (by decide) (by decide) (by decide) (by decide) (by decide), zz 50 a (by decide) (by decide) (by decide) (by decide) (by decide) (by decide)]
  · rw [zz 3 1 (by decide) (by decide) (by decide) (by decide) (by decide) (by decide), zz 49 2 (by decide) (by decide) (by decide) (by decide) (by decide) (by decide)]
  · have q := zz 2 4 (by decide) (by decide) (by decide) (by decide) (by decide) (by decide)
    have q11 := zz 49 11 (by decide) (by decide) (by decide) (by decide) (by decide) (by decide)
    exact ⟨by omega, fun s p q0 s0 s1 => absurd s1 (by omega)⟩
theorem z_XA_start {w : z_W} {L : Int} {s : Int → Int} (h : z_at w 77 (z_KF ++ [(0, 103, L)]) z_RF [(24, 0, 1), (14, 0, 1)] [37, 23, 13] s) : ∃ m S h V N Lg, x_A w m S h V N Lg := by
  have z : ∀ p j, p ≠ 13 → p ≠ 23 → p ≠ 37 → ¬ (p = 14 ∧ j = 0) → ¬ (p = 24 ∧ j = 0) → z_I w p j = z_g0 s p j := by
    intro p j h1 h2 h3 h4 h5
    refine h.2.2.2.2.2.2 p j ?_ ?_
    · simp only [List.mem_cons, List.not_mem_nil, or_false]; omega
    · intro e he
      simp only [List.mem_cons, List.not_mem_nil, or_false] at he
      rcases he with rfl | rfl
      · simp only; omega
      · simp only; omega
  have zz : ∀ p j, 2 ≤ p → p ≠ 13 → p ≠ 23 → p ≠ 37 → p ≠ 14 → p ≠ 24 → z_I w p j = 0 := by
    intro p j h0 h1 h2 h3 h4 h5
    rw [z p j h1 h2 h3 (by omega) (by omega)]
    unfold z_g0
    rw [if_neg (by omega), if_neg (by omega)]
  have z1 : ∀ p j, p = 2 ∨ p = 10 ∨ p = 12 ∨ p = 32 ∨ p = 34 ∨ p = 40 ∨ p = 49 ∨ p = 56 ∨ p = 58 ∨ p = 60 → z_I w p j = 0 := fun p j c => zz p j (by omega) (by omega) (by omega) (by omega) (by omega) (by omega)
  have e13 : ∀ e, 0 ≤ e → e ≤ 23 → z_I w 13 (96 + e) = -1 := fun e e0 e1 => (h.2.2.2.2.2.1 13 (by decide)).2 (96 + e) (by omega) (by omega)
  refine ⟨0, (0, fun _ _ _ => -1, fun _ => 0, fun _ _ _ => 0), 0, fun _ _ => -1, 0, fun _ _ => 0, ⟨⟨z1 2 5 (by omega), fun e k e0 e1 _ _ => pu_vC_n (e13 e e0 e1) k, (z1 12 1 (by omega)).trans mp_e_cnt.symm, z1 32 0 (by omega), by rw [z1 32 2 (by omega)]; decide, fun g g0 g1 => ?_, ?_, fun g g0 g1 => ?_, fun g i x g0 g1 i0 i1 => ?_⟩, z1 2 12 (by omega), fun q => absurd rfl q⟩, ⟨⟨z1 49 17 (by omega), z1 49 30 (by omega), fun q => absurd rfl q, z1 56 120 (by omega), fun g g0 g1 => ?_, fun i x i0 i1 => ?_, fun g i x g0 g1 => ?_⟩, z1 49 38 (by omega), fun q => absurd rfl q⟩, ⟨⟨Or.inl rfl, ⟨Int.le_refl _, by show (0 : Int) ≤ 40; omega⟩, fun g _ _ => ⟨fun _ _ _ q => absurd rfl q, by show (0 : Int) ≤ 0; omega, by show (0 : Int) ≤ 60; omega, fun _ _ _ _ _ _ _ q => absurd rfl q⟩, fun _ => ⟨rfl, rfl, fun _ _ => rfl⟩⟩, Or.inl rfl, fun q => absurd rfl q⟩, fun r _ _ => (z1 10 _ (by omega)).trans (z1 60 _ (by omega)).symm, fun a _ _ => (z1 40 _ (by omega)).trans (z1 58 _ (by omega)).symm⟩
  · replace g1 : g ≤ 0 := g1
    omega
  · show (0 : Int) ≤ z_I w 34 1
    rw [z1 34 1 (by omega)]
    decide
  · replace g1 : g ≤ 0 := g1
    show (0 : Int) = pu_m6 (z_I w 34 1 - g)
    rw [z1 34 1 (by omega), show (0 : Int) - g = 0 by omega]
    decide
  · replace i1 : i < 0 := i1
    omega
  · replace g1 : g ≤ 0 := g1
    omega
  · replace i1 : i < 0 := i1
    omega
  · replace g1 : g ≤ 0 := g1
    omega
set_option maxRecDepth 20000 in
theorem c_law {d : Nat} {L : Int} {Q : z_P} {w : z_W} {s : Int → Int} {u : Nat × Nat} (hL : L ≤ 3584) (h : z_at w 2 [(1, 103, 4), (0, 103, L)] [] [] [] s) (hQ : ∀ w, Q (some (z_i 1)) w) (hu : 8000 ≤ u.1) (hv : 400000 ≤ u.2) : z_G (d + 25) u 300 0 [z_r 0, z_x, z_x, z_x, z_x, z_x, z_x] [] w Q := by
  have hN := h.1
  have h1 := z_at_nw (kd := 11) (len := 19) h
  replace h1 : z_at (z_nw w 11 19) 3 [(2, 11, 19), (1, 103, 4), (0, 103, L)] [] [] [] s := h1
  have k1 := (h1.2.2.1 (2, 11, 19) (by simp only [List.mem_cons, eq_self, true_or, or_true])).2.1
  simp only at k1
  simp only [g300_0, g300_3, g300_3r, g300_4, z_kl_i, z_kl_l, z_kl_r, z_kl_n, z_kl_x, z_kl_vr, z_c8_0, z_c8_i, z_c8_l, z_c8_r, z_c8_vr, z_c8_n, z_vr_some, z_vr_none, Option.toList_some, Option.toList_none, List.cons_append, List.nil_append, true_and, and_true, and_self, z_k_sI, z_len_sI, z_R_sI, z_N_sI, z_set_0, z_set_1, z_set_s, eq_self, true_implies, false_implies, not_true_eq_false, not_false_eq_true, ne_eq, true_or, or_true, false_or, or_false, false_and, and_false, Int.reduceNeg, Int.reduceEq, Int.reduceNe, Int.reduceLT, Int.reduceLE, Nat.reduceLeDiff, Nat.reduceEqDiff, Nat.reduceSub, Nat.reduceAdd, reduceCtorEq, reduceIte, implies_true, List.reverse_nil, hN, k1]
  (repeat' (first | (with_reducible refine And.intro ?_ ?_) | (with_reducible intro _) | omega))
  refine c_initC h1 (fun w2 h2 => ?_)
  have hN2 := h2.1
  have h3 := z_at_nw (kd := 12) (len := 39) h2
  replace h3 : z_at (z_nw w2 12 39) 50 [(49, 12, 39), (48, 100, 10), (47, 1, 2), (46, 100, 2257), (45, 100, 2257), (44, 100, 2257), (43, 100, 2257), (42, 4, 5), (41, 0, 7), (40, 100, 4), (39, 100, 300), (38, 6, 2), (37, 100, 120), (36, 3, 2), (35, 100, 300), (34, 6, 2), (33, 100, 4800), (32, 5, 3), (31, 100, 10), (30, 100, 10), (29, 100, 25), (28, 100, 25), (27, 100, 1128), (26, 100, 47), (25, 100, 48), (24, 8, 11), (23, 100, 120), (22, 3, 2), (21, 100, 10), (20, 100, 10), (19, 100, 25), (18, 100, 25), (17, 100, 1128), (16, 100, 47), (15, 100, 48), (14, 8, 11), (13, 100, 120), (12, 3, 2), (11, 102, 4), (10, 100, 50), (9, 100, 72), (8, 9, 2), (7, 100, 50), (6, 100, 120), (5, 7, 7), (4, 100, 480), (3, 10, 2), (2, 11, 19), (1, 103, 4), (0, 103, L)] [(2, 18, 47), (47, 1, 48), (2, 17, 42), (42, 3, 46), (42, 2, 45), (42, 1, 44), (42, 0, 43), (2, 16, 41), (2, 15, 40), (2, 14, 38), (38, 0, 39), (2, 13, 36), (36, 0, 37), (2, 11, 34), (34, 0, 35), (2, 10, 32), (32, 1, 33), (2, 9, 24), (24, 2, 22), (24, 10, 31), (24, 9, 30), (24, 7, 29), (24, 6, 28), (24, 5, 27), (24, 4, 26), (24, 3, 25), (2, 8, 22), (22, 0, 23), (2, 7, 14), (14, 2, 12), (14, 10, 21), (14, 9, 20), (14, 7, 19), (14, 6, 18), (14, 5, 17), (14, 4, 16), (14, 3, 15), (2, 6, 12), (12, 0, 13), (2, 3, 11), (2, 2, 10), (2, 1, 5), (5, 4, 3), (5, 3, 8), (8, 0, 9), (5, 2, 7), (5, 0, 6), (2, 0, 3), (3, 0, 4)] [(24, 0, 1), (14, 0, 1)] [37, 23, 13] s := h3
  have k3 := (h3.2.2.1 (49, 12, 39) (by simp only [List.mem_cons, eq_self, true_or, or_true])).2.1
  simp only at k3
  simp only [g300_7, g300_7r, g300_8, g300_11, g300_11r, g300_12, z_kl_i, z_kl_l, z_kl_r, z_kl_n, z_kl_x, z_kl_vr, z_c8_0, z_c8_i, z_c8_l, z_c8_r, z_c8_vr, z_c8_n, z_vr_some, z_vr_none, Option.toList_some, Option.toList_none, List.cons_append, List.nil_append, true_and, and_true, and_self, z_k_sI, z_len_sI, z_R_sI, z_N_sI, z_set_0, z_set_1, z_set_s, eq_self, true_implies, false_implies, not_true_eq_false, not_false_eq_true, ne_eq, true_or, or_true, false_or, or_false, false_and, and_false, Int.reduceNeg, Int.reduceEq, Int.reduceNe, Int.reduceLT, Int.reduceLE, Nat.reduceLeDiff, Nat.reduceEqDiff, Nat.reduceSub, Nat.reduceAdd, reduceCtorEq, reduceIte, implies_true, List.reverse_nil, hN2, k3]
  (repeat' (first | (with_reducible refine And.intro ?_ ?_) | (with_reducible intro _) | omega))
  refine c_initModel h3 (by omega) k3 (by decide) (fun w4 h4 => ?_)
  replace h4 : z_at w4 76 [(75, 100, 301), (74, 100, 120), (73, 100, 48), (72, 100, 1152), (71, 100, 4096), (70, 100, 12040), (69, 100, 1152), (68, 100, 2), (67, 100, 2304), (66, 100, 2304), (65, 100, 10), (64, 100, 10), (63, 100, 48), (62, 100, 1152), (61, 100, 49), (60, 100, 10), (59, 100, 40), (58, 100, 4), (57, 100, 120), (56, 100, 301), (55, 100, 5), (54, 100, 360), (53, 100, 10), (52, 100, 40), (51, 100, 120), (50, 100, 480), (49, 12, 39), (48, 100, 10), (47, 1, 2), (46, 100, 2257), (45, 100, 2257), (44, 100, 2257), (43, 100, 2257), (42, 4, 5), (41, 0, 7), (40, 100, 4), (39, 100, 300), (38, 6, 2), (37, 100, 120), (36, 3, 2), (35, 100, 300), (34, 6, 2), (33, 100, 4800), (32, 5, 3), (31, 100, 10), (30, 100, 10), (29, 100, 25), (28, 100, 25), (27, 100, 1128), (26, 100, 47), (25, 100, 48), (24, 8, 11), (23, 100, 120), (22, 3, 2), (21, 100, 10), (20, 100, 10), (19, 100, 25), (18, 100, 25), (17, 100, 1128), (16, 100, 47), (15, 100, 48), (14, 8, 11), (13, 100, 120), (12, 3, 2), (11, 102, 4), (10, 100, 50), (9, 100, 72), (8, 9, 2), (7, 100, 50), (6, 100, 120), (5, 7, 7), (4, 100, 480), (3, 10, 2), (2, 11, 19), (1, 103, 4), (0, 103, L)] [(49, 37, 75), (49, 36, 74), (49, 34, 73), (49, 33, 72), (49, 32, 71), (49, 29, 70), (49, 28, 69), (49, 27, 68), (49, 26, 67), (49, 25, 66), (49, 24, 65), (49, 23, 64), (49, 20, 63), (49, 19, 62), (49, 18, 61), (49, 16, 60), (49, 15, 59), (49, 14, 58), (49, 13, 57), (49, 12, 56), (49, 10, 55), (49, 9, 54), (49, 7, 53), (49, 6, 52), (49, 5, 51), (49, 1, 50), (2, 18, 47), (47, 1, 48), (2, 17, 42), (42, 3, 46), (42, 2, 45), (42, 1, 44), (42, 0, 43), (2, 16, 41), (2, 15, 40), (2, 14, 38), (38, 0, 39), (2, 13, 36), (36, 0, 37), (2, 11, 34), (34, 0, 35), (2, 10, 32), (32, 1, 33), (2, 9, 24), (24, 2, 22), (24, 10, 31), (24, 9, 30), (24, 7, 29), (24, 6, 28), (24, 5, 27), (24, 4, 26), (24, 3, 25), (2, 8, 22), (22, 0, 23), (2, 7, 14), (14, 2, 12), (14, 10, 21), (14, 9, 20), (14, 7, 19), (14, 6, 18), (14, 5, 17), (14, 4, 16), (14, 3, 15), (2, 6, 12), (12, 0, 13), (2, 3, 11), (2, 2, 10), (2, 1, 5), (5, 4, 3), (5, 3, 8), (8, 0, 9), (5, 2, 7), (5, 0, 6), (2, 0, 3), (3, 0, 4)] [(24, 0, 1), (14, 0, 1)] [37, 23, 13] s := h4
  have hN4 := h4.1
  have h5 := z_at_nw (kd := 101) (len := 1) h4
  replace h5 : z_at (z_nw w4 101 1) 77 (z_KF ++ [(0, 103, L)]) z_RF [(24, 0, 1), (14, 0, 1)] [37, 23, 13] s := h5
  simp only [g300_15, g300_15r, g300_16, g300_17, g300_19, g300_19r, g300_20, g300_21, z_kl_i, z_kl_l, z_kl_r, z_kl_n, z_kl_x, z_kl_vr, z_c8_0, z_c8_i, z_c8_l, z_c8_r, z_c8_vr, z_c8_n, z_vr_some, z_vr_none, Option.toList_some, Option.toList_none, List.cons_append, List.nil_append, true_and, and_true, and_self, z_k_sI, z_len_sI, z_R_sI, z_N_sI, z_set_0, z_set_1, z_set_s, eq_self, true_implies, false_implies, not_true_eq_false, not_false_eq_true, ne_eq, true_or, or_true, false_or, or_false, false_and, and_false, Int.reduceNeg, Int.reduceEq, Int.reduceNe, Int.reduceLT, Int.reduceLE, Nat.reduceLeDiff, Nat.reduceEqDiff, Nat.reduceSub, Nat.reduceAdd, reduceCtorEq, reduceIte, implies_true, List.reverse_nil, hN4, Int.reduceToNat]
  (repeat' (first | (with_reducible refine And.intro ?_ ?_) | (with_reducible intro _) | omega))
  exact c_loop hL hQ 3585 0 _ _ _ _ (z_LX_mono (by omega) ⟨z_LI_start h5, z_XA_start h5⟩) (by omega) (by omega) (by omega) (by first | omega | (simp only; omega)) (by first | omega | (simp only; omega))
