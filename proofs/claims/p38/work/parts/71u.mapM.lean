/-! a map read, with its edges' rows: the reference -/
/-- the five numbers of the edge told at a -/
def mp_v (T : Int → Int) (n a : Int) : List Int := z_vn T n [63, 63, 63, 63, 9] (z_sk T n a + 1)
/-- the rows of the edges told -/
def mp_r (T : Int → Int) (n : Int) : Nat → Int → (Int → Int) → Int → List (List Int)
  | 0, _, _, _ => []
  | f + 1, ec, nl, a => match z_cl T n ec nl a with
    | .inl _ => []
    | .inr (ec', nl', a') => (if z_sg T n (z_sk T n a) = 101 then [mp_v T n a] else []) ++ (if z_sg T n (z_sk T n a') = 59 then mp_r T n f ec' nl' (z_sk T n a' + 1) else [])
/-- how long the names are -/
def mp_n (T : Int → Int) (n : Int) : Nat → Int → (Int → Int) → Int → Int → Int
  | 0, _, nl, _ => nl
  | f + 1, ec, nl, a => match z_cl T n ec nl a with
    | .inl _ => nl
    | .inr (ec', nl', a') => if z_sg T n (z_sk T n a') = 59 then mp_n T n f ec' nl' (z_sk T n a' + 1) else nl'
theorem mp_r_s {T : Int → Int} {n ec a ec' a' : Int} {nl nl' : Int → Int} {f : Nat} (h : z_cl T n ec nl a = .inr (ec', nl', a')) (h59 : z_sg T n (z_sk T n a') = 59) : mp_r T n (f + 1) ec nl a = (if z_sg T n (z_sk T n a) = 101 then [mp_v T n a] else []) ++ mp_r T n f ec' nl' (z_sk T n a' + 1) := by
  rw [mp_r, h]
  show (if z_sg T n (z_sk T n a) = 101 then [mp_v T n a] else []) ++ (if z_sg T n (z_sk T n a') = 59 then mp_r T n f ec' nl' (z_sk T n a' + 1) else []) = _
  rw [if_pos h59]
theorem mp_r_e {T : Int → Int} {n ec a ec' a' : Int} {nl nl' : Int → Int} {f : Nat} (h : z_cl T n ec nl a = .inr (ec', nl', a')) (h59 : z_sg T n (z_sk T n a') ≠ 59) : mp_r T n (f + 1) ec nl a = (if z_sg T n (z_sk T n a) = 101 then [mp_v T n a] else []) ++ [] := by
  rw [mp_r, h]
  show (if z_sg T n (z_sk T n a) = 101 then [mp_v T n a] else []) ++ (if z_sg T n (z_sk T n a') = 59 then mp_r T n f ec' nl' (z_sk T n a' + 1) else []) = _
  rw [if_neg h59]
theorem mp_n_s {T : Int → Int} {n ec a ec' a' : Int} {nl nl' : Int → Int} {f : Nat} (h : z_cl T n ec nl a = .inr (ec', nl', a')) (h59 : z_sg T n (z_sk T n a') = 59) : mp_n T n (f + 1) ec nl a = mp_n T n f ec' nl' (z_sk T n a' + 1) := by
  rw [mp_n, h]
  show (if z_sg T n (z_sk T n a') = 59 then mp_n T n f ec' nl' (z_sk T n a' + 1) else nl') = _
  rw [if_pos h59]
theorem mp_n_e {T : Int → Int} {n ec a ec' a' : Int} {nl nl' : Int → Int} {f : Nat} (h : z_cl T n ec nl a = .inr (ec', nl', a')) (h59 : z_sg T n (z_sk T n a') ≠ 59) : mp_n T n (f + 1) ec nl a = nl' := by
  rw [mp_n, h]
  show (if z_sg T n (z_sk T n a') = 59 then mp_n T n f ec' nl' (z_sk T n a' + 1) else nl') = _
  rw [if_neg h59]
theorem mp_ec {T : Int → Int} {n ec a ec' a' : Int} {nl nl' : Int → Int} (h : z_cl T n ec nl a = .inr (ec', nl', a')) : ec' = if z_sg T n (z_sk T n a) = 101 then ec + 1 else ec := by
  unfold z_cl at h
  split at h
  · rename_i q
    rw [if_pos q.1]
    cases h2 : z_pn T n [63, 63, 63, 63, 9] (z_sk T n a + 1) with
    | inl e => rw [h2] at h; exact z_qlr h
    | inr r =>
      rw [h2] at h
      simp only [z_bn_r, Sum.inr.injEq, Prod.mk.injEq] at h
      exact h.1.symm
  · split at h
    · rename_i q
      rw [if_neg (by omega)]
      cases h2 : z_nam T n nl (z_sk T n a + 1) with
      | inl e => rw [h2] at h; exact z_qlr h
      | inr r =>
        rw [h2] at h
        simp only [z_bn_r, Sum.inr.injEq, Prod.mk.injEq] at h
        exact h.1.symm
    · exact z_qlr h
/-- rows of five from row i on -/
def mp_5 (g : Int → Int) : List (List Int) → Int → Prop
  | [], _ => True
  | r :: rs, i => r = [g (5 * i + 0), g (5 * i + 1), g (5 * i + 2), g (5 * i + 3), g (5 * i + 4)] ∧ mp_5 g rs (i + 1)
/-- cells, names' lengths, how many edges: what the text told, from row i on -/
def mp_ok (g h : Int → Int) (c : Int) (l : List (List Int)) (nm : Int → Int) (i : Int) : Prop := mp_5 g l i ∧ c = i + (l.length : Int) ∧ ∀ r, 0 ≤ r → r < 10 → h r = nm r
theorem mp_ok_s {g h : Int → Int} {c ec ec' : Int} {P : Prop} [Decidable P] {v : List Int} {l : List (List Int)} {nm : Int → Int} (he : ec' = if P then ec + 1 else ec) (hv : P → v = [g (5 * ec + 0), g (5 * ec + 1), g (5 * ec + 2), g (5 * ec + 3), g (5 * ec + 4)]) (H : mp_ok g h c l nm ec') : mp_ok g h c ((if P then [v] else []) ++ l) nm ec := by
  obtain ⟨h1, h2, h3⟩ := H
  by_cases p : P
  · rw [if_pos p] at he ⊢
    subst he
    refine ⟨⟨hv p, h1⟩, ?_, h3⟩
    rw [h2]
    simp only [List.cons_append, List.nil_append, List.length_cons, Int.natCast_add, Int.cast_ofNat_Int]
    omega
  · rw [if_neg p] at he ⊢
    subst he
    exact ⟨h1, h2, h3⟩
theorem mp_ok_e {g h : Int → Int} {c ec ec' : Int} {P : Prop} [Decidable P] {v : List Int} {nm : Int → Int} (he : ec' = if P then ec + 1 else ec) (hv : P → v = [g (5 * ec + 0), g (5 * ec + 1), g (5 * ec + 2), g (5 * ec + 3), g (5 * ec + 4)]) (hc : c = ec') (hh : ∀ r, 0 ≤ r → r < 10 → h r = nm r) : mp_ok g h c ((if P then [v] else []) ++ []) nm ec :=
  mp_ok_s he hv ⟨trivial, by rw [hc]; simp, hh⟩
set_option maxRecDepth 20000 in
theorem c_clauseV {d u w} {Q : z_P} {T : Int → Int} {n ec : Int} {nl : Int → Int} (hl : z_lay w) (ht : z_tp w T n) (h0 : 0 ≤ z_I w 49 3) (h1 : z_I w 49 3 ≤ n) (hb : z_nb w) (hn : ∀ r, 0 ≤ r → r < 10 → z_I w 53 r = nl r) (he : z_I w 49 8 = ec) (e0 : 0 ≤ ec) (e24 : ec ≤ 24) (k : ∀ w', z_fr [51, 52, 53] [(49, 3), (49, 4), (49, 8)] w w' → z_cla w w' n (z_cl T n ec nl (z_I w 49 3)) → (∀ j, j < 5 * ec → z_I w' 51 j = z_I w 51 j) → (z_I w' 49 4 = -1 → z_sg T n (z_sk T n (z_I w 49 3)) = 101 → mp_v T n (z_I w 49 3) = [z_I w' 51 (5 * ec + 0), z_I w' 51 (5 * ec + 1), z_I w' 51 (5 * ec + 2), z_I w' 51 (5 * ec + 3), z_I w' 51 (5 * ec + 4)]) → Q none w') : z_G (d + 4) u 188 0 [z_r 49, z_x] [] w Q := by
  have hn4 := ht.2.2.2.1
  have sb := z_sk_bd (T := T) (n := n) (z_I w 49 3)
  have sb2 := sb.2.1 h1
  simp only [g188_0, g188_0r, g188_1, g188_4, g188_5, g188_6, g188_8, g188_11, g188_11r, g188_12, g188_15, g188_17, g188_20, g188_20r, g188_21, g188_21r, g188_22, g188_25, g188_26, g188_27, g188_30, g188_30r, g188_31, g188_31r, g188_32, g188_35, g188_36, g188_36r, g188_37, g188_40, g188_41, g188_44, g188_44r, g188_45, g188_45r, g188_46, g188_49, g188_50, g188_51, g188_54, g188_58, g188_60, g188_63, g188_63r, g188_64, g188_64r, g188_65, g188_68, g188_69, g188_70, g188_73, g188_73r, g188_74, g188_77, g188_80, g188_80r, g188_81, g188_84, z_kl_i, z_kl_l, z_kl_r, z_kl_n, z_kl_x, z_kl_vr, z_c8_0, z_c8_i, z_c8_l, z_c8_r, z_c8_vr, z_c8_n, z_vr_some, z_vr_none, Option.toList_some, Option.toList_none, List.cons_append, List.nil_append, true_and, and_true, and_self, z_k_sI, z_len_sI, z_R_sI, z_N_sI, z_set_0, z_set_1, z_set_s, eq_self, true_implies, false_implies, not_true_eq_false, not_false_eq_true, ne_eq, true_or, or_true, false_or, or_false, false_and, and_false, Int.reduceNeg, Int.reduceEq, Int.reduceNe, Int.reduceLT, Int.reduceLE, Nat.reduceLeDiff, Nat.reduceEqDiff, Nat.reduceSub, Nat.reduceAdd, reduceCtorEq, reduceIte, implies_true, List.reverse_nil, lk49 hl, lr49_1 hl, lr49_5 hl, lr49_6 hl, lr49_7 hl, lr49_9 hl, lr49_10 hl, lr49_12 hl, lr49_13 hl, lr49_14 hl, lr49_15 hl, lr49_16 hl, lr49_18 hl, lr49_19 hl, lr49_20 hl, lr49_23 hl, lr49_24 hl, lr49_25 hl, lr49_26 hl, lr49_27 hl, lr49_28 hl, lr49_29 hl, lr49_32 hl, lr49_33 hl, lr49_34 hl, lr49_36 hl, lr49_37 hl, lk50 hl, ll50 hl, lk51 hl, ll51 hl, lk52 hl, ll52 hl, lk53 hl, ll53 hl, lk54 hl, ll54 hl, lk55 hl, ll55 hl, lk56 hl, ll56 hl, lk57 hl, ll57 hl, lk58 hl, ll58 hl, lk59 hl, ll59 hl, lk60 hl, ll60 hl, lk61 hl, ll61 hl, lk62 hl, ll62 hl, lk63 hl, ll63 hl, lk64 hl, ll64 hl, lk65 hl, ll65 hl, lk66 hl, ll66 hl, lk67 hl, ll67 hl, lk68 hl, ll68 hl, lk69 hl, ll69 hl, lk70 hl, ll70 hl, lk71 hl, ll71 hl, lk72 hl, ll72 hl, lk73 hl, ll73 hl, lk74 hl, ll74 hl, lk75 hl, ll75 hl]
  refine c_ahead _ w hl ht h0 h1 (Nat.lt_succ_self _) (fun w1 hf1 e1 => ?_)
  have hl1 := z_fr_lay hf1 hl
  have ht1 := z_tp_fr hf1 (by decide) (by decide) ht
  have e4 : z_I w1 49 4 = z_I w 49 4 := hf1.2 49 4 (by decide) (by decide)
  have e8 : z_I w1 49 8 = ec := (hf1.2 49 8 (by decide) (by decide)).trans he
  have e53 : ∀ j, z_I w1 53 j = z_I w 53 j := fun j => hf1.2 53 j (by decide) (by simp)
  have bd := z_sg_bd (a := z_sk T n (z_I w 49 3)) ht.2.2.2.2 (by omega)
  have hfw1 : z_fr [51, 52, 53] [(49, 3), (49, 4), (49, 8)] w w1 := z_fr_mo hf1 (by decide) (by decide)
  have p57 : ¬ (z_sg T n (z_sk T n (z_I w 49 3)) = 101 ∧ ec < 24) → z_G (d + 4) u 188 57 [z_r 49, z_i (z_sg T n (z_sk T n (z_I w 49 3)))] [] w1 Q := by
    intro hno
    simp only [g188_1, g188_4, g188_5, g188_6, g188_8, g188_11, g188_11r, g188_12, g188_15, g188_17, g188_20, g188_20r, g188_21, g188_21r, g188_22, g188_25, g188_26, g188_27, g188_30, g188_30r, g188_31, g188_31r, g188_32, g188_35, g188_36, g188_36r, g188_37, g188_40, g188_41, g188_44, g188_44r, g188_45, g188_45r, g188_46, g188_49, g188_50, g188_51, g188_54, g188_57, g188_58, g188_60, g188_63, g188_63r, g188_64, g188_64r, g188_65, g188_68, g188_69, g188_70, g188_73, g188_73r, g188_74, g188_77, g188_80, g188_80r, g188_81, g188_84, z_kl_i, z_kl_l, z_kl_r, z_kl_n, z_kl_x, z_kl_vr, z_c8_0, z_c8_i, z_c8_l, z_c8_r, z_c8_vr, z_c8_n, z_vr_some, z_vr_none, Option.toList_some, Option.toList_none, List.cons_append, List.nil_append, true_and, and_true, and_self, z_k_sI, z_len_sI, z_R_sI, z_N_sI, z_set_0, z_set_1, z_set_s, eq_self, true_implies, false_implies, not_true_eq_false, not_false_eq_true, ne_eq, true_or, or_true, false_or, or_false, false_and, and_false, Int.reduceNeg, Int.reduceEq, Int.reduceNe, Int.reduceLT, Int.reduceLE, Nat.reduceLeDiff, Nat.reduceEqDiff, Nat.reduceSub, Nat.reduceAdd, reduceCtorEq, reduceIte, implies_true, List.reverse_nil, lk49 hl1, lr49_1 hl1, lr49_5 hl1, lr49_6 hl1, lr49_7 hl1, lr49_9 hl1, lr49_10 hl1, lr49_12 hl1, lr49_13 hl1, lr49_14 hl1, lr49_15 hl1, lr49_16 hl1, lr49_18 hl1, lr49_19 hl1, lr49_20 hl1, lr49_23 hl1, lr49_24 hl1, lr49_25 hl1, lr49_26 hl1, lr49_27 hl1, lr49_28 hl1, lr49_29 hl1, lr49_32 hl1, lr49_33 hl1, lr49_34 hl1, lr49_36 hl1, lr49_37 hl1, lk50 hl1, ll50 hl1, lk51 hl1, ll51 hl1, lk52 hl1, ll52 hl1, lk53 hl1, ll53 hl1, lk54 hl1, ll54 hl1, lk55 hl1, ll55 hl1, lk56 hl1, ll56 hl1, lk57 hl1, ll57 hl1, lk58 hl1, ll58 hl1, lk59 hl1, ll59 hl1, lk60 hl1, ll60 hl1, lk61 hl1, ll61 hl1, lk62 hl1, ll62 hl1, lk63 hl1, ll63 hl1, lk64 hl1, ll64 hl1, lk65 hl1, ll65 hl1, lk66 hl1, ll66 hl1, lk67 hl1, ll67 hl1, lk68 hl1, ll68 hl1, lk69 hl1, ll69 hl1, lk70 hl1, ll70 hl1, lk71 hl1, ll71 hl1, lk72 hl1, ll72 hl1, lk73 hl1, ll73 hl1, lk74 hl1, ll74 hl1, lk75 hl1, ll75 hl1]
    refine ⟨fun c => ?_, fun c => ?_⟩
    · refine c_bad hl1 (by omega) (fun w2 hf2 hw2 hw3 => ?_)
      have e3 : z_I w2 49 3 = z_I w1 49 3 := hf2.2 49 3 (by decide) (by decide)
      have e8' : z_I w2 49 8 = z_I w1 49 8 := hf2.2 49 8 (by decide) (by decide)
      simp only [g188_1, g188_4, g188_5, g188_6, g188_8, g188_11, g188_11r, g188_12, g188_15, g188_17, g188_20, g188_20r, g188_21, g188_21r, g188_22, g188_25, g188_26, g188_27, g188_30, g188_30r, g188_31, g188_31r, g188_32, g188_35, g188_36, g188_36r, g188_37, g188_40, g188_41, g188_44, g188_44r, g188_45, g188_45r, g188_46, g188_49, g188_50, g188_51, g188_54, g188_57, g188_58, g188_60, g188_63, g188_63r, g188_64, g188_64r, g188_65, g188_68, g188_69, g188_70, g188_73, g188_73r, g188_74, g188_77, g188_80, g188_80r, g188_81, g188_84, z_kl_i, z_kl_l, z_kl_r, z_kl_n, z_kl_x, z_kl_vr, z_c8_0, z_c8_i, z_c8_l, z_c8_r, z_c8_vr, z_c8_n, z_vr_some, z_vr_none, Option.toList_some, Option.toList_none, List.cons_append, List.nil_append, true_and, and_true, and_self, z_k_sI, z_len_sI, z_R_sI, z_N_sI, z_set_0, z_set_1, z_set_s, eq_self, true_implies, false_implies, not_true_eq_false, not_false_eq_true, ne_eq, true_or, or_true, false_or, or_false, false_and, and_false, Int.reduceNeg, Int.reduceEq, Int.reduceNe, Int.reduceLT, Int.reduceLE, Nat.reduceLeDiff, Nat.reduceEqDiff, Nat.reduceSub, Nat.reduceAdd, reduceCtorEq, reduceIte, implies_true, List.reverse_nil]
      refine k w2 (z_fr_tr hfw1 (z_fr_mo hf2 (by decide) (by decide))) ⟨fun r r0 r1 => by rw [hf2.2 53 r (by decide) (by simp), e53]; exact hb r r0 r1, by omega, by omega, fun q => (hw2 (by rw [e4]; exact q)).trans e4, fun q => ?_⟩ (fun j _ => (hf2.2 51 j (by decide) (by simp)).trans (hf1.2 51 j (by decide) (by simp))) (fun q => absurd q ?_)
      rotate_left
      · by_cases c4 : z_I w 49 4 = -1
        · have := hw3 (e4.trans c4); omega
        · have := hw2 (by rw [e4]; exact c4); omega
      unfold z_cl
      rw [if_neg hno, if_neg c]
      exact ⟨fun a b q e => z_qlr e, fun e h => by cases h; exact ⟨(hw3 (e4.trans q)).trans e1, by omega⟩⟩
    · have c110 : z_sg T n (z_sk T n (z_I w 49 3)) = 110 := by omega
      intro _
      rw [e1, z_add_eq (by omega) (by omega)]
      have hf2 : z_fr [51, 52, 53] [(49, 3), (49, 4), (49, 8)] w (z_sI w1 49 3 (z_sk T n (z_I w 49 3) + 1)) := z_fr_sF hfw1 (by decide)
      have q3 : z_I (z_sI w1 49 3 (z_sk T n (z_I w 49 3) + 1)) 49 3 = z_sk T n (z_I w 49 3) + 1 := z_I_at rfl
      have q4 : z_I (z_sI w1 49 3 (z_sk T n (z_I w 49 3) + 1)) 49 4 = z_I w 49 4 := (z_I_ne (by decide)).trans e4
      have q8 : z_I (z_sI w1 49 3 (z_sk T n (z_I w 49 3) + 1)) 49 8 = ec := (z_I_ne (by decide)).trans e8
      have q53 : ∀ j, z_I (z_sI w1 49 3 (z_sk T n (z_I w 49 3) + 1)) 53 j = z_I w 53 j := fun j => (z_I_np (by decide)).trans (e53 j)
      refine c_readsName (nl := nl) (z_fr_lay hf2 hl) (z_tp_fr hf2 (by decide) (by decide) ht) (by omega) (by omega) (fun r r0 r1 => by rw [q53]; exact hb r r0 r1) (fun r r0 r1 => by rw [q53]; exact hn r r0 r1) (fun w3 g1 g2 g3 g4 g5 g6 => ?_)
      simp only [g188_1, g188_4, g188_5, g188_6, g188_8, g188_11, g188_11r, g188_12, g188_15, g188_17, g188_20, g188_20r, g188_21, g188_21r, g188_22, g188_25, g188_26, g188_27, g188_30, g188_30r, g188_31, g188_31r, g188_32, g188_35, g188_36, g188_36r, g188_37, g188_40, g188_41, g188_44, g188_44r, g188_45, g188_45r, g188_46, g188_49, g188_50, g188_51, g188_54, g188_57, g188_58, g188_60, g188_63, g188_63r, g188_64, g188_64r, g188_65, g188_68, g188_69, g188_70, g188_73, g188_73r, g188_74, g188_77, g188_80, g188_80r, g188_81, g188_84, z_kl_i, z_kl_l, z_kl_r, z_kl_n, z_kl_x, z_kl_vr, z_c8_0, z_c8_i, z_c8_l, z_c8_r, z_c8_vr, z_c8_n, z_vr_some, z_vr_none, Option.toList_some, Option.toList_none, List.cons_append, List.nil_append, true_and, and_true, and_self, z_k_sI, z_len_sI, z_R_sI, z_N_sI, z_set_0, z_set_1, z_set_s, eq_self, true_implies, false_implies, not_true_eq_false, not_false_eq_true, ne_eq, true_or, or_true, false_or, or_false, false_and, and_false, Int.reduceNeg, Int.reduceEq, Int.reduceNe, Int.reduceLT, Int.reduceLE, Nat.reduceLeDiff, Nat.reduceEqDiff, Nat.reduceSub, Nat.reduceAdd, reduceCtorEq, reduceIte, implies_true, List.reverse_nil]
      rw [q4] at g5 g6
      rw [q3] at g6
      have q8' : z_I w3 49 8 = ec := (g1.2 49 8 (by decide) (by decide)).trans q8
      refine k w3 (z_fr_tr hf2 (z_fr_mo g1 (by decide) (by decide))) ⟨g2, ⟨g3, g4⟩, by omega, g5, fun cw => ?_⟩ (fun j _ => (g1.2 51 j (by decide) (by simp)).trans ((z_I_np (by decide)).trans (hf1.2 51 j (by decide) (by simp)))) (fun _ q => absurd q (by omega))
      have g7 := g6 cw
      unfold z_cl
      rw [if_neg hno, if_pos c110]
      refine ⟨fun a b q e => ?_, fun e h => ?_⟩
      · cases h2 : z_nam T n nl (z_sk T n (z_I w 49 3) + 1) with
        | inl e' => rw [h2] at e; exact z_qlr e
        | inr r =>
          obtain ⟨r, m, q'⟩ := r
          have g8 := g7.1 r m q' h2
          rw [h2] at e
          simp only [z_bn_r, Sum.inr.injEq, Prod.mk.injEq] at e
          refine ⟨g8.1.trans e.2.2, g8.2.1, q8'.trans e.1, fun j j0 j1 => ?_⟩
          rw [← e.2.1]
          exact g8.2.2 j j0 j1
      · cases h2 : z_nam T n nl (z_sk T n (z_I w 49 3) + 1) with
        | inl e' => rw [h2] at h; cases h; exact g7.2 _ h2
        | inr r => rw [h2] at h; exact z_qrl h
  simp only [g188_0, g188_0r, g188_1, g188_4, g188_5, g188_6, g188_8, g188_11, g188_11r, g188_12, g188_15, g188_17, g188_20, g188_20r, g188_21, g188_21r, g188_22, g188_25, g188_26, g188_27, g188_30, g188_30r, g188_31, g188_31r, g188_32, g188_35, g188_36, g188_36r, g188_37, g188_40, g188_41, g188_44, g188_44r, g188_45, g188_45r, g188_46, g188_49, g188_50, g188_51, g188_54, g188_58, g188_60, g188_63, g188_63r, g188_64, g188_64r, g188_65, g188_68, g188_69, g188_70, g188_73, g188_73r, g188_74, g188_77, g188_80, g188_80r, g188_81, g188_84, z_kl_i, z_kl_l, z_kl_r, z_kl_n, z_kl_x, z_kl_vr, z_c8_0, z_c8_i, z_c8_l, z_c8_r, z_c8_vr, z_c8_n, z_vr_some, z_vr_none, Option.toList_some, Option.toList_none, List.cons_append, List.nil_append, true_and, and_true, and_self, z_k_sI, z_len_sI, z_R_sI, z_N_sI, z_set_0, z_set_1, z_set_s, eq_self, true_implies, false_implies, not_true_eq_false, not_false_eq_true, ne_eq, true_or, or_true, false_or, or_false, false_and, and_false, Int.reduceNeg, Int.reduceEq, Int.reduceNe, Int.reduceLT, Int.reduceLE, Nat.reduceLeDiff, Nat.reduceEqDiff, Nat.reduceSub, Nat.reduceAdd, reduceCtorEq, reduceIte, implies_true, List.reverse_nil, lk49 hl1, lr49_1 hl1, lr49_5 hl1, lr49_6 hl1, lr49_7 hl1, lr49_9 hl1, lr49_10 hl1, lr49_12 hl1, lr49_13 hl1, lr49_14 hl1, lr49_15 hl1, lr49_16 hl1, lr49_18 hl1, lr49_19 hl1, lr49_20 hl1, lr49_23 hl1, lr49_24 hl1, lr49_25 hl1, lr49_26 hl1, lr49_27 hl1, lr49_28 hl1, lr49_29 hl1, lr49_32 hl1, lr49_33 hl1, lr49_34 hl1, lr49_36 hl1, lr49_37 hl1, lk50 hl1, ll50 hl1, lk51 hl1, ll51 hl1, lk52 hl1, ll52 hl1, lk53 hl1, ll53 hl1, lk54 hl1, ll54 hl1, lk55 hl1, ll55 hl1, lk56 hl1, ll56 hl1, lk57 hl1, ll57 hl1, lk58 hl1, ll58 hl1, lk59 hl1, ll59 hl1, lk60 hl1, ll60 hl1, lk61 hl1, ll61 hl1, lk62 hl1, ll62 hl1, lk63 hl1, ll63 hl1, lk64 hl1, ll64 hl1, lk65 hl1, ll65 hl1, lk66 hl1, ll66 hl1, lk67 hl1, ll67 hl1, lk68 hl1, ll68 hl1, lk69 hl1, ll69 hl1, lk70 hl1, ll70 hl1, lk71 hl1, ll71 hl1, lk72 hl1, ll72 hl1, lk73 hl1, ll73 hl1, lk74 hl1, ll74 hl1, lk75 hl1, ll75 hl1]
  refine ⟨fun c => p57 (fun q => c q.1), fun c _ => ⟨fun c2 => p57 (fun q => by omega), fun c2 _ => ?_⟩⟩
  have hyes : z_sg T n (z_sk T n (z_I w 49 3)) = 101 ∧ ec < 24 := ⟨by omega, by omega⟩
  rw [e1, z_add_eq (by omega) (by omega)]
  have hf2 : z_fr [51, 52, 53] [(49, 3), (49, 4), (49, 8)] w (z_sI w1 49 3 (z_sk T n (z_I w 49 3) + 1)) := z_fr_sF hfw1 (by decide)
  have q3 : z_I (z_sI w1 49 3 (z_sk T n (z_I w 49 3) + 1)) 49 3 = z_sk T n (z_I w 49 3) + 1 := z_I_at rfl
  have q4 : z_I (z_sI w1 49 3 (z_sk T n (z_I w 49 3) + 1)) 49 4 = z_I w 49 4 := (z_I_ne (by decide)).trans e4
  have q8 : z_I (z_sI w1 49 3 (z_sk T n (z_I w 49 3) + 1)) 49 8 = ec := (z_I_ne (by decide)).trans e8
  have q53 : ∀ j, z_I (z_sI w1 49 3 (z_sk T n (z_I w 49 3) + 1)) 53 j = z_I w 53 j := fun j => (z_I_np (by decide)).trans (e53 j)
  have hl2 := z_fr_lay hf2 hl
  rw [q8]
  intro _
  rw [z_mul_eq (by omega) (by omega)]
  refine c_fiveV (T := T) (n := n) 51 (5 * ec) (Or.inl rfl) hl2 (z_tp_fr hf2 (by decide) (by decide) ht) (by omega) (by omega) (by omega) (by rw [ll51 hl2]; omega) (by rw [ll51 hl2]; omega) (lk51 hl2) (fun w3 g1 g2 g3 g4 go gv => ?_)
  rw [q3] at g4
  have q8' : z_I w3 49 8 = ec := (g1.2 49 8 (by decide) (by decide)).trans q8
  have q53' : ∀ j, z_I w3 53 j = z_I w 53 j := fun j => (g1.2 53 j (by decide) (by simp)).trans (q53 j)
  simp only [g188_0, g188_0r, g188_1, g188_4, g188_5, g188_6, g188_8, g188_11, g188_11r, g188_12, g188_15, g188_17, g188_20, g188_20r, g188_21, g188_21r, g188_22, g188_25, g188_26, g188_27, g188_30, g188_30r, g188_31, g188_31r, g188_32, g188_35, g188_36, g188_36r, g188_37, g188_40, g188_41, g188_44, g188_44r, g188_45, g188_45r, g188_46, g188_49, g188_50, g188_51, g188_54, g188_58, g188_60, g188_63, g188_63r, g188_64, g188_64r, g188_65, g188_68, g188_69, g188_70, g188_73, g188_73r, g188_74, g188_77, g188_80, g188_80r, g188_81, g188_84, z_kl_i, z_kl_l, z_kl_r, z_kl_n, z_kl_x, z_kl_vr, z_c8_0, z_c8_i, z_c8_l, z_c8_r, z_c8_vr, z_c8_n, z_vr_some, z_vr_none, Option.toList_some, Option.toList_none, List.cons_append, List.nil_append, true_and, and_true, and_self, z_k_sI, z_len_sI, z_R_sI, z_N_sI, z_set_0, z_set_1, z_set_s, eq_self, true_implies, false_implies, not_true_eq_false, not_false_eq_true, ne_eq, true_or, or_true, false_or, or_false, false_and, and_false, Int.reduceNeg, Int.reduceEq, Int.reduceNe, Int.reduceLT, Int.reduceLE, Nat.reduceLeDiff, Nat.reduceEqDiff, Nat.reduceSub, Nat.reduceAdd, reduceCtorEq, reduceIte, implies_true, List.reverse_nil, lk49 g2, lr49_1 g2, lr49_5 g2, lr49_6 g2, lr49_7 g2, lr49_9 g2, lr49_10 g2, lr49_12 g2, lr49_13 g2, lr49_14 g2, lr49_15 g2, lr49_16 g2, lr49_18 g2, lr49_19 g2, lr49_20 g2, lr49_23 g2, lr49_24 g2, lr49_25 g2, lr49_26 g2, lr49_27 g2, lr49_28 g2, lr49_29 g2, lr49_32 g2, lr49_33 g2, lr49_34 g2, lr49_36 g2, lr49_37 g2, lk50 g2, ll50 g2, lk51 g2, ll51 g2, lk52 g2, ll52 g2, lk53 g2, ll53 g2, lk54 g2, ll54 g2, lk55 g2, ll55 g2, lk56 g2, ll56 g2, lk57 g2, ll57 g2, lk58 g2, ll58 g2, lk59 g2, ll59 g2, lk60 g2, ll60 g2, lk61 g2, ll61 g2, lk62 g2, ll62 g2, lk63 g2, ll63 g2, lk64 g2, ll64 g2, lk65 g2, ll65 g2, lk66 g2, ll66 g2, lk67 g2, ll67 g2, lk68 g2, ll68 g2, lk69 g2, ll69 g2, lk70 g2, ll70 g2, lk71 g2, ll71 g2, lk72 g2, ll72 g2, lk73 g2, ll73 g2, lk74 g2, ll74 g2, lk75 g2, ll75 g2]
  intro _
  rw [q8', z_add_eq (by omega) (by omega)]
  unfold z_acc at g4
  rw [q4] at g4
  have r3 : z_I (z_sI w3 49 8 (ec + 1)) 49 3 = z_I w3 49 3 := z_I_ne (by decide)
  have r4 : z_I (z_sI w3 49 8 (ec + 1)) 49 4 = z_I w3 49 4 := z_I_ne (by decide)
  have r8 : z_I (z_sI w3 49 8 (ec + 1)) 49 8 = ec + 1 := z_I_at rfl
  have r53 : ∀ j, z_I (z_sI w3 49 8 (ec + 1)) 53 j = z_I w 53 j := fun j => (z_I_np (by decide)).trans (q53' j)
  refine k _ (z_fr_sF (z_fr_tr hf2 (z_fr_mo g1 (by decide) (by decide))) (by decide)) ⟨fun r r0 r1 => by rw [r53]; exact hb r r0 r1, by rw [r3]; exact ⟨g4.1, g4.2.1⟩, by omega, by rw [r4]; exact g4.2.2.1, fun cw => ?_⟩ (fun j jj => (z_I_np (by decide)).trans ((go j (by omega)).trans ((z_I_np (by decide)).trans (hf1.2 51 j (by decide) (by simp))))) (fun q _ => ?_)
  rotate_left
  · rw [r4] at q
    rw [q3] at gv
    unfold mp_v
    rw [gv q]
    simp only [z_I_np (show 51 ≠ 49 by decide)]
  rw [r3, r4, r8]
  have g5 := g4.2.2.2 cw
  unfold z_cl
  rw [if_pos hyes]
  refine ⟨fun a b q e => ?_, fun e h => ?_⟩
  · cases h2 : z_pn T n [63, 63, 63, 63, 9] (z_sk T n (z_I w 49 3) + 1) with
    | inl e' => rw [h2] at e; exact z_qlr e
    | inr r =>
      have g6 := g5.1 r h2
      rw [h2] at e
      simp only [z_bn_r, Sum.inr.injEq, Prod.mk.injEq] at e
      refine ⟨g6.1.trans e.2.2, g6.2, e.1, fun j j0 j1 => ?_⟩
      rw [r53, ← e.2.1]
      exact hn j j0 j1
  · cases h2 : z_pn T n [63, 63, 63, 63, 9] (z_sk T n (z_I w 49 3) + 1) with
    | inl e' => rw [h2] at h; cases h; exact g5.2 _ h2
    | inr r => rw [h2] at h; exact z_qrl h
set_option maxRecDepth 20000 in
theorem c_readMapV {d u w} {Q : z_P} {T : Int → Int} {n : Int} (hl : z_lay w) (ht : z_tp w T n) (k : ∀ w' z, z_fr [51, 52, 53] [(49, 3), (49, 4), (49, 8)] w w' → z_nb w' → 0 ≤ z_I w' 49 8 → z_I w' 49 8 ≤ 24 → z = z_mf T n (n.toNat + 1) 0 (fun _ => 0) 0 → (z = -1 → mp_ok (z_I w' 51) (z_I w' 53) (z_I w' 49 8) (mp_r T n (n.toNat + 1) 0 (fun _ => 0) 0) (mp_n T n (n.toNat + 1) 0 (fun _ => 0) 0) 0) → Q (some (z_i z)) w') : z_G (d + 5) u 189 0 [z_r 49, z_x] [] w Q := by
  have hn4 := ht.2.2.2.1
  have exitF : ∀ w1, z_lay w1 → z_I w1 49 4 ≠ -1 → Q (some (z_i (z_I w1 49 4))) w1 → z_G (d + 5) u 189 38 [z_r 49, z_i 0] [] w1 Q := by
    intro w1 hl1 hw hq
    rw [g189_38]
    simp only [g189_0, g189_0r, g189_1, g189_2, g189_5, g189_5r, g189_6, g189_7, g189_10, g189_10r, g189_11, g189_12, g189_15, g189_16, g189_18, g189_20, g189_23, g189_23r, g189_24, g189_27, g189_28, g189_29, g189_30, g189_33, g189_36, g189_37, g189_39, g189_42, g189_42r, g189_43, g189_46, g189_46r, g189_47, g189_50, g189_51, g189_54, g189_54r, g189_55, g189_58, g189_60, g189_63, g189_64, g189_67, g189_68, g189_69, g189_69r, g189_70, g189_70r, g189_71, g189_74, g189_75, g189_78, g189_79, g189_82, g189_83, g189_84, g189_87, g189_90, g189_90r, g189_91, g189_94, g189_95, g189_98, g189_98r, g189_99, g189_102, g189_103, g189_106, g189_106r, g189_107, g189_110, g189_113, g189_113r, g189_114, g189_117, g189_117r, g189_118, g189_121 (st := []), z_kl_i, z_kl_l, z_kl_r, z_kl_n, z_kl_x, z_kl_vr, z_c8_0, z_c8_i, z_c8_l, z_c8_r, z_c8_vr, z_c8_n, z_vr_some, z_vr_none, Option.toList_some, Option.toList_none, List.cons_append, List.nil_append, true_and, and_true, and_self, z_k_sI, z_len_sI, z_R_sI, z_N_sI, z_set_0, z_set_1, z_set_s, eq_self, true_implies, false_implies, not_true_eq_false, not_false_eq_true, ne_eq, true_or, or_true, false_or, or_false, false_and, and_false, Int.reduceNeg, Int.reduceEq, Int.reduceNe, Int.reduceLT, Int.reduceLE, Nat.reduceLeDiff, Nat.reduceEqDiff, Nat.reduceSub, Nat.reduceAdd, reduceCtorEq, reduceIte, implies_true, List.reverse_nil, lk49 hl1, lr49_1 hl1, lr49_5 hl1, lr49_6 hl1, lr49_7 hl1, lr49_9 hl1, lr49_10 hl1, lr49_12 hl1, lr49_13 hl1, lr49_14 hl1, lr49_15 hl1, lr49_16 hl1, lr49_18 hl1, lr49_19 hl1, lr49_20 hl1, lr49_23 hl1, lr49_24 hl1, lr49_25 hl1, lr49_26 hl1, lr49_27 hl1, lr49_28 hl1, lr49_29 hl1, lr49_32 hl1, lr49_33 hl1, lr49_34 hl1, lr49_36 hl1, lr49_37 hl1, lk50 hl1, ll50 hl1, lk51 hl1, ll51 hl1, lk52 hl1, ll52 hl1, lk53 hl1, ll53 hl1, lk54 hl1, ll54 hl1, lk55 hl1, ll55 hl1, lk56 hl1, ll56 hl1, lk57 hl1, ll57 hl1, lk58 hl1, ll58 hl1, lk59 hl1, ll59 hl1, lk60 hl1, ll60 hl1, lk61 hl1, ll61 hl1, lk62 hl1, ll62 hl1, lk63 hl1, ll63 hl1, lk64 hl1, ll64 hl1, lk65 hl1, ll65 hl1, lk66 hl1, ll66 hl1, lk67 hl1, ll67 hl1, lk68 hl1, ll68 hl1, lk69 hl1, ll69 hl1, lk70 hl1, ll70 hl1, lk71 hl1, ll71 hl1, lk72 hl1, ll72 hl1, lk73 hl1, ll73 hl1, lk74 hl1, ll74 hl1, lk75 hl1, ll75 hl1]
    exact fun _ => ⟨fun _ _ => hq, fun c => absurd hw c⟩
  have exitS : ∀ w1, z_lay w1 → z_tp w1 T n → z_I w1 49 4 = -1 → 0 ≤ z_I w1 49 3 → z_I w1 49 3 ≤ n → (∀ w', z_fr [] [(49, 3), (49, 4)] w1 w' → (z_I w' 49 4 = if z_sg T n (z_sk T n (z_I w1 49 3)) = -1 ∧ z_I w1 49 8 ≠ 0 then -1 else z_sk T n (z_I w1 49 3)) → Q (some (z_i (z_I w' 49 4))) w') → z_G (d + 5) u 189 38 [z_r 49, z_i 0] [] w1 Q := by
    intro w1 hl1 ht1 hw a0 a1 kk
    have sb := z_sk_bd (T := T) (n := n) (z_I w1 49 3)
    have sb2 := sb.2.1 a1
    rw [g189_38]
    simp only [g189_0, g189_0r, g189_1, g189_2, g189_5, g189_5r, g189_6, g189_7, g189_10, g189_10r, g189_11, g189_12, g189_15, g189_16, g189_18, g189_20, g189_23, g189_23r, g189_24, g189_27, g189_28, g189_29, g189_30, g189_33, g189_36, g189_37, g189_39, g189_42, g189_42r, g189_43, g189_46, g189_46r, g189_47, g189_50, g189_51, g189_54, g189_54r, g189_55, g189_58, g189_60, g189_63, g189_64, g189_67, g189_68, g189_69, g189_69r, g189_70, g189_70r, g189_71, g189_74, g189_75, g189_78, g189_79, g189_82, g189_83, g189_84, g189_87, g189_90, g189_90r, g189_91, g189_94, g189_95, g189_98, g189_98r, g189_99, g189_102, g189_103, g189_106, g189_106r, g189_107, g189_110, g189_113, g189_113r, g189_114, g189_117, g189_117r, g189_118, g189_121 (st := []), z_kl_i, z_kl_l, z_kl_r, z_kl_n, z_kl_x, z_kl_vr, z_c8_0, z_c8_i, z_c8_l, z_c8_r, z_c8_vr, z_c8_n, z_vr_some, z_vr_none, Option.toList_some, Option.toList_none, List.cons_append, List.nil_append, true_and, and_true, and_self, z_k_sI, z_len_sI, z_R_sI, z_N_sI, z_set_0, z_set_1, z_set_s, eq_self, true_implies, false_implies, not_true_eq_false, not_false_eq_true, ne_eq, true_or, or_true, false_or, or_false, false_and, and_false, Int.reduceNeg, Int.reduceEq, Int.reduceNe, Int.reduceLT, Int.reduceLE, Nat.reduceLeDiff, Nat.reduceEqDiff, Nat.reduceSub, Nat.reduceAdd, reduceCtorEq, reduceIte, implies_true, List.reverse_nil, lk49 hl1, lr49_1 hl1, lr49_5 hl1, lr49_6 hl1, lr49_7 hl1, lr49_9 hl1, lr49_10 hl1, lr49_12 hl1, lr49_13 hl1, lr49_14 hl1, lr49_15 hl1, lr49_16 hl1, lr49_18 hl1, lr49_19 hl1, lr49_20 hl1, lr49_23 hl1, lr49_24 hl1, lr49_25 hl1, lr49_26 hl1, lr49_27 hl1, lr49_28 hl1, lr49_29 hl1, lr49_32 hl1, lr49_33 hl1, lr49_34 hl1, lr49_36 hl1, lr49_37 hl1, lk50 hl1, ll50 hl1, lk51 hl1, ll51 hl1, lk52 hl1, ll52 hl1, lk53 hl1, ll53 hl1, lk54 hl1, ll54 hl1, lk55 hl1, ll55 hl1, lk56 hl1, ll56 hl1, lk57 hl1, ll57 hl1, lk58 hl1, ll58 hl1, lk59 hl1, ll59 hl1, lk60 hl1, ll60 hl1, lk61 hl1, ll61 hl1, lk62 hl1, ll62 hl1, lk63 hl1, ll63 hl1, lk64 hl1, ll64 hl1, lk65 hl1, ll65 hl1, lk66 hl1, ll66 hl1, lk67 hl1, ll67 hl1, lk68 hl1, ll68 hl1, lk69 hl1, ll69 hl1, lk70 hl1, ll70 hl1, lk71 hl1, ll71 hl1, lk72 hl1, ll72 hl1, lk73 hl1, ll73 hl1, lk74 hl1, ll74 hl1, lk75 hl1, ll75 hl1]
    refine fun _ => ⟨fun c => absurd hw c, fun _ => ?_⟩
    refine c_ahead _ w1 hl1 ht1 a0 a1 (Nat.lt_succ_self _) (fun w2 hf2 e2 => ?_)
    have hl2 := z_fr_lay hf2 hl1
    have e4 : z_I w2 49 4 = -1 := (hf2.2 49 4 (by decide) (by decide)).trans hw
    have e8 : z_I w2 49 8 = z_I w1 49 8 := hf2.2 49 8 (by decide) (by decide)
    have badK : ¬ (z_sg T n (z_sk T n (z_I w1 49 3)) = -1 ∧ z_I w1 49 8 ≠ 0) → z_G (d + 5) u 189 113 [z_r 49, z_i 0] [] w2 Q := by
      intro hno
      simp only [g189_0, g189_0r, g189_1, g189_2, g189_5, g189_5r, g189_6, g189_7, g189_10, g189_10r, g189_11, g189_12, g189_15, g189_16, g189_18, g189_20, g189_23, g189_23r, g189_24, g189_27, g189_28, g189_29, g189_30, g189_33, g189_36, g189_37, g189_39, g189_42, g189_42r, g189_43, g189_46, g189_46r, g189_47, g189_50, g189_51, g189_54, g189_54r, g189_55, g189_58, g189_60, g189_63, g189_64, g189_67, g189_68, g189_69, g189_69r, g189_70, g189_70r, g189_71, g189_74, g189_75, g189_78, g189_79, g189_82, g189_83, g189_84, g189_87, g189_90, g189_90r, g189_91, g189_94, g189_95, g189_98, g189_98r, g189_99, g189_102, g189_103, g189_106, g189_106r, g189_107, g189_110, g189_113, g189_113r, g189_114, g189_117, g189_117r, g189_118, g189_121 (st := []), z_kl_i, z_kl_l, z_kl_r, z_kl_n, z_kl_x, z_kl_vr, z_c8_0, z_c8_i, z_c8_l, z_c8_r, z_c8_vr, z_c8_n, z_vr_some, z_vr_none, Option.toList_some, Option.toList_none, List.cons_append, List.nil_append, true_and, and_true, and_self, z_k_sI, z_len_sI, z_R_sI, z_N_sI, z_set_0, z_set_1, z_set_s, eq_self, true_implies, false_implies, not_true_eq_false, not_false_eq_true, ne_eq, true_or, or_true, false_or, or_false, false_and, and_false, Int.reduceNeg, Int.reduceEq, Int.reduceNe, Int.reduceLT, Int.reduceLE, Nat.reduceLeDiff, Nat.reduceEqDiff, Nat.reduceSub, Nat.reduceAdd, reduceCtorEq, reduceIte, implies_true, List.reverse_nil, lk49 hl2, lr49_1 hl2, lr49_5 hl2, lr49_6 hl2, lr49_7 hl2, lr49_9 hl2, lr49_10 hl2, lr49_12 hl2, lr49_13 hl2, lr49_14 hl2, lr49_15 hl2, lr49_16 hl2, lr49_18 hl2, lr49_19 hl2, lr49_20 hl2, lr49_23 hl2, lr49_24 hl2, lr49_25 hl2, lr49_26 hl2, lr49_27 hl2, lr49_28 hl2, lr49_29 hl2, lr49_32 hl2, lr49_33 hl2, lr49_34 hl2, lr49_36 hl2, lr49_37 hl2, lk50 hl2, ll50 hl2, lk51 hl2, ll51 hl2, lk52 hl2, ll52 hl2, lk53 hl2, ll53 hl2, lk54 hl2, ll54 hl2, lk55 hl2, ll55 hl2, lk56 hl2, ll56 hl2, lk57 hl2, ll57 hl2, lk58 hl2, ll58 hl2, lk59 hl2, ll59 hl2, lk60 hl2, ll60 hl2, lk61 hl2, ll61 hl2, lk62 hl2, ll62 hl2, lk63 hl2, ll63 hl2, lk64 hl2, ll64 hl2, lk65 hl2, ll65 hl2, lk66 hl2, ll66 hl2, lk67 hl2, ll67 hl2, lk68 hl2, ll68 hl2, lk69 hl2, ll69 hl2, lk70 hl2, ll70 hl2, lk71 hl2, ll71 hl2, lk72 hl2, ll72 hl2, lk73 hl2, ll73 hl2, lk74 hl2, ll74 hl2, lk75 hl2, ll75 hl2]
      refine c_bad hl2 (by omega) (fun w3 hf3 _ hw3 => ?_)
      have hl3 := z_fr_lay hf3 hl2
      simp only [g189_0, g189_0r, g189_1, g189_2, g189_5, g189_5r, g189_6, g189_7, g189_10, g189_10r, g189_11, g189_12, g189_15, g189_16, g189_18, g189_20, g189_23, g189_23r, g189_24, g189_27, g189_28, g189_29, g189_30, g189_33, g189_36, g189_37, g189_39, g189_42, g189_42r, g189_43, g189_46, g189_46r, g189_47, g189_50, g189_51, g189_54, g189_54r, g189_55, g189_58, g189_60, g189_63, g189_64, g189_67, g189_68, g189_69, g189_69r, g189_70, g189_70r, g189_71, g189_74, g189_75, g189_78, g189_79, g189_82, g189_83, g189_84, g189_87, g189_90, g189_90r, g189_91, g189_94, g189_95, g189_98, g189_98r, g189_99, g189_102, g189_103, g189_106, g189_106r, g189_107, g189_110, g189_113, g189_113r, g189_114, g189_117, g189_117r, g189_118, g189_121 (st := []), z_kl_i, z_kl_l, z_kl_r, z_kl_n, z_kl_x, z_kl_vr, z_c8_0, z_c8_i, z_c8_l, z_c8_r, z_c8_vr, z_c8_n, z_vr_some, z_vr_none, Option.toList_some, Option.toList_none, List.cons_append, List.nil_append, true_and, and_true, and_self, z_k_sI, z_len_sI, z_R_sI, z_N_sI, z_set_0, z_set_1, z_set_s, eq_self, true_implies, false_implies, not_true_eq_false, not_false_eq_true, ne_eq, true_or, or_true, false_or, or_false, false_and, and_false, Int.reduceNeg, Int.reduceEq, Int.reduceNe, Int.reduceLT, Int.reduceLE, Nat.reduceLeDiff, Nat.reduceEqDiff, Nat.reduceSub, Nat.reduceAdd, reduceCtorEq, reduceIte, implies_true, List.reverse_nil, lk49 hl3, lr49_1 hl3, lr49_5 hl3, lr49_6 hl3, lr49_7 hl3, lr49_9 hl3, lr49_10 hl3, lr49_12 hl3, lr49_13 hl3, lr49_14 hl3, lr49_15 hl3, lr49_16 hl3, lr49_18 hl3, lr49_19 hl3, lr49_20 hl3, lr49_23 hl3, lr49_24 hl3, lr49_25 hl3, lr49_26 hl3, lr49_27 hl3, lr49_28 hl3, lr49_29 hl3, lr49_32 hl3, lr49_33 hl3, lr49_34 hl3, lr49_36 hl3, lr49_37 hl3, lk50 hl3, ll50 hl3, lk51 hl3, ll51 hl3, lk52 hl3, ll52 hl3, lk53 hl3, ll53 hl3, lk54 hl3, ll54 hl3, lk55 hl3, ll55 hl3, lk56 hl3, ll56 hl3, lk57 hl3, ll57 hl3, lk58 hl3, ll58 hl3, lk59 hl3, ll59 hl3, lk60 hl3, ll60 hl3, lk61 hl3, ll61 hl3, lk62 hl3, ll62 hl3, lk63 hl3, ll63 hl3, lk64 hl3, ll64 hl3, lk65 hl3, ll65 hl3, lk66 hl3, ll66 hl3, lk67 hl3, ll67 hl3, lk68 hl3, ll68 hl3, lk69 hl3, ll69 hl3, lk70 hl3, ll70 hl3, lk71 hl3, ll71 hl3, lk72 hl3, ll72 hl3, lk73 hl3, ll73 hl3, lk74 hl3, ll74 hl3, lk75 hl3, ll75 hl3]
      exact fun _ => kk w3 (z_fr_tr (z_fr_mo hf2 (by decide) (by decide)) (z_fr_mo hf3 (by decide) (by decide))) (by rw [if_neg hno]; exact (hw3 e4).trans e2)
    simp only [g189_0, g189_0r, g189_1, g189_2, g189_5, g189_5r, g189_6, g189_7, g189_10, g189_10r, g189_11, g189_12, g189_15, g189_16, g189_18, g189_20, g189_23, g189_23r, g189_24, g189_27, g189_28, g189_29, g189_30, g189_33, g189_36, g189_37, g189_39, g189_42, g189_42r, g189_43, g189_46, g189_46r, g189_47, g189_50, g189_51, g189_54, g189_54r, g189_55, g189_58, g189_60, g189_63, g189_64, g189_67, g189_68, g189_69, g189_69r, g189_70, g189_70r, g189_71, g189_74, g189_75, g189_78, g189_79, g189_82, g189_83, g189_84, g189_87, g189_90, g189_90r, g189_91, g189_94, g189_95, g189_98, g189_98r, g189_99, g189_102, g189_103, g189_106, g189_106r, g189_107, g189_110, g189_114, g189_117, g189_117r, g189_118, g189_121 (st := []), z_kl_i, z_kl_l, z_kl_r, z_kl_n, z_kl_x, z_kl_vr, z_c8_0, z_c8_i, z_c8_l, z_c8_r, z_c8_vr, z_c8_n, z_vr_some, z_vr_none, Option.toList_some, Option.toList_none, List.cons_append, List.nil_append, true_and, and_true, and_self, z_k_sI, z_len_sI, z_R_sI, z_N_sI, z_set_0, z_set_1, z_set_s, eq_self, true_implies, false_implies, not_true_eq_false, not_false_eq_true, ne_eq, true_or, or_true, false_or, or_false, false_and, and_false, Int.reduceNeg, Int.reduceEq, Int.reduceNe, Int.reduceLT, Int.reduceLE, Nat.reduceLeDiff, Nat.reduceEqDiff, Nat.reduceSub, Nat.reduceAdd, reduceCtorEq, reduceIte, implies_true, List.reverse_nil, lk49 hl2, lr49_1 hl2, lr49_5 hl2, lr49_6 hl2, lr49_7 hl2, lr49_9 hl2, lr49_10 hl2, lr49_12 hl2, lr49_13 hl2, lr49_14 hl2, lr49_15 hl2, lr49_16 hl2, lr49_18 hl2, lr49_19 hl2, lr49_20 hl2, lr49_23 hl2, lr49_24 hl2, lr49_25 hl2, lr49_26 hl2, lr49_27 hl2, lr49_28 hl2, lr49_29 hl2, lr49_32 hl2, lr49_33 hl2, lr49_34 hl2, lr49_36 hl2, lr49_37 hl2, lk50 hl2, ll50 hl2, lk51 hl2, ll51 hl2, lk52 hl2, ll52 hl2, lk53 hl2, ll53 hl2, lk54 hl2, ll54 hl2, lk55 hl2, ll55 hl2, lk56 hl2, ll56 hl2, lk57 hl2, ll57 hl2, lk58 hl2, ll58 hl2, lk59 hl2, ll59 hl2, lk60 hl2, ll60 hl2, lk61 hl2, ll61 hl2, lk62 hl2, ll62 hl2, lk63 hl2, ll63 hl2, lk64 hl2, ll64 hl2, lk65 hl2, ll65 hl2, lk66 hl2, ll66 hl2, lk67 hl2, ll67 hl2, lk68 hl2, ll68 hl2, lk69 hl2, ll69 hl2, lk70 hl2, ll70 hl2, lk71 hl2, ll71 hl2, lk72 hl2, ll72 hl2, lk73 hl2, ll73 hl2, lk74 hl2, ll74 hl2, lk75 hl2, ll75 hl2]
    refine ⟨fun c => badK (fun q => c q.1), fun c _ => ⟨fun c2 _ => ?_, fun c2 => badK (fun q => by omega)⟩⟩
    exact kk w2 (z_fr_mo hf2 (by decide) (by decide)) (by rw [if_pos ⟨by omega, by omega⟩]; exact e4)
  have loop : ∀ (f : Nat) (w1 : z_W) (ec : Int) (nl : Int → Int), (n - z_I w1 49 3).toNat < f → z_fr [51, 52, 53] [(49, 3), (49, 4), (49, 8)] w w1 → z_I w1 49 4 = -1 → 0 ≤ z_I w1 49 3 → z_I w1 49 3 ≤ n → z_nb w1 → (∀ r, 0 ≤ r → r < 10 → z_I w1 53 r = nl r) → z_I w1 49 8 = ec → 0 ≤ ec → ec ≤ 24 → (∀ w', z_fr [51, 52, 53] [(49, 3), (49, 4), (49, 8)] w w' → z_nb w' → 0 ≤ z_I w' 49 8 → z_I w' 49 8 ≤ 24 → z_I w' 49 4 = z_mf T n f ec nl (z_I w1 49 3) → (∀ j, j < 5 * ec → z_I w' 51 j = z_I w1 51 j) → (z_I w' 49 4 = -1 → mp_ok (z_I w' 51) (z_I w' 53) (z_I w' 49 8) (mp_r T n f ec nl (z_I w1 49 3)) (mp_n T n f ec nl (z_I w1 49 3)) ec) → Q (some (z_i (z_I w' 49 4))) w') → z_G (d + 5) u 189 38 [z_r 49, z_i 1] [] w1 Q := by
    intro f
    induction f with
    | zero => intro w1 ec nl h; exact absurd h (Nat.not_lt_zero _)
    | succ f ih =>
      intro w1 ec nl h hf hw a0 a1 hb hnl he e0 e24 kk
      have hl1 := z_fr_lay hf hl
      have ht1 := z_tp_fr hf (by decide) (by decide) ht
      rw [g189_38]
      simp only [g189_0, g189_0r, g189_1, g189_2, g189_5, g189_5r, g189_6, g189_7, g189_10, g189_10r, g189_11, g189_12, g189_15, g189_16, g189_18, g189_20, g189_23, g189_23r, g189_24, g189_27, g189_28, g189_29, g189_30, g189_33, g189_36, g189_37, g189_39, g189_42, g189_42r, g189_43, g189_46, g189_46r, g189_47, g189_50, g189_51, g189_54, g189_54r, g189_55, g189_58, g189_60, g189_63, g189_64, g189_67, g189_68, g189_69, g189_69r, g189_70, g189_70r, g189_71, g189_74, g189_75, g189_78, g189_79, g189_82, g189_83, g189_84, g189_87, g189_90, g189_90r, g189_91, g189_94, g189_95, g189_98, g189_98r, g189_99, g189_102, g189_103, g189_106, g189_106r, g189_107, g189_110, g189_113, g189_113r, g189_114, g189_117, g189_117r, g189_118, g189_121 (st := []), z_kl_i, z_kl_l, z_kl_r, z_kl_n, z_kl_x, z_kl_vr, z_c8_0, z_c8_i, z_c8_l, z_c8_r, z_c8_vr, z_c8_n, z_vr_some, z_vr_none, Option.toList_some, Option.toList_none, List.cons_append, List.nil_append, true_and, and_true, and_self, z_k_sI, z_len_sI, z_R_sI, z_N_sI, z_set_0, z_set_1, z_set_s, eq_self, true_implies, false_implies, not_true_eq_false, not_false_eq_true, ne_eq, true_or, or_true, false_or, or_false, false_and, and_false, Int.reduceNeg, Int.reduceEq, Int.reduceNe, Int.reduceLT, Int.reduceLE, Nat.reduceLeDiff, Nat.reduceEqDiff, Nat.reduceSub, Nat.reduceAdd, reduceCtorEq, reduceIte, implies_true, List.reverse_nil, lk49 hl1, lr49_1 hl1, lr49_5 hl1, lr49_6 hl1, lr49_7 hl1, lr49_9 hl1, lr49_10 hl1, lr49_12 hl1, lr49_13 hl1, lr49_14 hl1, lr49_15 hl1, lr49_16 hl1, lr49_18 hl1, lr49_19 hl1, lr49_20 hl1, lr49_23 hl1, lr49_24 hl1, lr49_25 hl1, lr49_26 hl1, lr49_27 hl1, lr49_28 hl1, lr49_29 hl1, lr49_32 hl1, lr49_33 hl1, lr49_34 hl1, lr49_36 hl1, lr49_37 hl1, lk50 hl1, ll50 hl1, lk51 hl1, ll51 hl1, lk52 hl1, ll52 hl1, lk53 hl1, ll53 hl1, lk54 hl1, ll54 hl1, lk55 hl1, ll55 hl1, lk56 hl1, ll56 hl1, lk57 hl1, ll57 hl1, lk58 hl1, ll58 hl1, lk59 hl1, ll59 hl1, lk60 hl1, ll60 hl1, lk61 hl1, ll61 hl1, lk62 hl1, ll62 hl1, lk63 hl1, ll63 hl1, lk64 hl1, ll64 hl1, lk65 hl1, ll65 hl1, lk66 hl1, ll66 hl1, lk67 hl1, ll67 hl1, lk68 hl1, ll68 hl1, lk69 hl1, ll69 hl1, lk70 hl1, ll70 hl1, lk71 hl1, ll71 hl1, lk72 hl1, ll72 hl1, lk73 hl1, ll73 hl1, lk74 hl1, ll74 hl1, lk75 hl1, ll75 hl1]
      refine c_clauseV (nl := nl) hl1 ht1 a0 a1 hb hnl he e0 e24 (fun w2 hf2 hc2 vo vv => ?_)
      obtain ⟨b2, p2, c2, _, r2⟩ := hc2
      have r2 := r2 hw
      have hl2 := z_fr_lay hf2 hl1
      have hfw2 := z_fr_tr hf hf2
      have ht2 := z_tp_fr hfw2 (by decide) (by decide) ht
      simp only [g189_0, g189_0r, g189_1, g189_2, g189_5, g189_5r, g189_6, g189_7, g189_10, g189_10r, g189_11, g189_12, g189_15, g189_16, g189_18, g189_20, g189_23, g189_23r, g189_24, g189_27, g189_28, g189_29, g189_30, g189_33, g189_36, g189_37, g189_39, g189_42, g189_42r, g189_43, g189_46, g189_46r, g189_47, g189_50, g189_51, g189_54, g189_54r, g189_55, g189_58, g189_60, g189_63, g189_64, g189_67, g189_68, g189_69, g189_69r, g189_70, g189_70r, g189_71, g189_74, g189_75, g189_78, g189_79, g189_82, g189_83, g189_84, g189_87, g189_90, g189_90r, g189_91, g189_94, g189_95, g189_98, g189_98r, g189_99, g189_102, g189_103, g189_106, g189_106r, g189_107, g189_110, g189_113, g189_113r, g189_114, g189_117, g189_117r, g189_118, g189_121 (st := []), z_kl_i, z_kl_l, z_kl_r, z_kl_n, z_kl_x, z_kl_vr, z_c8_0, z_c8_i, z_c8_l, z_c8_r, z_c8_vr, z_c8_n, z_vr_some, z_vr_none, Option.toList_some, Option.toList_none, List.cons_append, List.nil_append, true_and, and_true, and_self, z_k_sI, z_len_sI, z_R_sI, z_N_sI, z_set_0, z_set_1, z_set_s, eq_self, true_implies, false_implies, not_true_eq_false, not_false_eq_true, ne_eq, true_or, or_true, false_or, or_false, false_and, and_false, Int.reduceNeg, Int.reduceEq, Int.reduceNe, Int.reduceLT, Int.reduceLE, Nat.reduceLeDiff, Nat.reduceEqDiff, Nat.reduceSub, Nat.reduceAdd, reduceCtorEq, reduceIte, implies_true, List.reverse_nil, lk49 hl2, lr49_1 hl2, lr49_5 hl2, lr49_6 hl2, lr49_7 hl2, lr49_9 hl2, lr49_10 hl2, lr49_12 hl2, lr49_13 hl2, lr49_14 hl2, lr49_15 hl2, lr49_16 hl2, lr49_18 hl2, lr49_19 hl2, lr49_20 hl2, lr49_23 hl2, lr49_24 hl2, lr49_25 hl2, lr49_26 hl2, lr49_27 hl2, lr49_28 hl2, lr49_29 hl2, lr49_32 hl2, lr49_33 hl2, lr49_34 hl2, lr49_36 hl2, lr49_37 hl2, lk50 hl2, ll50 hl2, lk51 hl2, ll51 hl2, lk52 hl2, ll52 hl2, lk53 hl2, ll53 hl2, lk54 hl2, ll54 hl2, lk55 hl2, ll55 hl2, lk56 hl2, ll56 hl2, lk57 hl2, ll57 hl2, lk58 hl2, ll58 hl2, lk59 hl2, ll59 hl2, lk60 hl2, ll60 hl2, lk61 hl2, ll61 hl2, lk62 hl2, ll62 hl2, lk63 hl2, ll63 hl2, lk64 hl2, ll64 hl2, lk65 hl2, ll65 hl2, lk66 hl2, ll66 hl2, lk67 hl2, ll67 hl2, lk68 hl2, ll68 hl2, lk69 hl2, ll69 hl2, lk70 hl2, ll70 hl2, lk71 hl2, ll71 hl2, lk72 hl2, ll72 hl2, lk73 hl2, ll73 hl2, lk74 hl2, ll74 hl2, lk75 hl2, ll75 hl2]
      intro _
      refine ⟨fun cw => ?_, fun cw => ?_⟩
      · intro _
        rw [z_add_eq (by omega) (by omega)]
        have hf3 : z_fr [51, 52, 53] [(49, 3), (49, 4), (49, 8)] w (z_sI w2 49 3 (z_I w2 49 3 + 0)) := z_fr_sF hfw2 (by decide)
        have e4 : z_I (z_sI w2 49 3 (z_I w2 49 3 + 0)) 49 4 = z_I w2 49 4 := z_I_ne (by decide)
        have e8 : z_I (z_sI w2 49 3 (z_I w2 49 3 + 0)) 49 8 = z_I w2 49 8 := z_I_ne (by decide)
        have e53 : ∀ j, z_I (z_sI w2 49 3 (z_I w2 49 3 + 0)) 53 j = z_I w2 53 j := fun j => z_I_np (by decide)
        refine exitF _ (z_fr_lay hf3 hl) (by rw [e4]; exact cw) (kk _ hf3 (fun r q0 q1 => by rw [e53]; exact b2 r q0 q1) (by omega) (by omega) ?_ (fun j jj => (z_I_np (by decide)).trans (vo j jj)) (fun q => absurd (e4.symm.trans q) cw))
        rw [e4]
        cases ho : z_cl T n ec nl (z_I w1 49 3) with
        | inl e => rw [z_mf_l ho]; exact (r2.2 e ho).1
        | inr p => obtain ⟨ec', nl', a'⟩ := p; exact absurd (r2.1 ec' nl' a' ho).2.1 cw
      · have hw2 : z_I w2 49 4 = -1 := by omega
        -- the clause was taken
        cases ho : z_cl T n ec nl (z_I w1 49 3) with
        | inl e => have := r2.2 e ho; omega
        | inr p =>
          obtain ⟨ec', nl', a'⟩ := p
          have s2 := r2.1 ec' nl' a' ho
          have hec := mp_ec ho
          have hvv := vv hw2
          have hgt := z_cl_gt ho
          have sb := z_sk_bd (T := T) (n := n) a'
          have sb2 := sb.2.1 (by omega)
          have bd := z_sg_bd (a := z_sk T n a') ht.2.2.2.2 (by omega)
          refine c_ahead _ w2 hl2 ht2 p2.1 p2.2 (Nat.lt_succ_self _) (fun w3 hf3 e3 => ?_)
          rw [s2.1] at e3 ⊢
          have hl3 := z_fr_lay hf3 hl2
          have hfw3 : z_fr [51, 52, 53] [(49, 3), (49, 4), (49, 8)] w w3 := z_fr_tr hfw2 (z_fr_mo hf3 (by decide) (by decide))
          have e4 : z_I w3 49 4 = -1 := (hf3.2 49 4 (by decide) (by decide)).trans hw2
          have e8 : z_I w3 49 8 = ec' := (hf3.2 49 8 (by decide) (by decide)).trans s2.2.2.1
          have e53 : ∀ j, z_I w3 53 j = z_I w2 53 j := fun j => hf3.2 53 j (by decide) (by simp)
          simp only [g189_0, g189_0r, g189_1, g189_2, g189_5, g189_5r, g189_6, g189_7, g189_10, g189_10r, g189_11, g189_12, g189_15, g189_16, g189_18, g189_20, g189_23, g189_23r, g189_24, g189_27, g189_28, g189_29, g189_30, g189_33, g189_36, g189_37, g189_39, g189_42, g189_42r, g189_43, g189_46, g189_46r, g189_47, g189_50, g189_51, g189_54, g189_54r, g189_55, g189_58, g189_60, g189_63, g189_64, g189_67, g189_68, g189_69, g189_69r, g189_70, g189_70r, g189_71, g189_74, g189_75, g189_78, g189_79, g189_82, g189_83, g189_84, g189_87, g189_90, g189_90r, g189_91, g189_94, g189_95, g189_98, g189_98r, g189_99, g189_102, g189_103, g189_106, g189_106r, g189_107, g189_110, g189_113, g189_113r, g189_114, g189_117, g189_117r, g189_118, g189_121 (st := []), z_kl_i, z_kl_l, z_kl_r, z_kl_n, z_kl_x, z_kl_vr, z_c8_0, z_c8_i, z_c8_l, z_c8_r, z_c8_vr, z_c8_n, z_vr_some, z_vr_none, Option.toList_some, Option.toList_none, List.cons_append, List.nil_append, true_and, and_true, and_self, z_k_sI, z_len_sI, z_R_sI, z_N_sI, z_set_0, z_set_1, z_set_s, eq_self, true_implies, false_implies, not_true_eq_false, not_false_eq_true, ne_eq, true_or, or_true, false_or, or_false, false_and, and_false, Int.reduceNeg, Int.reduceEq, Int.reduceNe, Int.reduceLT, Int.reduceLE, Nat.reduceLeDiff, Nat.reduceEqDiff, Nat.reduceSub, Nat.reduceAdd, reduceCtorEq, reduceIte, implies_true, List.reverse_nil, lk49 hl3, lr49_1 hl3, lr49_5 hl3, lr49_6 hl3, lr49_7 hl3, lr49_9 hl3, lr49_10 hl3, lr49_12 hl3, lr49_13 hl3, lr49_14 hl3, lr49_15 hl3, lr49_16 hl3, lr49_18 hl3, lr49_19 hl3, lr49_20 hl3, lr49_23 hl3, lr49_24 hl3, lr49_25 hl3, lr49_26 hl3, lr49_27 hl3, lr49_28 hl3, lr49_29 hl3, lr49_32 hl3, lr49_33 hl3, lr49_34 hl3, lr49_36 hl3, lr49_37 hl3, lk50 hl3, ll50 hl3, lk51 hl3, ll51 hl3, lk52 hl3, ll52 hl3, lk53 hl3, ll53 hl3, lk54 hl3, ll54 hl3, lk55 hl3, ll55 hl3, lk56 hl3, ll56 hl3, lk57 hl3, ll57 hl3, lk58 hl3, ll58 hl3, lk59 hl3, ll59 hl3, lk60 hl3, ll60 hl3, lk61 hl3, ll61 hl3, lk62 hl3, ll62 hl3, lk63 hl3, ll63 hl3, lk64 hl3, ll64 hl3, lk65 hl3, ll65 hl3, lk66 hl3, ll66 hl3, lk67 hl3, ll67 hl3, lk68 hl3, ll68 hl3, lk69 hl3, ll69 hl3, lk70 hl3, ll70 hl3, lk71 hl3, ll71 hl3, lk72 hl3, ll72 hl3, lk73 hl3, ll73 hl3, lk74 hl3, ll74 hl3, lk75 hl3, ll75 hl3]
          refine ⟨fun c59 => ?_, fun c59 => ?_⟩
          · intro _
            rw [z_add_eq (by omega) (by omega)]
            have hf4 : z_fr [51, 52, 53] [(49, 3), (49, 4), (49, 8)] w (z_sI w3 49 3 (z_I w3 49 3 + 0)) := z_fr_sF hfw3 (by decide)
            have q3 : z_I (z_sI w3 49 3 (z_I w3 49 3 + 0)) 49 3 = z_sk T n a' := by rw [z_I_at rfl]; omega
            have q4 : z_I (z_sI w3 49 3 (z_I w3 49 3 + 0)) 49 4 = -1 := (z_I_ne (by decide)).trans e4
            have q8 : z_I (z_sI w3 49 3 (z_I w3 49 3 + 0)) 49 8 = ec' := (z_I_ne (by decide)).trans e8
            have q53 : ∀ j, z_I (z_sI w3 49 3 (z_I w3 49 3 + 0)) 53 j = z_I w2 53 j := fun j => (z_I_np (by decide)).trans (e53 j)
            refine exitS _ (z_fr_lay hf4 hl) (z_tp_fr hf4 (by decide) (by decide) ht) q4 (by omega) (by omega) (fun w5 hf5 hiff => ?_)
            rw [q3, z_sk_sk, q8] at hiff
            have v8 : z_I w5 49 8 = ec' := (hf5.2 49 8 (by decide) (by decide)).trans q8
            have o51 : ∀ j, z_I w5 51 j = z_I w2 51 j := fun j => (hf5.2 51 j (by decide) (by simp)).trans ((z_I_np (by decide)).trans (hf3.2 51 j (by decide) (by simp)))
            refine kk w5 (z_fr_tr hf4 (z_fr_mo hf5 (by decide) (by decide))) (fun r q0 q1 => by rw [hf5.2 53 r (by decide) (by simp), q53]; exact b2 r q0 q1) (by omega) (by omega) ?_ (fun j jj => (o51 j).trans (vo j jj)) (fun _ => ?_)
            rotate_left
            · rw [mp_r_e ho c59, mp_n_e ho c59]
              exact mp_ok_e hec (fun q => by rw [hvv q, o51, o51, o51, o51, o51]) v8 (fun r q0 q1 => by rw [hf5.2 53 r (by decide) (by simp), q53]; exact s2.2.2.2 r q0 q1)
            rw [hiff, z_mf_r ho, if_neg c59]
          · have h59 : z_sg T n (z_sk T n a') = 59 := by omega
            intro _
            rw [z_add_eq (by omega) (by omega)]
            have hf4 : z_fr [51, 52, 53] [(49, 3), (49, 4), (49, 8)] w (z_sI w3 49 3 (z_I w3 49 3 + 1)) := z_fr_sF hfw3 (by decide)
            have q3 : z_I (z_sI w3 49 3 (z_I w3 49 3 + 1)) 49 3 = z_sk T n a' + 1 := by rw [z_I_at rfl]; omega
            have q4 : z_I (z_sI w3 49 3 (z_I w3 49 3 + 1)) 49 4 = -1 := (z_I_ne (by decide)).trans e4
            have q8 : z_I (z_sI w3 49 3 (z_I w3 49 3 + 1)) 49 8 = ec' := (z_I_ne (by decide)).trans e8
            have q53 : ∀ j, z_I (z_sI w3 49 3 (z_I w3 49 3 + 1)) 53 j = z_I w2 53 j := fun j => (z_I_np (by decide)).trans (e53 j)
            refine ih _ ec' nl' (by omega) hf4 q4 (by omega) (by omega) (fun r q0 q1 => by rw [q53]; exact b2 r q0 q1) (fun r q0 q1 => by rw [q53]; exact s2.2.2.2 r q0 q1) q8 (by omega) (by omega) (fun w5 g1 g2 g3 g4 g5 g6 g7 => ?_)
            rw [q3] at g5 g7
            have o51 : ∀ j, j < 5 * ec' → z_I w5 51 j = z_I w2 51 j := fun j jj => (g6 j jj).trans ((z_I_np (by decide)).trans (hf3.2 51 j (by decide) (by simp)))
            refine kk w5 g1 g2 g3 g4 ?_ (fun j jj => (o51 j (by rw [hec]; split <;> omega)).trans (vo j jj)) (fun q => ?_)
            rotate_left
            · rw [mp_r_s ho h59, mp_n_s ho h59]
              exact mp_ok_s hec (fun q => by rw [hvv q, o51 _ (by rw [hec, if_pos q]; omega), o51 _ (by rw [hec, if_pos q]; omega), o51 _ (by rw [hec, if_pos q]; omega), o51 _ (by rw [hec, if_pos q]; omega), o51 _ (by rw [hec, if_pos q]; omega)]) (g7 q)
            rw [g5, z_mf_r ho, if_pos h59]
  have l17 : ∀ (m : Nat) (i : Int) (w1 : z_W), 0 ≤ i → i ≤ 10 → (10 - i).toNat < m → z_fr [53] [(49, 3), (49, 4), (49, 8)] w w1 → z_I w1 49 3 = 0 → z_I w1 49 4 = -1 → z_I w1 49 8 = 0 → (∀ j, 0 ≤ j → j < i → z_I w1 53 j = 0) → z_G (d + 5) u 189 17 [z_r 49, z_i i] [] w1 Q := by
    intro m
    induction m with
    | zero => intro i _ _ _ h; exact absurd h (Nat.not_lt_zero _)
    | succ m ih =>
      intro i w1 i0 i1 h hf e3 e4 e8 hj
      have hl1 := z_fr_lay hf hl
      have hn0 := ht.2.2.1
      rw [g189_17]
      simp only [g189_0, g189_0r, g189_1, g189_2, g189_5, g189_5r, g189_6, g189_7, g189_10, g189_10r, g189_11, g189_12, g189_15, g189_16, g189_18, g189_20, g189_23, g189_23r, g189_24, g189_27, g189_28, g189_29, g189_30, g189_33, g189_36, g189_37, g189_39, g189_42, g189_42r, g189_43, g189_46, g189_46r, g189_47, g189_50, g189_51, g189_54, g189_54r, g189_55, g189_58, g189_60, g189_63, g189_64, g189_67, g189_68, g189_69, g189_69r, g189_70, g189_70r, g189_71, g189_74, g189_75, g189_78, g189_79, g189_82, g189_83, g189_84, g189_87, g189_90, g189_90r, g189_91, g189_94, g189_95, g189_98, g189_98r, g189_99, g189_102, g189_103, g189_106, g189_106r, g189_107, g189_110, g189_113, g189_113r, g189_114, g189_117, g189_117r, g189_118, g189_121 (st := []), z_kl_i, z_kl_l, z_kl_r, z_kl_n, z_kl_x, z_kl_vr, z_c8_0, z_c8_i, z_c8_l, z_c8_r, z_c8_vr, z_c8_n, z_vr_some, z_vr_none, Option.toList_some, Option.toList_none, List.cons_append, List.nil_append, true_and, and_true, and_self, z_k_sI, z_len_sI, z_R_sI, z_N_sI, z_set_0, z_set_1, z_set_s, eq_self, true_implies, false_implies, not_true_eq_false, not_false_eq_true, ne_eq, true_or, or_true, false_or, or_false, false_and, and_false, Int.reduceNeg, Int.reduceEq, Int.reduceNe, Int.reduceLT, Int.reduceLE, Nat.reduceLeDiff, Nat.reduceEqDiff, Nat.reduceSub, Nat.reduceAdd, reduceCtorEq, reduceIte, implies_true, List.reverse_nil, lk49 hl1, lr49_1 hl1, lr49_5 hl1, lr49_6 hl1, lr49_7 hl1, lr49_9 hl1, lr49_10 hl1, lr49_12 hl1, lr49_13 hl1, lr49_14 hl1, lr49_15 hl1, lr49_16 hl1, lr49_18 hl1, lr49_19 hl1, lr49_20 hl1, lr49_23 hl1, lr49_24 hl1, lr49_25 hl1, lr49_26 hl1, lr49_27 hl1, lr49_28 hl1, lr49_29 hl1, lr49_32 hl1, lr49_33 hl1, lr49_34 hl1, lr49_36 hl1, lr49_37 hl1, lk50 hl1, ll50 hl1, lk51 hl1, ll51 hl1, lk52 hl1, ll52 hl1, lk53 hl1, ll53 hl1, lk54 hl1, ll54 hl1, lk55 hl1, ll55 hl1, lk56 hl1, ll56 hl1, lk57 hl1, ll57 hl1, lk58 hl1, ll58 hl1, lk59 hl1, ll59 hl1, lk60 hl1, ll60 hl1, lk61 hl1, ll61 hl1, lk62 hl1, ll62 hl1, lk63 hl1, ll63 hl1, lk64 hl1, ll64 hl1, lk65 hl1, ll65 hl1, lk66 hl1, ll66 hl1, lk67 hl1, ll67 hl1, lk68 hl1, ll68 hl1, lk69 hl1, ll69 hl1, lk70 hl1, ll70 hl1, lk71 hl1, ll71 hl1, lk72 hl1, ll72 hl1, lk73 hl1, ll73 hl1, lk74 hl1, ll74 hl1, lk75 hl1, ll75 hl1]
      refine ⟨fun c => ?_, fun c => ⟨i0, by omega, ?_⟩⟩
      · refine loop (n.toNat + 1) w1 0 (fun _ => 0) (by omega) (z_fr_mo hf (by decide) (by decide)) e4 (by omega) (by omega) (fun r q0 q1 => by rw [hj r q0 (by omega)]; omega) (fun r q0 q1 => hj r q0 (by omega)) e8 (by omega) (by omega) (fun w5 g1 g2 g3 g4 g5 _ g7 => ?_)
        rw [e3] at g5 g7
        exact k w5 _ g1 g2 g3 g4 g5 g7
      · rw [z_add_eq (by omega) (by omega)]
        refine ih _ _ (by omega) (by omega) (by omega) (z_fr_sI hf (by decide)) (by rw [z_I_np (by decide)]; exact e3) (by rw [z_I_np (by decide)]; exact e4) (by rw [z_I_np (by decide)]; exact e8) (fun j j0 j1 => ?_)
        by_cases q : j = i
        · rw [z_I_at q]
        · rw [z_I_ne q]; exact hj j j0 (by omega)
  simp only [g189_0, g189_0r, g189_1, g189_2, g189_5, g189_5r, g189_6, g189_7, g189_10, g189_10r, g189_11, g189_12, g189_15, g189_16, g189_18, g189_20, g189_23, g189_23r, g189_24, g189_27, g189_28, g189_29, g189_30, g189_33, g189_36, g189_37, g189_39, g189_42, g189_42r, g189_43, g189_46, g189_46r, g189_47, g189_50, g189_51, g189_54, g189_54r, g189_55, g189_58, g189_60, g189_63, g189_64, g189_67, g189_68, g189_69, g189_69r, g189_70, g189_70r, g189_71, g189_74, g189_75, g189_78, g189_79, g189_82, g189_83, g189_84, g189_87, g189_90, g189_90r, g189_91, g189_94, g189_95, g189_98, g189_98r, g189_99, g189_102, g189_103, g189_106, g189_106r, g189_107, g189_110, g189_113, g189_113r, g189_114, g189_117, g189_117r, g189_118, g189_121 (st := []), z_kl_i, z_kl_l, z_kl_r, z_kl_n, z_kl_x, z_kl_vr, z_c8_0, z_c8_i, z_c8_l, z_c8_r, z_c8_vr, z_c8_n, z_vr_some, z_vr_none, Option.toList_some, Option.toList_none, List.cons_append, List.nil_append, true_and, and_true, and_self, z_k_sI, z_len_sI, z_R_sI, z_N_sI, z_set_0, z_set_1, z_set_s, eq_self, true_implies, false_implies, not_true_eq_false, not_false_eq_true, ne_eq, true_or, or_true, false_or, or_false, false_and, and_false, Int.reduceNeg, Int.reduceEq, Int.reduceNe, Int.reduceLT, Int.reduceLE, Nat.reduceLeDiff, Nat.reduceEqDiff, Nat.reduceSub, Nat.reduceAdd, reduceCtorEq, reduceIte, implies_true, List.reverse_nil, lk49 hl, lr49_1 hl, lr49_5 hl, lr49_6 hl, lr49_7 hl, lr49_9 hl, lr49_10 hl, lr49_12 hl, lr49_13 hl, lr49_14 hl, lr49_15 hl, lr49_16 hl, lr49_18 hl, lr49_19 hl, lr49_20 hl, lr49_23 hl, lr49_24 hl, lr49_25 hl, lr49_26 hl, lr49_27 hl, lr49_28 hl, lr49_29 hl, lr49_32 hl, lr49_33 hl, lr49_34 hl, lr49_36 hl, lr49_37 hl, lk50 hl, ll50 hl, lk51 hl, ll51 hl, lk52 hl, ll52 hl, lk53 hl, ll53 hl, lk54 hl, ll54 hl, lk55 hl, ll55 hl, lk56 hl, ll56 hl, lk57 hl, ll57 hl, lk58 hl, ll58 hl, lk59 hl, ll59 hl, lk60 hl, ll60 hl, lk61 hl, ll61 hl, lk62 hl, ll62 hl, lk63 hl, ll63 hl, lk64 hl, ll64 hl, lk65 hl, ll65 hl, lk66 hl, ll66 hl, lk67 hl, ll67 hl, lk68 hl, ll68 hl, lk69 hl, ll69 hl, lk70 hl, ll70 hl, lk71 hl, ll71 hl, lk72 hl, ll72 hl, lk73 hl, ll73 hl, lk74 hl, ll74 hl, lk75 hl, ll75 hl]
  exact l17 11 0 _ (by omega) (by omega) (by omega) (z_fr_sF (z_fr_sF (z_fr_sF z_fr_rf (by decide)) (by decide)) (by decide)) (by rw [z_I_ne (by decide), z_I_ne (by decide), z_I_at rfl]) (by rw [z_I_ne (by decide), z_I_at rfl]) (z_I_at rfl) (fun j j0 j1 => by omega)
