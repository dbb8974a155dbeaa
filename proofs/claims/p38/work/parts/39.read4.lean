/-- a clause: edges told, names' lengths, the place behind -/
def z_cl (T : Int → Int) (n ec : Int) (nl : Int → Int) (a : Int) : Int ⊕ (Int × (Int → Int) × Int) :=
  if z_sg T n (z_sk T n a) = 101 ∧ ec < 24 then z_bn (z_pn T n [63, 63, 63, 63, 9] (z_sk T n a + 1)) (fun q => .inr (ec + 1, nl, q))
  else if z_sg T n (z_sk T n a) = 110 then z_bn (z_nam T n nl (z_sk T n a + 1)) (fun r => .inr (ec, (fun j => if j = r.1 then r.2.1 else nl j), r.2.2)) else .inl (z_sk T n a)
/-- where a text of a MAP fails, -1 if it is taken -/
def z_mf (T : Int → Int) (n : Int) : Nat → Int → (Int → Int) → Int → Int
  | 0, _, _, _ => -2
  | f + 1, ec, nl, a => match z_cl T n ec nl a with
    | .inl e => e
    | .inr (ec', nl', a') => if z_sg T n (z_sk T n a') = 59 then z_mf T n f ec' nl' (z_sk T n a' + 1) else if z_sg T n (z_sk T n a') = -1 ∧ ec' ≠ 0 then -1 else z_sk T n a'
/-- a text of a MAP is taken -/
def z_mp (T : Int → Int) (n : Int) (f : Nat) (ec : Int) (nl : Int → Int) (a : Int) : Prop := z_mf T n f ec nl a = -1
theorem z_mf_l {T : Int → Int} {n e : Int} {f : Nat} {ec : Int} {nl : Int → Int} {a : Int} (h : z_cl T n ec nl a = .inl e) : z_mf T n (f + 1) ec nl a = e := by
  unfold z_mf; rw [h]
theorem z_mf_r {T : Int → Int} {n : Int} {f : Nat} {ec : Int} {nl : Int → Int} {a : Int} {ec' : Int} {nl' : Int → Int} {a' : Int} (h : z_cl T n ec nl a = .inr (ec', nl', a')) : z_mf T n (f + 1) ec nl a = if z_sg T n (z_sk T n a') = 59 then z_mf T n f ec' nl' (z_sk T n a' + 1) else if z_sg T n (z_sk T n a') = -1 ∧ ec' ≠ 0 then -1 else z_sk T n a' := by
  rw [z_mf, h]
theorem z_di_gt {T : Int → Int} {n hi a v q : Int} (h : z_di T n hi a = .inr (v, q)) : a < q := by
  unfold z_di at h
  by_cases h1 : z_dg (z_sg T n a)
  · rw [if_pos h1] at h
    by_cases h2 : z_dg (z_sg T n (a + 1))
    · rw [if_pos h2] at h
      by_cases h3 : z_dg (z_sg T n (a + 2))
      · rw [if_pos h3] at h; exact z_qlr h
      · rw [if_neg h3] at h
        by_cases h4 : 10 * (z_sg T n a - 48) + (z_sg T n (a + 1) - 48) ≤ hi
        · rw [if_pos h4] at h
          simp only [Sum.inr.injEq, Prod.mk.injEq] at h
          omega
        · rw [if_neg h4] at h; exact z_qlr h
    · rw [if_neg h2] at h
      by_cases h4 : z_sg T n a - 48 ≤ hi
      · rw [if_pos h4] at h
        simp only [Sum.inr.injEq, Prod.mk.injEq] at h
        omega
      · rw [if_neg h4] at h; exact z_qlr h
  · rw [if_neg h1] at h; exact z_qlr h
theorem z_p1_gt {T : Int → Int} {n b a q : Int} (h : z_p1 T n b a = .inr q) : a < q := by
  have sb := (z_sk_bd (T := T) (n := n) a).1
  by_cases hb : b = -1
  · rw [hb, z_p1_sn] at h
    unfold z_sn at h
    by_cases h45 : z_sg T n (z_sk T n a) = 45
    · rw [if_pos h45] at h
      cases ho : z_di T n 63 (z_sk T n a + 1) with
      | inl e => rw [ho] at h; exact z_qlr h
      | inr p =>
        obtain ⟨v, q'⟩ := p
        have := z_di_gt ho
        rw [ho] at h
        simp only [z_sd, z_bn_r, Sum.inr.injEq] at h
        omega
    · rw [if_neg h45] at h
      cases ho : z_di T n 63 (z_sk T n a) with
      | inl e => rw [ho] at h; exact z_qlr h
      | inr p =>
        obtain ⟨v, q'⟩ := p
        have := z_di_gt ho
        rw [ho] at h
        simp only [z_sd, z_bn_r, Sum.inr.injEq] at h
        omega
  · rw [z_p1_nu hb] at h
    unfold z_nu at h
    cases ho : z_di T n b (z_sk T n a) with
    | inl e => rw [ho] at h; exact z_qlr h
    | inr p =>
      obtain ⟨v, q'⟩ := p
      have := z_di_gt ho
      rw [ho] at h
      simp only [z_sd, z_bn_r, Sum.inr.injEq] at h
      omega
theorem z_co_gt {T : Int → Int} {n a q : Int} (h : z_co T n a = .inr q) : a < q := by
  have sb := (z_sk_bd (T := T) (n := n) a).1
  unfold z_co at h
  by_cases h1 : z_sg T n (z_sk T n a) = 44
  · rw [if_pos h1] at h
    simp only [Sum.inr.injEq] at h
    omega
  · rw [if_neg h1] at h; exact z_qlr h
theorem z_pm_gt {T : Int → Int} {n : Int} : ∀ (bs : List Int) (a q : Int), z_pm T n bs a = .inr q → a ≤ q := by
  intro bs
  induction bs with
  | nil => intro a q h; simp only [z_pm, Sum.inr.injEq] at h; omega
  | cons b bs ih =>
    intro a q h
    simp only [z_pm] at h
    cases h1 : z_co T n a with
    | inl e => rw [h1] at h; exact z_qlr h
    | inr p =>
      rw [h1] at h
      simp only [z_bn_r] at h
      cases h2 : z_p1 T n b p with
      | inl e => rw [h2] at h; exact z_qlr h
      | inr r =>
        rw [h2] at h
        simp only [z_bn_r] at h
        have := ih r q h
        have := z_p1_gt h2
        have := z_co_gt h1
        omega
theorem z_pn_gt {T : Int → Int} {n b a q : Int} {bs : List Int} (h : z_pn T n (b :: bs) a = .inr q) : a < q := by
  simp only [z_pn] at h
  cases h2 : z_p1 T n b a with
  | inl e => rw [h2] at h; exact z_qlr h
  | inr r =>
    rw [h2] at h
    simp only [z_bn_r] at h
    have := z_pm_gt _ _ _ h
    have := z_p1_gt h2
    omega
theorem z_nam_gt {T : Int → Int} {n a : Int} {nl : Int → Int} {r : Int × Int × Int} (h : z_nam T n nl a = .inr r) : a < r.2.2 := by
  have sb := (z_sk_bd (T := T) (n := n) a).1
  have sb2 := (z_sk_bd (T := T) (n := n) (z_sk T n a + 1)).1
  have lb := (z_lts_bd (T := T) (n := n) 4 (z_sk T n (z_sk T n a + 1))).1
  unfold z_nam at h
  split at h
  · split at h
    · simp only [Sum.inr.injEq] at h
      rw [← h]
      show a < _ + _
      omega
    · exact z_qlr h
  · exact z_qlr h
theorem z_cl_gt {T : Int → Int} {n ec a ec' a' : Int} {nl nl' : Int → Int} (h : z_cl T n ec nl a = .inr (ec', nl', a')) : a < a' := by
  have sb := (z_sk_bd (T := T) (n := n) a).1
  unfold z_cl at h
  split at h
  · cases h2 : z_pn T n [63, 63, 63, 63, 9] (z_sk T n a + 1) with
    | inl e => rw [h2] at h; exact z_qlr h
    | inr r =>
      have := z_pn_gt h2
      rw [h2] at h
      simp only [z_bn_r, Sum.inr.injEq, Prod.mk.injEq] at h
      omega
  · split at h
    · cases h2 : z_nam T n nl (z_sk T n a + 1) with
      | inl e => rw [h2] at h; exact z_qlr h
      | inr r =>
        have := z_nam_gt h2
        rw [h2] at h
        simp only [z_bn_r, Sum.inr.injEq, Prod.mk.injEq] at h
        omega
    · exact z_qlr h
def z_cla (w w' : z_W) (n : Int) (o : Int ⊕ (Int × (Int → Int) × Int)) : Prop := z_nb w' ∧ (0 ≤ z_I w' 49 3 ∧ z_I w' 49 3 ≤ n) ∧ (0 ≤ z_I w' 49 8 ∧ z_I w' 49 8 ≤ 24) ∧ (z_I w 49 4 ≠ -1 → z_I w' 49 4 = z_I w 49 4) ∧ (z_I w 49 4 = -1 → (∀ ec2 nl2 q, o = .inr (ec2, nl2, q) → z_I w' 49 3 = q ∧ z_I w' 49 4 = -1 ∧ z_I w' 49 8 = ec2 ∧ ∀ j, 0 ≤ j → j < 10 → z_I w' 53 j = nl2 j) ∧ ∀ e, o = .inl e → z_I w' 49 4 = e ∧ 0 ≤ e)
set_option maxRecDepth 20000 in
theorem c_clause {d u w} {Q : z_P} {T : Int → Int} {n ec : Int} {nl : Int → Int} (hl : z_lay w) (ht : z_tp w T n) (h0 : 0 ≤ z_I w 49 3) (h1 : z_I w 49 3 ≤ n) (hb : z_nb w) (hn : ∀ r, 0 ≤ r → r < 10 → z_I w 53 r = nl r) (he : z_I w 49 8 = ec) (e0 : 0 ≤ ec) (e24 : ec ≤ 24) (k : ∀ w', z_fr [51, 52, 53] [(49, 3), (49, 4), (49, 8)] w w' → z_cla w w' n (z_cl T n ec nl (z_I w 49 3)) → Q none w') : z_G (d + 4) u 188 0 [z_r 49, z_x] [] w Q := by
  have hn4 := ht.2.2.2.1
  have sb := z_sk_bd (T := T) (n := n) (z_I w 49 3)
  have sb2 := sb.2.1 h1
  simp only [g188_0, g188_0r, g188_1, g188_4, g188_5, g188_6, g188_8, g188_11, g188_11r, g188_12, g188_15, g188_17, g188_20, g188_20r, g188_21, g188_21r, g188_22, g188_25, g188_26, g188_27, g188_30, g188_30r, g188_31, g188_31r, g188_32, g188_35, g188_36, g188_36r, g188_37, g188_40, g188_41, g188_44, g188_44r, g188_45, g188_45r, g188_46, g188_49, g188_50, g188_51, g188_54, g188_58, g188_60, g188_63, g188_63r, g188_64, g188_64r, g188_65, g188_68, g188_69, g188_70, g188_73, g188_73r, g188_74, g188_77, g188_80, g188_80r, g188_81, g188_84, z_kl_i, z_kl_l, z_kl_r, z_kl_n, z_kl_x, z_kl_vr, z_c8_0, z_c8_i, z_c8_l, z_c8_r, z_c8_vr, z_c8_n, z_vr_some, z_vr_none, Option.toList_some, Option.toList_none, List.cons_append, List.nil_append, true_and, and_true, and_self, z_k_sI, z_len_sI, z_R_sI, z_N_sI, z_set_0, z_set_1, z_set_s, eq_self, true_implies, false_implies, not_true_eq_false, not_false_eq_true, ne_eq, true_or, or_true, false_or, or_false, false_and, and_false, Int.reduceNeg, Int.reduceEq, Int.reduceNe, Int.reduceLT, Int.reduceLE, Nat.reduceLeDiff, Nat.reduceEqDiff, Nat.reduceSub, Nat.reduceAdd, reduceCtorEq, reduceIte, implies_true, List.reverse_nil, lk49 hl, lr49_1 hl, lr49_5 hl, lr49_6 hl, lr49_7 hl, lr49_9 hl, lr49_10 hl, lr49_12 hl, lr49_13 hl, lr49_14 hl, lr49_15 hl, lr49_16 hl, lr49_18 hl, lr49_19 hl, lr49_20 hl, lr49_23 hl, lr49_24 hl, lr49_25 hl, lr49_26 hl, lr49_27 hl, lr49_28 hl, lr49_29 hl, lr49_32 hl, lr49_33 hl, lr49_34 hl, lr49_36 hl, lr49_37 hl, lk50 hl, ll50 hl, lk51 hl, ll51 hl, lk52 hl, ll52 hl, lk53 hl, ll53 hl, lk54 hl, ll54 hl, lk55 hl, ll55 hl, lk56 hl, ll56 hl, lk57 hl, ll57 hl, lk58 hl, ll58 hl, lk59 hl, ll59 hl, lk60 hl, ll60 hl, lk61 hl, ll61 hl, lk62 hl, ll62 hl, lk63 hl, ll63 hl, lk64 hl, ll64 hl, lk65 hl, ll65 hl, lk66 hl, ll66 hl, lk67 hl, ll67 hl, lk68 hl, ll68 hl, lk69 hl, ll69 hl, lk70 hl, ll70 hl, lk71 hl, ll71 hl, lk72 hl, ll72 hl, lk73 hl, ll73 hl, lk74 hl, ll74 hl, lk75 hl, ll75 hl]
  refine c_ahead _ w hl ht h0 h1 (Nat.lt_succ_self _) (fun w1 hf1 e1 => ?_)
  have hl1 := z_fr_lay hf1 hl
  have ht1 := z_tp_fr hf1 (by decide) (by decide) ht
  have e4 : z_I w1 49 4 = z_I w 49 4 := hf1.2 49 4 (by decide) (by decide)
  have e8 : z_I w1 49 8 = ec := (hf1.2 49 8 (by decide) (by decide)).trans he
  have e53 : ∀ j, z_I w1 53 j = z_I w 53 j := fun j => hf1.2 53 j (by decide) (by simp)
  have bd := z_sg_bd (a := z_sk T n (z_I w 49 3)) ht.2.2.2.2 (by omega)
  have hfw1 : z_fr [51, 52, 53] [(49, 3), (49, 4), (49, 8)] w w1 := z_fr_mo hf1 (by decide) (by decide)
  have p57 : ¬ (z_sg T n (z_sk T n (z_I w 49 3)) = 101 ∧ ec < 24) → z_G (d + 4) u 188 57 [z_r 49, z_i (z_sg T n (z_sk T n (z_I w 49 3)))] [] w1 Q := by
    intro hno
    simp only [g188_1, g188_4, g188_5, g188_6, g188_8, g188_11, g188_11r, g188_12, g188_15, g188_17, g188_20, g188_20r, g188_21, g188_21r, g188_22, g188_25, g188_26, g188_27, g188_30, g188_30r, g188_31, g188_31r, g188_32, g188_35, g188_36, g188_36r, g188_37, g188_40, g188_41, g188_44, g188_44r, g188_45, g188_45r, g188_46, g188_49, g188_50, g188_51, g188_54, g188_57, g188_58, g188_60, g188_63, g188_63r, g188_64, g188_64r, g188_65, g188_68, g188_69, g188_70, g188_73, g188_73r, g188_74, g188_77, g188_80, g188_80r, g188_81, g188_84, z_kl_i, z_kl_l, z_kl_r, z_kl_n, z_kl_x, z_kl_vr, z_c8_0, z_c8_i, z_c8_l, z_c8_r, z_c8_vr, z_c8_n, z_vr_some, z_vr_none, Option.toList_some, Option.toList_none, List.cons_append, List.nil_append, true_and, and_true, and_self, z_k_sI, z_len_sI, z_R_sI, z_N_sI, z_set_0, z_set_1, z_set_s, eq_self, true_implies, false_implies, not_true_eq_false, not_false_eq_true, ne_eq, true_or, or_true, false_or, or_false, false_and, and_false, Int.reduceNeg, Int.reduceEq, Int.reduceNe, Int.reduceLT, Int.reduceLE, Nat.reduceLeDiff, Nat.reduceEqDiff, Nat.reduceSub, Nat.reduceAdd, reduceCtorEq, reduceIte, implies_true, List.reverse_nil, lk49 hl1, lr49_1 hl1, lr49_5 hl1, lr49_6 hl1, lr49_7 hl1, lr49_9 hl1, lr49_10 hl1, lr49_12 hl1, lr49_13 hl1, lr49_14 hl1, lr49_15 hl1, lr49_16 hl1, lr49_18 hl1, lr49_19 hl1, lr49_20 hl1, lr49_23 hl1, lr49_24 hl1, lr49_25 hl1, lr49_26 hl1, lr49_27 hl1, lr49_28 hl1, lr49_29 hl1, lr49_32 hl1, lr49_33 hl1, lr49_34 hl1, lr49_36 hl1, lr49_37 hl1, lk50 hl1, ll50 hl1, lk51 hl1, ll51 hl1, lk52 hl1, ll52 hl1, lk53 hl1, ll53 hl1, lk54 hl1, ll54 hl1, lk55 hl1, ll55 hl1, lk56 hl1, ll56 hl1, lk57 hl1, ll57 hl1, lk58 hl1, ll58 hl1, lk59 hl1, ll59 hl1, lk60 hl1, ll60 hl1, lk61 hl1, ll61 hl1, lk62 hl1, ll62 hl1, lk63 hl1, ll63 hl1, lk64 hl1, ll64 hl1, lk65 hl1, ll65 hl1, lk66 hl1, ll66 hl1, lk67 hl1, ll67 hl1, lk68 hl1, ll68 hl1, lk69 hl1, ll69 hl1, lk70 hl1, ll70 hl1, lk71 hl1, ll71 hl1, lk72 hl1, ll72 hl1, lk73 hl1, ll73 hl1, lk74 hl1, ll74 hl1, lk75 hl1, ll75 hl1]
    refine ⟨fun c => ?_, fun c => ?_⟩
    · refine c_bad hl1 (by omega) (fun w2 hf2 hw2 hw3 => ?_)
      have e3 : z_I w2 49 3 = z_I w1 49 3 := hf2.2 49 3 (by decide) (by decide)
      have e8' : z_I w2 49 8 = z_I w1 49 8 := hf2.2 49 8 (by decide) (by decide)
      simp only [g188_1, g188_4, g188_5, g188_6, g188_8, g188_11, g188_11r, g188_12, g188_15, g188_17, g188_20, g188_20r, g188_21, g188_21r, g188_22, g188_25, g188_26, g188_27, g188_30, g188_30r, g188_31, g188_31r, g188_32, g188_35, g188_36, g188_36r, g188_37, g188_40, g188_41, g188_44, g188_44r, g188_45, g188_45r, g188_46, g188_49, g188_50, g188_51, g188_54, g188_57, g188_58, g188_60, g188_63, g188_63r, g188_64, g188_64r, g188_65, g188_68, g188_69, g188_70, g188_73, g188_73r, g188_74, g188_77, g188_80, g188_80r, g188_81, g188_84, z_kl_i, z_kl_l, z_kl_r, z_kl_n, z_kl_x, z_kl_vr, z_c8_0, z_c8_i, z_c8_l, z_c8_r, z_c8_vr, z_c8_n, z_vr_some, z_vr_none, Option.toList_some, Option.toList_none, List.cons_append, List.nil_append, true_and, and_true, and_self, z_k_sI, z_len_sI, z_R_sI, z_N_sI, z_set_0, z_set_1, z_set_s, eq_self, true_implies, false_implies, not_true_eq_false, not_false_eq_true, ne_eq, true_or, or_true, false_or, or_false, false_and, and_false, Int.reduceNeg, Int.reduceEq, Int.reduceNe, Int.reduceLT, Int.reduceLE, Nat.reduceLeDiff, Nat.reduceEqDiff, Nat.reduceSub, Nat.reduceAdd, reduceCtorEq, reduceIte, implies_true, List.reverse_nil]
      refine k w2 (z_fr_tr hfw1 (z_fr_mo hf2 (by decide) (by decide))) ⟨fun r r0 r1 => by rw [hf2.2 53 r (by decide) (by simp), e53]; exact hb r r0 r1, by omega, by omega, fun q => (hw2 (by rw [e4]; exact q)).trans e4, fun q => ?_⟩
      unfold z_cl
      rw [if_neg hno, if_neg c]
      exact ⟨fun a b q e => z_qlr e, fun e h => by cases h; exact ⟨(hw3 (e4.trans q)).trans e1, by omega⟩⟩
    · have c110 : z_sg T n (z_sk T n (z_I w 49 3)) = 110 := by omega
      intro _
      rw [e1, z_add_eq (by omega) (by omega)]
      have hf2 : z_fr [51, 52, 53] [(49, 3), (49, 4), (49, 8)] w (z_sI w1 49 3 (z_sk T n (z_I w 49 3) + 1)) := z_fr_sF hfw1 (by decide)
      have q3 : z_I (z_sI w1 49 3 (z_sk T n (z_I w 49 3) + 1)) 49 3 = z_sk T n (z_I w 49 3) + 1 := z_I_at rfl
      have q4 : z_I (z_sI w1 49 3 (z_sk T n (z_I w 49 3) + 1)) 49 4 = z_I w 49 4 := (z_I_ne (by decide)).trans e4
      have q8 : z_I (z_sI w1 49 3 (z_sk T n (z_I w 49 3) + 1)) 49 8 = ec := (z_I_ne (by decide)).trans e8
      have q53 : ∀ j, z_I (z_sI w1 49 3 (z_sk T n (z_I w 49 3) + 1)) 53 j = z_I w 53 j := fun j => (z_I_np (by decide)).trans (e53 j)
      refine c_readsName (nl := nl) (z_fr_lay hf2 hl) (z_tp_fr hf2 (by decide) (by decide) ht) (by omega) (by omega) (fun r r0 r1 => by rw [q53]; exact hb r r0 r1) (fun r r0 r1 => by rw [q53]; exact hn r r0 r1) (fun w3 g1 g2 g3 g4 g5 g6 => ?_)
      simp only [g188_1, g188_4, g188_5, g188_6, g188_8, g188_11, g188_11r, g188_12, g188_15, g188_17, g188_20, g188_20r, g188_21, g188_21r, g188_22, g188_25, g188_26, g188_27, g188_30, g188_30r, g188_31, g188_31r, g188_32, g188_35, g188_36, g188_36r, g188_37, g188_40, g188_41, g188_44, g188_44r, g188_45, g188_45r, g188_46, g188_49, g188_50, g188_51, g188_54, g188_57, g188_58, g188_60, g188_63, g188_63r, g188_64, g188_64r, g188_65, g188_68, g188_69, g188_70, g188_73, g188_73r, g188_74, g188_77, g188_80, g188_80r, g188_81, g188_84, z_kl_i, z_kl_l, z_kl_r, z_kl_n, z_kl_x, z_kl_vr, z_c8_0, z_c8_i, z_c8_l, z_c8_r, z_c8_vr, z_c8_n, z_vr_some, z_vr_none, Option.toList_some, Option.toList_none, List.cons_append, List.nil_append, true_and, and_true, and_self, z_k_sI, z_len_sI, z_R_sI, z_N_sI, z_set_0, z_set_1, z_set_s, eq_self, true_implies, false_implies, not_true_eq_false, not_false_eq_true, ne_eq, true_or, or_true, false_or, or_false, false_and, and_false, Int.reduceNeg, Int.reduceEq, Int.reduceNe, Int.reduceLT, Int.reduceLE, Nat.reduceLeDiff, Nat.reduceEqDiff, Nat.reduceSub, Nat.reduceAdd, reduceCtorEq, reduceIte, implies_true, List.reverse_nil]
      rw [q4] at g5 g6
      rw [q3] at g6
      have q8' : z_I w3 49 8 = ec := (g1.2 49 8 (by decide) (by decide)).trans q8
      refine k w3 (z_fr_tr hf2 (z_fr_mo g1 (by decide) (by decide))) ⟨g2, ⟨g3, g4⟩, by omega, g5, fun cw => ?_⟩
      have g7 := g6 cw
      unfold z_cl
      rw [if_neg hno, if_pos c110]
      refine ⟨fun a b q e => ?_, fun e h => ?_⟩
      · cases h2 : z_nam T n nl (z_sk T n (z_I w 49 3) + 1) with
        | inl e' => rw [h2] at e; exact z_qlr e
        | inr r =>
          obtain ⟨r, m, q'⟩ := r
          have g8 := g7.1 r m q' h2
          rw [h2] at e
          simp only [z_bn_r, Sum.inr.injEq, Prod.mk.injEq] at e
          refine ⟨g8.1.trans e.2.2, g8.2.1, q8'.trans e.1, fun j j0 j1 => ?_⟩
          rw [← e.2.1]
          exact g8.2.2 j j0 j1
      · cases h2 : z_nam T n nl (z_sk T n (z_I w 49 3) + 1) with
        | inl e' => rw [h2] at h; cases h; exact g7.2 _ h2
        | inr r => rw [h2] at h; exact z_qrl h
  simp only [g188_0, g188_0r, g188_1, g188_4, g188_5, g188_6, g188_8, g188_11, g188_11r, g188_12, g188_15, g188_17, g188_20, g188_20r, g188_21, g188_21r, g188_22, g188_25, g188_26, g188_27, g188_30, g188_30r, g188_31, g188_31r, g188_32, g188_35, g188_36, g188_36r, g188_37, g188_40, g188_41, g188_44, g188_44r, g188_45, g188_45r, g188_46, g188_49, g188_50, g188_51, g188_54, g188_58, g188_60, g188_63, g188_63r, g188_64, g188_64r, g188_65, g188_68, g188_69, g188_70, g188_73, g188_73r, g188_74, g188_77, g188_80, g188_80r, g188_81, g188_84, z_kl_i, z_kl_l, z_kl_r, z_kl_n, z_kl_x, z_kl_vr, z_c8_0, z_c8_i, z_c8_l, z_c8_r, z_c8_vr, z_c8_n, z_vr_some, z_vr_none, Option.toList_some, Option.toList_none, List.cons_append, List.nil_append, true_and, and_true, and_self, z_k_sI, z_len_sI, z_R_sI, z_N_sI, z_set_0, z_set_1, z_set_s, eq_self, true_implies, false_implies, not_true_eq_false, not_false_eq_true, ne_eq, true_or, or_true, false_or, or_false, false_and, and_false, Int.reduceNeg, Int.reduceEq, Int.reduceNe, Int.reduceLT, Int.reduceLE, Nat.reduceLeDiff, Nat.reduceEqDiff, Nat.reduceSub, Nat.reduceAdd, reduceCtorEq, reduceIte, implies_true, List.reverse_nil, lk49 hl1, lr49_1 hl1, lr49_5 hl1, lr49_6 hl1, lr49_7 hl1, lr49_9 hl1, lr49_10 hl1, lr49_12 hl1, lr49_13 hl1, lr49_14 hl1, lr49_15 hl1, lr49_16 hl1, lr49_18 hl1, lr49_19 hl1, lr49_20 hl1, lr49_23 hl1, lr49_24 hl1, lr49_25 hl1, lr49_26 hl1, lr49_27 hl1, lr49_28 hl1, lr49_29 hl1, lr49_32 hl1, lr49_33 hl1, lr49_34 hl1, lr49_36 hl1, lr49_37 hl1, lk50 hl1, ll50 hl1, lk51 hl1, ll51 hl1, lk52 hl1, ll52 hl1, lk53 hl1, ll53 hl1, lk54 hl1, ll54 hl1, lk55 hl1, ll55 hl1, lk56 hl1, ll56 hl1, lk57 hl1, ll57 hl1, lk58 hl1, ll58 hl1, lk59 hl1, ll59 hl1, lk60 hl1, ll60 hl1, lk61 hl1, ll61 hl1, lk62 hl1, ll62 hl1, lk63 hl1, ll63 hl1, lk64 hl1, ll64 hl1, lk65 hl1, ll65 hl1, lk66 hl1, ll66 hl1, lk67 hl1, ll67 hl1, lk68 hl1, ll68 hl1, lk69 hl1, ll69 hl1, lk70 hl1, ll70 hl1, lk71 hl1, ll71 hl1, lk72 hl1, ll72 hl1, lk73 hl1, ll73 hl1, lk74 hl1, ll74 hl1, lk75 hl1, ll75 hl1]
  refine ⟨fun c => p57 (fun q => c q.1), fun c _ => ⟨fun c2 => p57 (fun q => by omega), fun c2 _ => ?_⟩⟩
  have hyes : z_sg T n (z_sk T n (z_I w 49 3)) = 101 ∧ ec < 24 := ⟨by omega, by omega⟩
  rw [e1, z_add_eq (by omega) (by omega)]
  have hf2 : z_fr [51, 52, 53] [(49, 3), (49, 4), (49, 8)] w (z_sI w1 49 3 (z_sk T n (z_I w 49 3) + 1)) := z_fr_sF hfw1 (by decide)
  have q3 : z_I (z_sI w1 49 3 (z_sk T n (z_I w 49 3) + 1)) 49 3 = z_sk T n (z_I w 49 3) + 1 := z_I_at rfl
  have q4 : z_I (z_sI w1 49 3 (z_sk T n (z_I w 49 3) + 1)) 49 4 = z_I w 49 4 := (z_I_ne (by decide)).trans e4
  have q8 : z_I (z_sI w1 49 3 (z_sk T n (z_I w 49 3) + 1)) 49 8 = ec := (z_I_ne (by decide)).trans e8
  have q53 : ∀ j, z_I (z_sI w1 49 3 (z_sk T n (z_I w 49 3) + 1)) 53 j = z_I w 53 j := fun j => (z_I_np (by decide)).trans (e53 j)
  have hl2 := z_fr_lay hf2 hl
  rw [q8]
  intro _
  rw [z_mul_eq (by omega) (by omega)]
  refine c_five (T := T) (n := n) 51 _ (Or.inl rfl) hl2 (z_tp_fr hf2 (by decide) (by decide) ht) (by omega) (by omega) (by omega) (by rw [ll51 hl2]; omega) (by rw [ll51 hl2]; omega) (lk51 hl2) (fun w3 g1 g2 g3 g4 _ => ?_)
  rw [q3] at g4
  have q8' : z_I w3 49 8 = ec := (g1.2 49 8 (by decide) (by decide)).trans q8
  have q53' : ∀ j, z_I w3 53 j = z_I w 53 j := fun j => (g1.2 53 j (by decide) (by simp)).trans (q53 j)
  simp only [g188_0, g188_0r, g188_1, g188_4, g188_5, g188_6, g188_8, g188_11, g188_11r, g188_12, g188_15, g188_17, g188_20, g188_20r, g188_21, g188_21r, g188_22, g188_25, g188_26, g188_27, g188_30, g188_30r, g188_31, g188_31r, g188_32, g188_35, g188_36, g188_36r, g188_37, g188_40, g188_41, g188_44, g188_44r, g188_45, g188_45r, g188_46, g188_49, g188_50, g188_51, g188_54, g188_58, g188_60, g188_63, g188_63r, g188_64, g188_64r, g188_65, g188_68, g188_69, g188_70, g188_73, g188_73r, g188_74, g188_77, g188_80, g188_80r, g188_81, g188_84, z_kl_i, z_kl_l, z_kl_r, z_kl_n, z_kl_x, z_kl_vr, z_c8_0, z_c8_i, z_c8_l, z_c8_r, z_c8_vr, z_c8_n, z_vr_some, z_vr_none, Option.toList_some, Option.toList_none, List.cons_append, List.nil_append, true_and, and_true, and_self, z_k_sI, z_len_sI, z_R_sI, z_N_sI, z_set_0, z_set_1, z_set_s, eq_self, true_implies, false_implies, not_true_eq_false, not_false_eq_true, ne_eq, true_or, or_true, false_or, or_false, false_and, and_false, Int.reduceNeg, Int.reduceEq, Int.reduceNe, Int.reduceLT, Int.reduceLE, Nat.reduceLeDiff, Nat.reduceEqDiff, Nat.reduceSub, Nat.reduceAdd, reduceCtorEq, reduceIte, implies_true, List.reverse_nil, lk49 g2, lr49_1 g2, lr49_5 g2, lr49_6 g2, lr49_7 g2, lr49_9 g2, lr49_10 g2, lr49_12 g2, lr49_13 g2, lr49_14 g2, lr49_15 g2, lr49_16 g2, lr49_18 g2, lr49_19 g2, lr49_20 g2, lr49_23 g2, lr49_24 g2, lr49_25 g2, lr49_26 g2, lr49_27 g2, lr49_28 g2, lr49_29 g2, lr49_32 g2, lr49_33 g2, lr49_34 g2, lr49_36 g2, lr49_37 g2, lk50 g2, ll50 g2, lk51 g2, ll51 g2, lk52 g2, ll52 g2, lk53 g2, ll53 g2, lk54 g2, ll54 g2, lk55 g2, ll55 g2, lk56 g2, ll56 g2, lk57 g2, ll57 g2, lk58 g2, ll58 g2, lk59 g2, ll59 g2, lk60 g2, ll60 g2, lk61 g2, ll61 g2, lk62 g2, ll62 g2, lk63 g2, ll63 g2, lk64 g2, ll64 g2, lk65 g2, ll65 g2, lk66 g2, ll66 g2, lk67 g2, ll67 g2, lk68 g2, ll68 g2, lk69 g2, ll69 g2, lk70 g2, ll70 g2, lk71 g2, ll71 g2, lk72 g2, ll72 g2, lk73 g2, ll73 g2, lk74 g2, ll74 g2, lk75 g2, ll75 g2]
  intro _
  rw [q8', z_add_eq (by omega) (by omega)]
  unfold z_acc at g4
  rw [q4] at g4
  have r3 : z_I (z_sI w3 49 8 (ec + 1)) 49 3 = z_I w3 49 3 := z_I_ne (by decide)
  have r4 : z_I (z_sI w3 49 8 (ec + 1)) 49 4 = z_I w3 49 4 := z_I_ne (by decide)
  have r8 : z_I (z_sI w3 49 8 (ec + 1)) 49 8 = ec + 1 := z_I_at rfl
  have r53 : ∀ j, z_I (z_sI w3 49 8 (ec + 1)) 53 j = z_I w 53 j := fun j => (z_I_np (by decide)).trans (q53' j)
  refine k _ (z_fr_sF (z_fr_tr hf2 (z_fr_mo g1 (by decide) (by decide))) (by decide)) ⟨fun r r0 r1 => by rw [r53]; exact hb r r0 r1, by rw [r3]; exact ⟨g4.1, g4.2.1⟩, by omega, by rw [r4]; exact g4.2.2.1, fun cw => ?_⟩
  rw [r3, r4, r8]
  have g5 := g4.2.2.2 cw
  unfold z_cl
  rw [if_pos hyes]
  refine ⟨fun a b q e => ?_, fun e h => ?_⟩
  · cases h2 : z_pn T n [63, 63, 63, 63, 9] (z_sk T n (z_I w 49 3) + 1) with
    | inl e' => rw [h2] at e; exact z_qlr e
    | inr r =>
      have g6 := g5.1 r h2
      rw [h2] at e
      simp only [z_bn_r, Sum.inr.injEq, Prod.mk.injEq] at e
      refine ⟨g6.1.trans e.2.2, g6.2, e.1, fun j j0 j1 => ?_⟩
      rw [r53, ← e.2.1]
      exact hn j j0 j1
  · cases h2 : z_pn T n [63, 63, 63, 63, 9] (z_sk T n (z_I w 49 3) + 1) with
    | inl e' => rw [h2] at h; cases h; exact g5.2 _ h2
    | inr r => rw [h2] at h; exact z_qrl h
