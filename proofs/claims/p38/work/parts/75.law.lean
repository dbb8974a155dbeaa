/-! the law: what holds before each call -/
theorem c_lawEdge {d w} {Q : z_P} {B : Int} (hl : z_lay w) (hI : z_IC w B) (a b : Int) (k : ∀ w' z, z_fr (76 :: z_SQ) z_FQ w w' → z_IC w' B → Q (some (z_i z)) w') : z_G (d + 21) (1, 6) 299 0 [z_r 2, z_i a, z_i b, z_r 76, z_x] [] w Q := by
  have k2 := (hl.1 (2, 11, 19) (by decide)).1
  simp only at k2
  simp only [g299_0, g299_0r, g299_1, g299_2, g299_2r, g299_3, g299_4, g299_5, g299_9, g299_10, g299_16 (st := []), g299_17, g299_18 (st := []), z_kl_i, z_kl_l, z_kl_r, z_kl_n, z_kl_x, z_kl_vr, z_c8_0, z_c8_i, z_c8_l, z_c8_r, z_c8_vr, z_c8_n, z_vr_some, z_vr_none, Option.toList_some, Option.toList_none, List.cons_append, List.nil_append, true_and, and_true, and_self, z_k_sI, z_len_sI, z_R_sI, z_N_sI, z_set_0, z_set_1, z_set_s, eq_self, true_implies, false_implies, not_true_eq_false, not_false_eq_true, ne_eq, true_or, or_true, false_or, or_false, false_and, and_false, Int.reduceNeg, Int.reduceEq, Int.reduceNe, Int.reduceLT, Int.reduceLE, Nat.reduceLeDiff, Nat.reduceEqDiff, Nat.reduceSub, Nat.reduceAdd, reduceCtorEq, reduceIte, implies_true, List.reverse_nil, k2]
  (repeat' (first | (with_reducible refine And.intro ?_ ?_) | (with_reducible intro _) | omega))
  refine ⟨fun r w' => (∃ z, r = some (z_i z) ∧ z_fr z_SQ z_FQ w w' ∧ z_IC w' B) ∨ (r = some z_x ∧ w' = w), ?_, ?_, ?_⟩
  · exact c_edgeC hl hI a b (fun w' z h1 h2 => Or.inl ⟨z, rfl, h1, h2⟩) (Or.inr ⟨rfl, rfl⟩)
  · intro r w' hP hr
    rcases hP with ⟨z, rfl, h1, h2⟩ | ⟨rfl, _⟩
    · have hl1 := z_fr_lay h1 hl
      have k76 := hl1.1 (76, 101, 1) (by decide)
      simp only at k76
      simp only [g299_0, g299_0r, g299_1, g299_2, g299_2r, g299_3, g299_4, g299_5, g299_8, g299_9, g299_10, g299_15, g299_16 (st := []), g299_17, g299_18 (st := []), z_kl_i, z_kl_l, z_kl_r, z_kl_n, z_kl_x, z_kl_vr, z_c8_0, z_c8_i, z_c8_l, z_c8_r, z_c8_vr, z_c8_n, z_vr_some, z_vr_none, Option.toList_some, Option.toList_none, List.cons_append, List.nil_append, true_and, and_true, and_self, z_k_sI, z_len_sI, z_R_sI, z_N_sI, z_set_0, z_set_1, z_set_s, eq_self, true_implies, false_implies, not_true_eq_false, not_false_eq_true, ne_eq, true_or, or_true, false_or, or_false, false_and, and_false, Int.reduceNeg, Int.reduceEq, Int.reduceNe, Int.reduceLT, Int.reduceLE, Nat.reduceLeDiff, Nat.reduceEqDiff, Nat.reduceSub, Nat.reduceAdd, reduceCtorEq, reduceIte, implies_true, List.reverse_nil, k76.1, k76.2]
      have h3 : z_fr (76 :: z_SQ) z_FQ w (z_sI w' 76 0 (z_i2l z)) := by
        refine ⟨h1.1, fun p j hp hq => ?_⟩
        rw [z_I_np (fun x => hp (by rw [x]; exact List.mem_cons_self))]
        exact h1.2 p j (fun x => hp (List.mem_cons_of_mem _ x)) hq
      refine k _ _ h3 (z_IC_eq (fun p j hp => z_I_np (fun x => by rw [x] at hp; exact absurd hp (by decide))) (fun q hq => z_I_np (fun x => ?_)) h2)
      have := (by decide : ∀ q ∈ z_qIC, q.1 ≠ 76) q hq
      exact this x
    · exact absurd rfl hr
  · intro w' hP
    rcases hP with ⟨z, hz, _⟩ | ⟨_, rfl⟩
    · cases hz
    · simp only [g299_0, g299_0r, g299_1, g299_2, g299_2r, g299_3, g299_4, g299_5, g299_8, g299_9, g299_10, g299_15, g299_16 (st := []), g299_17, g299_18 (st := []), z_kl_i, z_kl_l, z_kl_r, z_kl_n, z_kl_x, z_kl_vr, z_c8_0, z_c8_i, z_c8_l, z_c8_r, z_c8_vr, z_c8_n, z_vr_some, z_vr_none, Option.toList_some, Option.toList_none, List.cons_append, List.nil_append, true_and, and_true, and_self, z_k_sI, z_len_sI, z_R_sI, z_N_sI, z_set_0, z_set_1, z_set_s, eq_self, true_implies, false_implies, not_true_eq_false, not_false_eq_true, ne_eq, true_or, or_true, false_or, or_false, false_and, and_false, Int.reduceNeg, Int.reduceEq, Int.reduceNe, Int.reduceLT, Int.reduceLE, Nat.reduceLeDiff, Nat.reduceEqDiff, Nat.reduceSub, Nat.reduceAdd, reduceCtorEq, reduceIte, implies_true, List.reverse_nil]
      exact k _ _ z_fr_rf hI
theorem z_IM_e2 {w w' : z_W} (e : ∀ p j, 49 ≤ p → p ≤ 75 → p ≠ 50 → (p, j) ≠ (49, (2 : Int)) → z_I w' p j = z_I w p j) (h2 : 0 ≤ z_I w' 49 2 ∧ z_I w' 49 2 ≤ 480) (hI : z_IM w) : z_IM w' := by
  have e54 : z_I w' 54 = z_I w 54 := funext fun j => e 54 j (by decide) (by decide) (by decide) (by simp)
  have e55 : z_I w' 55 = z_I w 55 := funext fun j => e 55 j (by decide) (by decide) (by decide) (by simp)
  have e56 : z_I w' 56 = z_I w 56 := funext fun j => e 56 j (by decide) (by decide) (by decide) (by simp)
  have e60 : z_I w' 60 = z_I w 60 := funext fun j => e 60 j (by decide) (by decide) (by decide) (by simp)
  have e70 : z_I w' 70 = z_I w 70 := funext fun j => e 70 j (by decide) (by decide) (by decide) (by simp)
  have e75 : z_I w' 75 = z_I w 75 := funext fun j => e 75 j (by decide) (by decide) (by decide) (by simp)
  have c11 := e 49 11 (by decide) (by decide) (by decide) (by decide)
  have c17 := e 49 17 (by decide) (by decide) (by decide) (by decide)
  have c30 := e 49 30 (by decide) (by decide) (by decide) (by decide)
  have c38 := e 49 38 (by decide) (by decide) (by decide) (by decide)
  obtain ⟨a1, a2, a3, a4, a5, a6, a7, _, a9, a10, a11, a12⟩ := hI
  unfold z_IM
  rw [e54, e55, e56, e60, e70, e75, c11, c17, c30, c38]
  exact ⟨a1, a2, a3, a4, a5, a6, a7, h2, a9, a10, a11, a12⟩
/-- before each call of the script -/
def z_LI (L : Int) (w : z_W) (B : Int) : Prop := z_lay w ∧ z_len w 0 = L ∧ z_IM w ∧ z_IT w ∧ z_IC w B ∧ z_IS w ∧ (∀ a, z_I w 4 a = z_I w 50 a) ∧ z_I w 3 1 = z_I w 49 2 ∧ sc_R w
theorem z_LI_mono {L : Int} {w : z_W} {B B' : Int} (h : B ≤ B') (H : z_LI L w B) : z_LI L w B' := by
  obtain ⟨a1, a2, a3, a4, a5, a6⟩ := H
  exact ⟨a1, a2, a3, a4, z_IC_mono h a5, a6⟩
theorem z_LI_gw {L : Int} {w w' : z_W} {B B' : Int} {S : List Nat} {F : List (Nat × Int)} (H : z_LI L w B) (h : z_gw S F w w') (s : ∀ p ∈ S, (p < 49 ∨ p = 76) ∧ p ≠ 2 ∧ p ≠ 3 ∧ p ≠ 4) (f : ∀ q ∈ F, q.1 < 49 ∧ q.1 ≠ 3 ∧ q.1 ≠ 4 ∧ q ≠ (2, 4)) (hB : B' ≤ B + 40) (hI : z_IC w' B') (hS : z_IS w') : z_LI L w' (B + 40) := by
  obtain ⟨a1, a2, a3, a4, a5, a6, a7, a8, a9⟩ := H
  have hN := a1.2.2.2
  have e : ∀ p j, (49 ≤ p ∧ p ≤ 75) ∨ p = 3 ∨ p = 4 ∨ (p = 2 ∧ j = 4) → z_I w' p j = z_I w p j := fun p j c => h.2.2.2 p j (by omega) (fun x => by have := s p x; omega) (fun x => by
    have := f _ x
    simp only at this
    rcases c with c | c | c | ⟨c, c2⟩
    · omega
    · omega
    · omega
    · subst c; subst c2; exact this.2.2.2 rfl)
  refine ⟨z_gw_lay h a1, by rw [(h.2.1 0 (by omega)).2]; exact a2, z_IM_e2 (fun p j p1 p2 _ _ => e p j (Or.inl ⟨p1, p2⟩)) (by rw [e 49 2 (by omega)]; exact a3.2.2.2.2.2.2.2.1) a3, ?_, z_IC_mono hB hI, hS, fun a => by rw [e 4 a (by omega), e 50 a (by omega)]; exact a7 a, by rw [e 3 1 (by omega), e 49 2 (by omega)]; exact a8, sc_R_gw h a1 a6 ⟨fun p hp => by have := s p hp; omega, fun q hq => by have := f q hq; omega⟩ ⟨fun x => by have := s _ x; omega, fun x => by have := s _ x; omega⟩ (fun q hq => by have := f q hq; omega) (e 2 4 (by omega)) (e 49 11 (by omega)) a9⟩
  intro a a0 a1'
  rw [e 49 2 (by omega)] at a1'
  rw [e 50 a (by omega)]
  exact a4 a a0 a1'
theorem z_LI_cf {L : Int} {w w' : z_W} {B B' : Int} {S : List Nat} {F : List (Nat × Int)} (H : z_LI L w B) (h : z_fr S F w w') (s : ∀ p ∈ S, (p < 49 ∨ p = 76) ∧ p ≠ 2 ∧ p ≠ 3 ∧ p ≠ 4) (f : ∀ q ∈ F, q.1 < 49 ∧ q.1 ≠ 3 ∧ q.1 ≠ 4 ∧ q ≠ (2, 4)) (hB : B' ≤ B + 40) (hI : z_IC w' B') : z_LI L w' (B + 40) :=
  z_LI_gw H (z_gw_of h) s f hB hI (z_IS_fr h H.1 ⟨fun p hp => by have := s p hp; omega, fun q hq => by have := f q hq; omega⟩ ⟨fun x => (s 2 x).2.1 rfl, fun x => (f _ x).2.2.2 rfl⟩ H.2.2.2.2.2.1)
theorem z_LI_mdR {L : Int} {w w' : z_W} {B : Int} {S : List Nat} {F : List (Nat × Int)} (H : z_LI L w B) (h : z_fr S F w w') (s : ∀ p ∈ S, 50 < p ∧ p ≤ 75) (f : ∀ q ∈ F, q.1 = 49 ∧ q ≠ (49, 2) ∧ q ≠ (49, 11)) (hI : z_IM w') (hR : sc_R w') : z_LI L w' B := by
  obtain ⟨a1, a2, a3, a4, a5, a6, a7, a8, a9⟩ := H
  have e : ∀ p j, p < 49 ∨ p = 50 ∨ (p = 49 ∧ (j = 2 ∨ j = 11)) → z_I w' p j = z_I w p j := fun p j c => h.2 p j (fun x => by have := s p x; omega) (fun x => by
    have := f _ x
    simp only at this
    rcases c with c | c | ⟨c, c2 | c2⟩
    · omega
    · omega
    · subst c; subst c2; exact this.2.1 rfl
    · subst c; subst c2; exact this.2.2 rfl)
  refine ⟨z_fr_lay h a1, by rw [z_fr_len h]; exact a2, hI, ?_, ?_, ?_, fun a => by rw [e 4 a (by omega), e 50 a (by omega)]; exact a7 a, by rw [e 3 1 (by omega), e 49 2 (by omega)]; exact a8, hR⟩
  · intro a a0 a1'
    rw [e 49 2 (by omega)] at a1'
    rw [e 50 a (by omega)]
    exact a4 a a0 a1'
  · refine z_IC_fr h (fun p hp x => ?_) (fun q hq => ?_) a5
    · have := s p x
      have := (by decide : ∀ p ∈ z_pIC, p ≤ 48) p hp
      omega
    · have h1 := (f q hq).1
      refine ⟨fun x => ?_, fun x => ?_⟩
      · have := (by decide : ∀ p ∈ z_pJC, p ≤ 48) _ x
        omega
      · have := (by decide : ∀ q ∈ z_qIC, q.1 ≤ 48) _ x
        omega
  · exact z_IS_fr h a1 ⟨fun p hp => by have := s p hp; omega, fun q hq => by have := f q hq; omega⟩ ⟨fun x => by have := s 2 x; omega, fun x => by have := f _ x; simp only at this; omega⟩ a6
theorem z_LI_md {L : Int} {w w' : z_W} {B : Int} {S : List Nat} {F : List (Nat × Int)} (H : z_LI L w B) (h : z_fr S F w w') (s : ∀ p ∈ S, 50 < p ∧ p ≤ 75 ∧ p ≠ 54 ∧ p ≠ 55) (f : ∀ q ∈ F, q.1 = 49 ∧ q ≠ (49, 2) ∧ q ≠ (49, 11)) (hI : z_IM w') : z_LI L w' B :=
  z_LI_mdR H h (fun p hp => ⟨(s p hp).1, (s p hp).2.1⟩) f hI (sc_R_gw (z_gw_of h) H.1 H.2.2.2.2.2.1 ⟨fun p hp => by have := s p hp; omega, fun q hq => by have := (f q hq).1; omega⟩ ⟨fun x => by have := s _ x; omega, fun x => by have := s _ x; omega⟩ (fun q hq => by have := (f q hq).1; omega) (h.2 2 4 (fun x => by have := s _ x; omega) (fun x => by have := (f _ x).1; simp only at this; omega)) (h.2 49 11 (fun x => by have := s _ x; omega) (fun x => (f _ x).2.2 rfl)) H.2.2.2.2.2.2.2.2)
theorem z_LI_sc {L : Int} {w w' : z_W} {B : Int} (H : z_LI L w B) (h : z_fr z_SC z_FC w w') : z_LI L w' B := z_LI_md H h (by decide) (by decide) (z_IM_q h H.2.2.1 (by decide) (by decide) (by decide))
/-- before each call: what is held alike, too -/
def z_LX (L : Int) (w : z_W) (B : Int) : Prop := z_LI L w B ∧ ∃ m S h V N Lg, x_A w m S h V N Lg
theorem z_LX_mono {L : Int} {w : z_W} {B B' : Int} (h : B ≤ B') (H : z_LX L w B) : z_LX L w B' := ⟨z_LI_mono h H.1, H.2⟩
theorem z_LX_q6 {L : Int} {w w' : z_W} {B : Int} (H : z_LX L w B) (h : z_fr (76 :: z_SQ) z_FQ w w') (hI : z_IC w' B) : z_LX L w' (B + 40) := by
  obtain ⟨H, m, S, h', V, N, Lg, X⟩ := H
  exact ⟨z_LI_cf H h (by decide) (by decide) (by omega) hI, m, S, h', V, N, Lg, x_A_e (xc_q h) (xm_c h (by decide) (by decide)) X⟩
theorem z_LX_q {L : Int} {w w' : z_W} {B : Int} (H : z_LX L w B) (h : z_fr z_SQ z_FQ w w') (hI : z_IC w' B) : z_LX L w' (B + 40) := z_LX_q6 H (z_fr_mo h (by decide) (by decide)) hI
theorem z_LX_r {L : Int} {w w' : z_W} {B : Int} (H : z_LX L w B) (h : z_fr (56 :: z_SC) z_FC w w') (hI : z_IM w') (h56 : ∀ j, 0 ≤ j → z_I w' 56 j = z_I w 56 j) : z_LX L w' B := by
  obtain ⟨H, m, S, h', V, N, Lg, X⟩ := H
  exact ⟨z_LI_md H h (by decide) (by decide) hI, m, S, h', V, N, Lg, x_A_e (xc_m h (by decide) (by decide)) (xm_s h h56) X⟩
theorem z_LX_s {L : Int} {w w' : z_W} {B : Int} (H : z_LX L w B) (h : z_fr z_SC z_FC w w') : z_LX L w' B := by
  obtain ⟨H, m, S, h', V, N, Lg, X⟩ := H
  exact ⟨z_LI_sc H h, m, S, h', V, N, Lg, x_A_e (xc_m h (by decide) (by decide)) (xm_sc h) X⟩
theorem x_A_t {w w' : z_W} {m : Int} {S : pu_S} {h : Int} {V : pu_V} {N : Int} {L : Int → Int → Int} (hf : z_fr [4, 6, 7, 9, 50, 51, 52, 53, 54, 55] [(3, 1), (5, 1), (5, 5), (5, 6), (8, 1), (49, 2), (49, 3), (49, 4), (49, 8)] w w') (X : x_A w m S h V N L) : x_A w' m S h V N L :=
  x_A_e (fun p j hk => hf.2 p j (by simp only [List.mem_cons, List.not_mem_nil, or_false]; omega) (by simp only [List.mem_cons, List.not_mem_nil, or_false, Prod.mk.injEq]; omega)) (fun p j _ hk => hf.2 p j (by simp only [List.mem_cons, List.not_mem_nil, or_false]; omega) (by simp only [List.mem_cons, List.not_mem_nil, or_false, Prod.mk.injEq]; omega)) X

theorem c_op4 {d : Nat} {u : Nat × Nat} {w : z_W} {Q : z_P} {L B i : Int} {a5 a6 : z_V} (HX : z_LX L w B) (hB : B ≤ 200000) (i0 : 0 ≤ i) (i6 : i + 6 < L) (hL : L ≤ 3584) (hu : 2 ≤ u.1 ∧ 74 ≤ u.2) (k : ∀ u' w' a5 a6, u.1 ≤ u'.1 + 2 → u.2 ≤ u'.2 + 74 → z_LX L w' (B + 40) → z_G (d + 25) u' 300 1586 [z_r 0, z_r 2, z_r 49, z_r 76, z_i i, a5, a6] [] w' Q) : z_G (d + 25) u 300 352 [z_r 0, z_r 2, z_r 49, z_r 76, z_i i, a5, a6] [] w Q := by
  have H := HX.1
  have ha1 : z_add i 1 = i + 1 := z_add_eq (by omega) (by omega)
  have ha2 : z_add i 2 = i + 2 := z_add_eq (by omega) (by omega)
  have ha3 : z_add i 3 = i + 3 := z_add_eq (by omega) (by omega)
  have ha4 : z_add i 4 = i + 4 := z_add_eq (by omega) (by omega)
  have ha5 : z_add i 5 = i + 5 := z_add_eq (by omega) (by omega)
  have ha6 : z_add i 6 = i + 6 := z_add_eq (by omega) (by omega)
  have hb1 : 0 ≤ i + 1 := by omega
  have hb2 : 0 ≤ i + 2 := by omega
  have hb3 : 0 ≤ i + 3 := by omega
  have hb4 : 0 ≤ i + 4 := by omega
  have hb5 : 0 ≤ i + 5 := by omega
  have hb6 : 0 ≤ i + 6 := by omega
  have hc1 : i + 1 < L := by omega
  have hc2 : i + 2 < L := by omega
  have hc3 : i + 3 < L := by omega
  have hc4 : i + 4 < L := by omega
  have hc5 : i + 5 < L := by omega
  have hc6 : i + 6 < L := by omega
  have hN := H.1.2.2.2
  have hl := H.1
  have kz := hl.2.2.1
  have kl := H.2.1
  have kc := (hl.1 (2, 11, 19) (by decide)).1
  have km := (hl.1 (49, 12, 39) (by decide)).1
  simp only at kc km
  simp only [g300_352, g300_352r, g300_353, g300_353r, g300_354, g300_356, g300_357, g300_358, g300_359, z_kl_i, z_kl_l, z_kl_r, z_kl_n, z_kl_x, z_kl_vr, z_c8_0, z_c8_i, z_c8_l, z_c8_r, z_c8_vr, z_c8_n, z_vr_some, z_vr_none, Option.toList_some, Option.toList_none, List.cons_append, List.nil_append, true_and, and_true, and_self, z_k_sI, z_len_sI, z_R_sI, z_N_sI, z_set_0, z_set_1, z_set_s, eq_self, true_implies, false_implies, not_true_eq_false, not_false_eq_true, ne_eq, true_or, or_true, false_or, or_false, false_and, and_false, Int.reduceNeg, Int.reduceEq, Int.reduceNe, Int.reduceLT, Int.reduceLE, Nat.reduceLeDiff, Nat.reduceEqDiff, Nat.reduceSub, Nat.reduceAdd, reduceCtorEq, reduceIte, implies_true, List.reverse_nil, ha1, hb1, hc1, ha2, hb2, hc2, ha3, hb3, hc3, ha4, hb4, hc4, ha5, hb5, hc5, ha6, hb6, hc6, kz, kl, kc, km]
  (repeat' (first | (with_reducible refine And.intro ?_ ?_) | (with_reducible intro _) | omega))
  have HX0 := HX
  obtain ⟨_, m, S, h, V, N, Lg, X⟩ := HX
  refine ex_ruleC hl X.1.1 X.2.2.1.1 _ (fun r => z_I w 60 r) X.2.2.2.1 ?_
  have HX1 := z_LX_mono (show B ≤ B + 40 by omega) HX0
  have H1 := HX1.1
  have hl1 := H1.1
  have kz1 := hl1.2.2.1
  have kl1 := H1.2.1
  have kc1 := (hl1.1 (2, 11, 19) (by decide)).1
  have km1 := (hl1.1 (49, 12, 39) (by decide)).1
  simp only at kc1 km1
  simp only [g300_362, g300_362r, g300_363, g300_363r, g300_364, g300_364r, g300_365, g300_367, g300_368, g300_369, g300_370, z_kl_i, z_kl_l, z_kl_r, z_kl_n, z_kl_x, z_kl_vr, z_c8_0, z_c8_i, z_c8_l, z_c8_r, z_c8_vr, z_c8_n, z_vr_some, z_vr_none, Option.toList_some, Option.toList_none, List.cons_append, List.nil_append, true_and, and_true, and_self, z_k_sI, z_len_sI, z_R_sI, z_N_sI, z_set_0, z_set_1, z_set_s, eq_self, true_implies, false_implies, not_true_eq_false, not_false_eq_true, ne_eq, true_or, or_true, false_or, or_false, false_and, and_false, Int.reduceNeg, Int.reduceEq, Int.reduceNe, Int.reduceLT, Int.reduceLE, Nat.reduceLeDiff, Nat.reduceEqDiff, Nat.reduceSub, Nat.reduceAdd, reduceCtorEq, reduceIte, implies_true, List.reverse_nil, ha1, hb1, hc1, ha2, hb2, hc2, ha3, hb3, hc3, ha4, hb4, hc4, ha5, hb5, hc5, ha6, hb6, hc6, kz1, kl1, kc1, km1]
  (repeat' (first | (with_reducible refine And.intro ?_ ?_) | (with_reducible intro _) | omega))
  refine ex_rule hl1 X.2.1.1 X.2.2.1.1 _ (fun r => z_I w 60 r) (fun _ _ _ => rfl) (fun w2 h2 => ?_)
  have HX2 := z_LX_s HX1 h2
  simp only [g300_373, g300_373r, g300_374, z_kl_i, z_kl_l, z_kl_r, z_kl_n, z_kl_x, z_kl_vr, z_c8_0, z_c8_i, z_c8_l, z_c8_r, z_c8_vr, z_c8_n, z_vr_some, z_vr_none, Option.toList_some, Option.toList_none, List.cons_append, List.nil_append, true_and, and_true, and_self, z_k_sI, z_len_sI, z_R_sI, z_N_sI, z_set_0, z_set_1, z_set_s, eq_self, true_implies, false_implies, not_true_eq_false, not_false_eq_true, ne_eq, true_or, or_true, false_or, or_false, false_and, and_false, Int.reduceNeg, Int.reduceEq, Int.reduceNe, Int.reduceLT, Int.reduceLE, Nat.reduceLeDiff, Nat.reduceEqDiff, Nat.reduceSub, Nat.reduceAdd, reduceCtorEq, reduceIte, implies_true, List.reverse_nil]
  exact k _ _ _ _ (by first | omega | (simp only; omega)) (by first | omega | (simp only; omega)) HX2
theorem c_op5 {d : Nat} {u : Nat × Nat} {w : z_W} {Q : z_P} {L B i : Int} {a5 a6 : z_V} (HX : z_LX L w B) (hB : B ≤ 200000) (i0 : 0 ≤ i) (i6 : i + 6 < L) (hL : L ≤ 3584) (hu : 2 ≤ u.1 ∧ 74 ≤ u.2) (k : ∀ u' w' a5 a6, u.1 ≤ u'.1 + 2 → u.2 ≤ u'.2 + 74 → z_LX L w' (B + 40) → z_G (d + 25) u' 300 1586 [z_r 0, z_r 2, z_r 49, z_r 76, z_i i, a5, a6] [] w' Q) : z_G (d + 25) u 300 377 [z_r 0, z_r 2, z_r 49, z_r 76, z_i i, a5, a6] [] w Q := by
  have H := HX.1
  have ha1 : z_add i 1 = i + 1 := z_add_eq (by omega) (by omega)
  have ha2 : z_add i 2 = i + 2 := z_add_eq (by omega) (by omega)
  have ha3 : z_add i 3 = i + 3 := z_add_eq (by omega) (by omega)
  have ha4 : z_add i 4 = i + 4 := z_add_eq (by omega) (by omega)
  have ha5 : z_add i 5 = i + 5 := z_add_eq (by omega) (by omega)
  have ha6 : z_add i 6 = i + 6 := z_add_eq (by omega) (by omega)
  have hb1 : 0 ≤ i + 1 := by omega
  have hb2 : 0 ≤ i + 2 := by omega
  have hb3 : 0 ≤ i + 3 := by omega
  have hb4 : 0 ≤ i + 4 := by omega
  have hb5 : 0 ≤ i + 5 := by omega
  have hb6 : 0 ≤ i + 6 := by omega
  have hc1 : i + 1 < L := by omega
  have hc2 : i + 2 < L := by omega
  have hc3 : i + 3 < L := by omega
  have hc4 : i + 4 < L := by omega
  have hc5 : i + 5 < L := by omega
  have hc6 : i + 6 < L := by omega
  have hN := H.1.2.2.2
  have hl := H.1
  have kz := hl.2.2.1
  have kl := H.2.1
  have kc := (hl.1 (2, 11, 19) (by decide)).1
  have km := (hl.1 (49, 12, 39) (by decide)).1
  simp only at kc km
  simp only [g300_377, g300_377r, g300_378, g300_378r, g300_379, g300_381, g300_382, g300_383, g300_384, g300_384r, g300_385, g300_387, g300_388, g300_389, g300_390, g300_390r, g300_391, z_kl_i, z_kl_l, z_kl_r, z_kl_n, z_kl_x, z_kl_vr, z_c8_0, z_c8_i, z_c8_l, z_c8_r, z_c8_vr, z_c8_n, z_vr_some, z_vr_none, Option.toList_some, Option.toList_none, List.cons_append, List.nil_append, true_and, and_true, and_self, z_k_sI, z_len_sI, z_R_sI, z_N_sI, z_set_0, z_set_1, z_set_s, eq_self, true_implies, false_implies, not_true_eq_false, not_false_eq_true, ne_eq, true_or, or_true, false_or, or_false, false_and, and_false, Int.reduceNeg, Int.reduceEq, Int.reduceNe, Int.reduceLT, Int.reduceLE, Nat.reduceLeDiff, Nat.reduceEqDiff, Nat.reduceSub, Nat.reduceAdd, reduceCtorEq, reduceIte, implies_true, List.reverse_nil, ha1, hb1, hc1, ha2, hb2, hc2, ha3, hb3, hc3, ha4, hb4, hc4, ha5, hb5, hc5, ha6, hb6, hc6, kz, kl, kc, km]
  (repeat' (first | (with_reducible refine And.intro ?_ ?_) | (with_reducible intro _) | omega))
  refine c_lawEdge hl H.2.2.2.2.1 _ _ (fun w1 z1 h1 q1 => ?_)
  have HX1 := z_LX_q6 HX h1 q1
  have H1 := HX1.1
  have hl1 := H1.1
  have kz1 := hl1.2.2.1
  have kl1 := H1.2.1
  have kc1 := (hl1.1 (2, 11, 19) (by decide)).1
  have km1 := (hl1.1 (49, 12, 39) (by decide)).1
  simp only at kc1 km1
  simp only [g300_394, g300_396, g300_396r, g300_397, g300_397r, g300_398, g300_400, g300_401, g300_402, g300_403, g300_403r, g300_404, g300_406, g300_407, g300_408, g300_409, z_kl_i, z_kl_l, z_kl_r, z_kl_n, z_kl_x, z_kl_vr, z_c8_0, z_c8_i, z_c8_l, z_c8_r, z_c8_vr, z_c8_n, z_vr_some, z_vr_none, Option.toList_some, Option.toList_none, List.cons_append, List.nil_append, true_and, and_true, and_self, z_k_sI, z_len_sI, z_R_sI, z_N_sI, z_set_0, z_set_1, z_set_s, eq_self, true_implies, false_implies, not_true_eq_false, not_false_eq_true, ne_eq, true_or, or_true, false_or, or_false, false_and, and_false, Int.reduceNeg, Int.reduceEq, Int.reduceNe, Int.reduceLT, Int.reduceLE, Nat.reduceLeDiff, Nat.reduceEqDiff, Nat.reduceSub, Nat.reduceAdd, reduceCtorEq, reduceIte, implies_true, List.reverse_nil, ha1, hb1, hc1, ha2, hb2, hc2, ha3, hb3, hc3, ha4, hb4, hc4, ha5, hb5, hc5, ha6, hb6, hc6, kz1, kl1, kc1, km1]
  (repeat' (first | (with_reducible refine And.intro ?_ ?_) | (with_reducible intro _) | omega))
  refine c_edge hl1 H1.2.2.1 _ _ (fun w2 z2 h2 => ?_)
  have HX2 := z_LX_s HX1 h2
  simp only [g300_412, g300_414, z_kl_i, z_kl_l, z_kl_r, z_kl_n, z_kl_x, z_kl_vr, z_c8_0, z_c8_i, z_c8_l, z_c8_r, z_c8_vr, z_c8_n, z_vr_some, z_vr_none, Option.toList_some, Option.toList_none, List.cons_append, List.nil_append, true_and, and_true, and_self, z_k_sI, z_len_sI, z_R_sI, z_N_sI, z_set_0, z_set_1, z_set_s, eq_self, true_implies, false_implies, not_true_eq_false, not_false_eq_true, ne_eq, true_or, or_true, false_or, or_false, false_and, and_false, Int.reduceNeg, Int.reduceEq, Int.reduceNe, Int.reduceLT, Int.reduceLE, Nat.reduceLeDiff, Nat.reduceEqDiff, Nat.reduceSub, Nat.reduceAdd, reduceCtorEq, reduceIte, implies_true, List.reverse_nil]
  exact k _ _ _ _ (by first | omega | (simp only; omega)) (by first | omega | (simp only; omega)) HX2
theorem c_op6 {d : Nat} {u : Nat × Nat} {w : z_W} {Q : z_P} {L B i : Int} {a5 a6 : z_V} (HX : z_LX L w B) (hB : B ≤ 200000) (i0 : 0 ≤ i) (i6 : i + 6 < L) (hL : L ≤ 3584) (hu : 2 ≤ u.1 ∧ 74 ≤ u.2) (k : ∀ u' w' a5 a6, u.1 ≤ u'.1 + 2 → u.2 ≤ u'.2 + 74 → z_LX L w' (B + 40) → z_G (d + 25) u' 300 1586 [z_r 0, z_r 2, z_r 49, z_r 76, z_i i, a5, a6] [] w' Q) : z_G (d + 25) u 300 417 [z_r 0, z_r 2, z_r 49, z_r 76, z_i i, a5, a6] [] w Q := by
  have H := HX.1
  have ha1 : z_add i 1 = i + 1 := z_add_eq (by omega) (by omega)
  have ha2 : z_add i 2 = i + 2 := z_add_eq (by omega) (by omega)
  have ha3 : z_add i 3 = i + 3 := z_add_eq (by omega) (by omega)
  have ha4 : z_add i 4 = i + 4 := z_add_eq (by omega) (by omega)
  have ha5 : z_add i 5 = i + 5 := z_add_eq (by omega) (by omega)
  have ha6 : z_add i 6 = i + 6 := z_add_eq (by omega) (by omega)
  have hb1 : 0 ≤ i + 1 := by omega
  have hb2 : 0 ≤ i + 2 := by omega
  have hb3 : 0 ≤ i + 3 := by omega
  have hb4 : 0 ≤ i + 4 := by omega
  have hb5 : 0 ≤ i + 5 := by omega
  have hb6 : 0 ≤ i + 6 := by omega
  have hc1 : i + 1 < L := by omega
  have hc2 : i + 2 < L := by omega
  have hc3 : i + 3 < L := by omega
  have hc4 : i + 4 < L := by omega
  have hc5 : i + 5 < L := by omega
  have hc6 : i + 6 < L := by omega
  have hN := H.1.2.2.2
  have hl := H.1
  have kz := hl.2.2.1
  have kl := H.2.1
  have kc := (hl.1 (2, 11, 19) (by decide)).1
  have km := (hl.1 (49, 12, 39) (by decide)).1
  simp only at kc km
  simp only [g300_417, g300_417r, g300_418, g300_418r, g300_419, g300_421, g300_422, g300_423, g300_424, g300_424r, g300_425, g300_427, g300_428, g300_429, g300_430, z_kl_i, z_kl_l, z_kl_r, z_kl_n, z_kl_x, z_kl_vr, z_c8_0, z_c8_i, z_c8_l, z_c8_r, z_c8_vr, z_c8_n, z_vr_some, z_vr_none, Option.toList_some, Option.toList_none, List.cons_append, List.nil_append, true_and, and_true, and_self, z_k_sI, z_len_sI, z_R_sI, z_N_sI, z_set_0, z_set_1, z_set_s, eq_self, true_implies, false_implies, not_true_eq_false, not_false_eq_true, ne_eq, true_or, or_true, false_or, or_false, false_and, and_false, Int.reduceNeg, Int.reduceEq, Int.reduceNe, Int.reduceLT, Int.reduceLE, Nat.reduceLeDiff, Nat.reduceEqDiff, Nat.reduceSub, Nat.reduceAdd, reduceCtorEq, reduceIte, implies_true, List.reverse_nil, ha1, hb1, hc1, ha2, hb2, hc2, ha3, hb3, hc3, ha4, hb4, hc4, ha5, hb5, hc5, ha6, hb6, hc6, kz, kl, kc, km]
  (repeat' (first | (with_reducible refine And.intro ?_ ?_) | (with_reducible intro _) | omega))
  have HX0 := HX
  obtain ⟨_, m, S, h, V, N, Lg, X⟩ := HX
  refine ex_slabQ hl H.2.2.2.2.1 X.1.1 X.2.2.1.1 _ _ (fun w1 h1 q1 => ?_)
  have HX1 := z_LX_q HX0 h1 q1
  have H1 := HX1.1
  have e0 : ∀ j, z_I w1 0 j = z_I w 0 j := fun j => h1.2 0 j (by decide) (by simp)
  have M1 := st_M_e (xm_c h1 (by decide) (by decide)) X.2.2.1.1.2.1.1 X.2.1.1
  have hl1 := H1.1
  have kz1 := hl1.2.2.1
  have kl1 := H1.2.1
  have kc1 := (hl1.1 (2, 11, 19) (by decide)).1
  have km1 := (hl1.1 (49, 12, 39) (by decide)).1
  simp only at kc1 km1
  simp only [g300_433, g300_433r, g300_434, g300_434r, g300_435, g300_435r, g300_436, g300_438, g300_439, g300_440, g300_441, g300_441r, g300_442, g300_444, g300_445, g300_446, g300_447, z_kl_i, z_kl_l, z_kl_r, z_kl_n, z_kl_x, z_kl_vr, z_c8_0, z_c8_i, z_c8_l, z_c8_r, z_c8_vr, z_c8_n, z_vr_some, z_vr_none, Option.toList_some, Option.toList_none, List.cons_append, List.nil_append, true_and, and_true, and_self, z_k_sI, z_len_sI, z_R_sI, z_N_sI, z_set_0, z_set_1, z_set_s, eq_self, true_implies, false_implies, not_true_eq_false, not_false_eq_true, ne_eq, true_or, or_true, false_or, or_false, false_and, and_false, Int.reduceNeg, Int.reduceEq, Int.reduceNe, Int.reduceLT, Int.reduceLE, Nat.reduceLeDiff, Nat.reduceEqDiff, Nat.reduceSub, Nat.reduceAdd, reduceCtorEq, reduceIte, implies_true, List.reverse_nil, ha1, hb1, hc1, ha2, hb2, hc2, ha3, hb3, hc3, ha4, hb4, hc4, ha5, hb5, hc5, ha6, hb6, hc6, kz1, kl1, kc1, km1, e0]
  (repeat' (first | (with_reducible refine And.intro ?_ ?_) | (with_reducible intro _) | omega))
  refine ex_slab hl1 M1 X.2.2.1.1 _ _ (fun w2 h2 => ?_)
  have HX2 := z_LX_s HX1 h2
  simp only [g300_450, g300_450r, g300_451, z_kl_i, z_kl_l, z_kl_r, z_kl_n, z_kl_x, z_kl_vr, z_c8_0, z_c8_i, z_c8_l, z_c8_r, z_c8_vr, z_c8_n, z_vr_some, z_vr_none, Option.toList_some, Option.toList_none, List.cons_append, List.nil_append, true_and, and_true, and_self, z_k_sI, z_len_sI, z_R_sI, z_N_sI, z_set_0, z_set_1, z_set_s, eq_self, true_implies, false_implies, not_true_eq_false, not_false_eq_true, ne_eq, true_or, or_true, false_or, or_false, false_and, and_false, Int.reduceNeg, Int.reduceEq, Int.reduceNe, Int.reduceLT, Int.reduceLE, Nat.reduceLeDiff, Nat.reduceEqDiff, Nat.reduceSub, Nat.reduceAdd, reduceCtorEq, reduceIte, implies_true, List.reverse_nil]
  exact k _ _ _ _ (by first | omega | (simp only; omega)) (by first | omega | (simp only; omega)) HX2
theorem c_op7 {d : Nat} {u : Nat × Nat} {w : z_W} {Q : z_P} {L B i : Int} {a5 a6 : z_V} (HX : z_LX L w B) (hB : B ≤ 200000) (i0 : 0 ≤ i) (i6 : i + 6 < L) (hL : L ≤ 3584) (hu : 2 ≤ u.1 ∧ 74 ≤ u.2) (k : ∀ u' w' a5 a6, u.1 ≤ u'.1 + 2 → u.2 ≤ u'.2 + 74 → z_LX L w' (B + 40) → z_G (d + 25) u' 300 1586 [z_r 0, z_r 2, z_r 49, z_r 76, z_i i, a5, a6] [] w' Q) : z_G (d + 25) u 300 454 [z_r 0, z_r 2, z_r 49, z_r 76, z_i i, a5, a6] [] w Q := by
  have H := HX.1
  have ha1 : z_add i 1 = i + 1 := z_add_eq (by omega) (by omega)
  have ha2 : z_add i 2 = i + 2 := z_add_eq (by omega) (by omega)
  have ha3 : z_add i 3 = i + 3 := z_add_eq (by omega) (by omega)
  have ha4 : z_add i 4 = i + 4 := z_add_eq (by omega) (by omega)
  have ha5 : z_add i 5 = i + 5 := z_add_eq (by omega) (by omega)
  have ha6 : z_add i 6 = i + 6 := z_add_eq (by omega) (by omega)
  have hb1 : 0 ≤ i + 1 := by omega
  have hb2 : 0 ≤ i + 2 := by omega
  have hb3 : 0 ≤ i + 3 := by omega
  have hb4 : 0 ≤ i + 4 := by omega
  have hb5 : 0 ≤ i + 5 := by omega
  have hb6 : 0 ≤ i + 6 := by omega
  have hc1 : i + 1 < L := by omega
  have hc2 : i + 2 < L := by omega
  have hc3 : i + 3 < L := by omega
  have hc4 : i + 4 < L := by omega
  have hc5 : i + 5 < L := by omega
  have hc6 : i + 6 < L := by omega
  have hN := H.1.2.2.2
  have hl := H.1
  have kz := hl.2.2.1
  have kl := H.2.1
  have kc := (hl.1 (2, 11, 19) (by decide)).1
  have km := (hl.1 (49, 12, 39) (by decide)).1
  simp only at kc km
  simp only [g300_454, g300_454r, g300_455, g300_455r, g300_456, g300_458, g300_459, g300_460, g300_461, g300_461r, g300_462, g300_464, g300_465, g300_466, g300_467, z_kl_i, z_kl_l, z_kl_r, z_kl_n, z_kl_x, z_kl_vr, z_c8_0, z_c8_i, z_c8_l, z_c8_r, z_c8_vr, z_c8_n, z_vr_some, z_vr_none, Option.toList_some, Option.toList_none, List.cons_append, List.nil_append, true_and, and_true, and_self, z_k_sI, z_len_sI, z_R_sI, z_N_sI, z_set_0, z_set_1, z_set_s, eq_self, true_implies, false_implies, not_true_eq_false, not_false_eq_true, ne_eq, true_or, or_true, false_or, or_false, false_and, and_false, Int.reduceNeg, Int.reduceEq, Int.reduceNe, Int.reduceLT, Int.reduceLE, Nat.reduceLeDiff, Nat.reduceEqDiff, Nat.reduceSub, Nat.reduceAdd, reduceCtorEq, reduceIte, implies_true, List.reverse_nil, ha1, hb1, hc1, ha2, hb2, hc2, ha3, hb3, hc3, ha4, hb4, hc4, ha5, hb5, hc5, ha6, hb6, hc6, kz, kl, kc, km]
  (repeat' (first | (with_reducible refine And.intro ?_ ?_) | (with_reducible intro _) | omega))
  have HX0 := HX
  obtain ⟨_, m, S, h, V, N, Lg, X⟩ := HX
  refine ex_listQ hl H.2.2.2.2.1 X.1.1 X.2.2.1.1 _ _ (fun w1 h1 q1 => ?_)
  have HX1 := z_LX_q HX0 h1 q1
  have H1 := HX1.1
  have e0 : ∀ j, z_I w1 0 j = z_I w 0 j := fun j => h1.2 0 j (by decide) (by simp)
  have M1 := st_M_e (xm_c h1 (by decide) (by decide)) X.2.2.1.1.2.1.1 X.2.1.1
  have hl1 := H1.1
  have kz1 := hl1.2.2.1
  have kl1 := H1.2.1
  have kc1 := (hl1.1 (2, 11, 19) (by decide)).1
  have km1 := (hl1.1 (49, 12, 39) (by decide)).1
  simp only at kc1 km1
  simp only [g300_470, g300_470r, g300_471, g300_471r, g300_472, g300_472r, g300_473, g300_475, g300_476, g300_477, g300_478, g300_478r, g300_479, g300_481, g300_482, g300_483, g300_484, z_kl_i, z_kl_l, z_kl_r, z_kl_n, z_kl_x, z_kl_vr, z_c8_0, z_c8_i, z_c8_l, z_c8_r, z_c8_vr, z_c8_n, z_vr_some, z_vr_none, Option.toList_some, Option.toList_none, List.cons_append, List.nil_append, true_and, and_true, and_self, z_k_sI, z_len_sI, z_R_sI, z_N_sI, z_set_0, z_set_1, z_set_s, eq_self, true_implies, false_implies, not_true_eq_false, not_false_eq_true, ne_eq, true_or, or_true, false_or, or_false, false_and, and_false, Int.reduceNeg, Int.reduceEq, Int.reduceNe, Int.reduceLT, Int.reduceLE, Nat.reduceLeDiff, Nat.reduceEqDiff, Nat.reduceSub, Nat.reduceAdd, reduceCtorEq, reduceIte, implies_true, List.reverse_nil, ha1, hb1, hc1, ha2, hb2, hc2, ha3, hb3, hc3, ha4, hb4, hc4, ha5, hb5, hc5, ha6, hb6, hc6, kz1, kl1, kc1, km1, e0]
  (repeat' (first | (with_reducible refine And.intro ?_ ?_) | (with_reducible intro _) | omega))
  refine ex_list hl1 M1 X.2.2.1.1 _ _ (fun w2 h2 => ?_)
  have HX2 := z_LX_s HX1 h2
  simp only [g300_487, g300_487r, g300_488, z_kl_i, z_kl_l, z_kl_r, z_kl_n, z_kl_x, z_kl_vr, z_c8_0, z_c8_i, z_c8_l, z_c8_r, z_c8_vr, z_c8_n, z_vr_some, z_vr_none, Option.toList_some, Option.toList_none, List.cons_append, List.nil_append, true_and, and_true, and_self, z_k_sI, z_len_sI, z_R_sI, z_N_sI, z_set_0, z_set_1, z_set_s, eq_self, true_implies, false_implies, not_true_eq_false, not_false_eq_true, ne_eq, true_or, or_true, false_or, or_false, false_and, and_false, Int.reduceNeg, Int.reduceEq, Int.reduceNe, Int.reduceLT, Int.reduceLE, Nat.reduceLeDiff, Nat.reduceEqDiff, Nat.reduceSub, Nat.reduceAdd, reduceCtorEq, reduceIte, implies_true, List.reverse_nil]
  exact k _ _ _ _ (by first | omega | (simp only; omega)) (by first | omega | (simp only; omega)) HX2
theorem c_op8 {d : Nat} {u : Nat × Nat} {w : z_W} {Q : z_P} {L B i : Int} {a5 a6 : z_V} (HX : z_LX L w B) (hB : B ≤ 200000) (i0 : 0 ≤ i) (i6 : i + 6 < L) (hL : L ≤ 3584) (hu : 2 ≤ u.1 ∧ 74 ≤ u.2) (k : ∀ u' w' a5 a6, u.1 ≤ u'.1 + 2 → u.2 ≤ u'.2 + 74 → z_LX L w' (B + 40) → z_G (d + 25) u' 300 1586 [z_r 0, z_r 2, z_r 49, z_r 76, z_i i, a5, a6] [] w' Q) : z_G (d + 25) u 300 491 [z_r 0, z_r 2, z_r 49, z_r 76, z_i i, a5, a6] [] w Q := by
  have H := HX.1
  have ha1 : z_add i 1 = i + 1 := z_add_eq (by omega) (by omega)
  have ha2 : z_add i 2 = i + 2 := z_add_eq (by omega) (by omega)
  have ha3 : z_add i 3 = i + 3 := z_add_eq (by omega) (by omega)
  have ha4 : z_add i 4 = i + 4 := z_add_eq (by omega) (by omega)
  have ha5 : z_add i 5 = i + 5 := z_add_eq (by omega) (by omega)
  have ha6 : z_add i 6 = i + 6 := z_add_eq (by omega) (by omega)
  have hb1 : 0 ≤ i + 1 := by omega
  have hb2 : 0 ≤ i + 2 := by omega
  have hb3 : 0 ≤ i + 3 := by omega
  have hb4 : 0 ≤ i + 4 := by omega
  have hb5 : 0 ≤ i + 5 := by omega
  have hb6 : 0 ≤ i + 6 := by omega
  have hc1 : i + 1 < L := by omega
  have hc2 : i + 2 < L := by omega
  have hc3 : i + 3 < L := by omega
  have hc4 : i + 4 < L := by omega
  have hc5 : i + 5 < L := by omega
  have hc6 : i + 6 < L := by omega
  have hN := H.1.2.2.2
  have hl := H.1
  have kz := hl.2.2.1
  have kl := H.2.1
  have kc := (hl.1 (2, 11, 19) (by decide)).1
  have km := (hl.1 (49, 12, 39) (by decide)).1
  simp only at kc km
  simp only [g300_491, g300_491r, g300_492, g300_492r, g300_493, g300_495, g300_496, g300_497, g300_498, g300_498r, g300_499, g300_501, g300_502, g300_503, g300_504, g300_504r, g300_505, g300_507, g300_508, g300_509, g300_510, g300_510r, g300_511, g300_513, g300_514, g300_515, g300_516, z_kl_i, z_kl_l, z_kl_r, z_kl_n, z_kl_x, z_kl_vr, z_c8_0, z_c8_i, z_c8_l, z_c8_r, z_c8_vr, z_c8_n, z_vr_some, z_vr_none, Option.toList_some, Option.toList_none, List.cons_append, List.nil_append, true_and, and_true, and_self, z_k_sI, z_len_sI, z_R_sI, z_N_sI, z_set_0, z_set_1, z_set_s, eq_self, true_implies, false_implies, not_true_eq_false, not_false_eq_true, ne_eq, true_or, or_true, false_or, or_false, false_and, and_false, Int.reduceNeg, Int.reduceEq, Int.reduceNe, Int.reduceLT, Int.reduceLE, Nat.reduceLeDiff, Nat.reduceEqDiff, Nat.reduceSub, Nat.reduceAdd, reduceCtorEq, reduceIte, implies_true, List.reverse_nil, ha1, hb1, hc1, ha2, hb2, hc2, ha3, hb3, hc3, ha4, hb4, hc4, ha5, hb5, hc5, ha6, hb6, hc6, kz, kl, kc, km]
  (repeat' (first | (with_reducible refine And.intro ?_ ?_) | (with_reducible intro _) | omega))
  have HX0 := HX
  obtain ⟨_, m, S, h, V, N, Lg, X⟩ := HX
  refine ex_atC hl H.2.2.2.2.1 X.1.1 X.2.2.1.1 _ _ _ _ (fun w1 h1 q1 => ?_)
  have HX1 := z_LX_q HX0 h1 q1
  have H1 := HX1.1
  have e0 : ∀ j, z_I w1 0 j = z_I w 0 j := fun j => h1.2 0 j (by decide) (by simp)
  have M1 := st_M_e (xm_c h1 (by decide) (by decide)) X.2.2.1.1.2.1.1 X.2.1.1
  have hl1 := H1.1
  have kz1 := hl1.2.2.1
  have kl1 := H1.2.1
  have kc1 := (hl1.1 (2, 11, 19) (by decide)).1
  have km1 := (hl1.1 (49, 12, 39) (by decide)).1
  simp only at kc1 km1
  simp only [g300_519, g300_519r, g300_520, g300_520r, g300_521, g300_521r, g300_522, g300_524, g300_525, g300_526, g300_527, g300_527r, g300_528, g300_530, g300_531, g300_532, g300_533, g300_533r, g300_534, g300_536, g300_537, g300_538, g300_539, g300_539r, g300_540, g300_542, g300_543, g300_544, g300_545, z_kl_i, z_kl_l, z_kl_r, z_kl_n, z_kl_x, z_kl_vr, z_c8_0, z_c8_i, z_c8_l, z_c8_r, z_c8_vr, z_c8_n, z_vr_some, z_vr_none, Option.toList_some, Option.toList_none, List.cons_append, List.nil_append, true_and, and_true, and_self, z_k_sI, z_len_sI, z_R_sI, z_N_sI, z_set_0, z_set_1, z_set_s, eq_self, true_implies, false_implies, not_true_eq_false, not_false_eq_true, ne_eq, true_or, or_true, false_or, or_false, false_and, and_false, Int.reduceNeg, Int.reduceEq, Int.reduceNe, Int.reduceLT, Int.reduceLE, Nat.reduceLeDiff, Nat.reduceEqDiff, Nat.reduceSub, Nat.reduceAdd, reduceCtorEq, reduceIte, implies_true, List.reverse_nil, ha1, hb1, hc1, ha2, hb2, hc2, ha3, hb3, hc3, ha4, hb4, hc4, ha5, hb5, hc5, ha6, hb6, hc6, kz1, kl1, kc1, km1, e0]
  (repeat' (first | (with_reducible refine And.intro ?_ ?_) | (with_reducible intro _) | omega))
  refine ex_at hl1 M1 X.2.2.1.1 _ _ _ _ (fun w2 h2 => ?_)
  have HX2 := z_LX_s HX1 h2
  simp only [g300_548, g300_548r, g300_549, z_kl_i, z_kl_l, z_kl_r, z_kl_n, z_kl_x, z_kl_vr, z_c8_0, z_c8_i, z_c8_l, z_c8_r, z_c8_vr, z_c8_n, z_vr_some, z_vr_none, Option.toList_some, Option.toList_none, List.cons_append, List.nil_append, true_and, and_true, and_self, z_k_sI, z_len_sI, z_R_sI, z_N_sI, z_set_0, z_set_1, z_set_s, eq_self, true_implies, false_implies, not_true_eq_false, not_false_eq_true, ne_eq, true_or, or_true, false_or, or_false, false_and, and_false, Int.reduceNeg, Int.reduceEq, Int.reduceNe, Int.reduceLT, Int.reduceLE, Nat.reduceLeDiff, Nat.reduceEqDiff, Nat.reduceSub, Nat.reduceAdd, reduceCtorEq, reduceIte, implies_true, List.reverse_nil]
  exact k _ _ _ _ (by first | omega | (simp only; omega)) (by first | omega | (simp only; omega)) HX2
theorem c_op9 {d : Nat} {u : Nat × Nat} {w : z_W} {Q : z_P} {L B i : Int} {a5 a6 : z_V} (HX : z_LX L w B) (hB : B ≤ 200000) (i0 : 0 ≤ i) (i6 : i + 6 < L) (hL : L ≤ 3584) (hu : 2 ≤ u.1 ∧ 74 ≤ u.2) (k : ∀ u' w' a5 a6, u.1 ≤ u'.1 + 2 → u.2 ≤ u'.2 + 74 → z_LX L w' (B + 40) → z_G (d + 25) u' 300 1586 [z_r 0, z_r 2, z_r 49, z_r 76, z_i i, a5, a6] [] w' Q) : z_G (d + 25) u 300 552 [z_r 0, z_r 2, z_r 49, z_r 76, z_i i, a5, a6] [] w Q := by
  have H := HX.1
  have ha1 : z_add i 1 = i + 1 := z_add_eq (by omega) (by omega)
  have ha2 : z_add i 2 = i + 2 := z_add_eq (by omega) (by omega)
  have ha3 : z_add i 3 = i + 3 := z_add_eq (by omega) (by omega)
  have ha4 : z_add i 4 = i + 4 := z_add_eq (by omega) (by omega)
  have ha5 : z_add i 5 = i + 5 := z_add_eq (by omega) (by omega)
  have ha6 : z_add i 6 = i + 6 := z_add_eq (by omega) (by omega)
  have hb1 : 0 ≤ i + 1 := by omega
  have hb2 : 0 ≤ i + 2 := by omega
  have hb3 : 0 ≤ i + 3 := by omega
  have hb4 : 0 ≤ i + 4 := by omega
  have hb5 : 0 ≤ i + 5 := by omega
  have hb6 : 0 ≤ i + 6 := by omega
  have hc1 : i + 1 < L := by omega
  have hc2 : i + 2 < L := by omega
  have hc3 : i + 3 < L := by omega
  have hc4 : i + 4 < L := by omega
  have hc5 : i + 5 < L := by omega
  have hc6 : i + 6 < L := by omega
  have hN := H.1.2.2.2
  have hl := H.1
  have kz := hl.2.2.1
  have kl := H.2.1
  have kc := (hl.1 (2, 11, 19) (by decide)).1
  have km := (hl.1 (49, 12, 39) (by decide)).1
  simp only at kc km
  simp only [g300_552, g300_552r, g300_553, g300_553r, g300_554, g300_556, g300_557, g300_558, g300_559, g300_559r, g300_560, g300_562, g300_563, g300_564, g300_565, g300_565r, g300_566, g300_568, g300_569, g300_570, g300_571, z_kl_i, z_kl_l, z_kl_r, z_kl_n, z_kl_x, z_kl_vr, z_c8_0, z_c8_i, z_c8_l, z_c8_r, z_c8_vr, z_c8_n, z_vr_some, z_vr_none, Option.toList_some, Option.toList_none, List.cons_append, List.nil_append, true_and, and_true, and_self, z_k_sI, z_len_sI, z_R_sI, z_N_sI, z_set_0, z_set_1, z_set_s, eq_self, true_implies, false_implies, not_true_eq_false, not_false_eq_true, ne_eq, true_or, or_true, false_or, or_false, false_and, and_false, Int.reduceNeg, Int.reduceEq, Int.reduceNe, Int.reduceLT, Int.reduceLE, Nat.reduceLeDiff, Nat.reduceEqDiff, Nat.reduceSub, Nat.reduceAdd, reduceCtorEq, reduceIte, implies_true, List.reverse_nil, ha1, hb1, hc1, ha2, hb2, hc2, ha3, hb3, hc3, ha4, hb4, hc4, ha5, hb5, hc5, ha6, hb6, hc6, kz, kl, kc, km]
  (repeat' (first | (with_reducible refine And.intro ?_ ?_) | (with_reducible intro _) | omega))
  have HX0 := HX
  obtain ⟨_, m, S, h, V, N, Lg, X⟩ := HX
  refine ex_aboveC hl H.2.2.2.2.1 X.1.1 X.2.2.1.1 _ _ _ (fun w1 h1 q1 => ?_)
  have HX1 := z_LX_q HX0 h1 q1
  have H1 := HX1.1
  have e0 : ∀ j, z_I w1 0 j = z_I w 0 j := fun j => h1.2 0 j (by decide) (by simp)
  have M1 := st_M_e (xm_c h1 (by decide) (by decide)) X.2.2.1.1.2.1.1 X.2.1.1
  have hl1 := H1.1
  have kz1 := hl1.2.2.1
  have kl1 := H1.2.1
  have kc1 := (hl1.1 (2, 11, 19) (by decide)).1
  have km1 := (hl1.1 (49, 12, 39) (by decide)).1
  simp only at kc1 km1
  simp only [g300_574, g300_574r, g300_575, g300_575r, g300_576, g300_576r, g300_577, g300_579, g300_580, g300_581, g300_582, g300_582r, g300_583, g300_585, g300_586, g300_587, g300_588, g300_588r, g300_589, g300_591, g300_592, g300_593, g300_594, z_kl_i, z_kl_l, z_kl_r, z_kl_n, z_kl_x, z_kl_vr, z_c8_0, z_c8_i, z_c8_l, z_c8_r, z_c8_vr, z_c8_n, z_vr_some, z_vr_none, Option.toList_some, Option.toList_none, List.cons_append, List.nil_append, true_and, and_true, and_self, z_k_sI, z_len_sI, z_R_sI, z_N_sI, z_set_0, z_set_1, z_set_s, eq_self, true_implies, false_implies, not_true_eq_false, not_false_eq_true, ne_eq, true_or, or_true, false_or, or_false, false_and, and_false, Int.reduceNeg, Int.reduceEq, Int.reduceNe, Int.reduceLT, Int.reduceLE, Nat.reduceLeDiff, Nat.reduceEqDiff, Nat.reduceSub, Nat.reduceAdd, reduceCtorEq, reduceIte, implies_true, List.reverse_nil, ha1, hb1, hc1, ha2, hb2, hc2, ha3, hb3, hc3, ha4, hb4, hc4, ha5, hb5, hc5, ha6, hb6, hc6, kz1, kl1, kc1, km1, e0]
  (repeat' (first | (with_reducible refine And.intro ?_ ?_) | (with_reducible intro _) | omega))
  refine ex_above hl1 M1 X.2.2.1.1 _ _ _ (fun w2 h2 => ?_)
  have HX2 := z_LX_s HX1 h2
  simp only [g300_597, g300_597r, g300_598, z_kl_i, z_kl_l, z_kl_r, z_kl_n, z_kl_x, z_kl_vr, z_c8_0, z_c8_i, z_c8_l, z_c8_r, z_c8_vr, z_c8_n, z_vr_some, z_vr_none, Option.toList_some, Option.toList_none, List.cons_append, List.nil_append, true_and, and_true, and_self, z_k_sI, z_len_sI, z_R_sI, z_N_sI, z_set_0, z_set_1, z_set_s, eq_self, true_implies, false_implies, not_true_eq_false, not_false_eq_true, ne_eq, true_or, or_true, false_or, or_false, false_and, and_false, Int.reduceNeg, Int.reduceEq, Int.reduceNe, Int.reduceLT, Int.reduceLE, Nat.reduceLeDiff, Nat.reduceEqDiff, Nat.reduceSub, Nat.reduceAdd, reduceCtorEq, reduceIte, implies_true, List.reverse_nil]
  exact k _ _ _ _ (by first | omega | (simp only; omega)) (by first | omega | (simp only; omega)) HX2
theorem c_op10 {d : Nat} {u : Nat × Nat} {w : z_W} {Q : z_P} {L B i : Int} {a5 a6 : z_V} (HX : z_LX L w B) (hB : B ≤ 200000) (i0 : 0 ≤ i) (i6 : i + 6 < L) (hL : L ≤ 3584) (hu : 2 ≤ u.1 ∧ 74 ≤ u.2) (k : ∀ u' w' a5 a6, u.1 ≤ u'.1 + 2 → u.2 ≤ u'.2 + 74 → z_LX L w' (B + 40) → z_G (d + 25) u' 300 1586 [z_r 0, z_r 2, z_r 49, z_r 76, z_i i, a5, a6] [] w' Q) : z_G (d + 25) u 300 601 [z_r 0, z_r 2, z_r 49, z_r 76, z_i i, a5, a6] [] w Q := by
  have H := HX.1
  have ha1 : z_add i 1 = i + 1 := z_add_eq (by omega) (by omega)
  have ha2 : z_add i 2 = i + 2 := z_add_eq (by omega) (by omega)
  have ha3 : z_add i 3 = i + 3 := z_add_eq (by omega) (by omega)
  have ha4 : z_add i 4 = i + 4 := z_add_eq (by omega) (by omega)
  have ha5 : z_add i 5 = i + 5 := z_add_eq (by omega) (by omega)
  have ha6 : z_add i 6 = i + 6 := z_add_eq (by omega) (by omega)
  have hb1 : 0 ≤ i + 1 := by omega
  have hb2 : 0 ≤ i + 2 := by omega
  have hb3 : 0 ≤ i + 3 := by omega
  have hb4 : 0 ≤ i + 4 := by omega
  have hb5 : 0 ≤ i + 5 := by omega
  have hb6 : 0 ≤ i + 6 := by omega
  have hc1 : i + 1 < L := by omega
  have hc2 : i + 2 < L := by omega
  have hc3 : i + 3 < L := by omega
  have hc4 : i + 4 < L := by omega
  have hc5 : i + 5 < L := by omega
  have hc6 : i + 6 < L := by omega
  have hN := H.1.2.2.2
  have hl := H.1
  have kz := hl.2.2.1
  have kl := H.2.1
  have kc := (hl.1 (2, 11, 19) (by decide)).1
  have km := (hl.1 (49, 12, 39) (by decide)).1
  simp only at kc km
  simp only [g300_601, g300_601r, g300_602, g300_602r, g300_603, g300_605, g300_606, g300_607, g300_608, g300_608r, g300_609, g300_611, g300_612, g300_613, g300_614, g300_614r, g300_615, g300_617, g300_618, g300_619, g300_620, g300_620r, g300_621, g300_623, g300_624, g300_625, g300_626, g300_626r, g300_627, g300_629, g300_630, g300_631, g300_632, z_kl_i, z_kl_l, z_kl_r, z_kl_n, z_kl_x, z_kl_vr, z_c8_0, z_c8_i, z_c8_l, z_c8_r, z_c8_vr, z_c8_n, z_vr_some, z_vr_none, Option.toList_some, Option.toList_none, List.cons_append, List.nil_append, true_and, and_true, and_self, z_k_sI, z_len_sI, z_R_sI, z_N_sI, z_set_0, z_set_1, z_set_s, eq_self, true_implies, false_implies, not_true_eq_false, not_false_eq_true, ne_eq, true_or, or_true, false_or, or_false, false_and, and_false, Int.reduceNeg, Int.reduceEq, Int.reduceNe, Int.reduceLT, Int.reduceLE, Nat.reduceLeDiff, Nat.reduceEqDiff, Nat.reduceSub, Nat.reduceAdd, reduceCtorEq, reduceIte, implies_true, List.reverse_nil, ha1, hb1, hc1, ha2, hb2, hc2, ha3, hb3, hc3, ha4, hb4, hc4, ha5, hb5, hc5, ha6, hb6, hc6, kz, kl, kc, km]
  (repeat' (first | (with_reducible refine And.intro ?_ ?_) | (with_reducible intro _) | omega))
  have HX0 := HX
  obtain ⟨_, m, S, h, V, N, Lg, X⟩ := HX
  refine ex_wayC hl X.1.1 X.2.2.1.1 _ _ _ _ _ ?_
  have HX1 := z_LX_mono (show B ≤ B + 40 by omega) HX0
  have H1 := HX1.1
  have hl1 := H1.1
  have kz1 := hl1.2.2.1
  have kl1 := H1.2.1
  have kc1 := (hl1.1 (2, 11, 19) (by decide)).1
  have km1 := (hl1.1 (49, 12, 39) (by decide)).1
  simp only at kc1 km1
  simp only [g300_635, g300_635r, g300_636, g300_636r, g300_637, g300_637r, g300_638, g300_640, g300_641, g300_642, g300_643, g300_643r, g300_644, g300_646, g300_647, g300_648, g300_649, g300_649r, g300_650, g300_652, g300_653, g300_654, g300_655, g300_655r, g300_656, g300_658, g300_659, g300_660, g300_661, g300_661r, g300_662, g300_664, g300_665, g300_666, g300_667, z_kl_i, z_kl_l, z_kl_r, z_kl_n, z_kl_x, z_kl_vr, z_c8_0, z_c8_i, z_c8_l, z_c8_r, z_c8_vr, z_c8_n, z_vr_some, z_vr_none, Option.toList_some, Option.toList_none, List.cons_append, List.nil_append, true_and, and_true, and_self, z_k_sI, z_len_sI, z_R_sI, z_N_sI, z_set_0, z_set_1, z_set_s, eq_self, true_implies, false_implies, not_true_eq_false, not_false_eq_true, ne_eq, true_or, or_true, false_or, or_false, false_and, and_false, Int.reduceNeg, Int.reduceEq, Int.reduceNe, Int.reduceLT, Int.reduceLE, Nat.reduceLeDiff, Nat.reduceEqDiff, Nat.reduceSub, Nat.reduceAdd, reduceCtorEq, reduceIte, implies_true, List.reverse_nil, ha1, hb1, hc1, ha2, hb2, hc2, ha3, hb3, hc3, ha4, hb4, hc4, ha5, hb5, hc5, ha6, hb6, hc6, kz1, kl1, kc1, km1]
  (repeat' (first | (with_reducible refine And.intro ?_ ?_) | (with_reducible intro _) | omega))
  refine ex_way hl1 X.2.1.1 X.2.2.1.1 _ _ _ _ _ (fun w2 h2 => ?_)
  have HX2 := z_LX_s HX1 (z_fr_mo h2 (by decide) (by decide))
  simp only [g300_670, g300_670r, g300_671, z_kl_i, z_kl_l, z_kl_r, z_kl_n, z_kl_x, z_kl_vr, z_c8_0, z_c8_i, z_c8_l, z_c8_r, z_c8_vr, z_c8_n, z_vr_some, z_vr_none, Option.toList_some, Option.toList_none, List.cons_append, List.nil_append, true_and, and_true, and_self, z_k_sI, z_len_sI, z_R_sI, z_N_sI, z_set_0, z_set_1, z_set_s, eq_self, true_implies, false_implies, not_true_eq_false, not_false_eq_true, ne_eq, true_or, or_true, false_or, or_false, false_and, and_false, Int.reduceNeg, Int.reduceEq, Int.reduceNe, Int.reduceLT, Int.reduceLE, Nat.reduceLeDiff, Nat.reduceEqDiff, Nat.reduceSub, Nat.reduceAdd, reduceCtorEq, reduceIte, implies_true, List.reverse_nil]
  exact k _ _ _ _ (by first | omega | (simp only; omega)) (by first | omega | (simp only; omega)) HX2
theorem c_op11 {d : Nat} {u : Nat × Nat} {w : z_W} {Q : z_P} {L B i : Int} {a5 a6 : z_V} (HX : z_LX L w B) (hB : B ≤ 200000) (i0 : 0 ≤ i) (i6 : i + 6 < L) (hL : L ≤ 3584) (hu : 2 ≤ u.1 ∧ 74 ≤ u.2) (k : ∀ u' w' a5 a6, u.1 ≤ u'.1 + 2 → u.2 ≤ u'.2 + 74 → z_LX L w' (B + 40) → z_G (d + 25) u' 300 1586 [z_r 0, z_r 2, z_r 49, z_r 76, z_i i, a5, a6] [] w' Q) : z_G (d + 25) u 300 674 [z_r 0, z_r 2, z_r 49, z_r 76, z_i i, a5, a6] [] w Q := by
  have H := HX.1
  have ha1 : z_add i 1 = i + 1 := z_add_eq (by omega) (by omega)
  have ha2 : z_add i 2 = i + 2 := z_add_eq (by omega) (by omega)
  have ha3 : z_add i 3 = i + 3 := z_add_eq (by omega) (by omega)
  have ha4 : z_add i 4 = i + 4 := z_add_eq (by omega) (by omega)
  have ha5 : z_add i 5 = i + 5 := z_add_eq (by omega) (by omega)
  have ha6 : z_add i 6 = i + 6 := z_add_eq (by omega) (by omega)
  have hb1 : 0 ≤ i + 1 := by omega
  have hb2 : 0 ≤ i + 2 := by omega
  have hb3 : 0 ≤ i + 3 := by omega
  have hb4 : 0 ≤ i + 4 := by omega
  have hb5 : 0 ≤ i + 5 := by omega
  have hb6 : 0 ≤ i + 6 := by omega
  have hc1 : i + 1 < L := by omega
  have hc2 : i + 2 < L := by omega
  have hc3 : i + 3 < L := by omega
  have hc4 : i + 4 < L := by omega
  have hc5 : i + 5 < L := by omega
  have hc6 : i + 6 < L := by omega
  have hN := H.1.2.2.2
  have hl := H.1
  have kz := hl.2.2.1
  have kl := H.2.1
  have kc := (hl.1 (2, 11, 19) (by decide)).1
  have km := (hl.1 (49, 12, 39) (by decide)).1
  simp only at kc km
  simp only [g300_674, g300_674r, g300_675, g300_675r, g300_676, g300_678, g300_679, g300_680, g300_681, g300_681r, g300_682, g300_684, g300_685, g300_686, g300_687, z_kl_i, z_kl_l, z_kl_r, z_kl_n, z_kl_x, z_kl_vr, z_c8_0, z_c8_i, z_c8_l, z_c8_r, z_c8_vr, z_c8_n, z_vr_some, z_vr_none, Option.toList_some, Option.toList_none, List.cons_append, List.nil_append, true_and, and_true, and_self, z_k_sI, z_len_sI, z_R_sI, z_N_sI, z_set_0, z_set_1, z_set_s, eq_self, true_implies, false_implies, not_true_eq_false, not_false_eq_true, ne_eq, true_or, or_true, false_or, or_false, false_and, and_false, Int.reduceNeg, Int.reduceEq, Int.reduceNe, Int.reduceLT, Int.reduceLE, Nat.reduceLeDiff, Nat.reduceEqDiff, Nat.reduceSub, Nat.reduceAdd, reduceCtorEq, reduceIte, implies_true, List.reverse_nil, ha1, hb1, hc1, ha2, hb2, hc2, ha3, hb3, hc3, ha4, hb4, hc4, ha5, hb5, hc5, ha6, hb6, hc6, kz, kl, kc, km]
  (repeat' (first | (with_reducible refine And.intro ?_ ?_) | (with_reducible intro _) | omega))
  have HX0 := HX
  obtain ⟨_, m, S, h, V, N, Lg, X⟩ := HX
  refine ex_pointsC hl H.2.2.2.2.1 X.1.1 X.2.2.1.1 _ _ (fun w1 h1 q1 => ?_)
  have HX1 := z_LX_q HX0 h1 q1
  have H1 := HX1.1
  have e0 : ∀ j, z_I w1 0 j = z_I w 0 j := fun j => h1.2 0 j (by decide) (by simp)
  have M1 := st_M_e (xm_c h1 (by decide) (by decide)) X.2.2.1.1.2.1.1 X.2.1.1
  have hl1 := H1.1
  have kz1 := hl1.2.2.1
  have kl1 := H1.2.1
  have kc1 := (hl1.1 (2, 11, 19) (by decide)).1
  have km1 := (hl1.1 (49, 12, 39) (by decide)).1
  simp only at kc1 km1
  simp only [g300_690, g300_690r, g300_691, g300_691r, g300_692, g300_692r, g300_693, g300_695, g300_696, g300_697, g300_698, g300_698r, g300_699, g300_701, g300_702, g300_703, g300_704, z_kl_i, z_kl_l, z_kl_r, z_kl_n, z_kl_x, z_kl_vr, z_c8_0, z_c8_i, z_c8_l, z_c8_r, z_c8_vr, z_c8_n, z_vr_some, z_vr_none, Option.toList_some, Option.toList_none, List.cons_append, List.nil_append, true_and, and_true, and_self, z_k_sI, z_len_sI, z_R_sI, z_N_sI, z_set_0, z_set_1, z_set_s, eq_self, true_implies, false_implies, not_true_eq_false, not_false_eq_true, ne_eq, true_or, or_true, false_or, or_false, false_and, and_false, Int.reduceNeg, Int.reduceEq, Int.reduceNe, Int.reduceLT, Int.reduceLE, Nat.reduceLeDiff, Nat.reduceEqDiff, Nat.reduceSub, Nat.reduceAdd, reduceCtorEq, reduceIte, implies_true, List.reverse_nil, ha1, hb1, hc1, ha2, hb2, hc2, ha3, hb3, hc3, ha4, hb4, hc4, ha5, hb5, hc5, ha6, hb6, hc6, kz1, kl1, kc1, km1, e0]
  (repeat' (first | (with_reducible refine And.intro ?_ ?_) | (with_reducible intro _) | omega))
  refine ex_points hl1 M1 X.2.2.1.1 _ _ (fun w2 h2 => ?_)
  have HX2 := z_LX_s HX1 h2
  simp only [g300_707, g300_707r, g300_708, z_kl_i, z_kl_l, z_kl_r, z_kl_n, z_kl_x, z_kl_vr, z_c8_0, z_c8_i, z_c8_l, z_c8_r, z_c8_vr, z_c8_n, z_vr_some, z_vr_none, Option.toList_some, Option.toList_none, List.cons_append, List.nil_append, true_and, and_true, and_self, z_k_sI, z_len_sI, z_R_sI, z_N_sI, z_set_0, z_set_1, z_set_s, eq_self, true_implies, false_implies, not_true_eq_false, not_false_eq_true, ne_eq, true_or, or_true, false_or, or_false, false_and, and_false, Int.reduceNeg, Int.reduceEq, Int.reduceNe, Int.reduceLT, Int.reduceLE, Nat.reduceLeDiff, Nat.reduceEqDiff, Nat.reduceSub, Nat.reduceAdd, reduceCtorEq, reduceIte, implies_true, List.reverse_nil]
  exact k _ _ _ _ (by first | omega | (simp only; omega)) (by first | omega | (simp only; omega)) HX2
theorem c_op12 {d : Nat} {u : Nat × Nat} {w : z_W} {Q : z_P} {L B i : Int} {a5 a6 : z_V} (HX : z_LX L w B) (hB : B ≤ 200000) (i0 : 0 ≤ i) (i6 : i + 6 < L) (hL : L ≤ 3584) (hu : 2 ≤ u.1 ∧ 74 ≤ u.2) (k : ∀ u' w' a5 a6, u.1 ≤ u'.1 + 2 → u.2 ≤ u'.2 + 74 → z_LX L w' (B + 40) → z_G (d + 25) u' 300 1586 [z_r 0, z_r 2, z_r 49, z_r 76, z_i i, a5, a6] [] w' Q) : z_G (d + 25) u 300 711 [z_r 0, z_r 2, z_r 49, z_r 76, z_i i, a5, a6] [] w Q := by
  have H := HX.1
  have ha1 : z_add i 1 = i + 1 := z_add_eq (by omega) (by omega)
  have ha2 : z_add i 2 = i + 2 := z_add_eq (by omega) (by omega)
  have ha3 : z_add i 3 = i + 3 := z_add_eq (by omega) (by omega)
  have ha4 : z_add i 4 = i + 4 := z_add_eq (by omega) (by omega)
  have ha5 : z_add i 5 = i + 5 := z_add_eq (by omega) (by omega)
  have ha6 : z_add i 6 = i + 6 := z_add_eq (by omega) (by omega)
  have hb1 : 0 ≤ i + 1 := by omega
  have hb2 : 0 ≤ i + 2 := by omega
  have hb3 : 0 ≤ i + 3 := by omega
  have hb4 : 0 ≤ i + 4 := by omega
  have hb5 : 0 ≤ i + 5 := by omega
  have hb6 : 0 ≤ i + 6 := by omega
  have hc1 : i + 1 < L := by omega
  have hc2 : i + 2 < L := by omega
  have hc3 : i + 3 < L := by omega
  have hc4 : i + 4 < L := by omega
  have hc5 : i + 5 < L := by omega
  have hc6 : i + 6 < L := by omega
  have hN := H.1.2.2.2
  have hl := H.1
  have kz := hl.2.2.1
  have kl := H.2.1
  have kc := (hl.1 (2, 11, 19) (by decide)).1
  have km := (hl.1 (49, 12, 39) (by decide)).1
  simp only at kc km
  simp only [g300_711, g300_711r, g300_712, g300_712r, g300_713, g300_715, g300_716, g300_717, g300_718, z_kl_i, z_kl_l, z_kl_r, z_kl_n, z_kl_x, z_kl_vr, z_c8_0, z_c8_i, z_c8_l, z_c8_r, z_c8_vr, z_c8_n, z_vr_some, z_vr_none, Option.toList_some, Option.toList_none, List.cons_append, List.nil_append, true_and, and_true, and_self, z_k_sI, z_len_sI, z_R_sI, z_N_sI, z_set_0, z_set_1, z_set_s, eq_self, true_implies, false_implies, not_true_eq_false, not_false_eq_true, ne_eq, true_or, or_true, false_or, or_false, false_and, and_false, Int.reduceNeg, Int.reduceEq, Int.reduceNe, Int.reduceLT, Int.reduceLE, Nat.reduceLeDiff, Nat.reduceEqDiff, Nat.reduceSub, Nat.reduceAdd, reduceCtorEq, reduceIte, implies_true, List.reverse_nil, ha1, hb1, hc1, ha2, hb2, hc2, ha3, hb3, hc3, ha4, hb4, hc4, ha5, hb5, hc5, ha6, hb6, hc6, kz, kl, kc, km]
  (repeat' (first | (with_reducible refine And.intro ?_ ?_) | (with_reducible intro _) | omega))
  have HX0 := HX
  obtain ⟨_, m, S, h, V, N, Lg, X⟩ := HX
  refine ex_besideC hl H.2.2.2.2.1 X.1.1 X.2.2.1.1 _ (fun w1 h1 q1 => ?_)
  have HX1 := z_LX_q HX0 h1 q1
  have H1 := HX1.1
  have e0 : ∀ j, z_I w1 0 j = z_I w 0 j := fun j => h1.2 0 j (by decide) (by simp)
  have M1 := st_M_e (xm_c h1 (by decide) (by decide)) X.2.2.1.1.2.1.1 X.2.1.1
  have hl1 := H1.1
  have kz1 := hl1.2.2.1
  have kl1 := H1.2.1
  have kc1 := (hl1.1 (2, 11, 19) (by decide)).1
  have km1 := (hl1.1 (49, 12, 39) (by decide)).1
  simp only at kc1 km1
  simp only [g300_721, g300_721r, g300_722, g300_722r, g300_723, g300_723r, g300_724, g300_726, g300_727, g300_728, g300_729, z_kl_i, z_kl_l, z_kl_r, z_kl_n, z_kl_x, z_kl_vr, z_c8_0, z_c8_i, z_c8_l, z_c8_r, z_c8_vr, z_c8_n, z_vr_some, z_vr_none, Option.toList_some, Option.toList_none, List.cons_append, List.nil_append, true_and, and_true, and_self, z_k_sI, z_len_sI, z_R_sI, z_N_sI, z_set_0, z_set_1, z_set_s, eq_self, true_implies, false_implies, not_true_eq_false, not_false_eq_true, ne_eq, true_or, or_true, false_or, or_false, false_and, and_false, Int.reduceNeg, Int.reduceEq, Int.reduceNe, Int.reduceLT, Int.reduceLE, Nat.reduceLeDiff, Nat.reduceEqDiff, Nat.reduceSub, Nat.reduceAdd, reduceCtorEq, reduceIte, implies_true, List.reverse_nil, ha1, hb1, hc1, ha2, hb2, hc2, ha3, hb3, hc3, ha4, hb4, hc4, ha5, hb5, hc5, ha6, hb6, hc6, kz1, kl1, kc1, km1, e0]
  (repeat' (first | (with_reducible refine And.intro ?_ ?_) | (with_reducible intro _) | omega))
  refine ex_beside hl1 M1 X.2.2.1.1 _ (fun w2 h2 => ?_)
  have HX2 := z_LX_s HX1 h2
  simp only [g300_732, g300_732r, g300_733, z_kl_i, z_kl_l, z_kl_r, z_kl_n, z_kl_x, z_kl_vr, z_c8_0, z_c8_i, z_c8_l, z_c8_r, z_c8_vr, z_c8_n, z_vr_some, z_vr_none, Option.toList_some, Option.toList_none, List.cons_append, List.nil_append, true_and, and_true, and_self, z_k_sI, z_len_sI, z_R_sI, z_N_sI, z_set_0, z_set_1, z_set_s, eq_self, true_implies, false_implies, not_true_eq_false, not_false_eq_true, ne_eq, true_or, or_true, false_or, or_false, false_and, and_false, Int.reduceNeg, Int.reduceEq, Int.reduceNe, Int.reduceLT, Int.reduceLE, Nat.reduceLeDiff, Nat.reduceEqDiff, Nat.reduceSub, Nat.reduceAdd, reduceCtorEq, reduceIte, implies_true, List.reverse_nil]
  exact k _ _ _ _ (by first | omega | (simp only; omega)) (by first | omega | (simp only; omega)) HX2
theorem c_op13 {d : Nat} {u : Nat × Nat} {w : z_W} {Q : z_P} {L B i : Int} {a5 a6 : z_V} (HX : z_LX L w B) (hB : B ≤ 200000) (i0 : 0 ≤ i) (i6 : i + 6 < L) (hL : L ≤ 3584) (hu : 2 ≤ u.1 ∧ 74 ≤ u.2) (k : ∀ u' w' a5 a6, u.1 ≤ u'.1 + 2 → u.2 ≤ u'.2 + 74 → z_LX L w' (B + 40) → z_G (d + 25) u' 300 1586 [z_r 0, z_r 2, z_r 49, z_r 76, z_i i, a5, a6] [] w' Q) : z_G (d + 25) u 300 736 [z_r 0, z_r 2, z_r 49, z_r 76, z_i i, a5, a6] [] w Q := by
  have H := HX.1
  have ha1 : z_add i 1 = i + 1 := z_add_eq (by omega) (by omega)
  have ha2 : z_add i 2 = i + 2 := z_add_eq (by omega) (by omega)
  have ha3 : z_add i 3 = i + 3 := z_add_eq (by omega) (by omega)
  have ha4 : z_add i 4 = i + 4 := z_add_eq (by omega) (by omega)
  have ha5 : z_add i 5 = i + 5 := z_add_eq (by omega) (by omega)
  have ha6 : z_add i 6 = i + 6 := z_add_eq (by omega) (by omega)
  have hb1 : 0 ≤ i + 1 := by omega
  have hb2 : 0 ≤ i + 2 := by omega
  have hb3 : 0 ≤ i + 3 := by omega
  have hb4 : 0 ≤ i + 4 := by omega
  have hb5 : 0 ≤ i + 5 := by omega
  have hb6 : 0 ≤ i + 6 := by omega
  have hc1 : i + 1 < L := by omega
  have hc2 : i + 2 < L := by omega
  have hc3 : i + 3 < L := by omega
  have hc4 : i + 4 < L := by omega
  have hc5 : i + 5 < L := by omega
  have hc6 : i + 6 < L := by omega
  have hN := H.1.2.2.2
  have hl := H.1
  have kz := hl.2.2.1
  have kl := H.2.1
  have kc := (hl.1 (2, 11, 19) (by decide)).1
  have km := (hl.1 (49, 12, 39) (by decide)).1
  simp only at kc km
  simp only [g300_736, g300_736r, g300_737, g300_737r, g300_738, g300_740, g300_741, g300_742, g300_743, z_kl_i, z_kl_l, z_kl_r, z_kl_n, z_kl_x, z_kl_vr, z_c8_0, z_c8_i, z_c8_l, z_c8_r, z_c8_vr, z_c8_n, z_vr_some, z_vr_none, Option.toList_some, Option.toList_none, List.cons_append, List.nil_append, true_and, and_true, and_self, z_k_sI, z_len_sI, z_R_sI, z_N_sI, z_set_0, z_set_1, z_set_s, eq_self, true_implies, false_implies, not_true_eq_false, not_false_eq_true, ne_eq, true_or, or_true, false_or, or_false, false_and, and_false, Int.reduceNeg, Int.reduceEq, Int.reduceNe, Int.reduceLT, Int.reduceLE, Nat.reduceLeDiff, Nat.reduceEqDiff, Nat.reduceSub, Nat.reduceAdd, reduceCtorEq, reduceIte, implies_true, List.reverse_nil, ha1, hb1, hc1, ha2, hb2, hc2, ha3, hb3, hc3, ha4, hb4, hc4, ha5, hb5, hc5, ha6, hb6, hc6, kz, kl, kc, km]
  (repeat' (first | (with_reducible refine And.intro ?_ ?_) | (with_reducible intro _) | omega))
  have HX0 := HX
  obtain ⟨_, m, S, h, V, N, Lg, X⟩ := HX
  refine ex_coloursC hl H.2.2.2.2.1 X.1.1 X.2.2.1.1 _ (fun w1 h1 q1 => ?_)
  have HX1 := z_LX_q HX0 h1 q1
  have H1 := HX1.1
  have e0 : ∀ j, z_I w1 0 j = z_I w 0 j := fun j => h1.2 0 j (by decide) (by simp)
  have M1 := st_M_e (xm_c h1 (by decide) (by decide)) X.2.2.1.1.2.1.1 X.2.1.1
  have hl1 := H1.1
  have kz1 := hl1.2.2.1
  have kl1 := H1.2.1
  have kc1 := (hl1.1 (2, 11, 19) (by decide)).1
  have km1 := (hl1.1 (49, 12, 39) (by decide)).1
  simp only at kc1 km1
  simp only [g300_746, g300_746r, g300_747, g300_747r, g300_748, g300_748r, g300_749, g300_751, g300_752, g300_753, g300_754, z_kl_i, z_kl_l, z_kl_r, z_kl_n, z_kl_x, z_kl_vr, z_c8_0, z_c8_i, z_c8_l, z_c8_r, z_c8_vr, z_c8_n, z_vr_some, z_vr_none, Option.toList_some, Option.toList_none, List.cons_append, List.nil_append, true_and, and_true, and_self, z_k_sI, z_len_sI, z_R_sI, z_N_sI, z_set_0, z_set_1, z_set_s, eq_self, true_implies, false_implies, not_true_eq_false, not_false_eq_true, ne_eq, true_or, or_true, false_or, or_false, false_and, and_false, Int.reduceNeg, Int.reduceEq, Int.reduceNe, Int.reduceLT, Int.reduceLE, Nat.reduceLeDiff, Nat.reduceEqDiff, Nat.reduceSub, Nat.reduceAdd, reduceCtorEq, reduceIte, implies_true, List.reverse_nil, ha1, hb1, hc1, ha2, hb2, hc2, ha3, hb3, hc3, ha4, hb4, hc4, ha5, hb5, hc5, ha6, hb6, hc6, kz1, kl1, kc1, km1, e0]
  (repeat' (first | (with_reducible refine And.intro ?_ ?_) | (with_reducible intro _) | omega))
  refine ex_colours hl1 M1 X.2.2.1.1 _ (fun w2 h2 => ?_)
  have HX2 := z_LX_s HX1 h2
  simp only [g300_757, g300_757r, g300_758, z_kl_i, z_kl_l, z_kl_r, z_kl_n, z_kl_x, z_kl_vr, z_c8_0, z_c8_i, z_c8_l, z_c8_r, z_c8_vr, z_c8_n, z_vr_some, z_vr_none, Option.toList_some, Option.toList_none, List.cons_append, List.nil_append, true_and, and_true, and_self, z_k_sI, z_len_sI, z_R_sI, z_N_sI, z_set_0, z_set_1, z_set_s, eq_self, true_implies, false_implies, not_true_eq_false, not_false_eq_true, ne_eq, true_or, or_true, false_or, or_false, false_and, and_false, Int.reduceNeg, Int.reduceEq, Int.reduceNe, Int.reduceLT, Int.reduceLE, Nat.reduceLeDiff, Nat.reduceEqDiff, Nat.reduceSub, Nat.reduceAdd, reduceCtorEq, reduceIte, implies_true, List.reverse_nil]
  exact k _ _ _ _ (by first | omega | (simp only; omega)) (by first | omega | (simp only; omega)) HX2
theorem c_op14 {d : Nat} {u : Nat × Nat} {w : z_W} {Q : z_P} {L B i : Int} {a5 a6 : z_V} (HX : z_LX L w B) (hB : B ≤ 200000) (i0 : 0 ≤ i) (i6 : i + 6 < L) (hL : L ≤ 3584) (hu : 2 ≤ u.1 ∧ 74 ≤ u.2) (k : ∀ u' w' a5 a6, u.1 ≤ u'.1 + 2 → u.2 ≤ u'.2 + 74 → z_LX L w' (B + 40) → z_G (d + 25) u' 300 1586 [z_r 0, z_r 2, z_r 49, z_r 76, z_i i, a5, a6] [] w' Q) : z_G (d + 25) u 300 761 [z_r 0, z_r 2, z_r 49, z_r 76, z_i i, a5, a6] [] w Q := by
  have H := HX.1
  have ha1 : z_add i 1 = i + 1 := z_add_eq (by omega) (by omega)
  have ha2 : z_add i 2 = i + 2 := z_add_eq (by omega) (by omega)
  have ha3 : z_add i 3 = i + 3 := z_add_eq (by omega) (by omega)
  have ha4 : z_add i 4 = i + 4 := z_add_eq (by omega) (by omega)
  have ha5 : z_add i 5 = i + 5 := z_add_eq (by omega) (by omega)
  have ha6 : z_add i 6 = i + 6 := z_add_eq (by omega) (by omega)
  have hb1 : 0 ≤ i + 1 := by omega
  have hb2 : 0 ≤ i + 2 := by omega
  have hb3 : 0 ≤ i + 3 := by omega
  have hb4 : 0 ≤ i + 4 := by omega
  have hb5 : 0 ≤ i + 5 := by omega
  have hb6 : 0 ≤ i + 6 := by omega
  have hc1 : i + 1 < L := by omega
  have hc2 : i + 2 < L := by omega
  have hc3 : i + 3 < L := by omega
  have hc4 : i + 4 < L := by omega
  have hc5 : i + 5 < L := by omega
  have hc6 : i + 6 < L := by omega
  have hN := H.1.2.2.2
  have hl := H.1
  have kz := hl.2.2.1
  have kl := H.2.1
  have kc := (hl.1 (2, 11, 19) (by decide)).1
  have km := (hl.1 (49, 12, 39) (by decide)).1
  simp only at kc km
  simp only [g300_761, g300_761r, g300_762, g300_762r, g300_763, g300_765, g300_766, g300_767, g300_768, g300_768r, g300_769, g300_771, g300_772, g300_773, g300_774, g300_774r, g300_775, g300_777, g300_778, g300_779, g300_780, g300_780r, g300_781, g300_783, g300_784, g300_785, g300_786, g300_786r, g300_787, g300_789, g300_790, g300_791, g300_792, z_kl_i, z_kl_l, z_kl_r, z_kl_n, z_kl_x, z_kl_vr, z_c8_0, z_c8_i, z_c8_l, z_c8_r, z_c8_vr, z_c8_n, z_vr_some, z_vr_none, Option.toList_some, Option.toList_none, List.cons_append, List.nil_append, true_and, and_true, and_self, z_k_sI, z_len_sI, z_R_sI, z_N_sI, z_set_0, z_set_1, z_set_s, eq_self, true_implies, false_implies, not_true_eq_false, not_false_eq_true, ne_eq, true_or, or_true, false_or, or_false, false_and, and_false, Int.reduceNeg, Int.reduceEq, Int.reduceNe, Int.reduceLT, Int.reduceLE, Nat.reduceLeDiff, Nat.reduceEqDiff, Nat.reduceSub, Nat.reduceAdd, reduceCtorEq, reduceIte, implies_true, List.reverse_nil, ha1, hb1, hc1, ha2, hb2, hc2, ha3, hb3, hc3, ha4, hb4, hc4, ha5, hb5, hc5, ha6, hb6, hc6, kz, kl, kc, km]
  (repeat' (first | (with_reducible refine And.intro ?_ ?_) | (with_reducible intro _) | omega))
  obtain ⟨_, m, S, h, V, N, Lg, X⟩ := HX
  refine x_addC hl H.2.2.2.2.1 (by omega) X.1.1 X.2.2.1.1 _ _ _ _ _ (fun w1 h1 q1 s1 t1 => ?_)
  have H1 := z_LI_cf H h1 (by decide) (by decide) (by omega) q1
  have e0 : ∀ j, z_I w1 0 j = z_I w 0 j := fun j => h1.2 0 j (by decide) (by simp)
  have M1 := st_M_e (xm_c h1 (by decide) (by decide)) X.2.2.1.1.2.1.1 X.2.1.1
  have hl1 := H1.1
  have kz1 := hl1.2.2.1
  have kl1 := H1.2.1
  have kc1 := (hl1.1 (2, 11, 19) (by decide)).1
  have km1 := (hl1.1 (49, 12, 39) (by decide)).1
  simp only at kc1 km1
  simp only [g300_795, g300_795r, g300_796, g300_796r, g300_797, g300_797r, g300_798, g300_800, g300_801, g300_802, g300_803, g300_803r, g300_804, g300_806, g300_807, g300_808, g300_809, g300_809r, g300_810, g300_812, g300_813, g300_814, g300_815, g300_815r, g300_816, g300_818, g300_819, g300_820, g300_821, g300_821r, g300_822, g300_824, g300_825, g300_826, g300_827, z_kl_i, z_kl_l, z_kl_r, z_kl_n, z_kl_x, z_kl_vr, z_c8_0, z_c8_i, z_c8_l, z_c8_r, z_c8_vr, z_c8_n, z_vr_some, z_vr_none, Option.toList_some, Option.toList_none, List.cons_append, List.nil_append, true_and, and_true, and_self, z_k_sI, z_len_sI, z_R_sI, z_N_sI, z_set_0, z_set_1, z_set_s, eq_self, true_implies, false_implies, not_true_eq_false, not_false_eq_true, ne_eq, true_or, or_true, false_or, or_false, false_and, and_false, Int.reduceNeg, Int.reduceEq, Int.reduceNe, Int.reduceLT, Int.reduceLE, Nat.reduceLeDiff, Nat.reduceEqDiff, Nat.reduceSub, Nat.reduceAdd, reduceCtorEq, reduceIte, implies_true, List.reverse_nil, ha1, hb1, hc1, ha2, hb2, hc2, ha3, hb3, hc3, ha4, hb4, hc4, ha5, hb5, hc5, ha6, hb6, hc6, kz1, kl1, kc1, km1, e0]
  (repeat' (first | (with_reducible refine And.intro ?_ ?_) | (with_reducible intro _) | omega))
  refine x_add hl1 H1.2.2.1 M1 X.2.2.1.1 _ _ _ _ _ (fun w2 h2 q2 s2 t2 => ?_)
  have H2 := z_LI_md H1 h2 (by decide) (by decide) q2
  have X2 := x_A_hand _ X h1 h2 s1 s2 (st_ok_ac X.2.2.1.1 (by decide)) t1 t2
  simp only [g300_830, g300_830r, g300_831, z_kl_i, z_kl_l, z_kl_r, z_kl_n, z_kl_x, z_kl_vr, z_c8_0, z_c8_i, z_c8_l, z_c8_r, z_c8_vr, z_c8_n, z_vr_some, z_vr_none, Option.toList_some, Option.toList_none, List.cons_append, List.nil_append, true_and, and_true, and_self, z_k_sI, z_len_sI, z_R_sI, z_N_sI, z_set_0, z_set_1, z_set_s, eq_self, true_implies, false_implies, not_true_eq_false, not_false_eq_true, ne_eq, true_or, or_true, false_or, or_false, false_and, and_false, Int.reduceNeg, Int.reduceEq, Int.reduceNe, Int.reduceLT, Int.reduceLE, Nat.reduceLeDiff, Nat.reduceEqDiff, Nat.reduceSub, Nat.reduceAdd, reduceCtorEq, reduceIte, implies_true, List.reverse_nil]
  exact k _ _ _ _ (by first | omega | (simp only; omega)) (by first | omega | (simp only; omega)) ⟨H2, _, _, _, _, _, _, X2⟩
theorem c_op15 {d : Nat} {u : Nat × Nat} {w : z_W} {Q : z_P} {L B i : Int} {a5 a6 : z_V} (HX : z_LX L w B) (hB : B ≤ 200000) (i0 : 0 ≤ i) (i6 : i + 6 < L) (hL : L ≤ 3584) (hu : 2 ≤ u.1 ∧ 74 ≤ u.2) (k : ∀ u' w' a5 a6, u.1 ≤ u'.1 + 2 → u.2 ≤ u'.2 + 74 → z_LX L w' (B + 40) → z_G (d + 25) u' 300 1586 [z_r 0, z_r 2, z_r 49, z_r 76, z_i i, a5, a6] [] w' Q) : z_G (d + 25) u 300 834 [z_r 0, z_r 2, z_r 49, z_r 76, z_i i, a5, a6] [] w Q := by
  have H := HX.1
  have ha1 : z_add i 1 = i + 1 := z_add_eq (by omega) (by omega)
  have ha2 : z_add i 2 = i + 2 := z_add_eq (by omega) (by omega)
  have ha3 : z_add i 3 = i + 3 := z_add_eq (by omega) (by omega)
  have ha4 : z_add i 4 = i + 4 := z_add_eq (by omega) (by omega)
  have ha5 : z_add i 5 = i + 5 := z_add_eq (by omega) (by omega)
  have ha6 : z_add i 6 = i + 6 := z_add_eq (by omega) (by omega)
  have hb1 : 0 ≤ i + 1 := by omega
  have hb2 : 0 ≤ i + 2 := by omega
  have hb3 : 0 ≤ i + 3 := by omega
  have hb4 : 0 ≤ i + 4 := by omega
  have hb5 : 0 ≤ i + 5 := by omega
  have hb6 : 0 ≤ i + 6 := by omega
  have hc1 : i + 1 < L := by omega
  have hc2 : i + 2 < L := by omega
  have hc3 : i + 3 < L := by omega
  have hc4 : i + 4 < L := by omega
  have hc5 : i + 5 < L := by omega
  have hc6 : i + 6 < L := by omega
  have hN := H.1.2.2.2
  have hl := H.1
  have kz := hl.2.2.1
  have kl := H.2.1
  have kc := (hl.1 (2, 11, 19) (by decide)).1
  have km := (hl.1 (49, 12, 39) (by decide)).1
  simp only at kc km
  simp only [g300_834, g300_834r, g300_835, g300_835r, g300_836, g300_838, g300_839, g300_840, g300_841, z_kl_i, z_kl_l, z_kl_r, z_kl_n, z_kl_x, z_kl_vr, z_c8_0, z_c8_i, z_c8_l, z_c8_r, z_c8_vr, z_c8_n, z_vr_some, z_vr_none, Option.toList_some, Option.toList_none, List.cons_append, List.nil_append, true_and, and_true, and_self, z_k_sI, z_len_sI, z_R_sI, z_N_sI, z_set_0, z_set_1, z_set_s, eq_self, true_implies, false_implies, not_true_eq_false, not_false_eq_true, ne_eq, true_or, or_true, false_or, or_false, false_and, and_false, Int.reduceNeg, Int.reduceEq, Int.reduceNe, Int.reduceLT, Int.reduceLE, Nat.reduceLeDiff, Nat.reduceEqDiff, Nat.reduceSub, Nat.reduceAdd, reduceCtorEq, reduceIte, implies_true, List.reverse_nil, ha1, hb1, hc1, ha2, hb2, hc2, ha3, hb3, hc3, ha4, hb4, hc4, ha5, hb5, hc5, ha6, hb6, hc6, kz, kl, kc, km]
  (repeat' (first | (with_reducible refine And.intro ?_ ?_) | (with_reducible intro _) | omega))
  obtain ⟨_, m, S, h, V, N, Lg, X⟩ := HX
  refine x_dropC hl H.2.2.2.2.1 (by omega) X.1.1 X.2.2.1.1 _ (fun w1 h1 q1 s1 t1 => ?_)
  have H1 := z_LI_cf H h1 (by decide) (by decide) (by omega) q1
  have e0 : ∀ j, z_I w1 0 j = z_I w 0 j := fun j => h1.2 0 j (by decide) (by simp)
  have M1 := st_M_e (xm_c h1 (by decide) (by decide)) X.2.2.1.1.2.1.1 X.2.1.1
  have hl1 := H1.1
  have kz1 := hl1.2.2.1
  have kl1 := H1.2.1
  have kc1 := (hl1.1 (2, 11, 19) (by decide)).1
  have km1 := (hl1.1 (49, 12, 39) (by decide)).1
  simp only at kc1 km1
  simp only [g300_844, g300_844r, g300_845, g300_845r, g300_846, g300_846r, g300_847, g300_849, g300_850, g300_851, g300_852, z_kl_i, z_kl_l, z_kl_r, z_kl_n, z_kl_x, z_kl_vr, z_c8_0, z_c8_i, z_c8_l, z_c8_r, z_c8_vr, z_c8_n, z_vr_some, z_vr_none, Option.toList_some, Option.toList_none, List.cons_append, List.nil_append, true_and, and_true, and_self, z_k_sI, z_len_sI, z_R_sI, z_N_sI, z_set_0, z_set_1, z_set_s, eq_self, true_implies, false_implies, not_true_eq_false, not_false_eq_true, ne_eq, true_or, or_true, false_or, or_false, false_and, and_false, Int.reduceNeg, Int.reduceEq, Int.reduceNe, Int.reduceLT, Int.reduceLE, Nat.reduceLeDiff, Nat.reduceEqDiff, Nat.reduceSub, Nat.reduceAdd, reduceCtorEq, reduceIte, implies_true, List.reverse_nil, ha1, hb1, hc1, ha2, hb2, hc2, ha3, hb3, hc3, ha4, hb4, hc4, ha5, hb5, hc5, ha6, hb6, hc6, kz1, kl1, kc1, km1, e0]
  (repeat' (first | (with_reducible refine And.intro ?_ ?_) | (with_reducible intro _) | omega))
  refine x_drop hl1 H1.2.2.1 M1 X.2.2.1.1 _ (fun w2 h2 q2 s2 t2 => ?_)
  have H2 := z_LI_md H1 h2 (by decide) (by decide) q2
  have X2 := x_A_hand _ X h1 h2 s1 s2 (st_ok_ac X.2.2.1.1 (by decide)) t1 t2
  simp only [g300_855, g300_855r, g300_856, z_kl_i, z_kl_l, z_kl_r, z_kl_n, z_kl_x, z_kl_vr, z_c8_0, z_c8_i, z_c8_l, z_c8_r, z_c8_vr, z_c8_n, z_vr_some, z_vr_none, Option.toList_some, Option.toList_none, List.cons_append, List.nil_append, true_and, and_true, and_self, z_k_sI, z_len_sI, z_R_sI, z_N_sI, z_set_0, z_set_1, z_set_s, eq_self, true_implies, false_implies, not_true_eq_false, not_false_eq_true, ne_eq, true_or, or_true, false_or, or_false, false_and, and_false, Int.reduceNeg, Int.reduceEq, Int.reduceNe, Int.reduceLT, Int.reduceLE, Nat.reduceLeDiff, Nat.reduceEqDiff, Nat.reduceSub, Nat.reduceAdd, reduceCtorEq, reduceIte, implies_true, List.reverse_nil]
  exact k _ _ _ _ (by first | omega | (simp only; omega)) (by first | omega | (simp only; omega)) ⟨H2, _, _, _, _, _, _, X2⟩
theorem c_op16 {d : Nat} {u : Nat × Nat} {w : z_W} {Q : z_P} {L B i : Int} {a5 a6 : z_V} (HX : z_LX L w B) (hB : B ≤ 200000) (i0 : 0 ≤ i) (i6 : i + 6 < L) (hL : L ≤ 3584) (hu : 2 ≤ u.1 ∧ 74 ≤ u.2) (k : ∀ u' w' a5 a6, u.1 ≤ u'.1 + 2 → u.2 ≤ u'.2 + 74 → z_LX L w' (B + 40) → z_G (d + 25) u' 300 1586 [z_r 0, z_r 2, z_r 49, z_r 76, z_i i, a5, a6] [] w' Q) : z_G (d + 25) u 300 859 [z_r 0, z_r 2, z_r 49, z_r 76, z_i i, a5, a6] [] w Q := by
  have H := HX.1
  have ha1 : z_add i 1 = i + 1 := z_add_eq (by omega) (by omega)
  have ha2 : z_add i 2 = i + 2 := z_add_eq (by omega) (by omega)
  have ha3 : z_add i 3 = i + 3 := z_add_eq (by omega) (by omega)
  have ha4 : z_add i 4 = i + 4 := z_add_eq (by omega) (by omega)
  have ha5 : z_add i 5 = i + 5 := z_add_eq (by omega) (by omega)
  have ha6 : z_add i 6 = i + 6 := z_add_eq (by omega) (by omega)
  have hb1 : 0 ≤ i + 1 := by omega
  have hb2 : 0 ≤ i + 2 := by omega
  have hb3 : 0 ≤ i + 3 := by omega
  have hb4 : 0 ≤ i + 4 := by omega
  have hb5 : 0 ≤ i + 5 := by omega
  have hb6 : 0 ≤ i + 6 := by omega
  have hc1 : i + 1 < L := by omega
  have hc2 : i + 2 < L := by omega
  have hc3 : i + 3 < L := by omega
  have hc4 : i + 4 < L := by omega
  have hc5 : i + 5 < L := by omega
  have hc6 : i + 6 < L := by omega
  have hN := H.1.2.2.2
  have hl := H.1
  have kz := hl.2.2.1
  have kl := H.2.1
  have kc := (hl.1 (2, 11, 19) (by decide)).1
  have km := (hl.1 (49, 12, 39) (by decide)).1
  simp only at kc km
  simp only [g300_859, g300_859r, g300_860, g300_860r, g300_861, g300_863, g300_864, g300_865, g300_866, g300_866r, g300_867, g300_869, g300_870, g300_871, g300_872, z_kl_i, z_kl_l, z_kl_r, z_kl_n, z_kl_x, z_kl_vr, z_c8_0, z_c8_i, z_c8_l, z_c8_r, z_c8_vr, z_c8_n, z_vr_some, z_vr_none, Option.toList_some, Option.toList_none, List.cons_append, List.nil_append, true_and, and_true, and_self, z_k_sI, z_len_sI, z_R_sI, z_N_sI, z_set_0, z_set_1, z_set_s, eq_self, true_implies, false_implies, not_true_eq_false, not_false_eq_true, ne_eq, true_or, or_true, false_or, or_false, false_and, and_false, Int.reduceNeg, Int.reduceEq, Int.reduceNe, Int.reduceLT, Int.reduceLE, Nat.reduceLeDiff, Nat.reduceEqDiff, Nat.reduceSub, Nat.reduceAdd, reduceCtorEq, reduceIte, implies_true, List.reverse_nil, ha1, hb1, hc1, ha2, hb2, hc2, ha3, hb3, hc3, ha4, hb4, hc4, ha5, hb5, hc5, ha6, hb6, hc6, kz, kl, kc, km]
  (repeat' (first | (with_reducible refine And.intro ?_ ?_) | (with_reducible intro _) | omega))
  obtain ⟨_, m, S, h, V, N, Lg, X⟩ := HX
  refine x_tellC hl H.2.2.2.2.1 (by omega) X.1.1 X.2.2.1.1 _ _ (fun w1 h1 q1 s1 t1 => ?_)
  have H1 := z_LI_cf H h1 (by decide) (by decide) (by omega) q1
  have e0 : ∀ j, z_I w1 0 j = z_I w 0 j := fun j => h1.2 0 j (by decide) (by simp)
  have M1 := st_M_e (xm_c h1 (by decide) (by decide)) X.2.2.1.1.2.1.1 X.2.1.1
  have hl1 := H1.1
  have kz1 := hl1.2.2.1
  have kl1 := H1.2.1
  have kc1 := (hl1.1 (2, 11, 19) (by decide)).1
  have km1 := (hl1.1 (49, 12, 39) (by decide)).1
  simp only at kc1 km1
  simp only [g300_875, g300_875r, g300_876, g300_876r, g300_877, g300_877r, g300_878, g300_880, g300_881, g300_882, g300_883, g300_883r, g300_884, g300_886, g300_887, g300_888, g300_889, z_kl_i, z_kl_l, z_kl_r, z_kl_n, z_kl_x, z_kl_vr, z_c8_0, z_c8_i, z_c8_l, z_c8_r, z_c8_vr, z_c8_n, z_vr_some, z_vr_none, Option.toList_some, Option.toList_none, List.cons_append, List.nil_append, true_and, and_true, and_self, z_k_sI, z_len_sI, z_R_sI, z_N_sI, z_set_0, z_set_1, z_set_s, eq_self, true_implies, false_implies, not_true_eq_false, not_false_eq_true, ne_eq, true_or, or_true, false_or, or_false, false_and, and_false, Int.reduceNeg, Int.reduceEq, Int.reduceNe, Int.reduceLT, Int.reduceLE, Nat.reduceLeDiff, Nat.reduceEqDiff, Nat.reduceSub, Nat.reduceAdd, reduceCtorEq, reduceIte, implies_true, List.reverse_nil, ha1, hb1, hc1, ha2, hb2, hc2, ha3, hb3, hc3, ha4, hb4, hc4, ha5, hb5, hc5, ha6, hb6, hc6, kz1, kl1, kc1, km1, e0]
  (repeat' (first | (with_reducible refine And.intro ?_ ?_) | (with_reducible intro _) | omega))
  refine x_tell hl1 H1.2.2.1 M1 X.2.2.1.1 _ _ (fun w2 h2 q2 s2 t2 => ?_)
  have H2 := z_LI_md H1 h2 (by decide) (by decide) q2
  have X2 := x_A_hand _ X h1 h2 s1 s2 (st_ok_ac X.2.2.1.1 (by decide)) t1 t2
  simp only [g300_892, g300_892r, g300_893, z_kl_i, z_kl_l, z_kl_r, z_kl_n, z_kl_x, z_kl_vr, z_c8_0, z_c8_i, z_c8_l, z_c8_r, z_c8_vr, z_c8_n, z_vr_some, z_vr_none, Option.toList_some, Option.toList_none, List.cons_append, List.nil_append, true_and, and_true, and_self, z_k_sI, z_len_sI, z_R_sI, z_N_sI, z_set_0, z_set_1, z_set_s, eq_self, true_implies, false_implies, not_true_eq_false, not_false_eq_true, ne_eq, true_or, or_true, false_or, or_false, false_and, and_false, Int.reduceNeg, Int.reduceEq, Int.reduceNe, Int.reduceLT, Int.reduceLE, Nat.reduceLeDiff, Nat.reduceEqDiff, Nat.reduceSub, Nat.reduceAdd, reduceCtorEq, reduceIte, implies_true, List.reverse_nil]
  exact k _ _ _ _ (by first | omega | (simp only; omega)) (by first | omega | (simp only; omega)) ⟨H2, _, _, _, _, _, _, X2⟩
theorem c_op17 {d : Nat} {u : Nat × Nat} {w : z_W} {Q : z_P} {L B i : Int} {a5 a6 : z_V} (HX : z_LX L w B) (hB : B ≤ 200000) (i0 : 0 ≤ i) (i6 : i + 6 < L) (hL : L ≤ 3584) (hu : 2 ≤ u.1 ∧ 74 ≤ u.2) (k : ∀ u' w' a5 a6, u.1 ≤ u'.1 + 2 → u.2 ≤ u'.2 + 74 → z_LX L w' (B + 40) → z_G (d + 25) u' 300 1586 [z_r 0, z_r 2, z_r 49, z_r 76, z_i i, a5, a6] [] w' Q) : z_G (d + 25) u 300 896 [z_r 0, z_r 2, z_r 49, z_r 76, z_i i, a5, a6] [] w Q := by
  have H := HX.1
  have ha1 : z_add i 1 = i + 1 := z_add_eq (by omega) (by omega)
  have ha2 : z_add i 2 = i + 2 := z_add_eq (by omega) (by omega)
  have ha3 : z_add i 3 = i + 3 := z_add_eq (by omega) (by omega)
  have ha4 : z_add i 4 = i + 4 := z_add_eq (by omega) (by omega)
  have ha5 : z_add i 5 = i + 5 := z_add_eq (by omega) (by omega)
  have ha6 : z_add i 6 = i + 6 := z_add_eq (by omega) (by omega)
  have hb1 : 0 ≤ i + 1 := by omega
  have hb2 : 0 ≤ i + 2 := by omega
  have hb3 : 0 ≤ i + 3 := by omega
  have hb4 : 0 ≤ i + 4 := by omega
  have hb5 : 0 ≤ i + 5 := by omega
  have hb6 : 0 ≤ i + 6 := by omega
  have hc1 : i + 1 < L := by omega
  have hc2 : i + 2 < L := by omega
  have hc3 : i + 3 < L := by omega
  have hc4 : i + 4 < L := by omega
  have hc5 : i + 5 < L := by omega
  have hc6 : i + 6 < L := by omega
  have hN := H.1.2.2.2
  have hl := H.1
  have kz := hl.2.2.1
  have kl := H.2.1
  have kc := (hl.1 (2, 11, 19) (by decide)).1
  have km := (hl.1 (49, 12, 39) (by decide)).1
  simp only at kc km
  simp only [g300_896, g300_896r, g300_897, g300_897r, g300_898, g300_900, g300_901, g300_902, g300_903, g300_903r, g300_904, g300_906, g300_907, g300_908, g300_909, z_kl_i, z_kl_l, z_kl_r, z_kl_n, z_kl_x, z_kl_vr, z_c8_0, z_c8_i, z_c8_l, z_c8_r, z_c8_vr, z_c8_n, z_vr_some, z_vr_none, Option.toList_some, Option.toList_none, List.cons_append, List.nil_append, true_and, and_true, and_self, z_k_sI, z_len_sI, z_R_sI, z_N_sI, z_set_0, z_set_1, z_set_s, eq_self, true_implies, false_implies, not_true_eq_false, not_false_eq_true, ne_eq, true_or, or_true, false_or, or_false, false_and, and_false, Int.reduceNeg, Int.reduceEq, Int.reduceNe, Int.reduceLT, Int.reduceLE, Nat.reduceLeDiff, Nat.reduceEqDiff, Nat.reduceSub, Nat.reduceAdd, reduceCtorEq, reduceIte, implies_true, List.reverse_nil, ha1, hb1, hc1, ha2, hb2, hc2, ha3, hb3, hc3, ha4, hb4, hc4, ha5, hb5, hc5, ha6, hb6, hc6, kz, kl, kc, km]
  (repeat' (first | (with_reducible refine And.intro ?_ ?_) | (with_reducible intro _) | omega))
  obtain ⟨_, m, S, h, V, N, Lg, X⟩ := HX
  refine x_moveC hl H.2.2.2.2.1 (by omega) X.1.1 X.2.2.1.1 _ _ (fun w1 h1 q1 s1 t1 => ?_)
  have H1 := z_LI_cf H h1 (by decide) (by decide) (by omega) q1
  have e0 : ∀ j, z_I w1 0 j = z_I w 0 j := fun j => h1.2 0 j (by decide) (by simp)
  have M1 := st_M_e (xm_c h1 (by decide) (by decide)) X.2.2.1.1.2.1.1 X.2.1.1
  have hl1 := H1.1
  have kz1 := hl1.2.2.1
  have kl1 := H1.2.1
  have kc1 := (hl1.1 (2, 11, 19) (by decide)).1
  have km1 := (hl1.1 (49, 12, 39) (by decide)).1
  simp only at kc1 km1
  simp only [g300_912, g300_912r, g300_913, g300_913r, g300_914, g300_914r, g300_915, g300_917, g300_918, g300_919, g300_920, g300_920r, g300_921, g300_923, g300_924, g300_925, g300_926, z_kl_i, z_kl_l, z_kl_r, z_kl_n, z_kl_x, z_kl_vr, z_c8_0, z_c8_i, z_c8_l, z_c8_r, z_c8_vr, z_c8_n, z_vr_some, z_vr_none, Option.toList_some, Option.toList_none, List.cons_append, List.nil_append, true_and, and_true, and_self, z_k_sI, z_len_sI, z_R_sI, z_N_sI, z_set_0, z_set_1, z_set_s, eq_self, true_implies, false_implies, not_true_eq_false, not_false_eq_true, ne_eq, true_or, or_true, false_or, or_false, false_and, and_false, Int.reduceNeg, Int.reduceEq, Int.reduceNe, Int.reduceLT, Int.reduceLE, Nat.reduceLeDiff, Nat.reduceEqDiff, Nat.reduceSub, Nat.reduceAdd, reduceCtorEq, reduceIte, implies_true, List.reverse_nil, ha1, hb1, hc1, ha2, hb2, hc2, ha3, hb3, hc3, ha4, hb4, hc4, ha5, hb5, hc5, ha6, hb6, hc6, kz1, kl1, kc1, km1, e0]
  (repeat' (first | (with_reducible refine And.intro ?_ ?_) | (with_reducible intro _) | omega))
  refine x_move hl1 H1.2.2.1 M1 X.2.2.1.1 _ _ (fun w2 h2 q2 s2 t2 => ?_)
  have H2 := z_LI_md H1 h2 (by decide) (by decide) q2
  have X2 := x_A_hand _ X h1 h2 s1 s2 (st_ok_ac X.2.2.1.1 (by decide)) t1 t2
  simp only [g300_929, g300_929r, g300_930, z_kl_i, z_kl_l, z_kl_r, z_kl_n, z_kl_x, z_kl_vr, z_c8_0, z_c8_i, z_c8_l, z_c8_r, z_c8_vr, z_c8_n, z_vr_some, z_vr_none, Option.toList_some, Option.toList_none, List.cons_append, List.nil_append, true_and, and_true, and_self, z_k_sI, z_len_sI, z_R_sI, z_N_sI, z_set_0, z_set_1, z_set_s, eq_self, true_implies, false_implies, not_true_eq_false, not_false_eq_true, ne_eq, true_or, or_true, false_or, or_false, false_and, and_false, Int.reduceNeg, Int.reduceEq, Int.reduceNe, Int.reduceLT, Int.reduceLE, Nat.reduceLeDiff, Nat.reduceEqDiff, Nat.reduceSub, Nat.reduceAdd, reduceCtorEq, reduceIte, implies_true, List.reverse_nil]
  exact k _ _ _ _ (by first | omega | (simp only; omega)) (by first | omega | (simp only; omega)) ⟨H2, _, _, _, _, _, _, X2⟩
theorem c_op18 {d : Nat} {u : Nat × Nat} {w : z_W} {Q : z_P} {L B i : Int} {a5 a6 : z_V} (HX : z_LX L w B) (hB : B ≤ 200000) (i0 : 0 ≤ i) (i6 : i + 6 < L) (hL : L ≤ 3584) (hu : 2 ≤ u.1 ∧ 74 ≤ u.2) (k : ∀ u' w' a5 a6, u.1 ≤ u'.1 + 2 → u.2 ≤ u'.2 + 74 → z_LX L w' (B + 40) → z_G (d + 25) u' 300 1586 [z_r 0, z_r 2, z_r 49, z_r 76, z_i i, a5, a6] [] w' Q) : z_G (d + 25) u 300 933 [z_r 0, z_r 2, z_r 49, z_r 76, z_i i, a5, a6] [] w Q := by
  have H := HX.1
  have ha1 : z_add i 1 = i + 1 := z_add_eq (by omega) (by omega)
  have ha2 : z_add i 2 = i + 2 := z_add_eq (by omega) (by omega)
  have ha3 : z_add i 3 = i + 3 := z_add_eq (by omega) (by omega)
  have ha4 : z_add i 4 = i + 4 := z_add_eq (by omega) (by omega)
  have ha5 : z_add i 5 = i + 5 := z_add_eq (by omega) (by omega)
  have ha6 : z_add i 6 = i + 6 := z_add_eq (by omega) (by omega)
  have hb1 : 0 ≤ i + 1 := by omega
  have hb2 : 0 ≤ i + 2 := by omega
  have hb3 : 0 ≤ i + 3 := by omega
  have hb4 : 0 ≤ i + 4 := by omega
  have hb5 : 0 ≤ i + 5 := by omega
  have hb6 : 0 ≤ i + 6 := by omega
  have hc1 : i + 1 < L := by omega
  have hc2 : i + 2 < L := by omega
  have hc3 : i + 3 < L := by omega
  have hc4 : i + 4 < L := by omega
  have hc5 : i + 5 < L := by omega
  have hc6 : i + 6 < L := by omega
  have hN := H.1.2.2.2
  have hl := H.1
  have kz := hl.2.2.1
  have kl := H.2.1
  have kc := (hl.1 (2, 11, 19) (by decide)).1
  have km := (hl.1 (49, 12, 39) (by decide)).1
  simp only at kc km
  simp only [g300_933, g300_933r, g300_934, g300_934r, g300_935, g300_937, g300_938, g300_939, g300_940, g300_940r, g300_941, g300_943, g300_944, g300_945, g300_946, g300_947, g300_949, g300_950, g300_950r, g300_951, g300_953, g300_954, g300_955, g300_956, g300_957, g300_960, g300_961, g300_962, z_kl_i, z_kl_l, z_kl_r, z_kl_n, z_kl_x, z_kl_vr, z_c8_0, z_c8_i, z_c8_l, z_c8_r, z_c8_vr, z_c8_n, z_vr_some, z_vr_none, Option.toList_some, Option.toList_none, List.cons_append, List.nil_append, true_and, and_true, and_self, z_k_sI, z_len_sI, z_R_sI, z_N_sI, z_set_0, z_set_1, z_set_s, eq_self, true_implies, false_implies, not_true_eq_false, not_false_eq_true, ne_eq, true_or, or_true, false_or, or_false, false_and, and_false, Int.reduceNeg, Int.reduceEq, Int.reduceNe, Int.reduceLT, Int.reduceLE, Nat.reduceLeDiff, Nat.reduceEqDiff, Nat.reduceSub, Nat.reduceAdd, reduceCtorEq, reduceIte, implies_true, List.reverse_nil, ha1, hb1, hc1, ha2, hb2, hc2, ha3, hb3, hc3, ha4, hb4, hc4, ha5, hb5, hc5, ha6, hb6, hc6, kz, kl, kc, km]
  (repeat' (first | (with_reducible refine And.intro ?_ ?_) | (with_reducible intro _) | omega))
  obtain ⟨_, m, S, h, V, N, Lg, X⟩ := HX
  refine x_waysC hl H.2.2.2.2.1 (by omega) H.2.2.2.2.2.1 X.1.1 X.2.2.1.1 _ _ (fun w1 h1 q1 p1 g1 s1 => ?_)
  have H1 := z_LI_gw H h1 (by decide) (by decide) (by omega) q1 p1
  have e0 : ∀ j, z_I w1 0 j = z_I w 0 j := fun j => h1.2.2.2 0 j (by omega) (by decide) (by simp)
  have m1 := xm_g hl h1 (by decide) (by decide)
  have M1 := st_M_e m1 X.2.2.1.1.2.1.1 X.2.1.1
  have hl1 := H1.1
  have kz1 := hl1.2.2.1
  have kl1 := H1.2.1
  have kc1 := (hl1.1 (2, 11, 19) (by decide)).1
  have km1 := (hl1.1 (49, 12, 39) (by decide)).1
  simp only at kc1 km1
  simp only [g300_965, g300_965r, g300_966, g300_966r, g300_967, g300_967r, g300_968, g300_970, g300_971, g300_972, g300_973, g300_973r, g300_974, g300_976, g300_977, g300_978, g300_979, g300_980, g300_982, g300_983, g300_983r, g300_984, g300_986, g300_987, g300_988, g300_989, g300_990, g300_993, g300_994, g300_995, z_kl_i, z_kl_l, z_kl_r, z_kl_n, z_kl_x, z_kl_vr, z_c8_0, z_c8_i, z_c8_l, z_c8_r, z_c8_vr, z_c8_n, z_vr_some, z_vr_none, Option.toList_some, Option.toList_none, List.cons_append, List.nil_append, true_and, and_true, and_self, z_k_sI, z_len_sI, z_R_sI, z_N_sI, z_set_0, z_set_1, z_set_s, eq_self, true_implies, false_implies, not_true_eq_false, not_false_eq_true, ne_eq, true_or, or_true, false_or, or_false, false_and, and_false, Int.reduceNeg, Int.reduceEq, Int.reduceNe, Int.reduceLT, Int.reduceLE, Nat.reduceLeDiff, Nat.reduceEqDiff, Nat.reduceSub, Nat.reduceAdd, reduceCtorEq, reduceIte, implies_true, List.reverse_nil, ha1, hb1, hc1, ha2, hb2, hc2, ha3, hb3, hc3, ha4, hb4, hc4, ha5, hb5, hc5, ha6, hb6, hc6, kz1, kl1, kc1, km1, e0]
  (repeat' (first | (with_reducible refine And.intro ?_ ?_) | (with_reducible intro _) | omega))
  refine x_ways hl1 H1.2.2.1 M1 X.2.2.1.1 _ _ (fun w2 h2 q2 s2 => ?_)
  have H2 := z_LI_md H1 h2 (by decide) (by decide) q2
  have X2 := x_A_ways X g1 m1 h2 s1 s2 (st_ok_wy X.2.2.1.1 _ _)
  simp only [g300_998, g300_998r, g300_999, z_kl_i, z_kl_l, z_kl_r, z_kl_n, z_kl_x, z_kl_vr, z_c8_0, z_c8_i, z_c8_l, z_c8_r, z_c8_vr, z_c8_n, z_vr_some, z_vr_none, Option.toList_some, Option.toList_none, List.cons_append, List.nil_append, true_and, and_true, and_self, z_k_sI, z_len_sI, z_R_sI, z_N_sI, z_set_0, z_set_1, z_set_s, eq_self, true_implies, false_implies, not_true_eq_false, not_false_eq_true, ne_eq, true_or, or_true, false_or, or_false, false_and, and_false, Int.reduceNeg, Int.reduceEq, Int.reduceNe, Int.reduceLT, Int.reduceLE, Nat.reduceLeDiff, Nat.reduceEqDiff, Nat.reduceSub, Nat.reduceAdd, reduceCtorEq, reduceIte, implies_true, List.reverse_nil]
  exact k _ _ _ _ (by first | omega | (simp only; omega)) (by first | omega | (simp only; omega)) ⟨H2, _, _, _, _, _, _, X2⟩
theorem c_op19 {d : Nat} {u : Nat × Nat} {w : z_W} {Q : z_P} {L B i : Int} {a5 a6 : z_V} (HX : z_LX L w B) (hB : B ≤ 200000) (i0 : 0 ≤ i) (i6 : i + 6 < L) (hL : L ≤ 3584) (hu : 2 ≤ u.1 ∧ 74 ≤ u.2) (k : ∀ u' w' a5 a6, u.1 ≤ u'.1 + 2 → u.2 ≤ u'.2 + 74 → z_LX L w' (B + 40) → z_G (d + 25) u' 300 1586 [z_r 0, z_r 2, z_r 49, z_r 76, z_i i, a5, a6] [] w' Q) : z_G (d + 25) u 300 1002 [z_r 0, z_r 2, z_r 49, z_r 76, z_i i, a5, a6] [] w Q := by
  have H := HX.1
  have ha1 : z_add i 1 = i + 1 := z_add_eq (by omega) (by omega)
  have ha2 : z_add i 2 = i + 2 := z_add_eq (by omega) (by omega)
  have ha3 : z_add i 3 = i + 3 := z_add_eq (by omega) (by omega)
  have ha4 : z_add i 4 = i + 4 := z_add_eq (by omega) (by omega)
  have ha5 : z_add i 5 = i + 5 := z_add_eq (by omega) (by omega)
  have ha6 : z_add i 6 = i + 6 := z_add_eq (by omega) (by omega)
  have hb1 : 0 ≤ i + 1 := by omega
  have hb2 : 0 ≤ i + 2 := by omega
  have hb3 : 0 ≤ i + 3 := by omega
  have hb4 : 0 ≤ i + 4 := by omega
  have hb5 : 0 ≤ i + 5 := by omega
  have hb6 : 0 ≤ i + 6 := by omega
  have hc1 : i + 1 < L := by omega
  have hc2 : i + 2 < L := by omega
  have hc3 : i + 3 < L := by omega
  have hc4 : i + 4 < L := by omega
  have hc5 : i + 5 < L := by omega
  have hc6 : i + 6 < L := by omega
  have hN := H.1.2.2.2
  have hl := H.1
  have kz := hl.2.2.1
  have kl := H.2.1
  have kc := (hl.1 (2, 11, 19) (by decide)).1
  have km := (hl.1 (49, 12, 39) (by decide)).1
  simp only at kc km
  simp only [g300_1002, g300_1002r, g300_1003, g300_1003r, g300_1004, g300_1006, g300_1007, g300_1008, g300_1009, z_kl_i, z_kl_l, z_kl_r, z_kl_n, z_kl_x, z_kl_vr, z_c8_0, z_c8_i, z_c8_l, z_c8_r, z_c8_vr, z_c8_n, z_vr_some, z_vr_none, Option.toList_some, Option.toList_none, List.cons_append, List.nil_append, true_and, and_true, and_self, z_k_sI, z_len_sI, z_R_sI, z_N_sI, z_set_0, z_set_1, z_set_s, eq_self, true_implies, false_implies, not_true_eq_false, not_false_eq_true, ne_eq, true_or, or_true, false_or, or_false, false_and, and_false, Int.reduceNeg, Int.reduceEq, Int.reduceNe, Int.reduceLT, Int.reduceLE, Nat.reduceLeDiff, Nat.reduceEqDiff, Nat.reduceSub, Nat.reduceAdd, reduceCtorEq, reduceIte, implies_true, List.reverse_nil, ha1, hb1, hc1, ha2, hb2, hc2, ha3, hb3, hc3, ha4, hb4, hc4, ha5, hb5, hc5, ha6, hb6, hc6, kz, kl, kc, km]
  (repeat' (first | (with_reducible refine And.intro ?_ ?_) | (with_reducible intro _) | omega))
  have HX0 := HX
  obtain ⟨_, m, S, h, V, N, Lg, X⟩ := HX
  refine x_statusC hl X.2.2.2 _ ?_
  have HX1 := z_LX_mono (show B ≤ B + 40 by omega) HX0
  have H1 := HX1.1
  have hl1 := H1.1
  have kz1 := hl1.2.2.1
  have kl1 := H1.2.1
  have kc1 := (hl1.1 (2, 11, 19) (by decide)).1
  have km1 := (hl1.1 (49, 12, 39) (by decide)).1
  simp only at kc1 km1
  simp only [g300_1012, g300_1012r, g300_1013, g300_1013r, g300_1014, g300_1014r, g300_1015, g300_1017, g300_1018, g300_1019, g300_1020, z_kl_i, z_kl_l, z_kl_r, z_kl_n, z_kl_x, z_kl_vr, z_c8_0, z_c8_i, z_c8_l, z_c8_r, z_c8_vr, z_c8_n, z_vr_some, z_vr_none, Option.toList_some, Option.toList_none, List.cons_append, List.nil_append, true_and, and_true, and_self, z_k_sI, z_len_sI, z_R_sI, z_N_sI, z_set_0, z_set_1, z_set_s, eq_self, true_implies, false_implies, not_true_eq_false, not_false_eq_true, ne_eq, true_or, or_true, false_or, or_false, false_and, and_false, Int.reduceNeg, Int.reduceEq, Int.reduceNe, Int.reduceLT, Int.reduceLE, Nat.reduceLeDiff, Nat.reduceEqDiff, Nat.reduceSub, Nat.reduceAdd, reduceCtorEq, reduceIte, implies_true, List.reverse_nil, ha1, hb1, hc1, ha2, hb2, hc2, ha3, hb3, hc3, ha4, hb4, hc4, ha5, hb5, hc5, ha6, hb6, hc6, kz1, kl1, kc1, km1]
  (repeat' (first | (with_reducible refine And.intro ?_ ?_) | (with_reducible intro _) | omega))
  refine ex_status hl1 _ ?_
  have HX2 := HX1
  simp only [g300_1023, g300_1023r, g300_1024, z_kl_i, z_kl_l, z_kl_r, z_kl_n, z_kl_x, z_kl_vr, z_c8_0, z_c8_i, z_c8_l, z_c8_r, z_c8_vr, z_c8_n, z_vr_some, z_vr_none, Option.toList_some, Option.toList_none, List.cons_append, List.nil_append, true_and, and_true, and_self, z_k_sI, z_len_sI, z_R_sI, z_N_sI, z_set_0, z_set_1, z_set_s, eq_self, true_implies, false_implies, not_true_eq_false, not_false_eq_true, ne_eq, true_or, or_true, false_or, or_false, false_and, and_false, Int.reduceNeg, Int.reduceEq, Int.reduceNe, Int.reduceLT, Int.reduceLE, Nat.reduceLeDiff, Nat.reduceEqDiff, Nat.reduceSub, Nat.reduceAdd, reduceCtorEq, reduceIte, implies_true, List.reverse_nil]
  exact k _ _ _ _ (by first | omega | (simp only; omega)) (by first | omega | (simp only; omega)) HX2
theorem c_op20 {d : Nat} {u : Nat × Nat} {w : z_W} {Q : z_P} {L B i : Int} {a5 a6 : z_V} (HX : z_LX L w B) (hB : B ≤ 200000) (i0 : 0 ≤ i) (i6 : i + 6 < L) (hL : L ≤ 3584) (hu : 2 ≤ u.1 ∧ 74 ≤ u.2) (k : ∀ u' w' a5 a6, u.1 ≤ u'.1 + 2 → u.2 ≤ u'.2 + 74 → z_LX L w' (B + 40) → z_G (d + 25) u' 300 1586 [z_r 0, z_r 2, z_r 49, z_r 76, z_i i, a5, a6] [] w' Q) : z_G (d + 25) u 300 1027 [z_r 0, z_r 2, z_r 49, z_r 76, z_i i, a5, a6] [] w Q := by
  have H := HX.1
  have ha1 : z_add i 1 = i + 1 := z_add_eq (by omega) (by omega)
  have ha2 : z_add i 2 = i + 2 := z_add_eq (by omega) (by omega)
  have ha3 : z_add i 3 = i + 3 := z_add_eq (by omega) (by omega)
  have ha4 : z_add i 4 = i + 4 := z_add_eq (by omega) (by omega)
  have ha5 : z_add i 5 = i + 5 := z_add_eq (by omega) (by omega)
  have ha6 : z_add i 6 = i + 6 := z_add_eq (by omega) (by omega)
  have hb1 : 0 ≤ i + 1 := by omega
  have hb2 : 0 ≤ i + 2 := by omega
  have hb3 : 0 ≤ i + 3 := by omega
  have hb4 : 0 ≤ i + 4 := by omega
  have hb5 : 0 ≤ i + 5 := by omega
  have hb6 : 0 ≤ i + 6 := by omega
  have hc1 : i + 1 < L := by omega
  have hc2 : i + 2 < L := by omega
  have hc3 : i + 3 < L := by omega
  have hc4 : i + 4 < L := by omega
  have hc5 : i + 5 < L := by omega
  have hc6 : i + 6 < L := by omega
  have hN := H.1.2.2.2
  have hl := H.1
  have kz := hl.2.2.1
  have kl := H.2.1
  have kc := (hl.1 (2, 11, 19) (by decide)).1
  have km := (hl.1 (49, 12, 39) (by decide)).1
  simp only at kc km
  simp only [g300_1027, g300_1027r, g300_1028, z_kl_i, z_kl_l, z_kl_r, z_kl_n, z_kl_x, z_kl_vr, z_c8_0, z_c8_i, z_c8_l, z_c8_r, z_c8_vr, z_c8_n, z_vr_some, z_vr_none, Option.toList_some, Option.toList_none, List.cons_append, List.nil_append, true_and, and_true, and_self, z_k_sI, z_len_sI, z_R_sI, z_N_sI, z_set_0, z_set_1, z_set_s, eq_self, true_implies, false_implies, not_true_eq_false, not_false_eq_true, ne_eq, true_or, or_true, false_or, or_false, false_and, and_false, Int.reduceNeg, Int.reduceEq, Int.reduceNe, Int.reduceLT, Int.reduceLE, Nat.reduceLeDiff, Nat.reduceEqDiff, Nat.reduceSub, Nat.reduceAdd, reduceCtorEq, reduceIte, implies_true, List.reverse_nil, ha1, hb1, hc1, ha2, hb2, hc2, ha3, hb3, hc3, ha4, hb4, hc4, ha5, hb5, hc5, ha6, hb6, hc6, kz, kl, kc, km]
  (repeat' (first | (with_reducible refine And.intro ?_ ?_) | (with_reducible intro _) | omega))
  obtain ⟨_, m, S, h, V, N, Lg, X⟩ := HX
  refine x_undoC hl H.2.2.2.2.1 (by omega) X.1.1 X.2.2.1.1 (fun w1 h1 q1 s1 => ?_)
  have H1 := z_LI_cf H h1 (by decide) (by decide) (by omega) q1
  have e0 : ∀ j, z_I w1 0 j = z_I w 0 j := fun j => h1.2 0 j (by decide) (by simp)
  have M1 := st_M_e (xm_c h1 (by decide) (by decide)) X.2.2.1.1.2.1.1 X.2.1.1
  have hl1 := H1.1
  have kz1 := hl1.2.2.1
  have kl1 := H1.2.1
  have kc1 := (hl1.1 (2, 11, 19) (by decide)).1
  have km1 := (hl1.1 (49, 12, 39) (by decide)).1
  simp only at kc1 km1
  simp only [g300_1031, g300_1031r, g300_1032, g300_1032r, g300_1033, z_kl_i, z_kl_l, z_kl_r, z_kl_n, z_kl_x, z_kl_vr, z_c8_0, z_c8_i, z_c8_l, z_c8_r, z_c8_vr, z_c8_n, z_vr_some, z_vr_none, Option.toList_some, Option.toList_none, List.cons_append, List.nil_append, true_and, and_true, and_self, z_k_sI, z_len_sI, z_R_sI, z_N_sI, z_set_0, z_set_1, z_set_s, eq_self, true_implies, false_implies, not_true_eq_false, not_false_eq_true, ne_eq, true_or, or_true, false_or, or_false, false_and, and_false, Int.reduceNeg, Int.reduceEq, Int.reduceNe, Int.reduceLT, Int.reduceLE, Nat.reduceLeDiff, Nat.reduceEqDiff, Nat.reduceSub, Nat.reduceAdd, reduceCtorEq, reduceIte, implies_true, List.reverse_nil, ha1, hb1, hc1, ha2, hb2, hc2, ha3, hb3, hc3, ha4, hb4, hc4, ha5, hb5, hc5, ha6, hb6, hc6, kz1, kl1, kc1, km1, e0]
  (repeat' (first | (with_reducible refine And.intro ?_ ?_) | (with_reducible intro _) | omega))
  refine x_undo hl1 H1.2.2.1 M1 X.2.2.1.1 (fun w2 h2 q2 s2 => ?_)
  have H2 := z_LI_md H1 h2 (by decide) (by decide) q2
  have X2 := x_A_undo X h1 h2 s1 s2
  simp only [g300_1036, g300_1036r, g300_1037, z_kl_i, z_kl_l, z_kl_r, z_kl_n, z_kl_x, z_kl_vr, z_c8_0, z_c8_i, z_c8_l, z_c8_r, z_c8_vr, z_c8_n, z_vr_some, z_vr_none, Option.toList_some, Option.toList_none, List.cons_append, List.nil_append, true_and, and_true, and_self, z_k_sI, z_len_sI, z_R_sI, z_N_sI, z_set_0, z_set_1, z_set_s, eq_self, true_implies, false_implies, not_true_eq_false, not_false_eq_true, ne_eq, true_or, or_true, false_or, or_false, false_and, and_false, Int.reduceNeg, Int.reduceEq, Int.reduceNe, Int.reduceLT, Int.reduceLE, Nat.reduceLeDiff, Nat.reduceEqDiff, Nat.reduceSub, Nat.reduceAdd, reduceCtorEq, reduceIte, implies_true, List.reverse_nil]
  exact k _ _ _ _ (by first | omega | (simp only; omega)) (by first | omega | (simp only; omega)) ⟨H2, _, _, _, _, _, _, X2⟩
theorem c_op21 {d : Nat} {u : Nat × Nat} {w : z_W} {Q : z_P} {L B i : Int} {a5 a6 : z_V} (HX : z_LX L w B) (hB : B ≤ 200000) (i0 : 0 ≤ i) (i6 : i + 6 < L) (hL : L ≤ 3584) (hu : 2 ≤ u.1 ∧ 74 ≤ u.2) (k : ∀ u' w' a5 a6, u.1 ≤ u'.1 + 2 → u.2 ≤ u'.2 + 74 → z_LX L w' (B + 40) → z_G (d + 25) u' 300 1586 [z_r 0, z_r 2, z_r 49, z_r 76, z_i i, a5, a6] [] w' Q) : z_G (d + 25) u 300 1040 [z_r 0, z_r 2, z_r 49, z_r 76, z_i i, a5, a6] [] w Q := by
  have H := HX.1
  have ha1 : z_add i 1 = i + 1 := z_add_eq (by omega) (by omega)
  have ha2 : z_add i 2 = i + 2 := z_add_eq (by omega) (by omega)
  have ha3 : z_add i 3 = i + 3 := z_add_eq (by omega) (by omega)
  have ha4 : z_add i 4 = i + 4 := z_add_eq (by omega) (by omega)
  have ha5 : z_add i 5 = i + 5 := z_add_eq (by omega) (by omega)
  have ha6 : z_add i 6 = i + 6 := z_add_eq (by omega) (by omega)
  have hb1 : 0 ≤ i + 1 := by omega
  have hb2 : 0 ≤ i + 2 := by omega
  have hb3 : 0 ≤ i + 3 := by omega
  have hb4 : 0 ≤ i + 4 := by omega
  have hb5 : 0 ≤ i + 5 := by omega
  have hb6 : 0 ≤ i + 6 := by omega
  have hc1 : i + 1 < L := by omega
  have hc2 : i + 2 < L := by omega
  have hc3 : i + 3 < L := by omega
  have hc4 : i + 4 < L := by omega
  have hc5 : i + 5 < L := by omega
  have hc6 : i + 6 < L := by omega
  have hN := H.1.2.2.2
  have hl := H.1
  have kz := hl.2.2.1
  have kl := H.2.1
  have kc := (hl.1 (2, 11, 19) (by decide)).1
  have km := (hl.1 (49, 12, 39) (by decide)).1
  simp only at kc km
  simp only [g300_1040, g300_1040r, g300_1041, g300_1041r, g300_1042, g300_1044, g300_1045, g300_1046, g300_1047, g300_1047r, g300_1048, g300_1050, g300_1051, g300_1052, g300_1053, z_kl_i, z_kl_l, z_kl_r, z_kl_n, z_kl_x, z_kl_vr, z_c8_0, z_c8_i, z_c8_l, z_c8_r, z_c8_vr, z_c8_n, z_vr_some, z_vr_none, Option.toList_some, Option.toList_none, List.cons_append, List.nil_append, true_and, and_true, and_self, z_k_sI, z_len_sI, z_R_sI, z_N_sI, z_set_0, z_set_1, z_set_s, eq_self, true_implies, false_implies, not_true_eq_false, not_false_eq_true, ne_eq, true_or, or_true, false_or, or_false, false_and, and_false, Int.reduceNeg, Int.reduceEq, Int.reduceNe, Int.reduceLT, Int.reduceLE, Nat.reduceLeDiff, Nat.reduceEqDiff, Nat.reduceSub, Nat.reduceAdd, reduceCtorEq, reduceIte, implies_true, List.reverse_nil, ha1, hb1, hc1, ha2, hb2, hc2, ha3, hb3, hc3, ha4, hb4, hc4, ha5, hb5, hc5, ha6, hb6, hc6, kz, kl, kc, km]
  (repeat' (first | (with_reducible refine And.intro ?_ ?_) | (with_reducible intro _) | omega))
  have HX0 := HX
  obtain ⟨_, m, S, h, V, N, Lg, X⟩ := HX
  have h34 := z_IC_34 H.2.2.2.2.1
  refine ex_logC hl X.1.1 X.2.2.1.1 ⟨h34.1, by omega⟩ _ _ ?_
  have HX1 := z_LX_mono (show B ≤ B + 40 by omega) HX0
  have H1 := HX1.1
  have hl1 := H1.1
  have kz1 := hl1.2.2.1
  have kl1 := H1.2.1
  have kc1 := (hl1.1 (2, 11, 19) (by decide)).1
  have km1 := (hl1.1 (49, 12, 39) (by decide)).1
  simp only at kc1 km1
  simp only [g300_1056, g300_1056r, g300_1057, g300_1057r, g300_1058, g300_1058r, g300_1059, g300_1061, g300_1062, g300_1063, g300_1064, g300_1064r, g300_1065, g300_1067, g300_1068, g300_1069, g300_1070, z_kl_i, z_kl_l, z_kl_r, z_kl_n, z_kl_x, z_kl_vr, z_c8_0, z_c8_i, z_c8_l, z_c8_r, z_c8_vr, z_c8_n, z_vr_some, z_vr_none, Option.toList_some, Option.toList_none, List.cons_append, List.nil_append, true_and, and_true, and_self, z_k_sI, z_len_sI, z_R_sI, z_N_sI, z_set_0, z_set_1, z_set_s, eq_self, true_implies, false_implies, not_true_eq_false, not_false_eq_true, ne_eq, true_or, or_true, false_or, or_false, false_and, and_false, Int.reduceNeg, Int.reduceEq, Int.reduceNe, Int.reduceLT, Int.reduceLE, Nat.reduceLeDiff, Nat.reduceEqDiff, Nat.reduceSub, Nat.reduceAdd, reduceCtorEq, reduceIte, implies_true, List.reverse_nil, ha1, hb1, hc1, ha2, hb2, hc2, ha3, hb3, hc3, ha4, hb4, hc4, ha5, hb5, hc5, ha6, hb6, hc6, kz1, kl1, kc1, km1]
  (repeat' (first | (with_reducible refine And.intro ?_ ?_) | (with_reducible intro _) | omega))
  refine ex_log hl1 X.2.1.1 X.2.2.1.1 _ _ ?_
  have HX2 := HX1
  simp only [g300_1073, g300_1073r, g300_1074, z_kl_i, z_kl_l, z_kl_r, z_kl_n, z_kl_x, z_kl_vr, z_c8_0, z_c8_i, z_c8_l, z_c8_r, z_c8_vr, z_c8_n, z_vr_some, z_vr_none, Option.toList_some, Option.toList_none, List.cons_append, List.nil_append, true_and, and_true, and_self, z_k_sI, z_len_sI, z_R_sI, z_N_sI, z_set_0, z_set_1, z_set_s, eq_self, true_implies, false_implies, not_true_eq_false, not_false_eq_true, ne_eq, true_or, or_true, false_or, or_false, false_and, and_false, Int.reduceNeg, Int.reduceEq, Int.reduceNe, Int.reduceLT, Int.reduceLE, Nat.reduceLeDiff, Nat.reduceEqDiff, Nat.reduceSub, Nat.reduceAdd, reduceCtorEq, reduceIte, implies_true, List.reverse_nil]
  exact k _ _ _ _ (by first | omega | (simp only; omega)) (by first | omega | (simp only; omega)) HX2
theorem c_op22 {d : Nat} {u : Nat × Nat} {w : z_W} {Q : z_P} {L B i : Int} {a5 a6 : z_V} (HX : z_LX L w B) (hB : B ≤ 200000) (i0 : 0 ≤ i) (i6 : i + 6 < L) (hL : L ≤ 3584) (hu : 2 ≤ u.1 ∧ 74 ≤ u.2) (k : ∀ u' w' a5 a6, u.1 ≤ u'.1 + 2 → u.2 ≤ u'.2 + 74 → z_LX L w' (B + 40) → z_G (d + 25) u' 300 1586 [z_r 0, z_r 2, z_r 49, z_r 76, z_i i, a5, a6] [] w' Q) : z_G (d + 25) u 300 1077 [z_r 0, z_r 2, z_r 49, z_r 76, z_i i, a5, a6] [] w Q := by
  have H := HX.1
  have ha1 : z_add i 1 = i + 1 := z_add_eq (by omega) (by omega)
  have ha2 : z_add i 2 = i + 2 := z_add_eq (by omega) (by omega)
  have ha3 : z_add i 3 = i + 3 := z_add_eq (by omega) (by omega)
  have ha4 : z_add i 4 = i + 4 := z_add_eq (by omega) (by omega)
  have ha5 : z_add i 5 = i + 5 := z_add_eq (by omega) (by omega)
  have ha6 : z_add i 6 = i + 6 := z_add_eq (by omega) (by omega)
  have hb1 : 0 ≤ i + 1 := by omega
  have hb2 : 0 ≤ i + 2 := by omega
  have hb3 : 0 ≤ i + 3 := by omega
  have hb4 : 0 ≤ i + 4 := by omega
  have hb5 : 0 ≤ i + 5 := by omega
  have hb6 : 0 ≤ i + 6 := by omega
  have hc1 : i + 1 < L := by omega
  have hc2 : i + 2 < L := by omega
  have hc3 : i + 3 < L := by omega
  have hc4 : i + 4 < L := by omega
  have hc5 : i + 5 < L := by omega
  have hc6 : i + 6 < L := by omega
  have hN := H.1.2.2.2
  have hl := H.1
  have kz := hl.2.2.1
  have kl := H.2.1
  have kc := (hl.1 (2, 11, 19) (by decide)).1
  have km := (hl.1 (49, 12, 39) (by decide)).1
  simp only at kc km
  simp only [g300_1077, g300_1077r, g300_1078, z_kl_i, z_kl_l, z_kl_r, z_kl_n, z_kl_x, z_kl_vr, z_c8_0, z_c8_i, z_c8_l, z_c8_r, z_c8_vr, z_c8_n, z_vr_some, z_vr_none, Option.toList_some, Option.toList_none, List.cons_append, List.nil_append, true_and, and_true, and_self, z_k_sI, z_len_sI, z_R_sI, z_N_sI, z_set_0, z_set_1, z_set_s, eq_self, true_implies, false_implies, not_true_eq_false, not_false_eq_true, ne_eq, true_or, or_true, false_or, or_false, false_and, and_false, Int.reduceNeg, Int.reduceEq, Int.reduceNe, Int.reduceLT, Int.reduceLE, Nat.reduceLeDiff, Nat.reduceEqDiff, Nat.reduceSub, Nat.reduceAdd, reduceCtorEq, reduceIte, implies_true, List.reverse_nil, ha1, hb1, hc1, ha2, hb2, hc2, ha3, hb3, hc3, ha4, hb4, hc4, ha5, hb5, hc5, ha6, hb6, hc6, kz, kl, kc, km]
  (repeat' (first | (with_reducible refine And.intro ?_ ?_) | (with_reducible intro _) | omega))
  have HX0 := HX
  obtain ⟨_, m, S, h, V, N, Lg, X⟩ := HX
  refine ex_idleC hl H.2.2.2.2.1 X.1.1 X.2.2.1.1 (fun w1 h1 q1 => ?_)
  have HX1 := z_LX_q HX0 h1 q1
  have H1 := HX1.1
  have e0 : ∀ j, z_I w1 0 j = z_I w 0 j := fun j => h1.2 0 j (by decide) (by simp)
  have M1 := st_M_e (xm_c h1 (by decide) (by decide)) X.2.2.1.1.2.1.1 X.2.1.1
  have hl1 := H1.1
  have kz1 := hl1.2.2.1
  have kl1 := H1.2.1
  have kc1 := (hl1.1 (2, 11, 19) (by decide)).1
  have km1 := (hl1.1 (49, 12, 39) (by decide)).1
  simp only at kc1 km1
  simp only [g300_1081, g300_1081r, g300_1082, g300_1082r, g300_1083, z_kl_i, z_kl_l, z_kl_r, z_kl_n, z_kl_x, z_kl_vr, z_c8_0, z_c8_i, z_c8_l, z_c8_r, z_c8_vr, z_c8_n, z_vr_some, z_vr_none, Option.toList_some, Option.toList_none, List.cons_append, List.nil_append, true_and, and_true, and_self, z_k_sI, z_len_sI, z_R_sI, z_N_sI, z_set_0, z_set_1, z_set_s, eq_self, true_implies, false_implies, not_true_eq_false, not_false_eq_true, ne_eq, true_or, or_true, false_or, or_false, false_and, and_false, Int.reduceNeg, Int.reduceEq, Int.reduceNe, Int.reduceLT, Int.reduceLE, Nat.reduceLeDiff, Nat.reduceEqDiff, Nat.reduceSub, Nat.reduceAdd, reduceCtorEq, reduceIte, implies_true, List.reverse_nil, ha1, hb1, hc1, ha2, hb2, hc2, ha3, hb3, hc3, ha4, hb4, hc4, ha5, hb5, hc5, ha6, hb6, hc6, kz1, kl1, kc1, km1, e0]
  (repeat' (first | (with_reducible refine And.intro ?_ ?_) | (with_reducible intro _) | omega))
  refine ex_idle hl1 M1 X.2.2.1.1 (fun w2 h2 => ?_)
  have HX2 := z_LX_s HX1 h2
  simp only [g300_1086, g300_1086r, g300_1087, z_kl_i, z_kl_l, z_kl_r, z_kl_n, z_kl_x, z_kl_vr, z_c8_0, z_c8_i, z_c8_l, z_c8_r, z_c8_vr, z_c8_n, z_vr_some, z_vr_none, Option.toList_some, Option.toList_none, List.cons_append, List.nil_append, true_and, and_true, and_self, z_k_sI, z_len_sI, z_R_sI, z_N_sI, z_set_0, z_set_1, z_set_s, eq_self, true_implies, false_implies, not_true_eq_false, not_false_eq_true, ne_eq, true_or, or_true, false_or, or_false, false_and, and_false, Int.reduceNeg, Int.reduceEq, Int.reduceNe, Int.reduceLT, Int.reduceLE, Nat.reduceLeDiff, Nat.reduceEqDiff, Nat.reduceSub, Nat.reduceAdd, reduceCtorEq, reduceIte, implies_true, List.reverse_nil]
  exact k _ _ _ _ (by first | omega | (simp only; omega)) (by first | omega | (simp only; omega)) HX2
theorem c_op23 {d : Nat} {u : Nat × Nat} {w : z_W} {Q : z_P} {L B i : Int} {a5 a6 : z_V} (HX : z_LX L w B) (hB : B ≤ 200000) (i0 : 0 ≤ i) (i6 : i + 6 < L) (hL : L ≤ 3584) (hu : 2 ≤ u.1 ∧ 74 ≤ u.2) (k : ∀ u' w' a5 a6, u.1 ≤ u'.1 + 2 → u.2 ≤ u'.2 + 74 → z_LX L w' (B + 40) → z_G (d + 25) u' 300 1586 [z_r 0, z_r 2, z_r 49, z_r 76, z_i i, a5, a6] [] w' Q) : z_G (d + 25) u 300 1090 [z_r 0, z_r 2, z_r 49, z_r 76, z_i i, a5, a6] [] w Q := by
  have H := HX.1
  have ha1 : z_add i 1 = i + 1 := z_add_eq (by omega) (by omega)
  have ha2 : z_add i 2 = i + 2 := z_add_eq (by omega) (by omega)
  have ha3 : z_add i 3 = i + 3 := z_add_eq (by omega) (by omega)
  have ha4 : z_add i 4 = i + 4 := z_add_eq (by omega) (by omega)
  have ha5 : z_add i 5 = i + 5 := z_add_eq (by omega) (by omega)
  have ha6 : z_add i 6 = i + 6 := z_add_eq (by omega) (by omega)
  have hb1 : 0 ≤ i + 1 := by omega
  have hb2 : 0 ≤ i + 2 := by omega
  have hb3 : 0 ≤ i + 3 := by omega
  have hb4 : 0 ≤ i + 4 := by omega
  have hb5 : 0 ≤ i + 5 := by omega
  have hb6 : 0 ≤ i + 6 := by omega
  have hc1 : i + 1 < L := by omega
  have hc2 : i + 2 < L := by omega
  have hc3 : i + 3 < L := by omega
  have hc4 : i + 4 < L := by omega
  have hc5 : i + 5 < L := by omega
  have hc6 : i + 6 < L := by omega
  have hN := H.1.2.2.2
  have hl := H.1
  have kz := hl.2.2.1
  have kl := H.2.1
  have kc := (hl.1 (2, 11, 19) (by decide)).1
  have km := (hl.1 (49, 12, 39) (by decide)).1
  simp only at kc km
  simp only [g300_1090, g300_1090r, g300_1091, g300_1091r, g300_1092, g300_1094, g300_1095, g300_1096, g300_1097, z_kl_i, z_kl_l, z_kl_r, z_kl_n, z_kl_x, z_kl_vr, z_c8_0, z_c8_i, z_c8_l, z_c8_r, z_c8_vr, z_c8_n, z_vr_some, z_vr_none, Option.toList_some, Option.toList_none, List.cons_append, List.nil_append, true_and, and_true, and_self, z_k_sI, z_len_sI, z_R_sI, z_N_sI, z_set_0, z_set_1, z_set_s, eq_self, true_implies, false_implies, not_true_eq_false, not_false_eq_true, ne_eq, true_or, or_true, false_or, or_false, false_and, and_false, Int.reduceNeg, Int.reduceEq, Int.reduceNe, Int.reduceLT, Int.reduceLE, Nat.reduceLeDiff, Nat.reduceEqDiff, Nat.reduceSub, Nat.reduceAdd, reduceCtorEq, reduceIte, implies_true, List.reverse_nil, ha1, hb1, hc1, ha2, hb2, hc2, ha3, hb3, hc3, ha4, hb4, hc4, ha5, hb5, hc5, ha6, hb6, hc6, kz, kl, kc, km]
  (repeat' (first | (with_reducible refine And.intro ?_ ?_) | (with_reducible intro _) | omega))
  have HX0 := HX
  obtain ⟨_, m, S, h, V, N, Lg, X⟩ := HX
  refine ex_endsC hl H.2.2.2.2.1 X.1.1 X.2.2.1.1 _ (fun w1 h1 q1 => ?_)
  have HX1 := z_LX_q HX0 h1 q1
  have H1 := HX1.1
  have e0 : ∀ j, z_I w1 0 j = z_I w 0 j := fun j => h1.2 0 j (by decide) (by simp)
  have M1 := st_M_e (xm_c h1 (by decide) (by decide)) X.2.2.1.1.2.1.1 X.2.1.1
  have hl1 := H1.1
  have kz1 := hl1.2.2.1
  have kl1 := H1.2.1
  have kc1 := (hl1.1 (2, 11, 19) (by decide)).1
  have km1 := (hl1.1 (49, 12, 39) (by decide)).1
  simp only at kc1 km1
  simp only [g300_1100, g300_1100r, g300_1101, g300_1101r, g300_1102, g300_1102r, g300_1103, g300_1105, g300_1106, g300_1107, g300_1108, z_kl_i, z_kl_l, z_kl_r, z_kl_n, z_kl_x, z_kl_vr, z_c8_0, z_c8_i, z_c8_l, z_c8_r, z_c8_vr, z_c8_n, z_vr_some, z_vr_none, Option.toList_some, Option.toList_none, List.cons_append, List.nil_append, true_and, and_true, and_self, z_k_sI, z_len_sI, z_R_sI, z_N_sI, z_set_0, z_set_1, z_set_s, eq_self, true_implies, false_implies, not_true_eq_false, not_false_eq_true, ne_eq, true_or, or_true, false_or, or_false, false_and, and_false, Int.reduceNeg, Int.reduceEq, Int.reduceNe, Int.reduceLT, Int.reduceLE, Nat.reduceLeDiff, Nat.reduceEqDiff, Nat.reduceSub, Nat.reduceAdd, reduceCtorEq, reduceIte, implies_true, List.reverse_nil, ha1, hb1, hc1, ha2, hb2, hc2, ha3, hb3, hc3, ha4, hb4, hc4, ha5, hb5, hc5, ha6, hb6, hc6, kz1, kl1, kc1, km1, e0]
  (repeat' (first | (with_reducible refine And.intro ?_ ?_) | (with_reducible intro _) | omega))
  refine ex_ends hl1 M1 X.2.2.1.1 _ (fun w2 h2 => ?_)
  have HX2 := z_LX_s HX1 h2
  simp only [g300_1111, g300_1111r, g300_1112, z_kl_i, z_kl_l, z_kl_r, z_kl_n, z_kl_x, z_kl_vr, z_c8_0, z_c8_i, z_c8_l, z_c8_r, z_c8_vr, z_c8_n, z_vr_some, z_vr_none, Option.toList_some, Option.toList_none, List.cons_append, List.nil_append, true_and, and_true, and_self, z_k_sI, z_len_sI, z_R_sI, z_N_sI, z_set_0, z_set_1, z_set_s, eq_self, true_implies, false_implies, not_true_eq_false, not_false_eq_true, ne_eq, true_or, or_true, false_or, or_false, false_and, and_false, Int.reduceNeg, Int.reduceEq, Int.reduceNe, Int.reduceLT, Int.reduceLE, Nat.reduceLeDiff, Nat.reduceEqDiff, Nat.reduceSub, Nat.reduceAdd, reduceCtorEq, reduceIte, implies_true, List.reverse_nil]
  exact k _ _ _ _ (by first | omega | (simp only; omega)) (by first | omega | (simp only; omega)) HX2
theorem c_op24 {d : Nat} {u : Nat × Nat} {w : z_W} {Q : z_P} {L B i : Int} {a5 a6 : z_V} (HX : z_LX L w B) (hB : B ≤ 200000) (i0 : 0 ≤ i) (i6 : i + 6 < L) (hL : L ≤ 3584) (hu : 2 ≤ u.1 ∧ 74 ≤ u.2) (k : ∀ u' w' a5 a6, u.1 ≤ u'.1 + 2 → u.2 ≤ u'.2 + 74 → z_LX L w' (B + 40) → z_G (d + 25) u' 300 1586 [z_r 0, z_r 2, z_r 49, z_r 76, z_i i, a5, a6] [] w' Q) : z_G (d + 25) u 300 1115 [z_r 0, z_r 2, z_r 49, z_r 76, z_i i, a5, a6] [] w Q := by
  have H := HX.1
  have ha1 : z_add i 1 = i + 1 := z_add_eq (by omega) (by omega)
  have ha2 : z_add i 2 = i + 2 := z_add_eq (by omega) (by omega)
  have ha3 : z_add i 3 = i + 3 := z_add_eq (by omega) (by omega)
  have ha4 : z_add i 4 = i + 4 := z_add_eq (by omega) (by omega)
  have ha5 : z_add i 5 = i + 5 := z_add_eq (by omega) (by omega)
  have ha6 : z_add i 6 = i + 6 := z_add_eq (by omega) (by omega)
  have hb1 : 0 ≤ i + 1 := by omega
  have hb2 : 0 ≤ i + 2 := by omega
  have hb3 : 0 ≤ i + 3 := by omega
  have hb4 : 0 ≤ i + 4 := by omega
  have hb5 : 0 ≤ i + 5 := by omega
  have hb6 : 0 ≤ i + 6 := by omega
  have hc1 : i + 1 < L := by omega
  have hc2 : i + 2 < L := by omega
  have hc3 : i + 3 < L := by omega
  have hc4 : i + 4 < L := by omega
  have hc5 : i + 5 < L := by omega
  have hc6 : i + 6 < L := by omega
  have hN := H.1.2.2.2
  have hl := H.1
  have kz := hl.2.2.1
  have kl := H.2.1
  have kc := (hl.1 (2, 11, 19) (by decide)).1
  have km := (hl.1 (49, 12, 39) (by decide)).1
  simp only at kc km
  simp only [g300_1115, g300_1115r, g300_1116, g300_1116r, g300_1117, g300_1119, g300_1120, g300_1121, g300_1122, g300_1122r, g300_1123, g300_1125, g300_1126, g300_1127, g300_1128, z_kl_i, z_kl_l, z_kl_r, z_kl_n, z_kl_x, z_kl_vr, z_c8_0, z_c8_i, z_c8_l, z_c8_r, z_c8_vr, z_c8_n, z_vr_some, z_vr_none, Option.toList_some, Option.toList_none, List.cons_append, List.nil_append, true_and, and_true, and_self, z_k_sI, z_len_sI, z_R_sI, z_N_sI, z_set_0, z_set_1, z_set_s, eq_self, true_implies, false_implies, not_true_eq_false, not_false_eq_true, ne_eq, true_or, or_true, false_or, or_false, false_and, and_false, Int.reduceNeg, Int.reduceEq, Int.reduceNe, Int.reduceLT, Int.reduceLE, Nat.reduceLeDiff, Nat.reduceEqDiff, Nat.reduceSub, Nat.reduceAdd, reduceCtorEq, reduceIte, implies_true, List.reverse_nil, ha1, hb1, hc1, ha2, hb2, hc2, ha3, hb3, hc3, ha4, hb4, hc4, ha5, hb5, hc5, ha6, hb6, hc6, kz, kl, kc, km]
  (repeat' (first | (with_reducible refine And.intro ?_ ?_) | (with_reducible intro _) | omega))
  have HX0 := HX
  obtain ⟨_, m, S, h, V, N, Lg, X⟩ := HX
  refine ex_likeC hl H.2.2.2.2.1 X.1.1 X.2.2.1.1 _ _ (fun w1 h1 q1 => ?_)
  have HX1 := z_LX_q HX0 h1 q1
  have H1 := HX1.1
  have e0 : ∀ j, z_I w1 0 j = z_I w 0 j := fun j => h1.2 0 j (by decide) (by simp)
  have M1 := st_M_e (xm_c h1 (by decide) (by decide)) X.2.2.1.1.2.1.1 X.2.1.1
  have hl1 := H1.1
  have kz1 := hl1.2.2.1
  have kl1 := H1.2.1
  have kc1 := (hl1.1 (2, 11, 19) (by decide)).1
  have km1 := (hl1.1 (49, 12, 39) (by decide)).1
  simp only at kc1 km1
  simp only [g300_1131, g300_1131r, g300_1132, g300_1132r, g300_1133, g300_1133r, g300_1134, g300_1136, g300_1137, g300_1138, g300_1139, g300_1139r, g300_1140, g300_1142, g300_1143, g300_1144, g300_1145, z_kl_i, z_kl_l, z_kl_r, z_kl_n, z_kl_x, z_kl_vr, z_c8_0, z_c8_i, z_c8_l, z_c8_r, z_c8_vr, z_c8_n, z_vr_some, z_vr_none, Option.toList_some, Option.toList_none, List.cons_append, List.nil_append, true_and, and_true, and_self, z_k_sI, z_len_sI, z_R_sI, z_N_sI, z_set_0, z_set_1, z_set_s, eq_self, true_implies, false_implies, not_true_eq_false, not_false_eq_true, ne_eq, true_or, or_true, false_or, or_false, false_and, and_false, Int.reduceNeg, Int.reduceEq, Int.reduceNe, Int.reduceLT, Int.reduceLE, Nat.reduceLeDiff, Nat.reduceEqDiff, Nat.reduceSub, Nat.reduceAdd, reduceCtorEq, reduceIte, implies_true, List.reverse_nil, ha1, hb1, hc1, ha2, hb2, hc2, ha3, hb3, hc3, ha4, hb4, hc4, ha5, hb5, hc5, ha6, hb6, hc6, kz1, kl1, kc1, km1, e0]
  (repeat' (first | (with_reducible refine And.intro ?_ ?_) | (with_reducible intro _) | omega))
  refine ex_like hl1 M1 X.2.2.1.1 _ _ (fun w2 h2 => ?_)
  have HX2 := z_LX_s HX1 h2
  simp only [g300_1148, g300_1148r, g300_1149, z_kl_i, z_kl_l, z_kl_r, z_kl_n, z_kl_x, z_kl_vr, z_c8_0, z_c8_i, z_c8_l, z_c8_r, z_c8_vr, z_c8_n, z_vr_some, z_vr_none, Option.toList_some, Option.toList_none, List.cons_append, List.nil_append, true_and, and_true, and_self, z_k_sI, z_len_sI, z_R_sI, z_N_sI, z_set_0, z_set_1, z_set_s, eq_self, true_implies, false_implies, not_true_eq_false, not_false_eq_true, ne_eq, true_or, or_true, false_or, or_false, false_and, and_false, Int.reduceNeg, Int.reduceEq, Int.reduceNe, Int.reduceLT, Int.reduceLE, Nat.reduceLeDiff, Nat.reduceEqDiff, Nat.reduceSub, Nat.reduceAdd, reduceCtorEq, reduceIte, implies_true, List.reverse_nil]
  exact k _ _ _ _ (by first | omega | (simp only; omega)) (by first | omega | (simp only; omega)) HX2
theorem c_op25 {d : Nat} {u : Nat × Nat} {w : z_W} {Q : z_P} {L B i : Int} {a5 a6 : z_V} (HX : z_LX L w B) (hB : B ≤ 200000) (i0 : 0 ≤ i) (i6 : i + 6 < L) (hL : L ≤ 3584) (hu : 2 ≤ u.1 ∧ 74 ≤ u.2) (k : ∀ u' w' a5 a6, u.1 ≤ u'.1 + 2 → u.2 ≤ u'.2 + 74 → z_LX L w' (B + 40) → z_G (d + 25) u' 300 1586 [z_r 0, z_r 2, z_r 49, z_r 76, z_i i, a5, a6] [] w' Q) : z_G (d + 25) u 300 1152 [z_r 0, z_r 2, z_r 49, z_r 76, z_i i, a5, a6] [] w Q := by
  have H := HX.1
  have ha1 : z_add i 1 = i + 1 := z_add_eq (by omega) (by omega)
  have ha2 : z_add i 2 = i + 2 := z_add_eq (by omega) (by omega)
  have ha3 : z_add i 3 = i + 3 := z_add_eq (by omega) (by omega)
  have ha4 : z_add i 4 = i + 4 := z_add_eq (by omega) (by omega)
  have ha5 : z_add i 5 = i + 5 := z_add_eq (by omega) (by omega)
  have ha6 : z_add i 6 = i + 6 := z_add_eq (by omega) (by omega)
  have hb1 : 0 ≤ i + 1 := by omega
  have hb2 : 0 ≤ i + 2 := by omega
  have hb3 : 0 ≤ i + 3 := by omega
  have hb4 : 0 ≤ i + 4 := by omega
  have hb5 : 0 ≤ i + 5 := by omega
  have hb6 : 0 ≤ i + 6 := by omega
  have hc1 : i + 1 < L := by omega
  have hc2 : i + 2 < L := by omega
  have hc3 : i + 3 < L := by omega
  have hc4 : i + 4 < L := by omega
  have hc5 : i + 5 < L := by omega
  have hc6 : i + 6 < L := by omega
  have hN := H.1.2.2.2
  have hl := H.1
  have kz := hl.2.2.1
  have kl := H.2.1
  have kc := (hl.1 (2, 11, 19) (by decide)).1
  have km := (hl.1 (49, 12, 39) (by decide)).1
  simp only at kc km
  simp only [g300_1152, g300_1152r, g300_1153, g300_1153r, g300_1154, g300_1156, g300_1157, g300_1158, g300_1159, z_kl_i, z_kl_l, z_kl_r, z_kl_n, z_kl_x, z_kl_vr, z_c8_0, z_c8_i, z_c8_l, z_c8_r, z_c8_vr, z_c8_n, z_vr_some, z_vr_none, Option.toList_some, Option.toList_none, List.cons_append, List.nil_append, true_and, and_true, and_self, z_k_sI, z_len_sI, z_R_sI, z_N_sI, z_set_0, z_set_1, z_set_s, eq_self, true_implies, false_implies, not_true_eq_false, not_false_eq_true, ne_eq, true_or, or_true, false_or, or_false, false_and, and_false, Int.reduceNeg, Int.reduceEq, Int.reduceNe, Int.reduceLT, Int.reduceLE, Nat.reduceLeDiff, Nat.reduceEqDiff, Nat.reduceSub, Nat.reduceAdd, reduceCtorEq, reduceIte, implies_true, List.reverse_nil, ha1, hb1, hc1, ha2, hb2, hc2, ha3, hb3, hc3, ha4, hb4, hc4, ha5, hb5, hc5, ha6, hb6, hc6, kz, kl, kc, km]
  (repeat' (first | (with_reducible refine And.intro ?_ ?_) | (with_reducible intro _) | omega))
  have HX0 := HX
  obtain ⟨_, m, S, h, V, N, Lg, X⟩ := HX
  refine ex_stairsC hl H.2.2.2.2.1 X.1.1 X.2.2.1.1 _ (fun w1 h1 q1 => ?_)
  have HX1 := z_LX_q HX0 h1 q1
  have H1 := HX1.1
  have e0 : ∀ j, z_I w1 0 j = z_I w 0 j := fun j => h1.2 0 j (by decide) (by simp)
  have M1 := st_M_e (xm_c h1 (by decide) (by decide)) X.2.2.1.1.2.1.1 X.2.1.1
  have hl1 := H1.1
  have kz1 := hl1.2.2.1
  have kl1 := H1.2.1
  have kc1 := (hl1.1 (2, 11, 19) (by decide)).1
  have km1 := (hl1.1 (49, 12, 39) (by decide)).1
  simp only at kc1 km1
  simp only [g300_1162, g300_1162r, g300_1163, g300_1163r, g300_1164, g300_1164r, g300_1165, g300_1167, g300_1168, g300_1169, g300_1170, z_kl_i, z_kl_l, z_kl_r, z_kl_n, z_kl_x, z_kl_vr, z_c8_0, z_c8_i, z_c8_l, z_c8_r, z_c8_vr, z_c8_n, z_vr_some, z_vr_none, Option.toList_some, Option.toList_none, List.cons_append, List.nil_append, true_and, and_true, and_self, z_k_sI, z_len_sI, z_R_sI, z_N_sI, z_set_0, z_set_1, z_set_s, eq_self, true_implies, false_implies, not_true_eq_false, not_false_eq_true, ne_eq, true_or, or_true, false_or, or_false, false_and, and_false, Int.reduceNeg, Int.reduceEq, Int.reduceNe, Int.reduceLT, Int.reduceLE, Nat.reduceLeDiff, Nat.reduceEqDiff, Nat.reduceSub, Nat.reduceAdd, reduceCtorEq, reduceIte, implies_true, List.reverse_nil, ha1, hb1, hc1, ha2, hb2, hc2, ha3, hb3, hc3, ha4, hb4, hc4, ha5, hb5, hc5, ha6, hb6, hc6, kz1, kl1, kc1, km1, e0]
  (repeat' (first | (with_reducible refine And.intro ?_ ?_) | (with_reducible intro _) | omega))
  refine ex_stairs hl1 M1 X.2.2.1.1 _ (fun w2 h2 => ?_)
  have HX2 := z_LX_s HX1 h2
  simp only [g300_1173, g300_1173r, g300_1174, z_kl_i, z_kl_l, z_kl_r, z_kl_n, z_kl_x, z_kl_vr, z_c8_0, z_c8_i, z_c8_l, z_c8_r, z_c8_vr, z_c8_n, z_vr_some, z_vr_none, Option.toList_some, Option.toList_none, List.cons_append, List.nil_append, true_and, and_true, and_self, z_k_sI, z_len_sI, z_R_sI, z_N_sI, z_set_0, z_set_1, z_set_s, eq_self, true_implies, false_implies, not_true_eq_false, not_false_eq_true, ne_eq, true_or, or_true, false_or, or_false, false_and, and_false, Int.reduceNeg, Int.reduceEq, Int.reduceNe, Int.reduceLT, Int.reduceLE, Nat.reduceLeDiff, Nat.reduceEqDiff, Nat.reduceSub, Nat.reduceAdd, reduceCtorEq, reduceIte, implies_true, List.reverse_nil]
  exact k _ _ _ _ (by first | omega | (simp only; omega)) (by first | omega | (simp only; omega)) HX2
theorem c_op26 {d : Nat} {u : Nat × Nat} {w : z_W} {Q : z_P} {L B i : Int} {a5 a6 : z_V} (HX : z_LX L w B) (hB : B ≤ 200000) (i0 : 0 ≤ i) (i6 : i + 6 < L) (hL : L ≤ 3584) (hu : 2 ≤ u.1 ∧ 74 ≤ u.2) (k : ∀ u' w' a5 a6, u.1 ≤ u'.1 + 2 → u.2 ≤ u'.2 + 74 → z_LX L w' (B + 40) → z_G (d + 25) u' 300 1586 [z_r 0, z_r 2, z_r 49, z_r 76, z_i i, a5, a6] [] w' Q) : z_G (d + 25) u 300 1177 [z_r 0, z_r 2, z_r 49, z_r 76, z_i i, a5, a6] [] w Q := by
  have H := HX.1
  have ha1 : z_add i 1 = i + 1 := z_add_eq (by omega) (by omega)
  have ha2 : z_add i 2 = i + 2 := z_add_eq (by omega) (by omega)
  have ha3 : z_add i 3 = i + 3 := z_add_eq (by omega) (by omega)
  have ha4 : z_add i 4 = i + 4 := z_add_eq (by omega) (by omega)
  have ha5 : z_add i 5 = i + 5 := z_add_eq (by omega) (by omega)
  have ha6 : z_add i 6 = i + 6 := z_add_eq (by omega) (by omega)
  have hb1 : 0 ≤ i + 1 := by omega
  have hb2 : 0 ≤ i + 2 := by omega
  have hb3 : 0 ≤ i + 3 := by omega
  have hb4 : 0 ≤ i + 4 := by omega
  have hb5 : 0 ≤ i + 5 := by omega
  have hb6 : 0 ≤ i + 6 := by omega
  have hc1 : i + 1 < L := by omega
  have hc2 : i + 2 < L := by omega
  have hc3 : i + 3 < L := by omega
  have hc4 : i + 4 < L := by omega
  have hc5 : i + 5 < L := by omega
  have hc6 : i + 6 < L := by omega
  have hN := H.1.2.2.2
  have hl := H.1
  have kz := hl.2.2.1
  have kl := H.2.1
  have kc := (hl.1 (2, 11, 19) (by decide)).1
  have km := (hl.1 (49, 12, 39) (by decide)).1
  simp only at kc km
  simp only [g300_1177, g300_1177r, g300_1178, g300_1178r, g300_1179, g300_1181, g300_1182, g300_1183, g300_1184, g300_1184r, g300_1185, g300_1187, g300_1188, g300_1189, g300_1190, g300_1190r, g300_1191, g300_1193, g300_1194, g300_1195, g300_1196, g300_1196r, g300_1197, g300_1199, g300_1200, g300_1201, g300_1202, g300_1202r, g300_1203, g300_1205, g300_1206, g300_1207, g300_1208, g300_1208r, g300_1209, g300_1211, g300_1213, g300_1214, g300_1215, z_kl_i, z_kl_l, z_kl_r, z_kl_n, z_kl_x, z_kl_vr, z_c8_0, z_c8_i, z_c8_l, z_c8_r, z_c8_vr, z_c8_n, z_vr_some, z_vr_none, Option.toList_some, Option.toList_none, List.cons_append, List.nil_append, true_and, and_true, and_self, z_k_sI, z_len_sI, z_R_sI, z_N_sI, z_set_0, z_set_1, z_set_s, eq_self, true_implies, false_implies, not_true_eq_false, not_false_eq_true, ne_eq, true_or, or_true, false_or, or_false, false_and, and_false, Int.reduceNeg, Int.reduceEq, Int.reduceNe, Int.reduceLT, Int.reduceLE, Nat.reduceLeDiff, Nat.reduceEqDiff, Nat.reduceSub, Nat.reduceAdd, reduceCtorEq, reduceIte, implies_true, List.reverse_nil, ha1, hb1, hc1, ha2, hb2, hc2, ha3, hb3, hc3, ha4, hb4, hc4, ha5, hb5, hc5, ha6, hb6, hc6, kz, kl, kc, km]
  (repeat' (first | (with_reducible refine And.intro ?_ ?_) | (with_reducible intro _) | omega))
  have HX0 := HX
  obtain ⟨_, m, S, h, V, N, Lg, X⟩ := HX
  refine ex_wouldC hl H.2.2.2.2.1 X.1.1 X.2.2.1.1 _ _ _ _ _ _ (fun w1 h1 q1 => ?_)
  have HX1 := z_LX_q HX0 h1 q1
  have H1 := HX1.1
  have e0 : ∀ j, z_I w1 0 j = z_I w 0 j := fun j => h1.2 0 j (by decide) (by simp)
  have M1 := st_M_e (xm_c h1 (by decide) (by decide)) X.2.2.1.1.2.1.1 X.2.1.1
  have hl1 := H1.1
  have kz1 := hl1.2.2.1
  have kl1 := H1.2.1
  have kc1 := (hl1.1 (2, 11, 19) (by decide)).1
  have km1 := (hl1.1 (49, 12, 39) (by decide)).1
  simp only at kc1 km1
  simp only [g300_1218, g300_1218r, g300_1219, g300_1219r, g300_1220, g300_1220r, g300_1221, g300_1223, g300_1224, g300_1225, g300_1226, g300_1226r, g300_1227, g300_1229, g300_1230, g300_1231, g300_1232, g300_1232r, g300_1233, g300_1235, g300_1236, g300_1237, g300_1238, g300_1238r, g300_1239, g300_1241, g300_1242, g300_1243, g300_1244, g300_1244r, g300_1245, g300_1247, g300_1248, g300_1249, g300_1250, g300_1250r, g300_1251, g300_1253, g300_1255, g300_1256, g300_1257, z_kl_i, z_kl_l, z_kl_r, z_kl_n, z_kl_x, z_kl_vr, z_c8_0, z_c8_i, z_c8_l, z_c8_r, z_c8_vr, z_c8_n, z_vr_some, z_vr_none, Option.toList_some, Option.toList_none, List.cons_append, List.nil_append, true_and, and_true, and_self, z_k_sI, z_len_sI, z_R_sI, z_N_sI, z_set_0, z_set_1, z_set_s, eq_self, true_implies, false_implies, not_true_eq_false, not_false_eq_true, ne_eq, true_or, or_true, false_or, or_false, false_and, and_false, Int.reduceNeg, Int.reduceEq, Int.reduceNe, Int.reduceLT, Int.reduceLE, Nat.reduceLeDiff, Nat.reduceEqDiff, Nat.reduceSub, Nat.reduceAdd, reduceCtorEq, reduceIte, implies_true, List.reverse_nil, ha1, hb1, hc1, ha2, hb2, hc2, ha3, hb3, hc3, ha4, hb4, hc4, ha5, hb5, hc5, ha6, hb6, hc6, kz1, kl1, kc1, km1, e0]
  (repeat' (first | (with_reducible refine And.intro ?_ ?_) | (with_reducible intro _) | omega))
  refine ex_would hl1 H1.2.2.1 M1 X.2.2.1.1 _ _ _ _ _ _ (fun w2 h2 q2 r2 => ?_)
  have HX2 := z_LX_r HX1 h2 q2 r2
  simp only [g300_1260, g300_1260r, g300_1261, z_kl_i, z_kl_l, z_kl_r, z_kl_n, z_kl_x, z_kl_vr, z_c8_0, z_c8_i, z_c8_l, z_c8_r, z_c8_vr, z_c8_n, z_vr_some, z_vr_none, Option.toList_some, Option.toList_none, List.cons_append, List.nil_append, true_and, and_true, and_self, z_k_sI, z_len_sI, z_R_sI, z_N_sI, z_set_0, z_set_1, z_set_s, eq_self, true_implies, false_implies, not_true_eq_false, not_false_eq_true, ne_eq, true_or, or_true, false_or, or_false, false_and, and_false, Int.reduceNeg, Int.reduceEq, Int.reduceNe, Int.reduceLT, Int.reduceLE, Nat.reduceLeDiff, Nat.reduceEqDiff, Nat.reduceSub, Nat.reduceAdd, reduceCtorEq, reduceIte, implies_true, List.reverse_nil]
  exact k _ _ _ _ (by first | omega | (simp only; omega)) (by first | omega | (simp only; omega)) HX2
theorem c_op27 {d : Nat} {u : Nat × Nat} {w : z_W} {Q : z_P} {L B i : Int} {a5 a6 : z_V} (HX : z_LX L w B) (hB : B ≤ 200000) (i0 : 0 ≤ i) (i6 : i + 6 < L) (hL : L ≤ 3584) (hu : 2 ≤ u.1 ∧ 74 ≤ u.2) (k : ∀ u' w' a5 a6, u.1 ≤ u'.1 + 2 → u.2 ≤ u'.2 + 74 → z_LX L w' (B + 40) → z_G (d + 25) u' 300 1586 [z_r 0, z_r 2, z_r 49, z_r 76, z_i i, a5, a6] [] w' Q) : z_G (d + 25) u 300 1264 [z_r 0, z_r 2, z_r 49, z_r 76, z_i i, a5, a6] [] w Q := by
  have H := HX.1
  have ha1 : z_add i 1 = i + 1 := z_add_eq (by omega) (by omega)
  have ha2 : z_add i 2 = i + 2 := z_add_eq (by omega) (by omega)
  have ha3 : z_add i 3 = i + 3 := z_add_eq (by omega) (by omega)
  have ha4 : z_add i 4 = i + 4 := z_add_eq (by omega) (by omega)
  have ha5 : z_add i 5 = i + 5 := z_add_eq (by omega) (by omega)
  have ha6 : z_add i 6 = i + 6 := z_add_eq (by omega) (by omega)
  have hb1 : 0 ≤ i + 1 := by omega
  have hb2 : 0 ≤ i + 2 := by omega
  have hb3 : 0 ≤ i + 3 := by omega
  have hb4 : 0 ≤ i + 4 := by omega
  have hb5 : 0 ≤ i + 5 := by omega
  have hb6 : 0 ≤ i + 6 := by omega
  have hc1 : i + 1 < L := by omega
  have hc2 : i + 2 < L := by omega
  have hc3 : i + 3 < L := by omega
  have hc4 : i + 4 < L := by omega
  have hc5 : i + 5 < L := by omega
  have hc6 : i + 6 < L := by omega
  have hN := H.1.2.2.2
  have hl := H.1
  have kz := hl.2.2.1
  have kl := H.2.1
  have kc := (hl.1 (2, 11, 19) (by decide)).1
  have km := (hl.1 (49, 12, 39) (by decide)).1
  simp only at kc km
  simp only [g300_1264, g300_1264r, g300_1265, g300_1265r, g300_1266, g300_1268, g300_1269, g300_1270, g300_1271, g300_1271r, g300_1272, g300_1274, g300_1275, g300_1276, g300_1277, g300_1277r, g300_1278, g300_1280, g300_1281, g300_1282, g300_1283, g300_1283r, g300_1284, g300_1286, g300_1287, g300_1288, g300_1289, z_kl_i, z_kl_l, z_kl_r, z_kl_n, z_kl_x, z_kl_vr, z_c8_0, z_c8_i, z_c8_l, z_c8_r, z_c8_vr, z_c8_n, z_vr_some, z_vr_none, Option.toList_some, Option.toList_none, List.cons_append, List.nil_append, true_and, and_true, and_self, z_k_sI, z_len_sI, z_R_sI, z_N_sI, z_set_0, z_set_1, z_set_s, eq_self, true_implies, false_implies, not_true_eq_false, not_false_eq_true, ne_eq, true_or, or_true, false_or, or_false, false_and, and_false, Int.reduceNeg, Int.reduceEq, Int.reduceNe, Int.reduceLT, Int.reduceLE, Nat.reduceLeDiff, Nat.reduceEqDiff, Nat.reduceSub, Nat.reduceAdd, reduceCtorEq, reduceIte, implies_true, List.reverse_nil, ha1, hb1, hc1, ha2, hb2, hc2, ha3, hb3, hc3, ha4, hb4, hc4, ha5, hb5, hc5, ha6, hb6, hc6, kz, kl, kc, km]
  (repeat' (first | (with_reducible refine And.intro ?_ ?_) | (with_reducible intro _) | omega))
  have HX0 := HX
  obtain ⟨_, m, S, h, V, N, Lg, X⟩ := HX
  refine ex_blocksC hl X.1.1 X.2.2.1.1 _ _ _ _ ?_
  have HX1 := z_LX_mono (show B ≤ B + 40 by omega) HX0
  have H1 := HX1.1
  have hl1 := H1.1
  have kz1 := hl1.2.2.1
  have kl1 := H1.2.1
  have kc1 := (hl1.1 (2, 11, 19) (by decide)).1
  have km1 := (hl1.1 (49, 12, 39) (by decide)).1
  simp only at kc1 km1
  simp only [g300_1292, g300_1292r, g300_1293, g300_1293r, g300_1294, g300_1294r, g300_1295, g300_1297, g300_1298, g300_1299, g300_1300, g300_1300r, g300_1301, g300_1303, g300_1304, g300_1305, g300_1306, g300_1306r, g300_1307, g300_1309, g300_1310, g300_1311, g300_1312, g300_1312r, g300_1313, g300_1315, g300_1316, g300_1317, g300_1318, z_kl_i, z_kl_l, z_kl_r, z_kl_n, z_kl_x, z_kl_vr, z_c8_0, z_c8_i, z_c8_l, z_c8_r, z_c8_vr, z_c8_n, z_vr_some, z_vr_none, Option.toList_some, Option.toList_none, List.cons_append, List.nil_append, true_and, and_true, and_self, z_k_sI, z_len_sI, z_R_sI, z_N_sI, z_set_0, z_set_1, z_set_s, eq_self, true_implies, false_implies, not_true_eq_false, not_false_eq_true, ne_eq, true_or, or_true, false_or, or_false, false_and, and_false, Int.reduceNeg, Int.reduceEq, Int.reduceNe, Int.reduceLT, Int.reduceLE, Nat.reduceLeDiff, Nat.reduceEqDiff, Nat.reduceSub, Nat.reduceAdd, reduceCtorEq, reduceIte, implies_true, List.reverse_nil, ha1, hb1, hc1, ha2, hb2, hc2, ha3, hb3, hc3, ha4, hb4, hc4, ha5, hb5, hc5, ha6, hb6, hc6, kz1, kl1, kc1, km1]
  (repeat' (first | (with_reducible refine And.intro ?_ ?_) | (with_reducible intro _) | omega))
  refine ex_blocks hl1 X.2.1.1 X.2.2.1.1 _ _ _ _ (fun w2 h2 => ?_)
  have HX2 := z_LX_s HX1 (z_fr_mo h2 (by decide) (by decide))
  simp only [g300_1321, g300_1321r, g300_1322, z_kl_i, z_kl_l, z_kl_r, z_kl_n, z_kl_x, z_kl_vr, z_c8_0, z_c8_i, z_c8_l, z_c8_r, z_c8_vr, z_c8_n, z_vr_some, z_vr_none, Option.toList_some, Option.toList_none, List.cons_append, List.nil_append, true_and, and_true, and_self, z_k_sI, z_len_sI, z_R_sI, z_N_sI, z_set_0, z_set_1, z_set_s, eq_self, true_implies, false_implies, not_true_eq_false, not_false_eq_true, ne_eq, true_or, or_true, false_or, or_false, false_and, and_false, Int.reduceNeg, Int.reduceEq, Int.reduceNe, Int.reduceLT, Int.reduceLE, Nat.reduceLeDiff, Nat.reduceEqDiff, Nat.reduceSub, Nat.reduceAdd, reduceCtorEq, reduceIte, implies_true, List.reverse_nil]
  exact k _ _ _ _ (by first | omega | (simp only; omega)) (by first | omega | (simp only; omega)) HX2
theorem c_op28 {d : Nat} {u : Nat × Nat} {w : z_W} {Q : z_P} {L B i : Int} {a5 a6 : z_V} (HX : z_LX L w B) (hB : B ≤ 200000) (i0 : 0 ≤ i) (i6 : i + 6 < L) (hL : L ≤ 3584) (hu : 2 ≤ u.1 ∧ 74 ≤ u.2) (k : ∀ u' w' a5 a6, u.1 ≤ u'.1 + 2 → u.2 ≤ u'.2 + 74 → z_LX L w' (B + 40) → z_G (d + 25) u' 300 1586 [z_r 0, z_r 2, z_r 49, z_r 76, z_i i, a5, a6] [] w' Q) : z_G (d + 25) u 300 1325 [z_r 0, z_r 2, z_r 49, z_r 76, z_i i, a5, a6] [] w Q := by
  have H := HX.1
  have ha1 : z_add i 1 = i + 1 := z_add_eq (by omega) (by omega)
  have ha2 : z_add i 2 = i + 2 := z_add_eq (by omega) (by omega)
  have ha3 : z_add i 3 = i + 3 := z_add_eq (by omega) (by omega)
  have ha4 : z_add i 4 = i + 4 := z_add_eq (by omega) (by omega)
  have ha5 : z_add i 5 = i + 5 := z_add_eq (by omega) (by omega)
  have ha6 : z_add i 6 = i + 6 := z_add_eq (by omega) (by omega)
  have hb1 : 0 ≤ i + 1 := by omega
  have hb2 : 0 ≤ i + 2 := by omega
  have hb3 : 0 ≤ i + 3 := by omega
  have hb4 : 0 ≤ i + 4 := by omega
  have hb5 : 0 ≤ i + 5 := by omega
  have hb6 : 0 ≤ i + 6 := by omega
  have hc1 : i + 1 < L := by omega
  have hc2 : i + 2 < L := by omega
  have hc3 : i + 3 < L := by omega
  have hc4 : i + 4 < L := by omega
  have hc5 : i + 5 < L := by omega
  have hc6 : i + 6 < L := by omega
  have hN := H.1.2.2.2
  have hl := H.1
  have kz := hl.2.2.1
  have kl := H.2.1
  have kc := (hl.1 (2, 11, 19) (by decide)).1
  have km := (hl.1 (49, 12, 39) (by decide)).1
  simp only at kc km
  simp only [g300_1325, g300_1325r, g300_1326, g300_1326r, g300_1327, g300_1329, g300_1330, g300_1331, g300_1332, g300_1332r, g300_1333, g300_1335, g300_1336, g300_1337, g300_1338, z_kl_i, z_kl_l, z_kl_r, z_kl_n, z_kl_x, z_kl_vr, z_c8_0, z_c8_i, z_c8_l, z_c8_r, z_c8_vr, z_c8_n, z_vr_some, z_vr_none, Option.toList_some, Option.toList_none, List.cons_append, List.nil_append, true_and, and_true, and_self, z_k_sI, z_len_sI, z_R_sI, z_N_sI, z_set_0, z_set_1, z_set_s, eq_self, true_implies, false_implies, not_true_eq_false, not_false_eq_true, ne_eq, true_or, or_true, false_or, or_false, false_and, and_false, Int.reduceNeg, Int.reduceEq, Int.reduceNe, Int.reduceLT, Int.reduceLE, Nat.reduceLeDiff, Nat.reduceEqDiff, Nat.reduceSub, Nat.reduceAdd, reduceCtorEq, reduceIte, implies_true, List.reverse_nil, ha1, hb1, hc1, ha2, hb2, hc2, ha3, hb3, hc3, ha4, hb4, hc4, ha5, hb5, hc5, ha6, hb6, hc6, kz, kl, kc, km]
  (repeat' (first | (with_reducible refine And.intro ?_ ?_) | (with_reducible intro _) | omega))
  have HX0 := HX
  obtain ⟨_, m, S, h, V, N, Lg, X⟩ := HX
  refine ex_nearC hl H.2.2.2.2.1 X.1.1 X.2.2.1.1 _ _ (fun w1 h1 q1 => ?_)
  have HX1 := z_LX_q HX0 h1 q1
  have H1 := HX1.1
  have e0 : ∀ j, z_I w1 0 j = z_I w 0 j := fun j => h1.2 0 j (by decide) (by simp)
  have M1 := st_M_e (xm_c h1 (by decide) (by decide)) X.2.2.1.1.2.1.1 X.2.1.1
  have hl1 := H1.1
  have kz1 := hl1.2.2.1
  have kl1 := H1.2.1
  have kc1 := (hl1.1 (2, 11, 19) (by decide)).1
  have km1 := (hl1.1 (49, 12, 39) (by decide)).1
  simp only at kc1 km1
  simp only [g300_1341, g300_1341r, g300_1342, g300_1342r, g300_1343, g300_1343r, g300_1344, g300_1346, g300_1347, g300_1348, g300_1349, g300_1349r, g300_1350, g300_1352, g300_1353, g300_1354, g300_1355, z_kl_i, z_kl_l, z_kl_r, z_kl_n, z_kl_x, z_kl_vr, z_c8_0, z_c8_i, z_c8_l, z_c8_r, z_c8_vr, z_c8_n, z_vr_some, z_vr_none, Option.toList_some, Option.toList_none, List.cons_append, List.nil_append, true_and, and_true, and_self, z_k_sI, z_len_sI, z_R_sI, z_N_sI, z_set_0, z_set_1, z_set_s, eq_self, true_implies, false_implies, not_true_eq_false, not_false_eq_true, ne_eq, true_or, or_true, false_or, or_false, false_and, and_false, Int.reduceNeg, Int.reduceEq, Int.reduceNe, Int.reduceLT, Int.reduceLE, Nat.reduceLeDiff, Nat.reduceEqDiff, Nat.reduceSub, Nat.reduceAdd, reduceCtorEq, reduceIte, implies_true, List.reverse_nil, ha1, hb1, hc1, ha2, hb2, hc2, ha3, hb3, hc3, ha4, hb4, hc4, ha5, hb5, hc5, ha6, hb6, hc6, kz1, kl1, kc1, km1, e0]
  (repeat' (first | (with_reducible refine And.intro ?_ ?_) | (with_reducible intro _) | omega))
  refine ex_near hl1 M1 X.2.2.1.1 _ _ (fun w2 h2 => ?_)
  have HX2 := z_LX_s HX1 h2
  simp only [g300_1358, g300_1358r, g300_1359, z_kl_i, z_kl_l, z_kl_r, z_kl_n, z_kl_x, z_kl_vr, z_c8_0, z_c8_i, z_c8_l, z_c8_r, z_c8_vr, z_c8_n, z_vr_some, z_vr_none, Option.toList_some, Option.toList_none, List.cons_append, List.nil_append, true_and, and_true, and_self, z_k_sI, z_len_sI, z_R_sI, z_N_sI, z_set_0, z_set_1, z_set_s, eq_self, true_implies, false_implies, not_true_eq_false, not_false_eq_true, ne_eq, true_or, or_true, false_or, or_false, false_and, and_false, Int.reduceNeg, Int.reduceEq, Int.reduceNe, Int.reduceLT, Int.reduceLE, Nat.reduceLeDiff, Nat.reduceEqDiff, Nat.reduceSub, Nat.reduceAdd, reduceCtorEq, reduceIte, implies_true, List.reverse_nil]
  exact k _ _ _ _ (by first | omega | (simp only; omega)) (by first | omega | (simp only; omega)) HX2
theorem c_op29 {d : Nat} {u : Nat × Nat} {w : z_W} {Q : z_P} {L B i : Int} {a5 a6 : z_V} (HX : z_LX L w B) (hB : B ≤ 200000) (i0 : 0 ≤ i) (i6 : i + 6 < L) (hL : L ≤ 3584) (hu : 2 ≤ u.1 ∧ 74 ≤ u.2) (k : ∀ u' w' a5 a6, u.1 ≤ u'.1 + 2 → u.2 ≤ u'.2 + 74 → z_LX L w' (B + 40) → z_G (d + 25) u' 300 1586 [z_r 0, z_r 2, z_r 49, z_r 76, z_i i, a5, a6] [] w' Q) : z_G (d + 25) u 300 1362 [z_r 0, z_r 2, z_r 49, z_r 76, z_i i, a5, a6] [] w Q := by
  have H := HX.1
  have ha1 : z_add i 1 = i + 1 := z_add_eq (by omega) (by omega)
  have ha2 : z_add i 2 = i + 2 := z_add_eq (by omega) (by omega)
  have ha3 : z_add i 3 = i + 3 := z_add_eq (by omega) (by omega)
  have ha4 : z_add i 4 = i + 4 := z_add_eq (by omega) (by omega)
  have ha5 : z_add i 5 = i + 5 := z_add_eq (by omega) (by omega)
  have ha6 : z_add i 6 = i + 6 := z_add_eq (by omega) (by omega)
  have hb1 : 0 ≤ i + 1 := by omega
  have hb2 : 0 ≤ i + 2 := by omega
  have hb3 : 0 ≤ i + 3 := by omega
  have hb4 : 0 ≤ i + 4 := by omega
  have hb5 : 0 ≤ i + 5 := by omega
  have hb6 : 0 ≤ i + 6 := by omega
  have hc1 : i + 1 < L := by omega
  have hc2 : i + 2 < L := by omega
  have hc3 : i + 3 < L := by omega
  have hc4 : i + 4 < L := by omega
  have hc5 : i + 5 < L := by omega
  have hc6 : i + 6 < L := by omega
  have hN := H.1.2.2.2
  have hl := H.1
  have kz := hl.2.2.1
  have kl := H.2.1
  have kc := (hl.1 (2, 11, 19) (by decide)).1
  have km := (hl.1 (49, 12, 39) (by decide)).1
  simp only at kc km
  simp only [g300_1362, g300_1362r, g300_1363, g300_1363r, g300_1364, g300_1366, g300_1367, g300_1368, g300_1369, g300_1369r, g300_1370, g300_1372, g300_1373, g300_1374, g300_1375, z_kl_i, z_kl_l, z_kl_r, z_kl_n, z_kl_x, z_kl_vr, z_c8_0, z_c8_i, z_c8_l, z_c8_r, z_c8_vr, z_c8_n, z_vr_some, z_vr_none, Option.toList_some, Option.toList_none, List.cons_append, List.nil_append, true_and, and_true, and_self, z_k_sI, z_len_sI, z_R_sI, z_N_sI, z_set_0, z_set_1, z_set_s, eq_self, true_implies, false_implies, not_true_eq_false, not_false_eq_true, ne_eq, true_or, or_true, false_or, or_false, false_and, and_false, Int.reduceNeg, Int.reduceEq, Int.reduceNe, Int.reduceLT, Int.reduceLE, Nat.reduceLeDiff, Nat.reduceEqDiff, Nat.reduceSub, Nat.reduceAdd, reduceCtorEq, reduceIte, implies_true, List.reverse_nil, ha1, hb1, hc1, ha2, hb2, hc2, ha3, hb3, hc3, ha4, hb4, hc4, ha5, hb5, hc5, ha6, hb6, hc6, kz, kl, kc, km]
  (repeat' (first | (with_reducible refine And.intro ?_ ?_) | (with_reducible intro _) | omega))
  refine c_nameC hl H.2.2.2.2.1 _ _ (fun z1 => ?_)
  have HX1 := z_LX_mono (show B ≤ B + 40 by omega) HX
  have H1 := HX1.1
  have hl1 := H1.1
  have kz1 := hl1.2.2.1
  have kl1 := H1.2.1
  have kc1 := (hl1.1 (2, 11, 19) (by decide)).1
  have km1 := (hl1.1 (49, 12, 39) (by decide)).1
  simp only at kc1 km1
  simp only [g300_1378, g300_1378r, g300_1379, g300_1379r, g300_1380, g300_1380r, g300_1381, g300_1383, g300_1384, g300_1385, g300_1386, g300_1386r, g300_1387, g300_1389, g300_1390, g300_1391, g300_1392, z_kl_i, z_kl_l, z_kl_r, z_kl_n, z_kl_x, z_kl_vr, z_c8_0, z_c8_i, z_c8_l, z_c8_r, z_c8_vr, z_c8_n, z_vr_some, z_vr_none, Option.toList_some, Option.toList_none, List.cons_append, List.nil_append, true_and, and_true, and_self, z_k_sI, z_len_sI, z_R_sI, z_N_sI, z_set_0, z_set_1, z_set_s, eq_self, true_implies, false_implies, not_true_eq_false, not_false_eq_true, ne_eq, true_or, or_true, false_or, or_false, false_and, and_false, Int.reduceNeg, Int.reduceEq, Int.reduceNe, Int.reduceLT, Int.reduceLE, Nat.reduceLeDiff, Nat.reduceEqDiff, Nat.reduceSub, Nat.reduceAdd, reduceCtorEq, reduceIte, implies_true, List.reverse_nil, ha1, hb1, hc1, ha2, hb2, hc2, ha3, hb3, hc3, ha4, hb4, hc4, ha5, hb5, hc5, ha6, hb6, hc6, kz1, kl1, kc1, km1]
  (repeat' (first | (with_reducible refine And.intro ?_ ?_) | (with_reducible intro _) | omega))
  refine c_name hl1 H1.2.2.1 _ _ (fun z2 => ?_)
  have HX2 := HX1
  simp only [g300_1395, g300_1395r, g300_1396, z_kl_i, z_kl_l, z_kl_r, z_kl_n, z_kl_x, z_kl_vr, z_c8_0, z_c8_i, z_c8_l, z_c8_r, z_c8_vr, z_c8_n, z_vr_some, z_vr_none, Option.toList_some, Option.toList_none, List.cons_append, List.nil_append, true_and, and_true, and_self, z_k_sI, z_len_sI, z_R_sI, z_N_sI, z_set_0, z_set_1, z_set_s, eq_self, true_implies, false_implies, not_true_eq_false, not_false_eq_true, ne_eq, true_or, or_true, false_or, or_false, false_and, and_false, Int.reduceNeg, Int.reduceEq, Int.reduceNe, Int.reduceLT, Int.reduceLE, Nat.reduceLeDiff, Nat.reduceEqDiff, Nat.reduceSub, Nat.reduceAdd, reduceCtorEq, reduceIte, implies_true, List.reverse_nil]
  exact k _ _ _ _ (by first | omega | (simp only; omega)) (by first | omega | (simp only; omega)) HX2
theorem c_op30 {d : Nat} {u : Nat × Nat} {w : z_W} {Q : z_P} {L B i : Int} {a5 a6 : z_V} (HX : z_LX L w B) (hB : B ≤ 200000) (i0 : 0 ≤ i) (i6 : i + 6 < L) (hL : L ≤ 3584) (hu : 2 ≤ u.1 ∧ 74 ≤ u.2) (k : ∀ u' w' a5 a6, u.1 ≤ u'.1 + 2 → u.2 ≤ u'.2 + 74 → z_LX L w' (B + 40) → z_G (d + 25) u' 300 1586 [z_r 0, z_r 2, z_r 49, z_r 76, z_i i, a5, a6] [] w' Q) : z_G (d + 25) u 300 1399 [z_r 0, z_r 2, z_r 49, z_r 76, z_i i, a5, a6] [] w Q := by
  have H := HX.1
  have ha1 : z_add i 1 = i + 1 := z_add_eq (by omega) (by omega)
  have ha2 : z_add i 2 = i + 2 := z_add_eq (by omega) (by omega)
  have ha3 : z_add i 3 = i + 3 := z_add_eq (by omega) (by omega)
  have ha4 : z_add i 4 = i + 4 := z_add_eq (by omega) (by omega)
  have ha5 : z_add i 5 = i + 5 := z_add_eq (by omega) (by omega)
  have ha6 : z_add i 6 = i + 6 := z_add_eq (by omega) (by omega)
  have hb1 : 0 ≤ i + 1 := by omega
  have hb2 : 0 ≤ i + 2 := by omega
  have hb3 : 0 ≤ i + 3 := by omega
  have hb4 : 0 ≤ i + 4 := by omega
  have hb5 : 0 ≤ i + 5 := by omega
  have hb6 : 0 ≤ i + 6 := by omega
  have hc1 : i + 1 < L := by omega
  have hc2 : i + 2 < L := by omega
  have hc3 : i + 3 < L := by omega
  have hc4 : i + 4 < L := by omega
  have hc5 : i + 5 < L := by omega
  have hc6 : i + 6 < L := by omega
  have hN := H.1.2.2.2
  have hl := H.1
  have kz := hl.2.2.1
  have kl := H.2.1
  have kc := (hl.1 (2, 11, 19) (by decide)).1
  have km := (hl.1 (49, 12, 39) (by decide)).1
  simp only at kc km
  simp only [g300_1399, g300_1399r, g300_1400, g300_1400r, g300_1401, g300_1403, g300_1404, g300_1405, g300_1406, g300_1406r, g300_1407, g300_1409, g300_1410, g300_1411, g300_1412, g300_1412r, g300_1413, g300_1415, g300_1416, g300_1417, g300_1418, z_kl_i, z_kl_l, z_kl_r, z_kl_n, z_kl_x, z_kl_vr, z_c8_0, z_c8_i, z_c8_l, z_c8_r, z_c8_vr, z_c8_n, z_vr_some, z_vr_none, Option.toList_some, Option.toList_none, List.cons_append, List.nil_append, true_and, and_true, and_self, z_k_sI, z_len_sI, z_R_sI, z_N_sI, z_set_0, z_set_1, z_set_s, eq_self, true_implies, false_implies, not_true_eq_false, not_false_eq_true, ne_eq, true_or, or_true, false_or, or_false, false_and, and_false, Int.reduceNeg, Int.reduceEq, Int.reduceNe, Int.reduceLT, Int.reduceLE, Nat.reduceLeDiff, Nat.reduceEqDiff, Nat.reduceSub, Nat.reduceAdd, reduceCtorEq, reduceIte, implies_true, List.reverse_nil, ha1, hb1, hc1, ha2, hb2, hc2, ha3, hb3, hc3, ha4, hb4, hc4, ha5, hb5, hc5, ha6, hb6, hc6, kz, kl, kc, km]
  (repeat' (first | (with_reducible refine And.intro ?_ ?_) | (with_reducible intro _) | omega))
  have HX0 := HX
  obtain ⟨_, m, S, h, V, N, Lg, X⟩ := HX
  refine ex_stepC hl H.2.2.2.2.2.1 H.2.2.2.2.2.2.2.2 _ _ _ ?_
  have HX1 := z_LX_mono (show B ≤ B + 40 by omega) HX0
  have H1 := HX1.1
  have hl1 := H1.1
  have kz1 := hl1.2.2.1
  have kl1 := H1.2.1
  have kc1 := (hl1.1 (2, 11, 19) (by decide)).1
  have km1 := (hl1.1 (49, 12, 39) (by decide)).1
  simp only at kc1 km1
  simp only [g300_1421, g300_1421r, g300_1422, g300_1422r, g300_1423, g300_1423r, g300_1424, g300_1426, g300_1427, g300_1428, g300_1429, g300_1429r, g300_1430, g300_1432, g300_1433, g300_1434, g300_1435, g300_1435r, g300_1436, g300_1438, g300_1439, g300_1440, g300_1441, z_kl_i, z_kl_l, z_kl_r, z_kl_n, z_kl_x, z_kl_vr, z_c8_0, z_c8_i, z_c8_l, z_c8_r, z_c8_vr, z_c8_n, z_vr_some, z_vr_none, Option.toList_some, Option.toList_none, List.cons_append, List.nil_append, true_and, and_true, and_self, z_k_sI, z_len_sI, z_R_sI, z_N_sI, z_set_0, z_set_1, z_set_s, eq_self, true_implies, false_implies, not_true_eq_false, not_false_eq_true, ne_eq, true_or, or_true, false_or, or_false, false_and, and_false, Int.reduceNeg, Int.reduceEq, Int.reduceNe, Int.reduceLT, Int.reduceLE, Nat.reduceLeDiff, Nat.reduceEqDiff, Nat.reduceSub, Nat.reduceAdd, reduceCtorEq, reduceIte, implies_true, List.reverse_nil, ha1, hb1, hc1, ha2, hb2, hc2, ha3, hb3, hc3, ha4, hb4, hc4, ha5, hb5, hc5, ha6, hb6, hc6, kz1, kl1, kc1, km1]
  (repeat' (first | (with_reducible refine And.intro ?_ ?_) | (with_reducible intro _) | omega))
  refine ex_step hl1 H1.2.2.1 _ _ _ ?_
  have HX2 := HX1
  simp only [g300_1444, g300_1444r, g300_1445, z_kl_i, z_kl_l, z_kl_r, z_kl_n, z_kl_x, z_kl_vr, z_c8_0, z_c8_i, z_c8_l, z_c8_r, z_c8_vr, z_c8_n, z_vr_some, z_vr_none, Option.toList_some, Option.toList_none, List.cons_append, List.nil_append, true_and, and_true, and_self, z_k_sI, z_len_sI, z_R_sI, z_N_sI, z_set_0, z_set_1, z_set_s, eq_self, true_implies, false_implies, not_true_eq_false, not_false_eq_true, ne_eq, true_or, or_true, false_or, or_false, false_and, and_false, Int.reduceNeg, Int.reduceEq, Int.reduceNe, Int.reduceLT, Int.reduceLE, Nat.reduceLeDiff, Nat.reduceEqDiff, Nat.reduceSub, Nat.reduceAdd, reduceCtorEq, reduceIte, implies_true, List.reverse_nil]
  exact k _ _ _ _ (by first | omega | (simp only; omega)) (by first | omega | (simp only; omega)) HX2
theorem c_op31 {d : Nat} {u : Nat × Nat} {w : z_W} {Q : z_P} {L B i : Int} {a5 a6 : z_V} (HX : z_LX L w B) (hB : B ≤ 200000) (i0 : 0 ≤ i) (i6 : i + 6 < L) (hL : L ≤ 3584) (hu : 2 ≤ u.1 ∧ 74 ≤ u.2) (k : ∀ u' w' a5 a6, u.1 ≤ u'.1 + 2 → u.2 ≤ u'.2 + 74 → z_LX L w' (B + 40) → z_G (d + 25) u' 300 1586 [z_r 0, z_r 2, z_r 49, z_r 76, z_i i, a5, a6] [] w' Q) : z_G (d + 25) u 300 1448 [z_r 0, z_r 2, z_r 49, z_r 76, z_i i, a5, a6] [] w Q := by
  have H := HX.1
  have ha1 : z_add i 1 = i + 1 := z_add_eq (by omega) (by omega)
  have ha2 : z_add i 2 = i + 2 := z_add_eq (by omega) (by omega)
  have ha3 : z_add i 3 = i + 3 := z_add_eq (by omega) (by omega)
  have ha4 : z_add i 4 = i + 4 := z_add_eq (by omega) (by omega)
  have ha5 : z_add i 5 = i + 5 := z_add_eq (by omega) (by omega)
  have ha6 : z_add i 6 = i + 6 := z_add_eq (by omega) (by omega)
  have hb1 : 0 ≤ i + 1 := by omega
  have hb2 : 0 ≤ i + 2 := by omega
  have hb3 : 0 ≤ i + 3 := by omega
  have hb4 : 0 ≤ i + 4 := by omega
  have hb5 : 0 ≤ i + 5 := by omega
  have hb6 : 0 ≤ i + 6 := by omega
  have hc1 : i + 1 < L := by omega
  have hc2 : i + 2 < L := by omega
  have hc3 : i + 3 < L := by omega
  have hc4 : i + 4 < L := by omega
  have hc5 : i + 5 < L := by omega
  have hc6 : i + 6 < L := by omega
  have hN := H.1.2.2.2
  have hl := H.1
  have kz := hl.2.2.1
  have kl := H.2.1
  have kc := (hl.1 (2, 11, 19) (by decide)).1
  have km := (hl.1 (49, 12, 39) (by decide)).1
  simp only at kc km
  simp only [g300_1448, g300_1448r, g300_1449, g300_1449r, g300_1450, g300_1452, g300_1453, g300_1454, g300_1455, g300_1455r, g300_1456, g300_1458, g300_1459, g300_1460, g300_1461, z_kl_i, z_kl_l, z_kl_r, z_kl_n, z_kl_x, z_kl_vr, z_c8_0, z_c8_i, z_c8_l, z_c8_r, z_c8_vr, z_c8_n, z_vr_some, z_vr_none, Option.toList_some, Option.toList_none, List.cons_append, List.nil_append, true_and, and_true, and_self, z_k_sI, z_len_sI, z_R_sI, z_N_sI, z_set_0, z_set_1, z_set_s, eq_self, true_implies, false_implies, not_true_eq_false, not_false_eq_true, ne_eq, true_or, or_true, false_or, or_false, false_and, and_false, Int.reduceNeg, Int.reduceEq, Int.reduceNe, Int.reduceLT, Int.reduceLE, Nat.reduceLeDiff, Nat.reduceEqDiff, Nat.reduceSub, Nat.reduceAdd, reduceCtorEq, reduceIte, implies_true, List.reverse_nil, ha1, hb1, hc1, ha2, hb2, hc2, ha3, hb3, hc3, ha4, hb4, hc4, ha5, hb5, hc5, ha6, hb6, hc6, kz, kl, kc, km]
  (repeat' (first | (with_reducible refine And.intro ?_ ?_) | (with_reducible intro _) | omega))
  have HX0 := HX
  obtain ⟨_, m, S, h, V, N, Lg, X⟩ := HX
  refine x_runC hl H.2.2.2.2.1 H.2.2.1 H.2.2.2.2.2.1 H.2.2.2.2.2.2.2.2 X.1.1 X.2.2.1.1 _ _ (fun w1 h1 q1 => ?_)
  have HX1 := z_LX_q HX0 h1 q1
  have H1 := HX1.1
  have e0 : ∀ j, z_I w1 0 j = z_I w 0 j := fun j => h1.2 0 j (by decide) (by simp)
  have M1 := st_M_e (xm_c h1 (by decide) (by decide)) X.2.2.1.1.2.1.1 X.2.1.1
  have re := run_z_eq (w := w) (w' := w1) (h1.2 49 11 (by decide) (by decide)) (fun j => h1.2 54 j (by decide) (by simp)) (fun j => h1.2 55 j (by decide) (by simp)) m (S.2.1 0)
  have hl1 := H1.1
  have kz1 := hl1.2.2.1
  have kl1 := H1.2.1
  have kc1 := (hl1.1 (2, 11, 19) (by decide)).1
  have km1 := (hl1.1 (49, 12, 39) (by decide)).1
  simp only at kc1 km1
  simp only [g300_1464, g300_1464r, g300_1465, g300_1465r, g300_1466, g300_1466r, g300_1467, g300_1469, g300_1470, g300_1471, g300_1472, g300_1472r, g300_1473, g300_1475, g300_1476, g300_1477, g300_1478, z_kl_i, z_kl_l, z_kl_r, z_kl_n, z_kl_x, z_kl_vr, z_c8_0, z_c8_i, z_c8_l, z_c8_r, z_c8_vr, z_c8_n, z_vr_some, z_vr_none, Option.toList_some, Option.toList_none, List.cons_append, List.nil_append, true_and, and_true, and_self, z_k_sI, z_len_sI, z_R_sI, z_N_sI, z_set_0, z_set_1, z_set_s, eq_self, true_implies, false_implies, not_true_eq_false, not_false_eq_true, ne_eq, true_or, or_true, false_or, or_false, false_and, and_false, Int.reduceNeg, Int.reduceEq, Int.reduceNe, Int.reduceLT, Int.reduceLE, Nat.reduceLeDiff, Nat.reduceEqDiff, Nat.reduceSub, Nat.reduceAdd, reduceCtorEq, reduceIte, implies_true, List.reverse_nil, ha1, hb1, hc1, ha2, hb2, hc2, ha3, hb3, hc3, ha4, hb4, hc4, ha5, hb5, hc5, ha6, hb6, hc6, kz1, kl1, kc1, km1, e0]
  (repeat' (first | (with_reducible refine And.intro ?_ ?_) | (with_reducible intro _) | omega))
  refine x_run hl1 H1.2.2.1 M1 X.2.2.1.1 _ _ (fun w2 h2 q2 r2 => ?_)
  rw [re]
  have HX2 := z_LX_r HX1 h2 q2 r2
  simp only [g300_1481, g300_1481r, g300_1482, z_kl_i, z_kl_l, z_kl_r, z_kl_n, z_kl_x, z_kl_vr, z_c8_0, z_c8_i, z_c8_l, z_c8_r, z_c8_vr, z_c8_n, z_vr_some, z_vr_none, Option.toList_some, Option.toList_none, List.cons_append, List.nil_append, true_and, and_true, and_self, z_k_sI, z_len_sI, z_R_sI, z_N_sI, z_set_0, z_set_1, z_set_s, eq_self, true_implies, false_implies, not_true_eq_false, not_false_eq_true, ne_eq, true_or, or_true, false_or, or_false, false_and, and_false, Int.reduceNeg, Int.reduceEq, Int.reduceNe, Int.reduceLT, Int.reduceLE, Nat.reduceLeDiff, Nat.reduceEqDiff, Nat.reduceSub, Nat.reduceAdd, reduceCtorEq, reduceIte, implies_true, List.reverse_nil]
  exact k _ _ _ _ (by first | omega | (simp only; omega)) (by first | omega | (simp only; omega)) HX2
theorem c_op32 {d : Nat} {u : Nat × Nat} {w : z_W} {Q : z_P} {L B i : Int} {a5 a6 : z_V} (HX : z_LX L w B) (hB : B ≤ 200000) (i0 : 0 ≤ i) (i6 : i + 6 < L) (hL : L ≤ 3584) (hu : 2 ≤ u.1 ∧ 74 ≤ u.2) (k : ∀ u' w' a5 a6, u.1 ≤ u'.1 + 2 → u.2 ≤ u'.2 + 74 → z_LX L w' (B + 40) → z_G (d + 25) u' 300 1586 [z_r 0, z_r 2, z_r 49, z_r 76, z_i i, a5, a6] [] w' Q) : z_G (d + 25) u 300 1485 [z_r 0, z_r 2, z_r 49, z_r 76, z_i i, a5, a6] [] w Q := by
  have H := HX.1
  have ha1 : z_add i 1 = i + 1 := z_add_eq (by omega) (by omega)
  have ha2 : z_add i 2 = i + 2 := z_add_eq (by omega) (by omega)
  have ha3 : z_add i 3 = i + 3 := z_add_eq (by omega) (by omega)
  have ha4 : z_add i 4 = i + 4 := z_add_eq (by omega) (by omega)
  have ha5 : z_add i 5 = i + 5 := z_add_eq (by omega) (by omega)
  have ha6 : z_add i 6 = i + 6 := z_add_eq (by omega) (by omega)
  have hb1 : 0 ≤ i + 1 := by omega
  have hb2 : 0 ≤ i + 2 := by omega
  have hb3 : 0 ≤ i + 3 := by omega
  have hb4 : 0 ≤ i + 4 := by omega
  have hb5 : 0 ≤ i + 5 := by omega
  have hb6 : 0 ≤ i + 6 := by omega
  have hc1 : i + 1 < L := by omega
  have hc2 : i + 2 < L := by omega
  have hc3 : i + 3 < L := by omega
  have hc4 : i + 4 < L := by omega
  have hc5 : i + 5 < L := by omega
  have hc6 : i + 6 < L := by omega
  have hN := H.1.2.2.2
  have hl := H.1
  have kz := hl.2.2.1
  have kl := H.2.1
  have kc := (hl.1 (2, 11, 19) (by decide)).1
  have km := (hl.1 (49, 12, 39) (by decide)).1
  simp only at kc km
  simp only [g300_1485, g300_1485r, g300_1486, g300_1486r, g300_1487, g300_1489, g300_1490, g300_1491, g300_1492, z_kl_i, z_kl_l, z_kl_r, z_kl_n, z_kl_x, z_kl_vr, z_c8_0, z_c8_i, z_c8_l, z_c8_r, z_c8_vr, z_c8_n, z_vr_some, z_vr_none, Option.toList_some, Option.toList_none, List.cons_append, List.nil_append, true_and, and_true, and_self, z_k_sI, z_len_sI, z_R_sI, z_N_sI, z_set_0, z_set_1, z_set_s, eq_self, true_implies, false_implies, not_true_eq_false, not_false_eq_true, ne_eq, true_or, or_true, false_or, or_false, false_and, and_false, Int.reduceNeg, Int.reduceEq, Int.reduceNe, Int.reduceLT, Int.reduceLE, Nat.reduceLeDiff, Nat.reduceEqDiff, Nat.reduceSub, Nat.reduceAdd, reduceCtorEq, reduceIte, implies_true, List.reverse_nil, ha1, hb1, hc1, ha2, hb2, hc2, ha3, hb3, hc3, ha4, hb4, hc4, ha5, hb5, hc5, ha6, hb6, hc6, kz, kl, kc, km]
  (repeat' (first | (with_reducible refine And.intro ?_ ?_) | (with_reducible intro _) | omega))
  obtain ⟨_, m, S, h, V, N, Lg, X⟩ := HX
  refine x_performC hl H.2.2.2.2.1 (by omega) H.2.2.1 H.2.2.2.2.2.1 H.2.2.2.2.2.2.2.2 X.1.1 X.2.2.1.1 _ (fun w1 h1 q1 g1 s1 => ?_)
  have H1 := z_LI_cf H h1 (by decide) (by decide) (by omega) q1
  have e0 : ∀ j, z_I w1 0 j = z_I w 0 j := fun j => h1.2 0 j (by decide) (by simp)
  have M1 := st_M_e (xm_c h1 (by decide) (by decide)) X.2.2.1.1.2.1.1 X.2.1.1
  have pe := pf_eq (w := w) (w' := w1) (g1 49 11 (by omega)) (fun j => g1 54 j (by omega)) (fun j => g1 55 j (by omega)) m S
  have hl1 := H1.1
  have kz1 := hl1.2.2.1
  have kl1 := H1.2.1
  have kc1 := (hl1.1 (2, 11, 19) (by decide)).1
  have km1 := (hl1.1 (49, 12, 39) (by decide)).1
  simp only at kc1 km1
  simp only [g300_1495, g300_1495r, g300_1496, g300_1496r, g300_1497, g300_1497r, g300_1498, g300_1500, g300_1501, g300_1502, g300_1503, z_kl_i, z_kl_l, z_kl_r, z_kl_n, z_kl_x, z_kl_vr, z_c8_0, z_c8_i, z_c8_l, z_c8_r, z_c8_vr, z_c8_n, z_vr_some, z_vr_none, Option.toList_some, Option.toList_none, List.cons_append, List.nil_append, true_and, and_true, and_self, z_k_sI, z_len_sI, z_R_sI, z_N_sI, z_set_0, z_set_1, z_set_s, eq_self, true_implies, false_implies, not_true_eq_false, not_false_eq_true, ne_eq, true_or, or_true, false_or, or_false, false_and, and_false, Int.reduceNeg, Int.reduceEq, Int.reduceNe, Int.reduceLT, Int.reduceLE, Nat.reduceLeDiff, Nat.reduceEqDiff, Nat.reduceSub, Nat.reduceAdd, reduceCtorEq, reduceIte, implies_true, List.reverse_nil, ha1, hb1, hc1, ha2, hb2, hc2, ha3, hb3, hc3, ha4, hb4, hc4, ha5, hb5, hc5, ha6, hb6, hc6, kz1, kl1, kc1, km1, e0]
  (repeat' (first | (with_reducible refine And.intro ?_ ?_) | (with_reducible intro _) | omega))
  refine x_perform hl1 H1.2.2.1 M1 X.2.2.1.1 _ (fun w2 h2 q2 s2 => ?_)
  rw [(pe _).1] at s2
  rw [(pe _).2]
  have H2 := z_LI_md H1 h2 (by decide) (by decide) q2
  have X2 := x_A_ways X (fun r j hr => g1 r j (by omega)) (xm_c h1 (by decide) (by decide)) h2 s1 s2 (st_ok_pf H.2.2.1 X.2.2.1.1 _)
  simp only [g300_1506, g300_1506r, g300_1507, z_kl_i, z_kl_l, z_kl_r, z_kl_n, z_kl_x, z_kl_vr, z_c8_0, z_c8_i, z_c8_l, z_c8_r, z_c8_vr, z_c8_n, z_vr_some, z_vr_none, Option.toList_some, Option.toList_none, List.cons_append, List.nil_append, true_and, and_true, and_self, z_k_sI, z_len_sI, z_R_sI, z_N_sI, z_set_0, z_set_1, z_set_s, eq_self, true_implies, false_implies, not_true_eq_false, not_false_eq_true, ne_eq, true_or, or_true, false_or, or_false, false_and, and_false, Int.reduceNeg, Int.reduceEq, Int.reduceNe, Int.reduceLT, Int.reduceLE, Nat.reduceLeDiff, Nat.reduceEqDiff, Nat.reduceSub, Nat.reduceAdd, reduceCtorEq, reduceIte, implies_true, List.reverse_nil]
  exact k _ _ _ _ (by first | omega | (simp only; omega)) (by first | omega | (simp only; omega)) ⟨H2, _, _, _, _, _, _, X2⟩
theorem c_op33 {d : Nat} {u : Nat × Nat} {w : z_W} {Q : z_P} {L B i : Int} {a5 a6 : z_V} (HX : z_LX L w B) (hB : B ≤ 200000) (i0 : 0 ≤ i) (i6 : i + 6 < L) (hL : L ≤ 3584) (hu : 2 ≤ u.1 ∧ 74 ≤ u.2) (k : ∀ u' w' a5 a6, u.1 ≤ u'.1 + 2 → u.2 ≤ u'.2 + 74 → z_LX L w' (B + 40) → z_G (d + 25) u' 300 1586 [z_r 0, z_r 2, z_r 49, z_r 76, z_i i, a5, a6] [] w' Q) : z_G (d + 25) u 300 1510 [z_r 0, z_r 2, z_r 49, z_r 76, z_i i, a5, a6] [] w Q := by
  have H := HX.1
  have ha1 : z_add i 1 = i + 1 := z_add_eq (by omega) (by omega)
  have ha2 : z_add i 2 = i + 2 := z_add_eq (by omega) (by omega)
  have ha3 : z_add i 3 = i + 3 := z_add_eq (by omega) (by omega)
  have ha4 : z_add i 4 = i + 4 := z_add_eq (by omega) (by omega)
  have ha5 : z_add i 5 = i + 5 := z_add_eq (by omega) (by omega)
  have ha6 : z_add i 6 = i + 6 := z_add_eq (by omega) (by omega)
  have hb1 : 0 ≤ i + 1 := by omega
  have hb2 : 0 ≤ i + 2 := by omega
  have hb3 : 0 ≤ i + 3 := by omega
  have hb4 : 0 ≤ i + 4 := by omega
  have hb5 : 0 ≤ i + 5 := by omega
  have hb6 : 0 ≤ i + 6 := by omega
  have hc1 : i + 1 < L := by omega
  have hc2 : i + 2 < L := by omega
  have hc3 : i + 3 < L := by omega
  have hc4 : i + 4 < L := by omega
  have hc5 : i + 5 < L := by omega
  have hc6 : i + 6 < L := by omega
  have hN := H.1.2.2.2
  have hl := H.1
  have kz := hl.2.2.1
  have kl := H.2.1
  have kc := (hl.1 (2, 11, 19) (by decide)).1
  have km := (hl.1 (49, 12, 39) (by decide)).1
  simp only at kc km
  simp only [g300_1510, g300_1510r, g300_1511, g300_1511r, g300_1512, g300_1514, g300_1515, g300_1516, g300_1517, z_kl_i, z_kl_l, z_kl_r, z_kl_n, z_kl_x, z_kl_vr, z_c8_0, z_c8_i, z_c8_l, z_c8_r, z_c8_vr, z_c8_n, z_vr_some, z_vr_none, Option.toList_some, Option.toList_none, List.cons_append, List.nil_append, true_and, and_true, and_self, z_k_sI, z_len_sI, z_R_sI, z_N_sI, z_set_0, z_set_1, z_set_s, eq_self, true_implies, false_implies, not_true_eq_false, not_false_eq_true, ne_eq, true_or, or_true, false_or, or_false, false_and, and_false, Int.reduceNeg, Int.reduceEq, Int.reduceNe, Int.reduceLT, Int.reduceLE, Nat.reduceLeDiff, Nat.reduceEqDiff, Nat.reduceSub, Nat.reduceAdd, reduceCtorEq, reduceIte, implies_true, List.reverse_nil, ha1, hb1, hc1, ha2, hb2, hc2, ha3, hb3, hc3, ha4, hb4, hc4, ha5, hb5, hc5, ha6, hb6, hc6, kz, kl, kc, km]
  (repeat' (first | (with_reducible refine And.intro ?_ ?_) | (with_reducible intro _) | omega))
  have HX0 := HX
  obtain ⟨_, m, S, h, V, N, Lg, X⟩ := HX
  refine ex_allC hl H.2.2.2.2.1 X.1.1 X.2.2.1.1 _ (fun w1 h1 q1 => ?_)
  have HX1 := z_LX_q HX0 h1 q1
  have H1 := HX1.1
  have e0 : ∀ j, z_I w1 0 j = z_I w 0 j := fun j => h1.2 0 j (by decide) (by simp)
  have M1 := st_M_e (xm_c h1 (by decide) (by decide)) X.2.2.1.1.2.1.1 X.2.1.1
  have hl1 := H1.1
  have kz1 := hl1.2.2.1
  have kl1 := H1.2.1
  have kc1 := (hl1.1 (2, 11, 19) (by decide)).1
  have km1 := (hl1.1 (49, 12, 39) (by decide)).1
  simp only at kc1 km1
  simp only [g300_1520, g300_1520r, g300_1521, g300_1521r, g300_1522, g300_1522r, g300_1523, g300_1525, g300_1526, g300_1527, g300_1528, z_kl_i, z_kl_l, z_kl_r, z_kl_n, z_kl_x, z_kl_vr, z_c8_0, z_c8_i, z_c8_l, z_c8_r, z_c8_vr, z_c8_n, z_vr_some, z_vr_none, Option.toList_some, Option.toList_none, List.cons_append, List.nil_append, true_and, and_true, and_self, z_k_sI, z_len_sI, z_R_sI, z_N_sI, z_set_0, z_set_1, z_set_s, eq_self, true_implies, false_implies, not_true_eq_false, not_false_eq_true, ne_eq, true_or, or_true, false_or, or_false, false_and, and_false, Int.reduceNeg, Int.reduceEq, Int.reduceNe, Int.reduceLT, Int.reduceLE, Nat.reduceLeDiff, Nat.reduceEqDiff, Nat.reduceSub, Nat.reduceAdd, reduceCtorEq, reduceIte, implies_true, List.reverse_nil, ha1, hb1, hc1, ha2, hb2, hc2, ha3, hb3, hc3, ha4, hb4, hc4, ha5, hb5, hc5, ha6, hb6, hc6, kz1, kl1, kc1, km1, e0]
  (repeat' (first | (with_reducible refine And.intro ?_ ?_) | (with_reducible intro _) | omega))
  refine ex_all hl1 M1 X.2.2.1.1 _ (fun w2 h2 => ?_)
  have HX2 := z_LX_s HX1 h2
  simp only [g300_1531, g300_1531r, g300_1532, z_kl_i, z_kl_l, z_kl_r, z_kl_n, z_kl_x, z_kl_vr, z_c8_0, z_c8_i, z_c8_l, z_c8_r, z_c8_vr, z_c8_n, z_vr_some, z_vr_none, Option.toList_some, Option.toList_none, List.cons_append, List.nil_append, true_and, and_true, and_self, z_k_sI, z_len_sI, z_R_sI, z_N_sI, z_set_0, z_set_1, z_set_s, eq_self, true_implies, false_implies, not_true_eq_false, not_false_eq_true, ne_eq, true_or, or_true, false_or, or_false, false_and, and_false, Int.reduceNeg, Int.reduceEq, Int.reduceNe, Int.reduceLT, Int.reduceLE, Nat.reduceLeDiff, Nat.reduceEqDiff, Nat.reduceSub, Nat.reduceAdd, reduceCtorEq, reduceIte, implies_true, List.reverse_nil]
  exact k _ _ _ _ (by first | omega | (simp only; omega)) (by first | omega | (simp only; omega)) HX2
theorem c_op34 {d : Nat} {u : Nat × Nat} {w : z_W} {Q : z_P} {L B i : Int} {a5 a6 : z_V} (HX : z_LX L w B) (hB : B ≤ 200000) (i0 : 0 ≤ i) (i6 : i + 6 < L) (hL : L ≤ 3584) (hu : 2 ≤ u.1 ∧ 74 ≤ u.2) (k : ∀ u' w' a5 a6, u.1 ≤ u'.1 + 2 → u.2 ≤ u'.2 + 74 → z_LX L w' (B + 40) → z_G (d + 25) u' 300 1586 [z_r 0, z_r 2, z_r 49, z_r 76, z_i i, a5, a6] [] w' Q) : z_G (d + 25) u 300 1535 [z_r 0, z_r 2, z_r 49, z_r 76, z_i i, a5, a6] [] w Q := by
  have H := HX.1
  have ha1 : z_add i 1 = i + 1 := z_add_eq (by omega) (by omega)
  have ha2 : z_add i 2 = i + 2 := z_add_eq (by omega) (by omega)
  have ha3 : z_add i 3 = i + 3 := z_add_eq (by omega) (by omega)
  have ha4 : z_add i 4 = i + 4 := z_add_eq (by omega) (by omega)
  have ha5 : z_add i 5 = i + 5 := z_add_eq (by omega) (by omega)
  have ha6 : z_add i 6 = i + 6 := z_add_eq (by omega) (by omega)
  have hb1 : 0 ≤ i + 1 := by omega
  have hb2 : 0 ≤ i + 2 := by omega
  have hb3 : 0 ≤ i + 3 := by omega
  have hb4 : 0 ≤ i + 4 := by omega
  have hb5 : 0 ≤ i + 5 := by omega
  have hb6 : 0 ≤ i + 6 := by omega
  have hc1 : i + 1 < L := by omega
  have hc2 : i + 2 < L := by omega
  have hc3 : i + 3 < L := by omega
  have hc4 : i + 4 < L := by omega
  have hc5 : i + 5 < L := by omega
  have hc6 : i + 6 < L := by omega
  have hN := H.1.2.2.2
  have hl := H.1
  have kz := hl.2.2.1
  have kl := H.2.1
  have kc := (hl.1 (2, 11, 19) (by decide)).1
  have km := (hl.1 (49, 12, 39) (by decide)).1
  simp only at kc km
  simp only [g300_1535, g300_1535r, g300_1536, z_kl_i, z_kl_l, z_kl_r, z_kl_n, z_kl_x, z_kl_vr, z_c8_0, z_c8_i, z_c8_l, z_c8_r, z_c8_vr, z_c8_n, z_vr_some, z_vr_none, Option.toList_some, Option.toList_none, List.cons_append, List.nil_append, true_and, and_true, and_self, z_k_sI, z_len_sI, z_R_sI, z_N_sI, z_set_0, z_set_1, z_set_s, eq_self, true_implies, false_implies, not_true_eq_false, not_false_eq_true, ne_eq, true_or, or_true, false_or, or_false, false_and, and_false, Int.reduceNeg, Int.reduceEq, Int.reduceNe, Int.reduceLT, Int.reduceLE, Nat.reduceLeDiff, Nat.reduceEqDiff, Nat.reduceSub, Nat.reduceAdd, reduceCtorEq, reduceIte, implies_true, List.reverse_nil, ha1, hb1, hc1, ha2, hb2, hc2, ha3, hb3, hc3, ha4, hb4, hc4, ha5, hb5, hc5, ha6, hb6, hc6, kz, kl, kc, km]
  (repeat' (first | (with_reducible refine And.intro ?_ ?_) | (with_reducible intro _) | omega))
  obtain ⟨_, m, S, h, V, N, Lg, X⟩ := HX
  refine x_imageC hl H.2.2.2.2.1 X.1.1 X.2.2.1.1 (fun w1 h1 q1 i0' i1' => ?_)
  have H1 := z_LI_cf H h1 (by decide) (by decide) (by omega) q1
  have e0 : ∀ j, z_I w1 0 j = z_I w 0 j := fun j => h1.2 0 j (by decide) (by simp)
  have M1 := st_M_e (xm_c h1 (by decide) (by decide)) X.2.2.1.1.2.1.1 X.2.1.1
  have hl1 := H1.1
  have kz1 := hl1.2.2.1
  have kl1 := H1.2.1
  have kc1 := (hl1.1 (2, 11, 19) (by decide)).1
  have km1 := (hl1.1 (49, 12, 39) (by decide)).1
  simp only at kc1 km1
  simp only [g300_1539, g300_1539r, g300_1540, g300_1540r, g300_1541, z_kl_i, z_kl_l, z_kl_r, z_kl_n, z_kl_x, z_kl_vr, z_c8_0, z_c8_i, z_c8_l, z_c8_r, z_c8_vr, z_c8_n, z_vr_some, z_vr_none, Option.toList_some, Option.toList_none, List.cons_append, List.nil_append, true_and, and_true, and_self, z_k_sI, z_len_sI, z_R_sI, z_N_sI, z_set_0, z_set_1, z_set_s, eq_self, true_implies, false_implies, not_true_eq_false, not_false_eq_true, ne_eq, true_or, or_true, false_or, or_false, false_and, and_false, Int.reduceNeg, Int.reduceEq, Int.reduceNe, Int.reduceLT, Int.reduceLE, Nat.reduceLeDiff, Nat.reduceEqDiff, Nat.reduceSub, Nat.reduceAdd, reduceCtorEq, reduceIte, implies_true, List.reverse_nil, ha1, hb1, hc1, ha2, hb2, hc2, ha3, hb3, hc3, ha4, hb4, hc4, ha5, hb5, hc5, ha6, hb6, hc6, kz1, kl1, kc1, km1, e0]
  (repeat' (first | (with_reducible refine And.intro ?_ ?_) | (with_reducible intro _) | omega))
  refine x_image hl1 H1.2.2.1 M1 X.2.2.1.1 (fun w2 h2 q2 g0 g1 => ?_)
  have H2 := z_LI_md H1 h2 (by decide) (by decide) q2
  obtain ⟨h', V', N', L', X2⟩ := x_A_image X h1 i0' i1' h2 g0 g1
  simp only [g300_1544, g300_1544r, g300_1545, z_kl_i, z_kl_l, z_kl_r, z_kl_n, z_kl_x, z_kl_vr, z_c8_0, z_c8_i, z_c8_l, z_c8_r, z_c8_vr, z_c8_n, z_vr_some, z_vr_none, Option.toList_some, Option.toList_none, List.cons_append, List.nil_append, true_and, and_true, and_self, z_k_sI, z_len_sI, z_R_sI, z_N_sI, z_set_0, z_set_1, z_set_s, eq_self, true_implies, false_implies, not_true_eq_false, not_false_eq_true, ne_eq, true_or, or_true, false_or, or_false, false_and, and_false, Int.reduceNeg, Int.reduceEq, Int.reduceNe, Int.reduceLT, Int.reduceLE, Nat.reduceLeDiff, Nat.reduceEqDiff, Nat.reduceSub, Nat.reduceAdd, reduceCtorEq, reduceIte, implies_true, List.reverse_nil]
  exact k _ _ _ _ (by first | omega | (simp only; omega)) (by first | omega | (simp only; omega)) ⟨H2, _, _, _, _, _, _, X2⟩
theorem c_op35 {d : Nat} {u : Nat × Nat} {w : z_W} {Q : z_P} {L B i : Int} {a5 a6 : z_V} (HX : z_LX L w B) (hB : B ≤ 200000) (i0 : 0 ≤ i) (i6 : i + 6 < L) (hL : L ≤ 3584) (hu : 2 ≤ u.1 ∧ 74 ≤ u.2) (k : ∀ u' w' a5 a6, u.1 ≤ u'.1 + 2 → u.2 ≤ u'.2 + 74 → z_LX L w' (B + 40) → z_G (d + 25) u' 300 1586 [z_r 0, z_r 2, z_r 49, z_r 76, z_i i, a5, a6] [] w' Q) : z_G (d + 25) u 300 1548 [z_r 0, z_r 2, z_r 49, z_r 76, z_i i, a5, a6] [] w Q := by
  have H := HX.1
  have ha1 : z_add i 1 = i + 1 := z_add_eq (by omega) (by omega)
  have ha2 : z_add i 2 = i + 2 := z_add_eq (by omega) (by omega)
  have ha3 : z_add i 3 = i + 3 := z_add_eq (by omega) (by omega)
  have ha4 : z_add i 4 = i + 4 := z_add_eq (by omega) (by omega)
  have ha5 : z_add i 5 = i + 5 := z_add_eq (by omega) (by omega)
  have ha6 : z_add i 6 = i + 6 := z_add_eq (by omega) (by omega)
  have hb1 : 0 ≤ i + 1 := by omega
  have hb2 : 0 ≤ i + 2 := by omega
  have hb3 : 0 ≤ i + 3 := by omega
  have hb4 : 0 ≤ i + 4 := by omega
  have hb5 : 0 ≤ i + 5 := by omega
  have hb6 : 0 ≤ i + 6 := by omega
  have hc1 : i + 1 < L := by omega
  have hc2 : i + 2 < L := by omega
  have hc3 : i + 3 < L := by omega
  have hc4 : i + 4 < L := by omega
  have hc5 : i + 5 < L := by omega
  have hc6 : i + 6 < L := by omega
  have hN := H.1.2.2.2
  have hl := H.1
  have kz := hl.2.2.1
  have kl := H.2.1
  have kc := (hl.1 (2, 11, 19) (by decide)).1
  have km := (hl.1 (49, 12, 39) (by decide)).1
  simp only at kc km
  simp only [g300_1548, g300_1548r, g300_1549, z_kl_i, z_kl_l, z_kl_r, z_kl_n, z_kl_x, z_kl_vr, z_c8_0, z_c8_i, z_c8_l, z_c8_r, z_c8_vr, z_c8_n, z_vr_some, z_vr_none, Option.toList_some, Option.toList_none, List.cons_append, List.nil_append, true_and, and_true, and_self, z_k_sI, z_len_sI, z_R_sI, z_N_sI, z_set_0, z_set_1, z_set_s, eq_self, true_implies, false_implies, not_true_eq_false, not_false_eq_true, ne_eq, true_or, or_true, false_or, or_false, false_and, and_false, Int.reduceNeg, Int.reduceEq, Int.reduceNe, Int.reduceLT, Int.reduceLE, Nat.reduceLeDiff, Nat.reduceEqDiff, Nat.reduceSub, Nat.reduceAdd, reduceCtorEq, reduceIte, implies_true, List.reverse_nil, ha1, hb1, hc1, ha2, hb2, hc2, ha3, hb3, hc3, ha4, hb4, hc4, ha5, hb5, hc5, ha6, hb6, hc6, kz, kl, kc, km]
  (repeat' (first | (with_reducible refine And.intro ?_ ?_) | (with_reducible intro _) | omega))
  obtain ⟨_, m, S, h, V, N, Lg, X⟩ := HX
  refine x_backC hl H.2.2.2.2.1 X.1.1 X.1.2 X.2.2.1.2 (fun w1 h1 q1 i0' i1' => ?_)
  have H1 := z_LI_cf H h1 (by decide) (by decide) (by omega) q1
  have e0 : ∀ j, z_I w1 0 j = z_I w 0 j := fun j => h1.2 0 j (by decide) (by simp)
  have M1 := st_M_e (xm_c h1 (by decide) (by decide)) X.2.2.1.1.2.1.1 X.2.1.1
  have J1 := im_M_e (xm_c h1 (by decide) (by decide)) X.2.1.2
  have hl1 := H1.1
  have kz1 := hl1.2.2.1
  have kl1 := H1.2.1
  have kc1 := (hl1.1 (2, 11, 19) (by decide)).1
  have km1 := (hl1.1 (49, 12, 39) (by decide)).1
  simp only at kc1 km1
  simp only [g300_1552, g300_1552r, g300_1553, g300_1553r, g300_1554, z_kl_i, z_kl_l, z_kl_r, z_kl_n, z_kl_x, z_kl_vr, z_c8_0, z_c8_i, z_c8_l, z_c8_r, z_c8_vr, z_c8_n, z_vr_some, z_vr_none, Option.toList_some, Option.toList_none, List.cons_append, List.nil_append, true_and, and_true, and_self, z_k_sI, z_len_sI, z_R_sI, z_N_sI, z_set_0, z_set_1, z_set_s, eq_self, true_implies, false_implies, not_true_eq_false, not_false_eq_true, ne_eq, true_or, or_true, false_or, or_false, false_and, and_false, Int.reduceNeg, Int.reduceEq, Int.reduceNe, Int.reduceLT, Int.reduceLE, Nat.reduceLeDiff, Nat.reduceEqDiff, Nat.reduceSub, Nat.reduceAdd, reduceCtorEq, reduceIte, implies_true, List.reverse_nil, ha1, hb1, hc1, ha2, hb2, hc2, ha3, hb3, hc3, ha4, hb4, hc4, ha5, hb5, hc5, ha6, hb6, hc6, kz1, kl1, kc1, km1, e0]
  (repeat' (first | (with_reducible refine And.intro ?_ ?_) | (with_reducible intro _) | omega))
  refine x_back hl1 H1.2.2.1 M1 J1 X.2.2.1.2 (fun w2 h2 q2 g0 g1 => ?_)
  have H2 := z_LI_md H1 h2 (by decide) (by decide) q2
  obtain ⟨S', X2⟩ := x_A_back X h1 i0' i1' h2 g0 g1
  simp only [g300_1557, g300_1557r, g300_1558, z_kl_i, z_kl_l, z_kl_r, z_kl_n, z_kl_x, z_kl_vr, z_c8_0, z_c8_i, z_c8_l, z_c8_r, z_c8_vr, z_c8_n, z_vr_some, z_vr_none, Option.toList_some, Option.toList_none, List.cons_append, List.nil_append, true_and, and_true, and_self, z_k_sI, z_len_sI, z_R_sI, z_N_sI, z_set_0, z_set_1, z_set_s, eq_self, true_implies, false_implies, not_true_eq_false, not_false_eq_true, ne_eq, true_or, or_true, false_or, or_false, false_and, and_false, Int.reduceNeg, Int.reduceEq, Int.reduceNe, Int.reduceLT, Int.reduceLE, Nat.reduceLeDiff, Nat.reduceEqDiff, Nat.reduceSub, Nat.reduceAdd, reduceCtorEq, reduceIte, implies_true, List.reverse_nil]
  exact k _ _ _ _ (by first | omega | (simp only; omega)) (by first | omega | (simp only; omega)) ⟨H2, _, _, _, _, _, _, X2⟩
theorem c_op36 {d : Nat} {u : Nat × Nat} {w : z_W} {Q : z_P} {L B i : Int} {a5 a6 : z_V} (HX : z_LX L w B) (hB : B ≤ 200000) (i0 : 0 ≤ i) (i6 : i + 6 < L) (hL : L ≤ 3584) (hu : 2 ≤ u.1 ∧ 74 ≤ u.2) (k : ∀ u' w' a5 a6, u.1 ≤ u'.1 + 2 → u.2 ≤ u'.2 + 74 → z_LX L w' (B + 40) → z_G (d + 25) u' 300 1586 [z_r 0, z_r 2, z_r 49, z_r 76, z_i i, a5, a6] [] w' Q) : z_G (d + 25) u 300 1561 [z_r 0, z_r 2, z_r 49, z_r 76, z_i i, a5, a6] [] w Q := by
  have H := HX.1
  have ha1 : z_add i 1 = i + 1 := z_add_eq (by omega) (by omega)
  have ha2 : z_add i 2 = i + 2 := z_add_eq (by omega) (by omega)
  have ha3 : z_add i 3 = i + 3 := z_add_eq (by omega) (by omega)
  have ha4 : z_add i 4 = i + 4 := z_add_eq (by omega) (by omega)
  have ha5 : z_add i 5 = i + 5 := z_add_eq (by omega) (by omega)
  have ha6 : z_add i 6 = i + 6 := z_add_eq (by omega) (by omega)
  have hb1 : 0 ≤ i + 1 := by omega
  have hb2 : 0 ≤ i + 2 := by omega
  have hb3 : 0 ≤ i + 3 := by omega
  have hb4 : 0 ≤ i + 4 := by omega
  have hb5 : 0 ≤ i + 5 := by omega
  have hb6 : 0 ≤ i + 6 := by omega
  have hc1 : i + 1 < L := by omega
  have hc2 : i + 2 < L := by omega
  have hc3 : i + 3 < L := by omega
  have hc4 : i + 4 < L := by omega
  have hc5 : i + 5 < L := by omega
  have hc6 : i + 6 < L := by omega
  have hN := H.1.2.2.2
  have hl := H.1
  have kz := hl.2.2.1
  have kl := H.2.1
  have kc := (hl.1 (2, 11, 19) (by decide)).1
  have km := (hl.1 (49, 12, 39) (by decide)).1
  simp only at kc km
  simp only [g300_1561, g300_1561r, g300_1562, g300_1562r, g300_1563, g300_1565, g300_1566, g300_1567, g300_1568, z_kl_i, z_kl_l, z_kl_r, z_kl_n, z_kl_x, z_kl_vr, z_c8_0, z_c8_i, z_c8_l, z_c8_r, z_c8_vr, z_c8_n, z_vr_some, z_vr_none, Option.toList_some, Option.toList_none, List.cons_append, List.nil_append, true_and, and_true, and_self, z_k_sI, z_len_sI, z_R_sI, z_N_sI, z_set_0, z_set_1, z_set_s, eq_self, true_implies, false_implies, not_true_eq_false, not_false_eq_true, ne_eq, true_or, or_true, false_or, or_false, false_and, and_false, Int.reduceNeg, Int.reduceEq, Int.reduceNe, Int.reduceLT, Int.reduceLE, Nat.reduceLeDiff, Nat.reduceEqDiff, Nat.reduceSub, Nat.reduceAdd, reduceCtorEq, reduceIte, implies_true, List.reverse_nil, ha1, hb1, hc1, ha2, hb2, hc2, ha3, hb3, hc3, ha4, hb4, hc4, ha5, hb5, hc5, ha6, hb6, hc6, kz, kl, kc, km]
  (repeat' (first | (with_reducible refine And.intro ?_ ?_) | (with_reducible intro _) | omega))
  have HX0 := HX
  obtain ⟨_, m, S, h, V, N, Lg, X⟩ := HX
  refine x_countC hl X.1.1 X.2.2.1.1 H.2.2.2.2.2.2.2.2.1 H.2.2.2.2.2.2.2.1 _ ?_
  have HX1 := z_LX_mono (show B ≤ B + 40 by omega) HX0
  have H1 := HX1.1
  have hl1 := H1.1
  have kz1 := hl1.2.2.1
  have kl1 := H1.2.1
  have kc1 := (hl1.1 (2, 11, 19) (by decide)).1
  have km1 := (hl1.1 (49, 12, 39) (by decide)).1
  simp only at kc1 km1
  simp only [g300_1571, g300_1571r, g300_1572, g300_1572r, g300_1573, g300_1575, g300_1576, g300_1577, g300_1578, z_kl_i, z_kl_l, z_kl_r, z_kl_n, z_kl_x, z_kl_vr, z_c8_0, z_c8_i, z_c8_l, z_c8_r, z_c8_vr, z_c8_n, z_vr_some, z_vr_none, Option.toList_some, Option.toList_none, List.cons_append, List.nil_append, true_and, and_true, and_self, z_k_sI, z_len_sI, z_R_sI, z_N_sI, z_set_0, z_set_1, z_set_s, eq_self, true_implies, false_implies, not_true_eq_false, not_false_eq_true, ne_eq, true_or, or_true, false_or, or_false, false_and, and_false, Int.reduceNeg, Int.reduceEq, Int.reduceNe, Int.reduceLT, Int.reduceLE, Nat.reduceLeDiff, Nat.reduceEqDiff, Nat.reduceSub, Nat.reduceAdd, reduceCtorEq, reduceIte, implies_true, List.reverse_nil, ha1, hb1, hc1, ha2, hb2, hc2, ha3, hb3, hc3, ha4, hb4, hc4, ha5, hb5, hc5, ha6, hb6, hc6, kz1, kl1, kc1, km1]
  (repeat' (first | (with_reducible refine And.intro ?_ ?_) | (with_reducible intro _) | omega))
  refine ex_count hl1 X.2.1.1 X.2.2.1.1 _ ?_
  have HX2 := HX1
  simp only [g300_1581, g300_1584, g300_1585 (st := []), z_kl_i, z_kl_l, z_kl_r, z_kl_n, z_kl_x, z_kl_vr, z_c8_0, z_c8_i, z_c8_l, z_c8_r, z_c8_vr, z_c8_n, z_vr_some, z_vr_none, Option.toList_some, Option.toList_none, List.cons_append, List.nil_append, true_and, and_true, and_self, z_k_sI, z_len_sI, z_R_sI, z_N_sI, z_set_0, z_set_1, z_set_s, eq_self, true_implies, false_implies, not_true_eq_false, not_false_eq_true, ne_eq, true_or, or_true, false_or, or_false, false_and, and_false, Int.reduceNeg, Int.reduceEq, Int.reduceNe, Int.reduceLT, Int.reduceLE, Nat.reduceLeDiff, Nat.reduceEqDiff, Nat.reduceSub, Nat.reduceAdd, reduceCtorEq, reduceIte, implies_true, List.reverse_nil]
  exact k _ _ _ _ (by first | omega | (simp only; omega)) (by first | omega | (simp only; omega)) HX2
