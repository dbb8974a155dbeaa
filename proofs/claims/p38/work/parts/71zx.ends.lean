/-! ends of lists: pure -/
abbrev en_A : Type := List (List Int)
def en_in (A : en_A) (l : List Int) : en_A := if l ∈ A then A else A ++ [l]
def tf (V : pu_V) (s : Int) : Nat → List Int
  | 0 => []
  | n + 1 => sl_i V s (sl_l V s - 1 - n) :: tf V s n
def en_1 (V : pu_V) (s : Int) : Nat → Nat → en_A → en_A
  | 0, _, A => A
  | n + 1, m, A => en_1 V s n (m + 1) (en_in A (tf V s (m + 1)))
def en_2 (V : pu_V) : Nat → Int → en_A → en_A
  | 0, _, A => A
  | n + 1, s, A => en_2 V n (s + 1) (en_1 V s (sl_l V s).toNat 0 A)
def en_l (V : pu_V) : en_A := en_2 V (sl_n V).toNat 0 []
def en_z (V W : pu_V) : Int := (((en_l V).filter (fun l => decide (l ∈ en_l W))).length : Nat)
/-- the i-th of them, from 1 on; 0: none -/
def np (A : en_A) (i : Int) : List Int := (([] :: A)[i.toNat]?).getD []
theorem np_0 (A : en_A) : np A 0 = [] := rfl
theorem np_s (A : en_A) {i : Int} (i1 : 1 ≤ i) : np A i = (A[(i - 1).toNat]?).getD [] := by
  unfold np
  rw [show i.toNat = (i - 1).toNat + 1 by omega, List.getElem?_cons_succ]
theorem np_lt (A : en_A) (l : List Int) {i : Int} (i0 : 0 ≤ i) (i1 : i ≤ A.length) : np (A ++ [l]) i = np A i := by
  by_cases c : i = 0
  · subst c; rfl
  · rw [np_s _ (by omega), np_s _ (by omega), List.getElem?_append_left (by omega)]
theorem np_eq (A : en_A) (l : List Int) {i : Int} (h : i = A.length + 1) : np (A ++ [l]) i = l := by
  rw [np_s _ (by omega), show (i - 1).toNat = A.length by omega, List.getElem?_append_right (Nat.le_refl _), Nat.sub_self]
  rfl
theorem np_in (A : en_A) {i : Int} (i1 : 1 ≤ i) (i2 : i ≤ A.length) : np A i ∈ A := by
  rw [np_s A i1, List.getElem?_eq_getElem (by omega : (i - 1).toNat < A.length)]
  exact List.getElem_mem _
theorem np_ex {A : en_A} {l : List Int} (h : l ∈ A) : ∃ i : Int, 1 ≤ i ∧ i ≤ A.length ∧ np A i = l := by
  obtain ⟨n, hn⟩ := List.mem_iff_getElem?.1 h
  have hl : n < A.length := by
    apply Classical.byContradiction
    intro q
    rw [List.getElem?_eq_none (by omega)] at hn
    cases hn
  refine ⟨(n : Int) + 1, by omega, by omega, ?_⟩
  rw [np_s A (by omega), show ((n : Int) + 1 - 1).toNat = n by omega, hn]
  rfl
theorem en_in_y {A : en_A} {l : List Int} (h : l ∈ A) : en_in A l = A := by unfold en_in; rw [if_pos h]
theorem en_in_n {A : en_A} {l : List Int} (h : l ∉ A) : en_in A l = A ++ [l] := by unfold en_in; rw [if_neg h]
theorem en_in_len (A : en_A) (l : List Int) : A.length ≤ (en_in A l).length ∧ (en_in A l).length ≤ A.length + 1 := by
  by_cases h : l ∈ A
  · rw [en_in_y h]; omega
  · rw [en_in_n h, List.length_append]
    exact ⟨Nat.le_add_right _ _, Nat.le_refl _⟩
theorem en_in_mem (A : en_A) (l m : List Int) : m ∈ en_in A l ↔ m ∈ A ∨ m = l := by
  by_cases h : l ∈ A
  · rw [en_in_y h]
    exact ⟨Or.inl, fun q => q.elim id (fun z => by rw [z]; exact h)⟩
  · rw [en_in_n h, List.mem_append, List.mem_singleton]
theorem np_old (A : en_A) (l : List Int) {i : Int} (i0 : 0 ≤ i) (i1 : i ≤ A.length) : np (en_in A l) i = np A i := by
  by_cases h : l ∈ A
  · rw [en_in_y h]
  · rw [en_in_n h]
    exact np_lt A l i0 i1
def en_J (A : en_A) : Prop := ∀ i j : Int, 0 ≤ i → i ≤ A.length → 0 ≤ j → j ≤ A.length → np A i = np A j → i = j
theorem en_J_0 : en_J [] := fun i j i0 i1 j0 j1 _ => by
  replace i1 : i ≤ 0 := i1
  replace j1 : j ≤ 0 := j1
  omega
theorem en_J_in {A : en_A} {b : Int} {r : List Int} (h : en_J A) : en_J (en_in A (b :: r)) := by
  by_cases hm : (b :: r) ∈ A
  · rw [en_in_y hm]; exact h
  · rw [en_in_n hm]
    have new : ∀ i : Int, 0 ≤ i → i ≤ A.length → np A i ≠ b :: r := fun i i0 i1 e => by
      by_cases c : i = 0
      · rw [c, np_0] at e
        cases e
      · exact hm (by rw [← e]; exact np_in A (by omega) i1)
    intro i j i0 i1 j0 j1 e
    rw [List.length_append] at i1 j1
    replace i1 : i ≤ ((A.length + 1 : Nat) : Int) := i1
    replace j1 : j ≤ ((A.length + 1 : Nat) : Int) := j1
    by_cases ci : i ≤ A.length
    · by_cases cj : j ≤ A.length
      · rw [np_lt A _ i0 ci, np_lt A _ j0 cj] at e
        exact h i j i0 ci j0 cj e
      · rw [np_lt A _ i0 ci, np_eq A _ (show j = A.length + 1 by omega)] at e
        exact absurd e (new i i0 ci)
    · by_cases cj : j ≤ A.length
      · rw [np_lt A _ j0 cj, np_eq A _ (show i = A.length + 1 by omega)] at e
        exact absurd e.symm (new j j0 cj)
      · omega
theorem tf_len (V : pu_V) (s : Int) : ∀ n : Nat, (tf V s n).length = n := by
  intro n
  induction n with
  | zero => rfl
  | succ n ih => rw [tf, List.length_cons, ih]
theorem en_1_len (V : pu_V) (s : Int) : ∀ (n m : Nat) (A : en_A), A.length ≤ (en_1 V s n m A).length ∧ (en_1 V s n m A).length ≤ A.length + n := by
  intro n
  induction n with
  | zero => intro m A; exact ⟨Nat.le_refl _, Nat.le_refl _⟩
  | succ n ih =>
    intro m A
    have h1 := en_in_len A (tf V s (m + 1))
    have h2 := ih (m + 1) (en_in A (tf V s (m + 1)))
    rw [en_1]
    omega
theorem en_2_len (V : pu_V) : ∀ (n : Nat) (s : Int) (A : en_A), A.length ≤ (en_2 V n s A).length ∧ (en_2 V n s A).length ≤ A.length + 24 * n := by
  intro n
  induction n with
  | zero => intro s A; exact ⟨Nat.le_refl _, Nat.le_refl _⟩
  | succ n ih =>
    intro s A
    have h1 := en_1_len V s (sl_l V s).toNat 0 A
    have h2 := ih (s + 1) (en_1 V s (sl_l V s).toNat 0 A)
    have h3 := sl_l_24 V s
    rw [en_2]
    omega
theorem en_l_len (V : pu_V) : (en_l V).length ≤ 1128 := by
  have h := en_2_len V (sl_n V).toNat 0 []
  have nb := (sl_n_bd V).1
  have h0 : ([] : en_A).length = 0 := rfl
  unfold en_l
  omega
/-- a longer one holds all that the shorter held, in their places -/
theorem en_1_old (V : pu_V) (s : Int) : ∀ (n m : Nat) (A : en_A) {i : Int}, 0 ≤ i → i ≤ A.length → np (en_1 V s n m A) i = np A i := by
  intro n
  induction n with
  | zero => intro m A i _ _; rfl
  | succ n ih =>
    intro m A i i0 i1
    have h1 := en_in_len A (tf V s (m + 1))
    rw [en_1, ih (m + 1) _ i0 (by omega), np_old A _ i0 i1]
theorem en_2_old (V : pu_V) : ∀ (n : Nat) (s : Int) (A : en_A) {i : Int}, 0 ≤ i → i ≤ A.length → np (en_2 V n s A) i = np A i := by
  intro n
  induction n with
  | zero => intro s A i _ _; rfl
  | succ n ih =>
    intro s A i i0 i1
    have h1 := en_1_len V s (sl_l V s).toNat 0 A
    rw [en_2, ih (s + 1) _ i0 (by omega), en_1_old V s _ _ A i0 i1]
/-- the last ahead of b whose parent q is -/
def ch (par : Int → Int) (q v b : Int) : Prop := (v = -1 ∧ ∀ j, 1 ≤ j → j < b → par j ≠ q) ∨ ((1 ≤ v ∧ v < b) ∧ par v = q ∧ ∀ j, v < j → j < b → par j ≠ q)
theorem ch_cg {p r : Int → Int} {q v b : Int} (h : ∀ j, 1 ≤ j → j < b → r j = p j) (hc : ch p q v b) : ch r q v b := by
  rcases hc with ⟨h1, h2⟩ | ⟨h1, h2, h3⟩
  · exact Or.inl ⟨h1, fun j a c => by rw [h j a c]; exact h2 j a c⟩
  · exact Or.inr ⟨h1, by rw [h v h1.1 h1.2]; exact h2, fun j a c => by rw [h j (by omega) c]; exact h3 j a c⟩
def TR (w : z_W) (A : en_A) (par : Int → Int) : Prop := z_I w 42 4 = A.length + 1 ∧ en_J A ∧ (∀ i : Int, 1 ≤ i → i ≤ A.length → (0 ≤ par i ∧ par i < i) ∧ (0 ≤ z_I w 43 i ∧ z_I w 43 i ≤ 23) ∧ np A i = z_I w 43 i :: np A (par i) ∧ ch par (par i) (z_I w 45 i) i) ∧ ∀ q : Int, 0 ≤ q → q ≤ A.length → ch par q (z_I w 44 q) (A.length + 1)
theorem TR_e {w w' : z_W} {A : en_A} {par : Int → Int} (e : z_I w' 42 4 = z_I w 42 4) (e3 : ∀ i, z_I w' 43 i = z_I w 43 i) (e4 : ∀ i, z_I w' 44 i = z_I w 44 i) (e5 : ∀ i, z_I w' 45 i = z_I w 45 i) (h : TR w A par) : TR w' A par := by
  unfold TR
  simp only [e, e3, e4, e5]
  exact h
theorem TR_new {w w' : z_W} {A : en_A} {par : Int → Int} {b q : Int} (h : TR w A par) (hm : (b :: np A q) ∉ A) (q0 : 0 ≤ q) (q1 : q ≤ A.length) (b0 : 0 ≤ b) (b1 : b ≤ 23) (c : z_I w' 42 4 = z_I w 42 4 + 1) (e3 : ∀ i, z_I w' 43 i = if i = z_I w 42 4 then b else z_I w 43 i) (e4 : ∀ i, z_I w' 44 i = if i = q then z_I w 42 4 else if i = z_I w 42 4 then -1 else z_I w 44 i) (e5 : ∀ i, z_I w' 45 i = if i = z_I w 42 4 then z_I w 44 q else z_I w 45 i) : TR w' (en_in A (b :: np A q)) (fun i => if i = A.length + 1 then q else par i) := by
  have J := en_J_in (b := b) (r := np A q) h.2.1
  rw [en_in_n hm] at J ⊢
  obtain ⟨h1, _, h3, h4⟩ := h
  rw [h1] at c e3 e4 e5
  have len : ((A ++ [b :: np A q]).length : Int) = A.length + 1 := by
    rw [List.length_append]
    rfl
  have pe : ∀ j : Int, 1 ≤ j → j < A.length + 1 → (fun i : Int => if i = A.length + 1 then q else par i) j = par j := fun j a b => if_neg (by omega)
  have pn : (fun i : Int => if i = A.length + 1 then q else par i) (A.length + 1) = q := if_pos rfl
  refine ⟨by rw [c, len], J, fun i i1 i2 => ?_, fun r r0 r1 => ?_⟩
  · rw [len] at i2
    by_cases ci : i = A.length + 1
    · rw [e3 i, if_pos ci, e5 i, if_pos ci, ci, pn, np_eq A _ rfl, np_lt A _ q0 q1]
      exact ⟨⟨q0, by omega⟩, ⟨b0, b1⟩, rfl, ch_cg pe (h4 q q0 q1)⟩
    · obtain ⟨g1, g2, g3, g4⟩ := h3 i i1 (by omega)
      rw [e3 i, if_neg ci, e5 i, if_neg ci, pe i i1 (by omega), np_lt A _ (by omega) (by omega), np_lt A _ g1.1 (by omega)]
      exact ⟨g1, g2, g3, ch_cg (fun j a d => pe j a (by omega)) g4⟩
  · rw [len] at r1
    rw [len, e4 r]
    by_cases cq : r = q
    · rw [if_pos cq, cq]
      refine Or.inr ⟨⟨by omega, by omega⟩, pn, fun j a d => by omega⟩
    · rw [if_neg cq]
      by_cases cn : r = A.length + 1
      · rw [if_pos cn]
        refine Or.inl ⟨rfl, fun j a d => ?_⟩
        by_cases cj : j = A.length + 1
        · rw [cj, pn]
          exact fun z => cq z.symm
        · rw [pe j a (by omega), cn]
          have := (h3 j a (by omega)).1
          omega
      · rw [if_neg cn]
        rcases h4 r r0 (by omega) with ⟨g1, g2⟩ | ⟨g1, g2, g3⟩
        · refine Or.inl ⟨g1, fun j a d => ?_⟩
          by_cases cj : j = A.length + 1
          · rw [cj, pn]
            exact fun z => cq z.symm
          · rw [pe j a (by omega)]
            exact g2 j a (by omega)
        · refine Or.inr ⟨⟨g1.1, by omega⟩, ?_, fun j a d => ?_⟩
          · rw [pe _ g1.1 (by omega)]
            exact g2
          · by_cases cj : j = A.length + 1
            · rw [cj, pn]
              exact fun z => cq z.symm
            · rw [pe j (by omega) (by omega)]
              exact g3 j a (by omega)
/-! ends: the class -/
set_option maxRecDepth 20000 in
theorem xs_longer {d u w} {Q : z_P} (hl : z_lay w) (a b : Int) (c0 : 0 ≤ z_I w 42 4) (c1 : z_I w 42 4 ≤ 2256) (k : ∀ w', z_fr z_SE z_FE w w' → z_I w' 42 4 = z_I w 42 4 + 1 → (∀ i, z_I w' 43 i = if i = z_I w 42 4 then a else z_I w 43 i) → (∀ i, z_I w' 44 i = if i = z_I w 42 4 then -1 else z_I w 44 i) → (∀ i, z_I w' 45 i = if i = z_I w 42 4 then b else z_I w 45 i) → (∀ i, z_I w' 46 i = if i = z_I w 42 4 then 0 else z_I w 46 i) → Q (some (z_i (z_I w 42 4))) w') : z_G d u 53 0 [z_r 42, z_i a, z_i b] [] w Q := by
  simp only [g53_0, g53_0r, g53_1, g53_4, g53_7, g53_10, g53_11 (st := []), g53_12, g53_12r, g53_13, g53_16, g53_16r, g53_17, g53_20, g53_21, g53_22, g53_22r, g53_23, g53_26, g53_26r, g53_27, g53_30, g53_31, g53_32, g53_32r, g53_33, g53_36, g53_36r, g53_37, g53_40, g53_41, g53_42, g53_42r, g53_43, g53_46, g53_46r, g53_47, g53_50, g53_51, g53_52, g53_52r, g53_53, g53_53r, g53_54, g53_57, g53_58, g53_59, g53_62, g53_62r, g53_63, g53_66, g53_67, g53_68 (st := []), z_kl_i, z_kl_l, z_kl_r, z_kl_n, z_kl_x, z_kl_vr, z_c8_0, z_c8_i, z_c8_l, z_c8_r, z_c8_vr, z_c8_n, z_vr_some, z_vr_none, Option.toList_some, Option.toList_none, List.cons_append, List.nil_append, true_and, and_true, and_self, z_k_sI, z_len_sI, z_R_sI, z_N_sI, z_set_0, z_set_1, z_set_s, eq_self, true_implies, false_implies, not_true_eq_false, not_false_eq_true, ne_eq, true_or, or_true, false_or, or_false, false_and, and_false, Int.reduceNeg, Int.reduceEq, Int.reduceNe, Int.reduceLT, Int.reduceLE, Nat.reduceLeDiff, Nat.reduceEqDiff, Nat.reduceSub, Nat.reduceAdd, reduceCtorEq, reduceIte, implies_true, List.reverse_nil, lk1 hl, ll1 hl, lk2 hl, lr2_0 hl, lr2_1 hl, lr2_2 hl, lr2_3 hl, lr2_6 hl, lr2_7 hl, lr2_8 hl, lr2_9 hl, lr2_10 hl, lr2_11 hl, lr2_13 hl, lr2_14 hl, lr2_15 hl, lr2_16 hl, lr2_17 hl, lr2_18 hl, lk3 hl, lr3_0 hl, lk4 hl, ll4 hl, lk5 hl, lr5_0 hl, lr5_2 hl, lr5_3 hl, lr5_4 hl, lk6 hl, ll6 hl, lk7 hl, ll7 hl, lk8 hl, lr8_0 hl, lk9 hl, ll9 hl, lk10 hl, ll10 hl, lk11 hl, ll11 hl, lk12 hl, lr12_0 hl, lk13 hl, ll13 hl, lk14 hl, lr14_2 hl, lr14_3 hl, lr14_4 hl, lr14_5 hl, lr14_6 hl, lr14_7 hl, lr14_9 hl, lr14_10 hl, lk15 hl, ll15 hl, lk16 hl, ll16 hl, lk17 hl, ll17 hl, lk18 hl, ll18 hl, lk19 hl, ll19 hl, lk20 hl, ll20 hl, lk21 hl, ll21 hl, lk22 hl, lr22_0 hl, lk23 hl, ll23 hl, lk24 hl, lr24_2 hl, lr24_3 hl, lr24_4 hl, lr24_5 hl, lr24_6 hl, lr24_7 hl, lr24_9 hl, lr24_10 hl, lk25 hl, ll25 hl, lk26 hl, ll26 hl, lk27 hl, ll27 hl, lk28 hl, ll28 hl, lk29 hl, ll29 hl, lk30 hl, ll30 hl, lk31 hl, ll31 hl, lk32 hl, lr32_1 hl, lk33 hl, ll33 hl, lk34 hl, lr34_0 hl, lk35 hl, ll35 hl, lk36 hl, lr36_0 hl, lk37 hl, ll37 hl, lk38 hl, lr38_0 hl, lk39 hl, ll39 hl, lk40 hl, ll40 hl, lk41 hl, lk42 hl, lr42_0 hl, lr42_1 hl, lr42_2 hl, lr42_3 hl, lk43 hl, ll43 hl, lk44 hl, ll44 hl, lk45 hl, ll45 hl, lk46 hl, ll46 hl, lk47 hl, lr47_1 hl, lk48 hl, ll48 hl]
  refine fun _ => ⟨fun c => ?_, fun c => absurd c (by omega)⟩
  have e1 : ∀ x, z_I (z_sI w 43 (z_I w 42 4) x) 42 4 = z_I w 42 4 := fun x => z_I_np (by decide)
  have e2 : ∀ x y, z_I (z_sI (z_sI w 43 (z_I w 42 4) x) 45 (z_I w 42 4) y) 42 4 = z_I w 42 4 := fun x y => (z_I_np (by decide)).trans (e1 x)
  have e3 : ∀ x y z, z_I (z_sI (z_sI (z_sI w 43 (z_I w 42 4) x) 45 (z_I w 42 4) y) 44 (z_I w 42 4) z) 42 4 = z_I w 42 4 := fun x y z => (z_I_np (by decide)).trans (e2 x y)
  have e4 : ∀ x y z v, z_I (z_sI (z_sI (z_sI (z_sI w 43 (z_I w 42 4) x) 45 (z_I w 42 4) y) 44 (z_I w 42 4) z) 46 (z_I w 42 4) v) 42 4 = z_I w 42 4 := fun x y z v => (z_I_np (by decide)).trans (e3 x y z)
  simp only [e1, e2, e3, e4]
  rw [z_add_eq (by omega) (by omega)]
  have e5 : ∀ w1 : z_W, z_I (z_sI w1 42 4 (z_I w 42 4 + 1)) 42 4 = z_I w 42 4 + 1 := fun w1 => z_I_at rfl
  simp only [e5]
  rw [z_sub_eq (by omega) (by omega), show z_I w 42 4 + 1 - 1 = z_I w 42 4 by omega]
  (repeat' (first | (with_reducible refine And.intro ?_ ?_) | (with_reducible intro _) | omega))
  refine k _ (z_fr_sF (z_fr_sI (z_fr_sI (z_fr_sI (z_fr_sI z_fr_rf (by decide)) (by decide)) (by decide)) (by decide)) (by decide)) (z_I_at rfl) (fun i => ?_) (fun i => ?_) (fun i => ?_) (fun i => ?_)
  · rw [z_I_np (by decide), z_I_np (by decide), z_I_np (by decide), z_I_np (by decide)]
    by_cases q : i = z_I w 42 4
    · rw [if_pos q, z_I_at q]
    · rw [if_neg q, z_I_ne q]
  · rw [z_I_np (by decide), z_I_np (by decide)]
    by_cases q : i = z_I w 42 4
    · rw [if_pos q, z_I_at q]
    · rw [if_neg q, z_I_ne q, z_I_np (by decide), z_I_np (by decide)]
  · rw [z_I_np (by decide), z_I_np (by decide), z_I_np (by decide)]
    by_cases q : i = z_I w 42 4
    · rw [if_pos q, z_I_at q]
    · rw [if_neg q, z_I_ne q, z_I_np (by decide)]
  · rw [z_I_np (by decide)]
    by_cases q : i = z_I w 42 4
    · rw [if_pos q, z_I_at q]
    · rw [if_neg q, z_I_ne q, z_I_np (by decide), z_I_np (by decide), z_I_np (by decide)]
set_option maxRecDepth 20000 in
theorem xs_longerBy {d u w} {Q : z_P} (hl : z_lay w) {A : en_A} {par : Int → Int} (hT : TR w A par) (hA : A.length ≤ 2255) (q b : Int) (q0 : 0 ≤ q) (q1 : q ≤ A.length) (b0 : 0 ≤ b) (b1 : b ≤ 23) (k : ∀ w' z par', z_fr z_SE z_FE w w' → TR w' (en_in A (b :: np A q)) par' → 1 ≤ z → z ≤ ((en_in A (b :: np A q)).length : Int) → np (en_in A (b :: np A q)) z = b :: np A q → (∀ i : Int, 0 ≤ i → i ≤ A.length → z_I w' 46 i = z_I w 46 i) → ((b :: np A q) ∉ A → z_I w' 46 (A.length + 1) = 0) → Q (some (z_i z)) w') : z_G (d + 1) u 52 0 [z_r 42, z_i q, z_i b, z_x, z_x] [] w Q := by
  obtain ⟨t1, t2, t3, t4⟩ := id hT
  have fb : ∀ v c : Int, c ≤ A.length + 1 → ch par q v c → v = -1 ∨ (1 ≤ v ∧ v ≤ A.length) := fun v c hc h => by
    rcases h with ⟨h, _⟩ | ⟨h, _⟩
    · exact Or.inl h
    · exact Or.inr (by omega)
  have p47 : (b :: np A q) ∉ A → ∀ f j : Int, z_G (d + 1) u 52 47 [z_r 42, z_i q, z_i b, z_i f, z_i j] [] w Q := by
    intro hm f j
    have len : ((A ++ [b :: np A q]).length : Int) = A.length + 1 := by
      rw [List.length_append]
      rfl
    simp only [g52_0, g52_0r, g52_1, g52_4, g52_5, g52_6, g52_7, g52_8, g52_12, g52_14, g52_17, g52_18, g52_19, g52_22, g52_22r, g52_23, g52_26, g52_27, g52_28, g52_29, g52_32, g52_33 (st := []), g52_34, g52_34r, g52_35, g52_38, g52_39, g52_40, g52_41, g52_44, g52_47, g52_47r, g52_48, g52_49, g52_49r, g52_50, g52_53, g52_54, g52_55, g52_58, g52_60, g52_60r, g52_61, g52_64, g52_65, g52_67, g52_68, g52_70 (st := []), z_kl_i, z_kl_l, z_kl_r, z_kl_n, z_kl_x, z_kl_vr, z_c8_0, z_c8_i, z_c8_l, z_c8_r, z_c8_vr, z_c8_n, z_vr_some, z_vr_none, Option.toList_some, Option.toList_none, List.cons_append, List.nil_append, true_and, and_true, and_self, z_k_sI, z_len_sI, z_R_sI, z_N_sI, z_set_0, z_set_1, z_set_s, eq_self, true_implies, false_implies, not_true_eq_false, not_false_eq_true, ne_eq, true_or, or_true, false_or, or_false, false_and, and_false, Int.reduceNeg, Int.reduceEq, Int.reduceNe, Int.reduceLT, Int.reduceLE, Nat.reduceLeDiff, Nat.reduceEqDiff, Nat.reduceSub, Nat.reduceAdd, reduceCtorEq, reduceIte, implies_true, List.reverse_nil, lk1 hl, ll1 hl, lk2 hl, lr2_0 hl, lr2_1 hl, lr2_2 hl, lr2_3 hl, lr2_6 hl, lr2_7 hl, lr2_8 hl, lr2_9 hl, lr2_10 hl, lr2_11 hl, lr2_13 hl, lr2_14 hl, lr2_15 hl, lr2_16 hl, lr2_17 hl, lr2_18 hl, lk3 hl, lr3_0 hl, lk4 hl, ll4 hl, lk5 hl, lr5_0 hl, lr5_2 hl, lr5_3 hl, lr5_4 hl, lk6 hl, ll6 hl, lk7 hl, ll7 hl, lk8 hl, lr8_0 hl, lk9 hl, ll9 hl, lk10 hl, ll10 hl, lk11 hl, ll11 hl, lk12 hl, lr12_0 hl, lk13 hl, ll13 hl, lk14 hl, lr14_2 hl, lr14_3 hl, lr14_4 hl, lr14_5 hl, lr14_6 hl, lr14_7 hl, lr14_9 hl, lr14_10 hl, lk15 hl, ll15 hl, lk16 hl, ll16 hl, lk17 hl, ll17 hl, lk18 hl, ll18 hl, lk19 hl, ll19 hl, lk20 hl, ll20 hl, lk21 hl, ll21 hl, lk22 hl, lr22_0 hl, lk23 hl, ll23 hl, lk24 hl, lr24_2 hl, lr24_3 hl, lr24_4 hl, lr24_5 hl, lr24_6 hl, lr24_7 hl, lr24_9 hl, lr24_10 hl, lk25 hl, ll25 hl, lk26 hl, ll26 hl, lk27 hl, ll27 hl, lk28 hl, ll28 hl, lk29 hl, ll29 hl, lk30 hl, ll30 hl, lk31 hl, ll31 hl, lk32 hl, lr32_1 hl, lk33 hl, ll33 hl, lk34 hl, lr34_0 hl, lk35 hl, ll35 hl, lk36 hl, lr36_0 hl, lk37 hl, ll37 hl, lk38 hl, lr38_0 hl, lk39 hl, ll39 hl, lk40 hl, ll40 hl, lk41 hl, lk42 hl, lr42_0 hl, lr42_1 hl, lr42_2 hl, lr42_3 hl, lk43 hl, ll43 hl, lk44 hl, ll44 hl, lk45 hl, ll45 hl, lk46 hl, ll46 hl, lk47 hl, lr47_1 hl, lk48 hl, ll48 hl]
    refine ⟨by omega, by omega, fun _ => ?_⟩
    refine xs_longer hl _ _ (by omega) (by omega) (fun w1 h1 g1 g3 g4 g5 g6 => ?_)
    have hl1 := z_fr_lay h1 hl
    simp only [g52_0, g52_0r, g52_1, g52_4, g52_5, g52_6, g52_7, g52_8, g52_12, g52_14, g52_17, g52_18, g52_19, g52_22, g52_22r, g52_23, g52_26, g52_27, g52_28, g52_29, g52_32, g52_33 (st := []), g52_34, g52_34r, g52_35, g52_38, g52_39, g52_40, g52_41, g52_44, g52_47, g52_47r, g52_48, g52_49, g52_49r, g52_50, g52_53, g52_54, g52_55, g52_58, g52_60, g52_60r, g52_61, g52_64, g52_65, g52_67, g52_68, g52_70 (st := []), z_kl_i, z_kl_l, z_kl_r, z_kl_n, z_kl_x, z_kl_vr, z_c8_0, z_c8_i, z_c8_l, z_c8_r, z_c8_vr, z_c8_n, z_vr_some, z_vr_none, Option.toList_some, Option.toList_none, List.cons_append, List.nil_append, true_and, and_true, and_self, z_k_sI, z_len_sI, z_R_sI, z_N_sI, z_set_0, z_set_1, z_set_s, eq_self, true_implies, false_implies, not_true_eq_false, not_false_eq_true, ne_eq, true_or, or_true, false_or, or_false, false_and, and_false, Int.reduceNeg, Int.reduceEq, Int.reduceNe, Int.reduceLT, Int.reduceLE, Nat.reduceLeDiff, Nat.reduceEqDiff, Nat.reduceSub, Nat.reduceAdd, reduceCtorEq, reduceIte, implies_true, List.reverse_nil, lk1 hl1, ll1 hl1, lk2 hl1, lr2_0 hl1, lr2_1 hl1, lr2_2 hl1, lr2_3 hl1, lr2_6 hl1, lr2_7 hl1, lr2_8 hl1, lr2_9 hl1, lr2_10 hl1, lr2_11 hl1, lr2_13 hl1, lr2_14 hl1, lr2_15 hl1, lr2_16 hl1, lr2_17 hl1, lr2_18 hl1, lk3 hl1, lr3_0 hl1, lk4 hl1, ll4 hl1, lk5 hl1, lr5_0 hl1, lr5_2 hl1, lr5_3 hl1, lr5_4 hl1, lk6 hl1, ll6 hl1, lk7 hl1, ll7 hl1, lk8 hl1, lr8_0 hl1, lk9 hl1, ll9 hl1, lk10 hl1, ll10 hl1, lk11 hl1, ll11 hl1, lk12 hl1, lr12_0 hl1, lk13 hl1, ll13 hl1, lk14 hl1, lr14_2 hl1, lr14_3 hl1, lr14_4 hl1, lr14_5 hl1, lr14_6 hl1, lr14_7 hl1, lr14_9 hl1, lr14_10 hl1, lk15 hl1, ll15 hl1, lk16 hl1, ll16 hl1, lk17 hl1, ll17 hl1, lk18 hl1, ll18 hl1, lk19 hl1, ll19 hl1, lk20 hl1, ll20 hl1, lk21 hl1, ll21 hl1, lk22 hl1, lr22_0 hl1, lk23 hl1, ll23 hl1, lk24 hl1, lr24_2 hl1, lr24_3 hl1, lr24_4 hl1, lr24_5 hl1, lr24_6 hl1, lr24_7 hl1, lr24_9 hl1, lr24_10 hl1, lk25 hl1, ll25 hl1, lk26 hl1, ll26 hl1, lk27 hl1, ll27 hl1, lk28 hl1, ll28 hl1, lk29 hl1, ll29 hl1, lk30 hl1, ll30 hl1, lk31 hl1, ll31 hl1, lk32 hl1, lr32_1 hl1, lk33 hl1, ll33 hl1, lk34 hl1, lr34_0 hl1, lk35 hl1, ll35 hl1, lk36 hl1, lr36_0 hl1, lk37 hl1, ll37 hl1, lk38 hl1, lr38_0 hl1, lk39 hl1, ll39 hl1, lk40 hl1, ll40 hl1, lk41 hl1, lk42 hl1, lr42_0 hl1, lr42_1 hl1, lr42_2 hl1, lr42_3 hl1, lk43 hl1, ll43 hl1, lk44 hl1, ll44 hl1, lk45 hl1, ll45 hl1, lk46 hl1, ll46 hl1, lk47 hl1, lr47_1 hl1, lk48 hl1, ll48 hl1]
    refine ⟨by omega, by omega, ?_⟩
    refine k _ _ (fun i => if i = A.length + 1 then q else par i) (z_fr_sI h1 (by decide)) (TR_new hT hm q0 q1 b0 b1 ((z_I_np (by decide)).trans g1) (fun i => (z_I_np (by decide)).trans (g3 i)) (fun i => ?_) (fun i => (z_I_np (by decide)).trans (g5 i))) (by omega) ?_ ?_ (fun i i0 i1 => ?_) (fun _ => ?_)
    · by_cases c : i = q
      · rw [if_pos c, z_I_at c]
      · rw [if_neg c, z_I_ne c]
        exact g4 i
    · rw [en_in_n hm, len, t1]
      omega
    · rw [en_in_n hm, t1]
      exact np_eq A _ rfl
    · rw [z_I_np (by decide), g6 i, if_neg (by omega)]
    · rw [z_I_np (by decide), g6, if_pos (by omega)]
  have loop : ∀ (n : Nat) (f j c : Int) (P : Int → Bool), 0 ≤ j → j + n = 24 → c ≤ A.length + 1 → ch par q f c → pu_ct P 24 0 = j → (∀ e, P e = true → ∃ i, c ≤ i ∧ 1 ≤ i ∧ i ≤ A.length ∧ par i = q ∧ z_I w 43 i = e) → (∀ i, c ≤ i → 1 ≤ i → i ≤ A.length → par i = q → z_I w 43 i ≠ b) → z_G (d + 1) u 52 10 [z_r 42, z_i q, z_i b, z_i f, z_i j] [] w Q := by
    intro n
    have none : ∀ c : Int, c ≤ A.length + 1 → ch par q (-1) c → (∀ i, c ≤ i → 1 ≤ i → i ≤ A.length → par i = q → z_I w 43 i ≠ b) → (b :: np A q) ∉ A := by
      intro c hc hch hno hm
      obtain ⟨i, i1, i2, i3⟩ := np_ex hm
      obtain ⟨g1, g2, g3, _⟩ := t3 i i1 i2
      rw [g3] at i3
      injection i3 with x1 x2
      have pq := t2 _ _ g1.1 (by omega) q0 q1 x2
      by_cases ci : c ≤ i
      · exact hno i ci i1 i2 pq x1
      · rcases hch with ⟨_, z⟩ | ⟨z, _⟩
        · exact z i i1 (by omega) pq
        · omega
    induction n with
    | zero =>
      intro f j c P j0 j1 hc hch hP hex hno
      have fin : (b :: np A q) ∉ A := by
        rcases hch with ⟨h1, h2⟩ | ⟨h1, h2, h3⟩
        · exact none c hc (Or.inl ⟨rfl, h2⟩) hno
        · obtain ⟨g1, g2, g3, _⟩ := t3 f h1.1 (by omega)
          have al := (pu_ct_all (P := P) 24 0).1 (by omega) (z_I w 43 f) g2.1 (by omega)
          obtain ⟨i, i0, i1, i2, i3, i4⟩ := hex _ al
          obtain ⟨_, _, r3, _⟩ := t3 i i1 i2
          have := t2 i f (by omega) i2 (by omega) (by omega) (by rw [r3, g3, i3, h2, i4])
          omega
      rw [g52_10]
      simp only [g52_0, g52_0r, g52_1, g52_4, g52_5, g52_6, g52_7, g52_8, g52_12, g52_14, g52_17, g52_18, g52_19, g52_22, g52_22r, g52_23, g52_26, g52_27, g52_28, g52_29, g52_32, g52_33 (st := []), g52_34, g52_34r, g52_35, g52_38, g52_39, g52_40, g52_41, g52_44, g52_48, g52_49, g52_49r, g52_50, g52_53, g52_54, g52_55, g52_58, g52_60, g52_60r, g52_61, g52_64, g52_65, g52_67, g52_68, g52_70 (st := []), z_kl_i, z_kl_l, z_kl_r, z_kl_n, z_kl_x, z_kl_vr, z_c8_0, z_c8_i, z_c8_l, z_c8_r, z_c8_vr, z_c8_n, z_vr_some, z_vr_none, Option.toList_some, Option.toList_none, List.cons_append, List.nil_append, true_and, and_true, and_self, z_k_sI, z_len_sI, z_R_sI, z_N_sI, z_set_0, z_set_1, z_set_s, eq_self, true_implies, false_implies, not_true_eq_false, not_false_eq_true, ne_eq, true_or, or_true, false_or, or_false, false_and, and_false, Int.reduceNeg, Int.reduceEq, Int.reduceNe, Int.reduceLT, Int.reduceLE, Nat.reduceLeDiff, Nat.reduceEqDiff, Nat.reduceSub, Nat.reduceAdd, reduceCtorEq, reduceIte, implies_true, List.reverse_nil, lk1 hl, ll1 hl, lk2 hl, lr2_0 hl, lr2_1 hl, lr2_2 hl, lr2_3 hl, lr2_6 hl, lr2_7 hl, lr2_8 hl, lr2_9 hl, lr2_10 hl, lr2_11 hl, lr2_13 hl, lr2_14 hl, lr2_15 hl, lr2_16 hl, lr2_17 hl, lr2_18 hl, lk3 hl, lr3_0 hl, lk4 hl, ll4 hl, lk5 hl, lr5_0 hl, lr5_2 hl, lr5_3 hl, lr5_4 hl, lk6 hl, ll6 hl, lk7 hl, ll7 hl, lk8 hl, lr8_0 hl, lk9 hl, ll9 hl, lk10 hl, ll10 hl, lk11 hl, ll11 hl, lk12 hl, lr12_0 hl, lk13 hl, ll13 hl, lk14 hl, lr14_2 hl, lr14_3 hl, lr14_4 hl, lr14_5 hl, lr14_6 hl, lr14_7 hl, lr14_9 hl, lr14_10 hl, lk15 hl, ll15 hl, lk16 hl, ll16 hl, lk17 hl, ll17 hl, lk18 hl, ll18 hl, lk19 hl, ll19 hl, lk20 hl, ll20 hl, lk21 hl, ll21 hl, lk22 hl, lr22_0 hl, lk23 hl, ll23 hl, lk24 hl, lr24_2 hl, lr24_3 hl, lr24_4 hl, lr24_5 hl, lr24_6 hl, lr24_7 hl, lr24_9 hl, lr24_10 hl, lk25 hl, ll25 hl, lk26 hl, ll26 hl, lk27 hl, ll27 hl, lk28 hl, ll28 hl, lk29 hl, ll29 hl, lk30 hl, ll30 hl, lk31 hl, ll31 hl, lk32 hl, lr32_1 hl, lk33 hl, ll33 hl, lk34 hl, lr34_0 hl, lk35 hl, ll35 hl, lk36 hl, lr36_0 hl, lk37 hl, ll37 hl, lk38 hl, lr38_0 hl, lk39 hl, ll39 hl, lk40 hl, ll40 hl, lk41 hl, lk42 hl, lr42_0 hl, lr42_1 hl, lr42_2 hl, lr42_3 hl, lk43 hl, ll43 hl, lk44 hl, ll44 hl, lk45 hl, ll45 hl, lk46 hl, ll46 hl, lk47 hl, lr47_1 hl, lk48 hl, ll48 hl]
      exact ⟨fun _ => p47 fin _ _, fun c => absurd c (by omega)⟩
    | succ n ih =>
      intro f j c P j0 j1 hc hch hP hex hno
      have bf := fb f c hc hch
      rw [g52_10]
      simp only [g52_0, g52_0r, g52_1, g52_4, g52_5, g52_6, g52_7, g52_8, g52_12, g52_14, g52_17, g52_18, g52_19, g52_22, g52_22r, g52_23, g52_26, g52_27, g52_28, g52_29, g52_32, g52_33 (st := []), g52_34, g52_34r, g52_35, g52_38, g52_39, g52_40, g52_41, g52_44, g52_48, g52_49, g52_49r, g52_50, g52_53, g52_54, g52_55, g52_58, g52_60, g52_60r, g52_61, g52_64, g52_65, g52_67, g52_68, g52_70 (st := []), z_kl_i, z_kl_l, z_kl_r, z_kl_n, z_kl_x, z_kl_vr, z_c8_0, z_c8_i, z_c8_l, z_c8_r, z_c8_vr, z_c8_n, z_vr_some, z_vr_none, Option.toList_some, Option.toList_none, List.cons_append, List.nil_append, true_and, and_true, and_self, z_k_sI, z_len_sI, z_R_sI, z_N_sI, z_set_0, z_set_1, z_set_s, eq_self, true_implies, false_implies, not_true_eq_false, not_false_eq_true, ne_eq, true_or, or_true, false_or, or_false, false_and, and_false, Int.reduceNeg, Int.reduceEq, Int.reduceNe, Int.reduceLT, Int.reduceLE, Nat.reduceLeDiff, Nat.reduceEqDiff, Nat.reduceSub, Nat.reduceAdd, reduceCtorEq, reduceIte, implies_true, List.reverse_nil, lk1 hl, ll1 hl, lk2 hl, lr2_0 hl, lr2_1 hl, lr2_2 hl, lr2_3 hl, lr2_6 hl, lr2_7 hl, lr2_8 hl, lr2_9 hl, lr2_10 hl, lr2_11 hl, lr2_13 hl, lr2_14 hl, lr2_15 hl, lr2_16 hl, lr2_17 hl, lr2_18 hl, lk3 hl, lr3_0 hl, lk4 hl, ll4 hl, lk5 hl, lr5_0 hl, lr5_2 hl, lr5_3 hl, lr5_4 hl, lk6 hl, ll6 hl, lk7 hl, ll7 hl, lk8 hl, lr8_0 hl, lk9 hl, ll9 hl, lk10 hl, ll10 hl, lk11 hl, ll11 hl, lk12 hl, lr12_0 hl, lk13 hl, ll13 hl, lk14 hl, lr14_2 hl, lr14_3 hl, lr14_4 hl, lr14_5 hl, lr14_6 hl, lr14_7 hl, lr14_9 hl, lr14_10 hl, lk15 hl, ll15 hl, lk16 hl, ll16 hl, lk17 hl, ll17 hl, lk18 hl, ll18 hl, lk19 hl, ll19 hl, lk20 hl, ll20 hl, lk21 hl, ll21 hl, lk22 hl, lr22_0 hl, lk23 hl, ll23 hl, lk24 hl, lr24_2 hl, lr24_3 hl, lr24_4 hl, lr24_5 hl, lr24_6 hl, lr24_7 hl, lr24_9 hl, lr24_10 hl, lk25 hl, ll25 hl, lk26 hl, ll26 hl, lk27 hl, ll27 hl, lk28 hl, ll28 hl, lk29 hl, ll29 hl, lk30 hl, ll30 hl, lk31 hl, ll31 hl, lk32 hl, lr32_1 hl, lk33 hl, ll33 hl, lk34 hl, lr34_0 hl, lk35 hl, ll35 hl, lk36 hl, lr36_0 hl, lk37 hl, ll37 hl, lk38 hl, lr38_0 hl, lk39 hl, ll39 hl, lk40 hl, ll40 hl, lk41 hl, lk42 hl, lr42_0 hl, lr42_1 hl, lr42_2 hl, lr42_3 hl, lk43 hl, ll43 hl, lk44 hl, ll44 hl, lk45 hl, ll45 hl, lk46 hl, ll46 hl, lk47 hl, lr47_1 hl, lk48 hl, ll48 hl]
      refine ⟨fun c => absurd c (by omega), fun _ => ⟨fun cf => p47 (none c hc (by rw [cf] at hch; exact hch) hno) _ _, fun cf => ?_⟩⟩
      rcases hch with ⟨h1, h2⟩ | ⟨h1, h2, h3⟩
      · exact absurd h1 cf
      · obtain ⟨g1, g2, g3, g4⟩ := t3 f h1.1 (by omega)
        rw [h2] at g3 g4
        refine ⟨by omega, by omega, fun _ => ⟨fun ce => ⟨by omega, by omega, fun _ => ?_⟩, fun ce => ?_⟩⟩
        · rw [z_add_eq (by omega) (by omega)]
          have old : P (z_I w 43 f) = false := Bool.eq_false_iff.2 (fun al => by
            obtain ⟨i, i0, i1, i2, i3, i4⟩ := hex _ al
            obtain ⟨_, _, r3, _⟩ := t3 i i1 i2
            have := t2 i f (by omega) i2 (by omega) (by omega) (by rw [r3, g3, i3, i4])
            omega)
          refine ih _ _ f (fun e => P e || decide (e = z_I w 43 f)) (by omega) (by omega) (by omega) g4 ?_ (fun e he => ?_) (fun i i0 i1 i2 i3 => ?_)
          · have up := pu_ct_up (P := P) (R := fun e => P e || decide (e = z_I w 43 f)) (i := z_I w 43 f) old (by simp) 24 0 g2.1 (by omega) (fun e _ _ ne => by simp [ne])
            omega
          · rw [Bool.or_eq_true, decide_eq_true_eq] at he
            rcases he with he | he
            · obtain ⟨i, i0, i1, i2, i3, i4⟩ := hex e he
              exact ⟨i, by omega, i1, i2, i3, i4⟩
            · exact ⟨f, Int.le_refl _, h1.1, by omega, h2, he.symm⟩
          · by_cases cc : c ≤ i
            · exact hno i cc i1 i2 i3
            · by_cases ci : i = f
              · rw [ci]; exact ce
              · exact absurd i3 (h3 i (by omega) (by omega))
        · have eb : z_I w 43 f = b := by omega
          rw [eb] at g3
          have hm : (b :: np A q) ∈ A := by
            rw [← g3]
            exact np_in A h1.1 (by omega)
          have kk := k w f par z_fr_rf
          rw [en_in_y hm] at kk
          exact kk hT h1.1 (by omega) g3 (fun _ _ _ => rfl) (fun z => absurd hm z)
  have c44 := t4 q q0 q1
  have b44 := fb _ _ (Int.le_refl _) c44
  simp only [g52_0, g52_0r, g52_1, g52_4, g52_5, g52_6, g52_7, g52_8, g52_12, g52_14, g52_17, g52_18, g52_19, g52_22, g52_22r, g52_23, g52_26, g52_27, g52_28, g52_29, g52_32, g52_33 (st := []), g52_34, g52_34r, g52_35, g52_38, g52_39, g52_40, g52_41, g52_44, g52_47, g52_47r, g52_48, g52_49, g52_49r, g52_50, g52_53, g52_54, g52_55, g52_58, g52_60, g52_60r, g52_61, g52_64, g52_65, g52_67, g52_68, g52_70 (st := []), z_kl_i, z_kl_l, z_kl_r, z_kl_n, z_kl_x, z_kl_vr, z_c8_0, z_c8_i, z_c8_l, z_c8_r, z_c8_vr, z_c8_n, z_vr_some, z_vr_none, Option.toList_some, Option.toList_none, List.cons_append, List.nil_append, true_and, and_true, and_self, z_k_sI, z_len_sI, z_R_sI, z_N_sI, z_set_0, z_set_1, z_set_s, eq_self, true_implies, false_implies, not_true_eq_false, not_false_eq_true, ne_eq, true_or, or_true, false_or, or_false, false_and, and_false, Int.reduceNeg, Int.reduceEq, Int.reduceNe, Int.reduceLT, Int.reduceLE, Nat.reduceLeDiff, Nat.reduceEqDiff, Nat.reduceSub, Nat.reduceAdd, reduceCtorEq, reduceIte, implies_true, List.reverse_nil, lk1 hl, ll1 hl, lk2 hl, lr2_0 hl, lr2_1 hl, lr2_2 hl, lr2_3 hl, lr2_6 hl, lr2_7 hl, lr2_8 hl, lr2_9 hl, lr2_10 hl, lr2_11 hl, lr2_13 hl, lr2_14 hl, lr2_15 hl, lr2_16 hl, lr2_17 hl, lr2_18 hl, lk3 hl, lr3_0 hl, lk4 hl, ll4 hl, lk5 hl, lr5_0 hl, lr5_2 hl, lr5_3 hl, lr5_4 hl, lk6 hl, ll6 hl, lk7 hl, ll7 hl, lk8 hl, lr8_0 hl, lk9 hl, ll9 hl, lk10 hl, ll10 hl, lk11 hl, ll11 hl, lk12 hl, lr12_0 hl, lk13 hl, ll13 hl, lk14 hl, lr14_2 hl, lr14_3 hl, lr14_4 hl, lr14_5 hl, lr14_6 hl, lr14_7 hl, lr14_9 hl, lr14_10 hl, lk15 hl, ll15 hl, lk16 hl, ll16 hl, lk17 hl, ll17 hl, lk18 hl, ll18 hl, lk19 hl, ll19 hl, lk20 hl, ll20 hl, lk21 hl, ll21 hl, lk22 hl, lr22_0 hl, lk23 hl, ll23 hl, lk24 hl, lr24_2 hl, lr24_3 hl, lr24_4 hl, lr24_5 hl, lr24_6 hl, lr24_7 hl, lr24_9 hl, lr24_10 hl, lk25 hl, ll25 hl, lk26 hl, ll26 hl, lk27 hl, ll27 hl, lk28 hl, ll28 hl, lk29 hl, ll29 hl, lk30 hl, ll30 hl, lk31 hl, ll31 hl, lk32 hl, lr32_1 hl, lk33 hl, ll33 hl, lk34 hl, lr34_0 hl, lk35 hl, ll35 hl, lk36 hl, lr36_0 hl, lk37 hl, ll37 hl, lk38 hl, lr38_0 hl, lk39 hl, ll39 hl, lk40 hl, ll40 hl, lk41 hl, lk42 hl, lr42_0 hl, lr42_1 hl, lr42_2 hl, lr42_3 hl, lk43 hl, ll43 hl, lk44 hl, ll44 hl, lk45 hl, ll45 hl, lk46 hl, ll46 hl, lk47 hl, lr47_1 hl, lk48 hl, ll48 hl]
  refine ⟨by omega, by omega, fun _ => ?_⟩
  exact loop 24 _ 0 _ (fun _ => false) (by omega) (by omega) (Int.le_refl _) c44 (pu_ct_0 24 0 (fun _ _ => rfl)) (fun e he => absurd he (by decide)) (fun i i0 i1 i2 _ => by omega)
/-- what is marked: in B the one, in D the other -/
def SN (w : z_W) (A B D : en_A) : Prop := ∀ i : Int, 1 ≤ i → i ≤ A.length → z_I w 46 i = (if np A i ∈ B then 1 else 0) + (if np A i ∈ D then 2 else 0)
/-- marked now, by 1 or by 2 -/
def mk_B (m : Int) (B : en_A) (l : List Int) : en_A := if m = 1 then en_in B l else B
def mk_D (m : Int) (D : en_A) (l : List Int) : en_A := if m = 1 then D else en_in D l
theorem SN_mk {w w' w2 : z_W} {A B D : en_A} {l : List Int} {m z : Int} (hm : m = 1 ∨ m = 2) (h : SN w A B D) (J : en_J (en_in A l)) (hB : ∀ x, x ∈ B → x ∈ A) (hD : ∀ x, x ∈ D → x ∈ A) (g1 : ∀ i : Int, 0 ≤ i → i ≤ A.length → z_I w' 46 i = z_I w 46 i) (g2 : l ∉ A → z_I w' 46 (A.length + 1) = 0) (z1 : 1 ≤ z) (z2 : z ≤ ((en_in A l).length : Int)) (hz : np (en_in A l) z = l) (e : ∀ i, z_I w2 46 i = if i = z then z_or (z_I w' 46 z) m else z_I w' 46 i) : SN w2 (en_in A l) (mk_B m B l) (mk_D m D l) := by
  have h1 : SN w' (en_in A l) B D := by
    intro i i1 i2
    have ln := en_in_len A l
    by_cases c : i ≤ A.length
    · rw [np_old A l (by omega) c, g1 i (by omega) c]
      exact h i i1 c
    · have hn : l ∉ A := fun q => by rw [en_in_y q] at i2; exact c i2
      have ei : i = A.length + 1 := by omega
      rw [ei, g2 hn, en_in_n hn, np_eq A l rfl, if_neg (fun q => hn (hB l q)), if_neg (fun q => hn (hD l q))]
      rfl
  intro i i1 i2
  have q1 := h1 i i1 i2
  rw [e i]
  by_cases c : i = z
  · rw [if_pos c, c]
    rw [c, hz] at q1
    rw [hz, q1]
    have mB : l ∈ en_in B l := (en_in_mem B l l).2 (Or.inr rfl)
    have mD : l ∈ en_in D l := (en_in_mem D l l).2 (Or.inr rfl)
    rcases hm with rfl | rfl
    · unfold mk_B mk_D
      rw [if_pos rfl, if_pos rfl, if_pos mB]
      by_cases c1 : l ∈ B <;> by_cases c2 : l ∈ D <;> simp only [c1, c2, if_true, if_false] <;> decide
    · unfold mk_B mk_D
      rw [if_neg (show ¬ (2 : Int) = 1 by decide), if_neg (show ¬ (2 : Int) = 1 by decide), if_pos mD]
      by_cases c1 : l ∈ B <;> by_cases c2 : l ∈ D <;> simp only [c1, c2, if_true, if_false] <;> decide
  · rw [if_neg c, q1]
    have nl : np (en_in A l) i ≠ l := fun q => c (J i z (by omega) i2 (by omega) z2 (q.trans hz.symm))
    have eB : (np (en_in A l) i ∈ mk_B m B l) ↔ np (en_in A l) i ∈ B := by
      unfold mk_B
      split
      · rw [en_in_mem]
        exact ⟨fun q => q.elim id (fun x => absurd x nl), Or.inl⟩
      · exact Iff.rfl
    have eD : (np (en_in A l) i ∈ mk_D m D l) ↔ np (en_in A l) i ∈ D := by
      unfold mk_D
      split
      · exact Iff.rfl
      · rw [en_in_mem]
        exact ⟨fun q => q.elim id (fun x => absurd x nl), Or.inl⟩
    simp only [eB, eD]
