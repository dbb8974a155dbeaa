/-! pure: what is asked of slabs -/
/-- the i-th cut -/
def cu (V : pu_V) (i : Int) : Int := pu_fst (fun x => en_P V x && decide (pu_N (en_P V) x = i)) 64 0
theorem cu_sp {V : pu_V} {i : Int} (i0 : 0 ≤ i) (i1 : i < pu_N (en_P V) 64) : 0 ≤ cu V i ∧ cu V i ≤ 63 ∧ en_P V (cu V i) = true ∧ pu_N (en_P V) (cu V i) = i := by
  obtain ⟨x, x0, x1, x2, x3⟩ := pu_N_ex (P := en_P V) 64 i0 (by rw [show ((64 : Nat) : Int) = 64 from rfl]; exact i1)
  have h := pu_fst_ye (Int.le_refl 0) (pu_fst_ex (P := fun x => en_P V x && decide (pu_N (en_P V) x = i)) (n := 64) (s := 0) (i := x) (Int.le_refl 0) x0 (by omega) (by
    show (en_P V x && decide (pu_N (en_P V) x = i)) = true
    rw [x2, decide_eq_true x3]
    rfl))
  obtain ⟨h1, h2, h3⟩ := h
  replace h3 : (en_P V (cu V i) && decide (pu_N (en_P V) (cu V i) = i)) = true := h3
  rw [Bool.and_eq_true, decide_eq_true_eq] at h3
  replace h1 : 0 ≤ cu V i := h1
  replace h2 : cu V i < 0 + ((64 : Nat) : Int) := h2
  exact ⟨h1, by omega, h3.1, h3.2⟩
/-- a cut is no further right than x, if so many ends are -/
theorem cu_le {V : pu_V} {i x : Int} (i0 : 0 ≤ i) (i1 : i < pu_N (en_P V) 64) (x0 : 0 ≤ x) : cu V i ≤ x ↔ i < pu_N (en_P V) (x + 1) := by
  obtain ⟨h1, h2, h3, h4⟩ := cu_sp i0 i1
  have s := pu_N_s (P := en_P V) h1
  rw [if_pos h3, h4] at s
  refine ⟨fun h => ?_, fun h => ?_⟩
  · have := pu_N_le (P := en_P V) (x := cu V i + 1) (y := x + 1) (by omega) (by omega)
    omega
  · by_cases c : cu V i ≤ x
    · exact c
    · have := pu_N_le (P := en_P V) (x := x + 1) (y := cu V i) (by omega) (by omega)
      omega
theorem cu_lt {V : pu_V} {i j : Int} (i0 : 0 ≤ i) (h : i < j) (j1 : j < pu_N (en_P V) 64) : cu V i < cu V j := by
  obtain ⟨a1, a2, a3, a4⟩ := cu_sp i0 (by omega : i < pu_N (en_P V) 64)
  obtain ⟨b1, b2, b3, b4⟩ := cu_sp (by omega : 0 ≤ j) j1
  by_cases c : cu V i < cu V j
  · exact c
  · have := pu_N_le (P := en_P V) (x := cu V j) (y := cu V i) b1 (by omega)
    omega
theorem cu_eq {A B : pu_V} (h : pu_eq A B) (i : Int) : cu A i = cu B i := pu_fst_cg 64 0 (fun x x0 _ => by
  unfold pu_N
  rw [en_P_eq h x, pu_ct_cg (P := en_P A) (R := en_P B) _ _ (fun y _ _ => en_P_eq h y)])
def sl_l (V : pu_V) (s : Int) : Int := (sl_L V (cu V s) (cu V (s + 1))).1
def sl_i (V : pu_V) (s j : Int) : Int := (sl_L V (cu V s) (cu V (s + 1))).2 j
theorem sl_l_eq {A B : pu_V} (h : pu_eq A B) (s : Int) : sl_l A s = sl_l B s := by
  unfold sl_l
  rw [cu_eq h, cu_eq h, sl_L_eq h]
theorem sl_i_eq {A B : pu_V} (h : pu_eq A B) (s j : Int) : sl_i A s j = sl_i B s j := by
  unfold sl_i
  rw [cu_eq h, cu_eq h, sl_L_eq h]
theorem sl_n_N {V : pu_V} {i : Int} (i0 : 0 ≤ i) (h : i < sl_n V) : i + 1 < pu_N (en_P V) 64 := by
  have := (sl_n_bd V).2
  omega
/-- the rows hold what V says -/
theorem sl_ok_c {V : pu_V} {n : Int} {c len lst : Int → Int} (h : sl_ok V n c len lst) {i : Int} (i0 : 0 ≤ i) (i1 : i < pu_N (en_P V) 64) : c i = cu V i := by
  obtain ⟨h1, h2, h3, h4⟩ := cu_sp i0 i1
  have := h.2.1 _ h1 h2 h3
  rw [h4] at this
  exact this
theorem sl_ok_l {V : pu_V} {n : Int} {c len lst : Int → Int} (h : sl_ok V n c len lst) {s : Int} (s0 : 0 ≤ s) (s1 : s < n) : len s = sl_l V s ∧ ∀ j, 0 ≤ j → j < sl_l V s → lst (24 * s + j) = sl_i V s j := by
  have hn := sl_n_N s0 (by rw [← h.1]; exact s1)
  obtain ⟨h1, h2⟩ := h.2.2 s s0 s1
  rw [sl_ok_c h s0 (by omega), sl_ok_c h (by omega : 0 ≤ s + 1) (by omega)] at h1 h2
  refine ⟨h1, fun j j0 j1 => h2 j j0 ?_⟩
  rw [h1]
  exact j1
theorem sl_i_bd (V : pu_V) (s : Int) : 0 ≤ sl_l V s ∧ ∀ j, 0 ≤ j → j < sl_l V s → 0 ≤ sl_i V s j ∧ sl_i V s j ≤ 23 := sl_m_L V (cu V s) (cu V (s + 1))
theorem sl_k_st {V : pu_V} {x X e : Int} {st : sl_T} (h0 : 0 ≤ st.1) (h : sl_k V st) : sl_k V (sl_st V x X st e) := by
  unfold sl_st
  split
  · rename_i c
    exact sl_k_ins h0 h c.1
  · exact h
theorem sl_k_go {V : pu_V} {x X : Int} : ∀ (n : Nat) (e : Int) (st : sl_T), 0 ≤ e → e + n ≤ 24 → sl_m st → sl_k V st → sl_k V (sl_go V x X n e st) := by
  intro n
  induction n with
  | zero => intro e st _ _ _ h; exact h
  | succ n ih => intro e st e0 e1 hm h; exact ih (e + 1) _ (by omega) (by omega) (sl_m_st hm e0 (by omega)) (sl_k_st hm.1 h)
/-- members are edges -/
theorem sl_i_k (V : pu_V) (s j : Int) (j0 : 0 ≤ j) (j1 : j < sl_l V s) : V (sl_i V s j) 4 ≠ -1 :=
  sl_k_go (V := V) 24 0 _ (by omega) (by omega) ⟨Int.le_refl _, fun j j0 j1 => by replace j1 : j < 0 := j1; omega⟩ (fun j j0 j1 => by replace j1 : j < 0 := j1; omega) j j0 j1
theorem sl_len_go {V : pu_V} {x X : Int} : ∀ (n : Nat) (e : Int) (st : sl_T), (sl_go V x X n e st).1 ≤ st.1 + n := by
  intro n
  induction n with
  | zero => intro e st; show st.1 ≤ st.1 + ((0 : Nat) : Int); omega
  | succ n ih =>
    intro e st
    have := ih (e + 1) (sl_st V x X st e)
    have q : (sl_st V x X st e).1 ≤ st.1 + 1 := by
      unfold sl_st
      split
      · show st.1 + 1 ≤ st.1 + 1; omega
      · omega
    rw [sl_go]
    omega
theorem sl_l_24 (V : pu_V) (s : Int) : sl_l V s ≤ 24 := by
  have := sl_len_go (V := V) (x := cu V s) (X := cu V (s + 1)) 24 0 (0, fun _ => 0)
  show (sl_go V (cu V s) (cu V (s + 1)) 24 0 (0, fun _ => 0)).1 ≤ 24
  replace this : (sl_go V (cu V s) (cu V (s + 1)) 24 0 (0, fun _ => 0)).1 ≤ 0 + ((24 : Nat) : Int) := this
  omega
/-- no edge, no slab -/
theorem sl_n_0 {V : pu_V} (h : ∀ e k, V e k = -1) : sl_n V = 0 := by
  rw [sl_n_eq (B := mp_e) (fun e k _ _ _ _ => h e k)]
  have e : pu_N (en_P mp_e) 64 = 0 := pu_ct_0 64 0 (fun x _ => by
    cases q : en_P mp_e x with
    | false => rfl
    | true =>
      obtain ⟨f, _, _, c, _⟩ := en_P_iff.1 q
      exact absurd rfl c)
  unfold sl_n
  rw [e]
  decide
/-- the answers -/
def q_slab (V : pu_V) (s a : Int) : Int := if 0 ≤ s ∧ s < sl_n V then (if a = 0 then cu V s else if a = 1 then cu V (s + 1) else if a = 2 then sl_l V s else -1) else -1
def q_list (V : pu_V) (s k : Int) : Int := if (0 ≤ s ∧ s < sl_n V) ∧ 0 ≤ k ∧ k < sl_l V s then sl_i V s k else -1
theorem q_slab_eq {A B : pu_V} (h : pu_eq A B) (s a : Int) : q_slab A s a = q_slab B s a := by
  unfold q_slab
  rw [sl_n_eq h, cu_eq h, cu_eq h, sl_l_eq h]
theorem q_list_eq {A B : pu_V} (h : pu_eq A B) (s k : Int) : q_list A s k = q_list B s k := by
  unfold q_list
  rw [sl_n_eq h, sl_l_eq h, sl_i_eq h]
/-- the slab of x: as many as ends are no further right, less one -/
def sl_a (V : pu_V) (x : Int) : Int := if 1 ≤ pu_N (en_P V) (x + 1) ∧ pu_N (en_P V) (x + 1) ≤ sl_n V then pu_N (en_P V) (x + 1) - 1 else -1
theorem sl_a_eq {A B : pu_V} (h : pu_eq A B) (x : Int) : sl_a A x = sl_a B x := by
  unfold sl_a pu_N
  rw [sl_n_eq h, pu_ct_cg (P := en_P A) (R := en_P B) _ _ (fun y _ _ => en_P_eq h y)]
theorem sl_a_bd (V : pu_V) (x : Int) : -1 ≤ sl_a V x ∧ (sl_a V x = -1 ∨ (0 ≤ sl_a V x ∧ sl_a V x < sl_n V)) := by
  unfold sl_a
  split <;> omega
/-- how many lie ahead of the first that does not -/
def sl_pre (b : Int → Bool) : Nat → Int → Int
  | 0, s => s
  | n + 1, s => if b s = true then sl_pre b n (s + 1) else s
theorem sl_pre_cg {b c : Int → Bool} : ∀ (n : Nat) (s : Int), (∀ j, s ≤ j → j < s + n → b j = c j) → sl_pre b n s = sl_pre c n s := by
  intro n
  induction n with
  | zero => intro s _; rfl
  | succ n ih =>
    intro s h
    rw [sl_pre, sl_pre, h s (Int.le_refl _) (by omega), ih (s + 1) (fun j a b => h j (by omega) (by omega))]
theorem sl_pre_bd {b : Int → Bool} : ∀ (n : Nat) (s : Int), s ≤ sl_pre b n s ∧ sl_pre b n s ≤ s + n := by
  intro n
  induction n with
  | zero => intro s; rw [sl_pre]; omega
  | succ n ih =>
    intro s
    have := ih (s + 1)
    rw [sl_pre]
    split <;> omega
/-- an edge is no higher than a point at its x -/
def sl_nh (V : pu_V) (x y e : Int) : Bool := decide (sl_h V e (2 * x) ≤ 2 * y * sl_w V e)
def sl_b (V : pu_V) (x y : Int) : Int := if sl_a V x = -1 then 0 else sl_pre (fun j => sl_nh V x y (sl_i V (sl_a V x) j)) (sl_l V (sl_a V x)).toNat 0
theorem sl_b_eq {A B : pu_V} (h : pu_eq A B) (x y : Int) : sl_b A x y = sl_b B x y := by
  unfold sl_b
  rw [sl_a_eq h, sl_l_eq h]
  split
  · rfl
  · refine sl_pre_cg _ 0 (fun j j0 j1 => ?_)
    have bd := sl_i_bd B (sl_a B x)
    have hj := bd.2 j j0 (by omega)
    have q := sl_h_eq h hj.1 hj.2 (2 * x)
    unfold sl_nh
    rw [sl_i_eq h, q.1, q.2]
/-- the edge on top of which a point is -/
def sl_t (V : pu_V) (x y : Int) : Int := if sl_b V x y = 0 then -1 else sl_i V (sl_a V x) (sl_b V x y - 1)
def sl_r (V : pu_V) (x y : Int) : Int := if sl_t V x y = -1 then 0 else V (sl_t V x y) 4
def q_at (V : pu_V) (x y a : Int) : Int := if pu_pt x y then (if a = 0 then sl_t V x y else if a = 1 then sl_r V x y else if a = 2 then sl_a V x else if a = 3 then sl_b V x y else -1) else -1
def q_above (V : pu_V) (x y i : Int) : Int := if pu_pt x y ∧ 0 ≤ i ∧ sl_a V x ≠ -1 ∧ sl_b V x y + i < sl_l V (sl_a V x) then sl_i V (sl_a V x) (sl_b V x y + i) else -1
