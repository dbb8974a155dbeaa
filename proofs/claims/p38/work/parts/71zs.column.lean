/-! pure: points counted -/
def cn (P : Int → Bool) (F T : Int) : Int := pu_ct P (T - F).toNat F
theorem cn_0 (P : Int → Bool) {F T : Int} (h : T ≤ F) : cn P F T = 0 := by
  unfold cn
  rw [show (T - F).toNat = 0 by omega]
  rfl
theorem cn_sp (P : Int → Bool) {F M T : Int} (h1 : F ≤ M) (h2 : M ≤ T) : cn P F T = cn P F M + cn P M T := by
  unfold cn
  rw [show (T - F).toNat = (M - F).toNat + (T - M).toNat by omega, pu_ct_app, show F + ((M - F).toNat : Int) = M by omega]
theorem cn_s (P : Int → Bool) {F T : Int} (h : F < T) : cn P F T = (if P F = true then 1 else 0) + cn P (F + 1) T := by
  unfold cn
  rw [show (T - F).toNat = (T - (F + 1)).toNat + 1 by omega, pu_ct]
theorem cn_all (P : Int → Bool) {F T : Int} (h : F ≤ T) (hp : ∀ y, F ≤ y → y < T → P y = true) : cn P F T = T - F := by
  unfold cn
  have := (pu_ct_all (P := P) (T - F).toNat F).2 (fun i a b => hp i a (by omega))
  omega
theorem cn_cg {P R : Int → Bool} {F T : Int} (hp : ∀ y, F ≤ y → y < T → P y = R y) : cn P F T = cn R F T :=
  pu_ct_cg _ _ (fun i a b => hp i a (by omega))
theorem cn_no (P : Int → Bool) {F T : Int} (hp : ∀ y, F ≤ y → y < T → P y = false) : cn P F T = 0 := by
  rw [cn_cg (R := fun _ => false) hp]
  exact pu_ct_0 _ _ (fun _ _ => rfl)
theorem cn_bd (P : Int → Bool) {F T : Int} (h : F ≤ T) : 0 ≤ cn P F T ∧ cn P F T ≤ T - F := by
  have := pu_ct_bd (P := P) (T - F).toNat F
  unfold cn
  omega
def su (f : Int → Int) : Nat → Int → Int
  | 0, _ => 0
  | n + 1, s => f s + su f n (s + 1)
theorem su_bd {f : Int → Int} {B : Int} : ∀ (n : Nat) (s : Int), (∀ x, s ≤ x → x < s + n → 0 ≤ f x ∧ f x ≤ B) → 0 ≤ su f n s ∧ su f n s ≤ B * n := by
  intro n
  induction n with
  | zero =>
    intro s _
    rw [su, show B * ((0 : Nat) : Int) = 0 from Int.mul_zero B]
    omega
  | succ n ih =>
    intro s h
    have h1 := h s (Int.le_refl _) (by omega)
    have h2 := ih (s + 1) (fun x a b => h x (by omega) (by omega))
    rw [su, show ((n + 1 : Nat) : Int) = (n : Int) + 1 by omega, Int.mul_add, Int.mul_one]
    omega
theorem su_cg {f g : Int → Int} : ∀ (n : Nat) (s : Int), (∀ x, s ≤ x → x < s + n → f x = g x) → su f n s = su g n s := by
  intro n
  induction n with
  | zero => intro s _; rfl
  | succ n ih =>
    intro s h
    rw [su, su, h s (Int.le_refl _) (by omega), ih (s + 1) (fun x a b => h x (by omega) (by omega))]
/-! pure: a column in parts -/
def co_n (V : pu_V) (x : Int) : Int := if sl_a V x = -1 then 0 else sl_l V (sl_a V x)
def co_f (V : pu_V) (x p : Int) : Int := if p ≤ 0 then 0 else if p ≤ co_n V x then fa_y V (sl_i V (sl_a V x) (p - 1)) x else 64
theorem co_n_bd (V : pu_V) (x : Int) : 0 ≤ co_n V x ∧ co_n V x ≤ 24 := by
  unfold co_n
  split
  · omega
  · have := (sl_i_bd V (sl_a V x)).1
    have := sl_l_24 V (sl_a V x)
    omega
theorem co_m {V : pu_V} (hv : pu_ok V) {x : Int} (x0 : 0 ≤ x) {k : Int} (k0 : 0 ≤ k) (k1 : k < co_n V x) : sl_a V x ≠ -1 ∧ (0 ≤ sl_a V x ∧ sl_a V x < sl_n V) ∧ k < sl_l V (sl_a V x) ∧ pu_has V (sl_i V (sl_a V x) k) ∧ V (sl_i V (sl_a V x) k) 0 ≤ x ∧ x ≤ V (sl_i V (sl_a V x) k) 2 ∧ cu V (sl_a V x) ≤ x ∧ x ≤ cu V (sl_a V x + 1) := by
  have bd := sl_a_bd V x
  have ha : sl_a V x ≠ -1 := fun q => by
    unfold co_n at k1
    rw [if_pos q] at k1
    omega
  have kl : k < sl_l V (sl_a V x) := by
    unfold co_n at k1
    rw [if_neg ha] at k1
    exact k1
  have b2 : 0 ≤ sl_a V x ∧ sl_a V x < sl_n V := by omega
  have cut := (sl_a_K x0 b2.1 b2.2).2 rfl
  have m := (sl_L_so hv (cu V (sl_a V x)) (cu V (sl_a V x + 1))).1 k k0 kl
  have m1 := m.2.2.1
  have m2 := m.2.2.2
  exact ⟨ha, b2, kl, m.1, Int.le_trans m1 cut.1, Int.le_trans (Int.le_of_lt cut.2) m2, cut.1, Int.le_of_lt cut.2⟩
theorem co_fk {V : pu_V} {x p : Int} (p0 : 1 ≤ p) (p1 : p ≤ co_n V x) : co_f V x p = fa_y V (sl_i V (sl_a V x) (p - 1)) x := by
  unfold co_f
  rw [if_neg (by omega), if_pos p1]
theorem co_f_bd {V : pu_V} (hv : pu_ok V) {x : Int} (x0 : 0 ≤ x) (p : Int) : 0 ≤ co_f V x p ∧ co_f V x p ≤ 64 ∧ (p ≤ co_n V x → co_f V x p ≤ 63) := by
  by_cases c : p ≤ 0
  · unfold co_f
    rw [if_pos c]
    omega
  · by_cases c2 : p ≤ co_n V x
    · have m := co_m hv x0 (show 0 ≤ p - 1 by omega) (by omega)
      have b := fa_bd hv m.2.2.2.1 m.2.2.2.2.1 m.2.2.2.2.2.1
      rw [co_fk (by omega) c2]
      omega
    · unfold co_f
      rw [if_neg c, if_neg c2]
      omega
theorem co_f_mk {V : pu_V} (hv : pu_ok V) (hn : pu_nc V) {x : Int} (x0 : 0 ≤ x) {p q : Int} (p0 : 1 ≤ p) (pq : p ≤ q) (q1 : q ≤ co_n V x) : co_f V x p ≤ co_f V x q := by
  rw [co_fk p0 (by omega), co_fk (by omega) q1]
  by_cases c : p = q
  · rw [c]; exact Int.le_refl _
  · have mp := co_m hv x0 (show 0 ≤ p - 1 by omega) (by omega)
    have mq := co_m hv x0 (show 0 ≤ q - 1 by omega) (by omega)
    exact fa_mo (sl_w_p hv mp.2.2.2.1) (sl_w_p hv mq.2.2.2.1) (ge_list hv hn mp.2.1.1 mp.2.1.2 mp.2.2.2.2.2.2.1 mp.2.2.2.2.2.2.2 (p - 1) (q - 1) (by omega) (by omega) mq.2.2.1)
theorem co_f_mo {V : pu_V} (hv : pu_ok V) (hn : pu_nc V) {x : Int} (x0 : 0 ≤ x) (p : Int) : co_f V x p ≤ co_f V x (p + 1) := by
  have b1 := co_f_bd hv x0 p
  have b2 := co_f_bd hv x0 (p + 1)
  by_cases c : p ≤ 0
  · have e : co_f V x p = 0 := by
      unfold co_f
      rw [if_pos c]
    omega
  · by_cases c2 : p + 1 ≤ co_n V x
    · exact co_f_mk hv hn x0 (by omega) (by omega) c2
    · have e : co_f V x (p + 1) = 64 := by
        unfold co_f
        rw [if_neg (by omega), if_neg c2]
      omega
theorem sl_pre_ge {b : Int → Bool} : ∀ (n : Nat) (s p : Int), (∀ k, s ≤ k → k < p → b k = true) → p ≤ s + n → p ≤ sl_pre b n s := by
  intro n
  induction n with
  | zero => intro s p _ h; rw [sl_pre]; omega
  | succ n ih =>
    intro s p h h2
    by_cases c : p ≤ s
    · have := (sl_pre_bd (b := b) (n + 1) s).1
      omega
    · rw [sl_pre_y (h s (Int.le_refl _) (by omega))]
      exact ih (s + 1) p (fun k a e => h k (by omega) e) (by omega)
/-- the region all through a part -/
theorem co_r {V : pu_V} (hv : pu_ok V) (hn : pu_nc V) {x : Int} (x0 : 0 ≤ x) {p y : Int} (p0 : 0 ≤ p) (p1 : p ≤ co_n V x) (y0 : co_f V x p ≤ y) (y1 : y < co_f V x (p + 1)) : sl_r V x y = rb V (sl_a V x) p := by
  have bb := sl_b_bd V x y
  have e : sl_b V x y = p := by
    by_cases ha : sl_a V x = -1
    · have n0 : co_n V x = 0 := by
        unfold co_n
        rw [if_pos ha]
      have := bb.2.2.1 ha
      omega
    · have en : co_n V x = sl_l V (sl_a V x) := by
        unfold co_n
        rw [if_neg ha]
      have eb : sl_b V x y = sl_pre (fun j => sl_nh V x y (sl_i V (sl_a V x) j)) (sl_l V (sl_a V x)).toNat 0 := by
        unfold sl_b
        rw [if_neg ha]
      have lo : p ≤ sl_b V x y := by
        rw [eb]
        refine sl_pre_ge _ 0 p (fun k k0 k1 => ?_) (by omega)
        have m := co_m hv x0 k0 (by omega)
        have f := co_f_mk hv hn x0 (show 1 ≤ k + 1 by omega) (show k + 1 ≤ p by omega) p1
        rw [co_fk (by omega) (by omega), show k + 1 - 1 = k by omega] at f
        exact (fa_iff (sl_w_p hv m.2.2.2.1)).2 (by omega)
      have hi : sl_b V x y ≤ p := by
        apply Classical.byContradiction
        intro q
        have m := co_m hv x0 p0 (by have := bb.2.2.2 ha; omega)
        have t := sl_pre_all (b := fun j => sl_nh V x y (sl_i V (sl_a V x) j)) (sl_l V (sl_a V x)).toNat 0 p p0 (by omega)
        have t2 := (fa_iff (V := V) (e := sl_i V (sl_a V x) p) (x := x) (y := y) (sl_w_p hv m.2.2.2.1)).1 t
        rw [co_fk (by omega) (by omega), show p + 1 - 1 = p by omega] at y1
        omega
      omega
  unfold sl_r sl_t
  rw [e]
  by_cases c : p = 0
  · rw [if_pos c, if_pos rfl, c, rb_0]
  · have ha : sl_a V x ≠ -1 := fun q => by
      have := bb.2.2.1 q
      omega
    have bd := sl_a_bd V x
    have hb := bb.2.2.2 ha
    have m := (sl_i_bd V (sl_a V x)).2 (p - 1) (by omega) (by omega)
    have r := rb_s (V := V) (s := sl_a V x) (j := p - 1) (by omega) (by omega) (by omega) (by omega)
    rw [show p - 1 + 1 = p by omega] at r
    rw [if_neg c, if_neg (by omega), r]
def co_p (V : pu_V) (x r : Int) : Int → Bool := fun y => decide (sl_r V x y = r)
theorem co_in {V : pu_V} (hv : pu_ok V) (hn : pu_nc V) {x : Int} (x0 : 0 ≤ x) {p : Int} (p0 : 0 ≤ p) (p1 : p ≤ co_n V x) (r : Int) {F T : Int} (h1 : co_f V x p ≤ F) (h2 : T ≤ co_f V x (p + 1)) (h3 : F ≤ T) : cn (co_p V x r) F T = if rb V (sl_a V x) p = r then T - F else 0 := by
  by_cases c : rb V (sl_a V x) p = r
  · rw [if_pos c]
    refine cn_all _ h3 (fun y a b => decide_eq_true ?_)
    rw [co_r hv hn x0 p0 p1 (by omega) (by omega)]
    exact c
  · rw [if_neg c]
    refine cn_no _ (fun y a b => decide_eq_false ?_)
    rw [co_r hv hn x0 p0 p1 (by omega) (by omega)]
    exact c
theorem co_st {V : pu_V} (hv : pu_ok V) (hn : pu_nc V) {x : Int} (x0 : 0 ≤ x) {p : Int} (p0 : 0 ≤ p) (p1 : p ≤ co_n V x) (r F T : Int) : cn (co_p V x r) (z_max F (co_f V x p)) T = (if rb V (sl_a V x) p = r then z_max 0 (z_min T (co_f V x (p + 1)) - z_max F (co_f V x p)) else 0) + cn (co_p V x r) (z_max F (co_f V x (p + 1))) T := by
  have mo := co_f_mo hv hn x0 p
  have a := z_max_bd F (co_f V x p)
  have b := z_max_bd F (co_f V x (p + 1))
  have m : (z_min T (co_f V x (p + 1)) = T ∨ z_min T (co_f V x (p + 1)) = co_f V x (p + 1)) ∧ z_min T (co_f V x (p + 1)) ≤ T ∧ z_min T (co_f V x (p + 1)) ≤ co_f V x (p + 1) := by
    unfold z_min
    split <;> omega
  by_cases c : z_min T (co_f V x (p + 1)) ≤ z_max F (co_f V x p)
  · have z : z_max 0 (z_min T (co_f V x (p + 1)) - z_max F (co_f V x p)) = 0 := by
      have := z_max_bd 0 (z_min T (co_f V x (p + 1)) - z_max F (co_f V x p))
      omega
    rw [z, ite_self, Int.zero_add]
    by_cases t : T ≤ z_max F (co_f V x p)
    · rw [cn_0 _ t, cn_0 _ (by omega)]
    · rw [show z_max F (co_f V x (p + 1)) = z_max F (co_f V x p) by omega]
  · have z : z_max 0 (z_min T (co_f V x (p + 1)) - z_max F (co_f V x p)) = z_min T (co_f V x (p + 1)) - z_max F (co_f V x p) := by
      have := z_max_bd 0 (z_min T (co_f V x (p + 1)) - z_max F (co_f V x p))
      omega
    rw [z, cn_sp _ (show z_max F (co_f V x p) ≤ z_min T (co_f V x (p + 1)) by omega) m.2.1, co_in hv hn x0 p0 p1 r a.2.1 m.2.2 (by omega)]
    have e : cn (co_p V x r) (z_min T (co_f V x (p + 1))) T = cn (co_p V x r) (z_max F (co_f V x (p + 1))) T := by
      by_cases q : z_min T (co_f V x (p + 1)) = T
      · rw [q, cn_0 _ (Int.le_refl _), cn_0 _ (by omega)]
      · rw [show z_min T (co_f V x (p + 1)) = z_max F (co_f V x (p + 1)) by omega]
    rw [e]
def co_c (V : pu_V) (r : Int) : Int → Int := fun x => cn (co_p V x r) 0 64
def pts (V : pu_V) (r : Int) : Int := su (co_c V r) 64 0
theorem co_c_bd (V : pu_V) (r x : Int) : 0 ≤ co_c V r x ∧ co_c V r x ≤ 64 := by
  have := cn_bd (co_p V x r) (show (0 : Int) ≤ 64 by omega)
  unfold co_c
  omega
theorem pts_bd (V : pu_V) (r : Int) : 0 ≤ pts V r ∧ pts V r ≤ 4096 := by
  have := su_bd (f := co_c V r) (B := 64) 64 0 (fun x _ _ => co_c_bd V r x)
  unfold pts
  omega
/-- rows that hold the parts of a column -/
def co_W (n : Int) (a b : Int → Int) (V : pu_V) (x : Int) : Prop := n = co_n V x + 1 ∧ ∀ q, 0 ≤ q → q ≤ co_n V x → a q = co_f V x q ∧ b q = rb V (sl_a V x) q
theorem sl_h_0 {V : pu_V} (hv : pu_ok V) {e x : Int} (he : pu_has V e) (h0 : V e 0 ≤ x) (h1 : x ≤ V e 2) : 0 ≤ sl_h V e (2 * x) := by
  have q := hv e he.1 he.2.1 he.2.2
  have p1 := ge_pp q.2.1.1 (show 0 ≤ V e 2 - x by omega)
  have p2 := ge_pp q.2.2.2.1.1 (show 0 ≤ x - V e 0 by omega)
  have hh : sl_h V e (2 * x) = 2 * (V e 1 * (V e 2 - x) + V e 3 * (x - V e 0)) := by
    unfold sl_h
    exact ge_i5 (V e 0) (V e 1) (V e 2) (V e 3) x
  rw [hh]
  omega
/-! the class -/
set_option maxRecDepth 20000 in
theorem xs_firstAbove14 {d u w} {Q : z_P} (hl : z_lay w) {V : pu_V} (hv : pu_ok V) (he : pu_eq (pu_vC (z_I w 13)) V) (e x : Int) (hs : pu_has V e) (x0 : 0 ≤ x) (x1 : x ≤ 63) (h0 : V e 0 ≤ x) (h1 : x ≤ V e 2) (k : Q (some (z_i (fa_y V e x))) w) : z_G (d + 1) u 29 0 [z_r 12, z_i e, z_i x, z_x] [] w Q := by
  obtain ⟨e0, e1, hp⟩ := hs
  have hp2 := hp
  rw [← he e 4 e0 e1 (by omega) (by omega), pu_vC4] at hp2
  have be := sl_hw_bd hv e0 e1 hp (t := 2 * x) (by omega) (by omega)
  have b0 := sl_h_0 hv ⟨e0, e1, hp⟩ h0 h1
  have q := sl_h_eq he e0 e1 (2 * x)
  have kv : Q (some (z_i (z_div (sl_h V e (2 * x) + 2 * sl_w V e - 1) (2 * sl_w V e)))) w := by
    rw [z_div_eq (by omega) (by omega) (by omega) (by omega)]
    exact k
  simp only [g29_0, g29_1, g29_1r, g29_2, g29_3, g29_6, g29_7, g29_8, g29_9, g29_12, g29_13, g29_16, g29_16r, g29_17, g29_18, g29_19, g29_20, g29_21, g29_24, g29_25, g29_26, g29_27, g29_28, g29_29, g29_30 (st := []), z_kl_i, z_kl_l, z_kl_r, z_kl_n, z_kl_x, z_kl_vr, z_c8_0, z_c8_i, z_c8_l, z_c8_r, z_c8_vr, z_c8_n, z_vr_some, z_vr_none, Option.toList_some, Option.toList_none, List.cons_append, List.nil_append, true_and, and_true, and_self, z_k_sI, z_len_sI, z_R_sI, z_N_sI, z_set_0, z_set_1, z_set_s, eq_self, true_implies, false_implies, not_true_eq_false, not_false_eq_true, ne_eq, true_or, or_true, false_or, or_false, false_and, and_false, Int.reduceNeg, Int.reduceEq, Int.reduceNe, Int.reduceLT, Int.reduceLE, Nat.reduceLeDiff, Nat.reduceEqDiff, Nat.reduceSub, Nat.reduceAdd, reduceCtorEq, reduceIte, implies_true, List.reverse_nil, lk1 hl, ll1 hl, lk2 hl, lr2_0 hl, lr2_1 hl, lr2_2 hl, lr2_3 hl, lr2_6 hl, lr2_7 hl, lr2_8 hl, lr2_9 hl, lr2_10 hl, lr2_11 hl, lr2_13 hl, lr2_14 hl, lr2_15 hl, lr2_16 hl, lr2_17 hl, lr2_18 hl, lk3 hl, lr3_0 hl, lk4 hl, ll4 hl, lk5 hl, lr5_0 hl, lr5_2 hl, lr5_3 hl, lr5_4 hl, lk6 hl, ll6 hl, lk7 hl, ll7 hl, lk8 hl, lr8_0 hl, lk9 hl, ll9 hl, lk10 hl, ll10 hl, lk11 hl, ll11 hl, lk12 hl, lr12_0 hl, lk13 hl, ll13 hl, lk14 hl, lr14_2 hl, lr14_3 hl, lr14_4 hl, lr14_5 hl, lr14_6 hl, lr14_7 hl, lr14_9 hl, lr14_10 hl, lk15 hl, ll15 hl, lk16 hl, ll16 hl, lk17 hl, ll17 hl, lk18 hl, ll18 hl, lk19 hl, ll19 hl, lk20 hl, ll20 hl, lk21 hl, ll21 hl, lk22 hl, lr22_0 hl, lk23 hl, ll23 hl, lk24 hl, lr24_2 hl, lr24_3 hl, lr24_4 hl, lr24_5 hl, lr24_6 hl, lr24_7 hl, lr24_9 hl, lr24_10 hl, lk25 hl, ll25 hl, lk26 hl, ll26 hl, lk27 hl, ll27 hl, lk28 hl, ll28 hl, lk29 hl, ll29 hl, lk30 hl, ll30 hl, lk31 hl, ll31 hl, lk32 hl, lr32_1 hl, lk33 hl, ll33 hl, lk34 hl, lr34_0 hl, lk35 hl, ll35 hl, lk36 hl, lr36_0 hl, lk37 hl, ll37 hl, lk38 hl, lr38_0 hl, lk39 hl, ll39 hl, lk40 hl, ll40 hl, lk41 hl, lk42 hl, lr42_0 hl, lr42_1 hl, lr42_2 hl, lr42_3 hl, lk43 hl, ll43 hl, lk44 hl, ll44 hl, lk45 hl, ll45 hl, lk46 hl, ll46 hl, lk47 hl, lr47_1 hl, lk48 hl, ll48 hl]
  refine xs_w14 hl (pu_ok_eq he hv) _ e0 e1 hp2 ?_
  rw [q.2]
  simp only [g29_0, g29_1, g29_1r, g29_2, g29_3, g29_6, g29_7, g29_8, g29_9, g29_12, g29_13, g29_16, g29_16r, g29_17, g29_18, g29_19, g29_20, g29_21, g29_24, g29_25, g29_26, g29_27, g29_28, g29_29, g29_30 (st := []), z_kl_i, z_kl_l, z_kl_r, z_kl_n, z_kl_x, z_kl_vr, z_c8_0, z_c8_i, z_c8_l, z_c8_r, z_c8_vr, z_c8_n, z_vr_some, z_vr_none, Option.toList_some, Option.toList_none, List.cons_append, List.nil_append, true_and, and_true, and_self, z_k_sI, z_len_sI, z_R_sI, z_N_sI, z_set_0, z_set_1, z_set_s, eq_self, true_implies, false_implies, not_true_eq_false, not_false_eq_true, ne_eq, true_or, or_true, false_or, or_false, false_and, and_false, Int.reduceNeg, Int.reduceEq, Int.reduceNe, Int.reduceLT, Int.reduceLE, Nat.reduceLeDiff, Nat.reduceEqDiff, Nat.reduceSub, Nat.reduceAdd, reduceCtorEq, reduceIte, implies_true, List.reverse_nil, lk1 hl, ll1 hl, lk2 hl, lr2_0 hl, lr2_1 hl, lr2_2 hl, lr2_3 hl, lr2_6 hl, lr2_7 hl, lr2_8 hl, lr2_9 hl, lr2_10 hl, lr2_11 hl, lr2_13 hl, lr2_14 hl, lr2_15 hl, lr2_16 hl, lr2_17 hl, lr2_18 hl, lk3 hl, lr3_0 hl, lk4 hl, ll4 hl, lk5 hl, lr5_0 hl, lr5_2 hl, lr5_3 hl, lr5_4 hl, lk6 hl, ll6 hl, lk7 hl, ll7 hl, lk8 hl, lr8_0 hl, lk9 hl, ll9 hl, lk10 hl, ll10 hl, lk11 hl, ll11 hl, lk12 hl, lr12_0 hl, lk13 hl, ll13 hl, lk14 hl, lr14_2 hl, lr14_3 hl, lr14_4 hl, lr14_5 hl, lr14_6 hl, lr14_7 hl, lr14_9 hl, lr14_10 hl, lk15 hl, ll15 hl, lk16 hl, ll16 hl, lk17 hl, ll17 hl, lk18 hl, ll18 hl, lk19 hl, ll19 hl, lk20 hl, ll20 hl, lk21 hl, ll21 hl, lk22 hl, lr22_0 hl, lk23 hl, ll23 hl, lk24 hl, lr24_2 hl, lr24_3 hl, lr24_4 hl, lr24_5 hl, lr24_6 hl, lr24_7 hl, lr24_9 hl, lr24_10 hl, lk25 hl, ll25 hl, lk26 hl, ll26 hl, lk27 hl, ll27 hl, lk28 hl, ll28 hl, lk29 hl, ll29 hl, lk30 hl, ll30 hl, lk31 hl, ll31 hl, lk32 hl, lr32_1 hl, lk33 hl, ll33 hl, lk34 hl, lr34_0 hl, lk35 hl, ll35 hl, lk36 hl, lr36_0 hl, lk37 hl, ll37 hl, lk38 hl, lr38_0 hl, lk39 hl, ll39 hl, lk40 hl, ll40 hl, lk41 hl, lk42 hl, lr42_0 hl, lr42_1 hl, lr42_2 hl, lr42_3 hl, lk43 hl, ll43 hl, lk44 hl, ll44 hl, lk45 hl, ll45 hl, lk46 hl, ll46 hl, lk47 hl, lr47_1 hl, lk48 hl, ll48 hl]
  rw [z_mul_eq (a := 2) (b := sl_w V e) (by omega) (by omega)]
  refine ⟨fun c => ?_, fun c => absurd c (by omega)⟩
  rw [z_mul_eq (a := 2) (b := x) (by omega) (by omega)]
  refine xs_h14 hl (pu_ok_eq he hv) _ _ e0 e1 hp2 (by omega) (by omega) ?_
  rw [q.1]
  simp only [g29_0, g29_1, g29_1r, g29_2, g29_3, g29_6, g29_7, g29_8, g29_9, g29_12, g29_13, g29_16, g29_16r, g29_17, g29_18, g29_19, g29_20, g29_21, g29_24, g29_25, g29_26, g29_27, g29_28, g29_29, g29_30 (st := []), z_kl_i, z_kl_l, z_kl_r, z_kl_n, z_kl_x, z_kl_vr, z_c8_0, z_c8_i, z_c8_l, z_c8_r, z_c8_vr, z_c8_n, z_vr_some, z_vr_none, Option.toList_some, Option.toList_none, List.cons_append, List.nil_append, true_and, and_true, and_self, z_k_sI, z_len_sI, z_R_sI, z_N_sI, z_set_0, z_set_1, z_set_s, eq_self, true_implies, false_implies, not_true_eq_false, not_false_eq_true, ne_eq, true_or, or_true, false_or, or_false, false_and, and_false, Int.reduceNeg, Int.reduceEq, Int.reduceNe, Int.reduceLT, Int.reduceLE, Nat.reduceLeDiff, Nat.reduceEqDiff, Nat.reduceSub, Nat.reduceAdd, reduceCtorEq, reduceIte, implies_true, List.reverse_nil, lk1 hl, ll1 hl, lk2 hl, lr2_0 hl, lr2_1 hl, lr2_2 hl, lr2_3 hl, lr2_6 hl, lr2_7 hl, lr2_8 hl, lr2_9 hl, lr2_10 hl, lr2_11 hl, lr2_13 hl, lr2_14 hl, lr2_15 hl, lr2_16 hl, lr2_17 hl, lr2_18 hl, lk3 hl, lr3_0 hl, lk4 hl, ll4 hl, lk5 hl, lr5_0 hl, lr5_2 hl, lr5_3 hl, lr5_4 hl, lk6 hl, ll6 hl, lk7 hl, ll7 hl, lk8 hl, lr8_0 hl, lk9 hl, ll9 hl, lk10 hl, ll10 hl, lk11 hl, ll11 hl, lk12 hl, lr12_0 hl, lk13 hl, ll13 hl, lk14 hl, lr14_2 hl, lr14_3 hl, lr14_4 hl, lr14_5 hl, lr14_6 hl, lr14_7 hl, lr14_9 hl, lr14_10 hl, lk15 hl, ll15 hl, lk16 hl, ll16 hl, lk17 hl, ll17 hl, lk18 hl, ll18 hl, lk19 hl, ll19 hl, lk20 hl, ll20 hl, lk21 hl, ll21 hl, lk22 hl, lr22_0 hl, lk23 hl, ll23 hl, lk24 hl, lr24_2 hl, lr24_3 hl, lr24_4 hl, lr24_5 hl, lr24_6 hl, lr24_7 hl, lr24_9 hl, lr24_10 hl, lk25 hl, ll25 hl, lk26 hl, ll26 hl, lk27 hl, ll27 hl, lk28 hl, ll28 hl, lk29 hl, ll29 hl, lk30 hl, ll30 hl, lk31 hl, ll31 hl, lk32 hl, lr32_1 hl, lk33 hl, ll33 hl, lk34 hl, lr34_0 hl, lk35 hl, ll35 hl, lk36 hl, lr36_0 hl, lk37 hl, ll37 hl, lk38 hl, lr38_0 hl, lk39 hl, ll39 hl, lk40 hl, ll40 hl, lk41 hl, lk42 hl, lr42_0 hl, lr42_1 hl, lr42_2 hl, lr42_3 hl, lk43 hl, ll43 hl, lk44 hl, ll44 hl, lk45 hl, ll45 hl, lk46 hl, ll46 hl, lk47 hl, lr47_1 hl, lk48 hl, ll48 hl]
  rw [z_add_eq (by omega) (by omega), z_sub_eq (by omega) (by omega)]
  exact ⟨by omega, kv⟩
set_option maxRecDepth 20000 in
theorem xs_cutColumn14 {d u w} {Q : z_P} (hl : z_lay w) (hS : z_SL w 14 13 16 17) {V : pu_V} (hv : pu_ok V) (he : pu_eq (pu_vC (z_I w 13)) V) (hV : sl_V (z_I w 14 1) (z_I w 15) (z_I w 16) (z_I w 17) V) (x : Int) (x0 : 0 ≤ x) (x1 : x ≤ 63) (k : ∀ w', z_fr [18, 19] [(14, 8)] w w' → co_W (z_I w' 14 8) (z_I w' 18) (z_I w' 19) V x → Q none w') : z_G (d + 3) u 103 0 [z_r 14, z_i x, z_x, z_x, z_x] [] w Q := by
  have nb := co_n_bd V x
  have sb := sl_a_bd V x
  have en : z_ll w 14 16 (sl_a V x) = co_n V x := by
    unfold co_n
    by_cases ha : sl_a V x = -1
    · rw [if_pos ha]
      unfold z_ll
      rw [if_neg (by omega)]
    · have h1 := hV.1
      rw [if_neg ha, z_ll_in (by omega) (by omega)]
      exact (hV.2.2 _ (by omega) (by omega)).1
  have loop : ∀ (n : Nat) (j : Int) (v : z_V) (w1 : z_W), z_fr [18, 19] [(14, 8)] w w1 → 0 ≤ j → j + n = co_n V x → z_I w1 14 8 = j + 1 → (∀ q, 0 ≤ q → q ≤ j → z_I w1 18 q = co_f V x q ∧ z_I w1 19 q = rb V (sl_a V x) q) → z_G (d + 3) u 103 27 [z_r 14, z_i x, z_i (sl_a V x), z_i j, v] [] w1 Q := by
    intro n
    induction n with
    | zero =>
      intro j v w1 hf j0 j1 h8 hr
      have hl1 := z_fr_lay hf hl
      have hS1 := z_SL_fr hf (by decide) (by decide) hS
      have ell := z_ll_fr (p := 14) (a := 16) hf (by decide) (by decide) (sl_a V x)
      rw [g103_27]
      simp only [g103_0, g103_0r, g103_1, g103_2, g103_5, g103_6, g103_6r, g103_7, g103_10, g103_11, g103_12, g103_13, g103_13r, g103_14, g103_17, g103_18, g103_19, g103_20, g103_20r, g103_21, g103_22, g103_25, g103_26, g103_28, g103_28r, g103_29, g103_30, g103_33, g103_36, g103_36r, g103_37, g103_38, g103_39, g103_42, g103_44, g103_44r, g103_45, g103_48, g103_48r, g103_49, g103_52, g103_52r, g103_53, g103_56, g103_58, g103_59, g103_62, g103_63, g103_63r, g103_64, g103_67, g103_67r, g103_68, g103_71, g103_71r, g103_72, g103_75, g103_77, g103_80, g103_81, g103_81r, g103_82, g103_82r, g103_83, g103_86, g103_87, g103_88, g103_91, g103_94, g103_97, z_kl_i, z_kl_l, z_kl_r, z_kl_n, z_kl_x, z_kl_vr, z_c8_0, z_c8_i, z_c8_l, z_c8_r, z_c8_vr, z_c8_n, z_vr_some, z_vr_none, Option.toList_some, Option.toList_none, List.cons_append, List.nil_append, true_and, and_true, and_self, z_k_sI, z_len_sI, z_R_sI, z_N_sI, z_set_0, z_set_1, z_set_s, eq_self, true_implies, false_implies, not_true_eq_false, not_false_eq_true, ne_eq, true_or, or_true, false_or, or_false, false_and, and_false, Int.reduceNeg, Int.reduceEq, Int.reduceNe, Int.reduceLT, Int.reduceLE, Nat.reduceLeDiff, Nat.reduceEqDiff, Nat.reduceSub, Nat.reduceAdd, reduceCtorEq, reduceIte, implies_true, List.reverse_nil, lk1 hl1, ll1 hl1, lk2 hl1, lr2_0 hl1, lr2_1 hl1, lr2_2 hl1, lr2_3 hl1, lr2_6 hl1, lr2_7 hl1, lr2_8 hl1, lr2_9 hl1, lr2_10 hl1, lr2_11 hl1, lr2_13 hl1, lr2_14 hl1, lr2_15 hl1, lr2_16 hl1, lr2_17 hl1, lr2_18 hl1, lk3 hl1, lr3_0 hl1, lk4 hl1, ll4 hl1, lk5 hl1, lr5_0 hl1, lr5_2 hl1, lr5_3 hl1, lr5_4 hl1, lk6 hl1, ll6 hl1, lk7 hl1, ll7 hl1, lk8 hl1, lr8_0 hl1, lk9 hl1, ll9 hl1, lk10 hl1, ll10 hl1, lk11 hl1, ll11 hl1, lk12 hl1, lr12_0 hl1, lk13 hl1, ll13 hl1, lk14 hl1, lr14_2 hl1, lr14_3 hl1, lr14_4 hl1, lr14_5 hl1, lr14_6 hl1, lr14_7 hl1, lr14_9 hl1, lr14_10 hl1, lk15 hl1, ll15 hl1, lk16 hl1, ll16 hl1, lk17 hl1, ll17 hl1, lk18 hl1, ll18 hl1, lk19 hl1, ll19 hl1, lk20 hl1, ll20 hl1, lk21 hl1, ll21 hl1, lk22 hl1, lr22_0 hl1, lk23 hl1, ll23 hl1, lk24 hl1, lr24_2 hl1, lr24_3 hl1, lr24_4 hl1, lr24_5 hl1, lr24_6 hl1, lr24_7 hl1, lr24_9 hl1, lr24_10 hl1, lk25 hl1, ll25 hl1, lk26 hl1, ll26 hl1, lk27 hl1, ll27 hl1, lk28 hl1, ll28 hl1, lk29 hl1, ll29 hl1, lk30 hl1, ll30 hl1, lk31 hl1, ll31 hl1, lk32 hl1, lr32_1 hl1, lk33 hl1, ll33 hl1, lk34 hl1, lr34_0 hl1, lk35 hl1, ll35 hl1, lk36 hl1, lr36_0 hl1, lk37 hl1, ll37 hl1, lk38 hl1, lr38_0 hl1, lk39 hl1, ll39 hl1, lk40 hl1, ll40 hl1, lk41 hl1, lk42 hl1, lr42_0 hl1, lr42_1 hl1, lr42_2 hl1, lr42_3 hl1, lk43 hl1, ll43 hl1, lk44 hl1, ll44 hl1, lk45 hl1, ll45 hl1, lk46 hl1, ll46 hl1, lk47 hl1, lr47_1 hl1, lk48 hl1, ll48 hl1]
      refine c_length14 hl1 hS1.1.2 _ ?_
      rw [ell, en]
      simp only [g103_0, g103_0r, g103_1, g103_2, g103_5, g103_6, g103_6r, g103_7, g103_10, g103_11, g103_12, g103_13, g103_13r, g103_14, g103_17, g103_18, g103_19, g103_20, g103_20r, g103_21, g103_22, g103_25, g103_26, g103_28, g103_28r, g103_29, g103_30, g103_33, g103_36, g103_36r, g103_37, g103_38, g103_39, g103_42, g103_44, g103_44r, g103_45, g103_48, g103_48r, g103_49, g103_52, g103_52r, g103_53, g103_56, g103_58, g103_59, g103_62, g103_63, g103_63r, g103_64, g103_67, g103_67r, g103_68, g103_71, g103_71r, g103_72, g103_75, g103_77, g103_80, g103_81, g103_81r, g103_82, g103_82r, g103_83, g103_86, g103_87, g103_88, g103_91, g103_94, g103_97, z_kl_i, z_kl_l, z_kl_r, z_kl_n, z_kl_x, z_kl_vr, z_c8_0, z_c8_i, z_c8_l, z_c8_r, z_c8_vr, z_c8_n, z_vr_some, z_vr_none, Option.toList_some, Option.toList_none, List.cons_append, List.nil_append, true_and, and_true, and_self, z_k_sI, z_len_sI, z_R_sI, z_N_sI, z_set_0, z_set_1, z_set_s, eq_self, true_implies, false_implies, not_true_eq_false, not_false_eq_true, ne_eq, true_or, or_true, false_or, or_false, false_and, and_false, Int.reduceNeg, Int.reduceEq, Int.reduceNe, Int.reduceLT, Int.reduceLE, Nat.reduceLeDiff, Nat.reduceEqDiff, Nat.reduceSub, Nat.reduceAdd, reduceCtorEq, reduceIte, implies_true, List.reverse_nil, lk1 hl1, ll1 hl1, lk2 hl1, lr2_0 hl1, lr2_1 hl1, lr2_2 hl1, lr2_3 hl1, lr2_6 hl1, lr2_7 hl1, lr2_8 hl1, lr2_9 hl1, lr2_10 hl1, lr2_11 hl1, lr2_13 hl1, lr2_14 hl1, lr2_15 hl1, lr2_16 hl1, lr2_17 hl1, lr2_18 hl1, lk3 hl1, lr3_0 hl1, lk4 hl1, ll4 hl1, lk5 hl1, lr5_0 hl1, lr5_2 hl1, lr5_3 hl1, lr5_4 hl1, lk6 hl1, ll6 hl1, lk7 hl1, ll7 hl1, lk8 hl1, lr8_0 hl1, lk9 hl1, ll9 hl1, lk10 hl1, ll10 hl1, lk11 hl1, ll11 hl1, lk12 hl1, lr12_0 hl1, lk13 hl1, ll13 hl1, lk14 hl1, lr14_2 hl1, lr14_3 hl1, lr14_4 hl1, lr14_5 hl1, lr14_6 hl1, lr14_7 hl1, lr14_9 hl1, lr14_10 hl1, lk15 hl1, ll15 hl1, lk16 hl1, ll16 hl1, lk17 hl1, ll17 hl1, lk18 hl1, ll18 hl1, lk19 hl1, ll19 hl1, lk20 hl1, ll20 hl1, lk21 hl1, ll21 hl1, lk22 hl1, lr22_0 hl1, lk23 hl1, ll23 hl1, lk24 hl1, lr24_2 hl1, lr24_3 hl1, lr24_4 hl1, lr24_5 hl1, lr24_6 hl1, lr24_7 hl1, lr24_9 hl1, lr24_10 hl1, lk25 hl1, ll25 hl1, lk26 hl1, ll26 hl1, lk27 hl1, ll27 hl1, lk28 hl1, ll28 hl1, lk29 hl1, ll29 hl1, lk30 hl1, ll30 hl1, lk31 hl1, ll31 hl1, lk32 hl1, lr32_1 hl1, lk33 hl1, ll33 hl1, lk34 hl1, lr34_0 hl1, lk35 hl1, ll35 hl1, lk36 hl1, lr36_0 hl1, lk37 hl1, ll37 hl1, lk38 hl1, lr38_0 hl1, lk39 hl1, ll39 hl1, lk40 hl1, ll40 hl1, lk41 hl1, lk42 hl1, lr42_0 hl1, lr42_1 hl1, lr42_2 hl1, lr42_3 hl1, lk43 hl1, ll43 hl1, lk44 hl1, ll44 hl1, lk45 hl1, ll45 hl1, lk46 hl1, ll46 hl1, lk47 hl1, lr47_1 hl1, lk48 hl1, ll48 hl1]
      exact ⟨fun _ => k w1 hf ⟨by omega, fun q q0 q1 => hr q q0 (by omega)⟩, fun c => absurd c (by omega)⟩
    | succ n ih =>
      intro j v w1 hf j0 j1 h8 hr
      have hl1 := z_fr_lay hf hl
      have hS1 := z_SL_fr hf (by decide) (by decide) hS
      have ell := z_ll_fr (p := 14) (a := 16) hf (by decide) (by decide) (sl_a V x)
      have ef : ∀ p, p ≠ 18 → p ≠ 19 → p ≠ 14 → z_I w1 p = z_I w p := fun p h1 h2 h3 => funext fun i => hf.2 p i (by simp only [List.mem_cons, List.not_mem_nil, or_false]; omega) (by simp only [List.mem_cons, List.not_mem_nil, or_false, Prod.mk.injEq]; omega)
      have e1 : z_I w1 14 1 = z_I w 14 1 := hf.2 14 1 (by decide) (by decide)
      have he1 : pu_eq (pu_vC (z_I w1 13)) V := by
        rw [ef 13 (by decide) (by decide) (by decide)]
        exact he
      have hV1 : sl_V (z_I w1 14 1) (z_I w1 15) (z_I w1 16) (z_I w1 17) V := by
        rw [e1, ef 15 (by decide) (by decide) (by decide), ef 16 (by decide) (by decide) (by decide), ef 17 (by decide) (by decide) (by decide)]
        exact hV
      obtain ⟨m1, m2, m3, m4, m5, m6, _, _⟩ := co_m hv x0 j0 (by omega)
      have ql := q_list_in m2.1 m2.2 j0 m3
      have v4 : z_I w1 13 (96 + sl_i V (sl_a V x) j) = rb V (sl_a V x) (j + 1) := by
        rw [rb_s m2.1 m2.2 j0 m3, ← he1 _ 4 m4.1 m4.2.1 (by omega) (by omega), pu_vC4]
      have fk := co_fk (V := V) (x := x) (p := j + 1) (by omega) (by omega)
      rw [show j + 1 - 1 = j by omega] at fk
      rw [g103_27]
      simp only [g103_0, g103_0r, g103_1, g103_2, g103_5, g103_6, g103_6r, g103_7, g103_10, g103_11, g103_12, g103_13, g103_13r, g103_14, g103_17, g103_18, g103_19, g103_20, g103_20r, g103_21, g103_22, g103_25, g103_26, g103_28, g103_28r, g103_29, g103_30, g103_33, g103_36, g103_36r, g103_37, g103_38, g103_39, g103_42, g103_44, g103_44r, g103_45, g103_48, g103_48r, g103_49, g103_52, g103_52r, g103_53, g103_56, g103_58, g103_59, g103_62, g103_63, g103_63r, g103_64, g103_67, g103_67r, g103_68, g103_71, g103_71r, g103_72, g103_75, g103_77, g103_80, g103_81, g103_81r, g103_82, g103_82r, g103_83, g103_86, g103_87, g103_88, g103_91, g103_94, g103_97, z_kl_i, z_kl_l, z_kl_r, z_kl_n, z_kl_x, z_kl_vr, z_c8_0, z_c8_i, z_c8_l, z_c8_r, z_c8_vr, z_c8_n, z_vr_some, z_vr_none, Option.toList_some, Option.toList_none, List.cons_append, List.nil_append, true_and, and_true, and_self, z_k_sI, z_len_sI, z_R_sI, z_N_sI, z_set_0, z_set_1, z_set_s, eq_self, true_implies, false_implies, not_true_eq_false, not_false_eq_true, ne_eq, true_or, or_true, false_or, or_false, false_and, and_false, Int.reduceNeg, Int.reduceEq, Int.reduceNe, Int.reduceLT, Int.reduceLE, Nat.reduceLeDiff, Nat.reduceEqDiff, Nat.reduceSub, Nat.reduceAdd, reduceCtorEq, reduceIte, implies_true, List.reverse_nil, lk1 hl1, ll1 hl1, lk2 hl1, lr2_0 hl1, lr2_1 hl1, lr2_2 hl1, lr2_3 hl1, lr2_6 hl1, lr2_7 hl1, lr2_8 hl1, lr2_9 hl1, lr2_10 hl1, lr2_11 hl1, lr2_13 hl1, lr2_14 hl1, lr2_15 hl1, lr2_16 hl1, lr2_17 hl1, lr2_18 hl1, lk3 hl1, lr3_0 hl1, lk4 hl1, ll4 hl1, lk5 hl1, lr5_0 hl1, lr5_2 hl1, lr5_3 hl1, lr5_4 hl1, lk6 hl1, ll6 hl1, lk7 hl1, ll7 hl1, lk8 hl1, lr8_0 hl1, lk9 hl1, ll9 hl1, lk10 hl1, ll10 hl1, lk11 hl1, ll11 hl1, lk12 hl1, lr12_0 hl1, lk13 hl1, ll13 hl1, lk14 hl1, lr14_2 hl1, lr14_3 hl1, lr14_4 hl1, lr14_5 hl1, lr14_6 hl1, lr14_7 hl1, lr14_9 hl1, lr14_10 hl1, lk15 hl1, ll15 hl1, lk16 hl1, ll16 hl1, lk17 hl1, ll17 hl1, lk18 hl1, ll18 hl1, lk19 hl1, ll19 hl1, lk20 hl1, ll20 hl1, lk21 hl1, ll21 hl1, lk22 hl1, lr22_0 hl1, lk23 hl1, ll23 hl1, lk24 hl1, lr24_2 hl1, lr24_3 hl1, lr24_4 hl1, lr24_5 hl1, lr24_6 hl1, lr24_7 hl1, lr24_9 hl1, lr24_10 hl1, lk25 hl1, ll25 hl1, lk26 hl1, ll26 hl1, lk27 hl1, ll27 hl1, lk28 hl1, ll28 hl1, lk29 hl1, ll29 hl1, lk30 hl1, ll30 hl1, lk31 hl1, ll31 hl1, lk32 hl1, lr32_1 hl1, lk33 hl1, ll33 hl1, lk34 hl1, lr34_0 hl1, lk35 hl1, ll35 hl1, lk36 hl1, lr36_0 hl1, lk37 hl1, ll37 hl1, lk38 hl1, lr38_0 hl1, lk39 hl1, ll39 hl1, lk40 hl1, ll40 hl1, lk41 hl1, lk42 hl1, lr42_0 hl1, lr42_1 hl1, lr42_2 hl1, lr42_3 hl1, lk43 hl1, ll43 hl1, lk44 hl1, ll44 hl1, lk45 hl1, ll45 hl1, lk46 hl1, ll46 hl1, lk47 hl1, lr47_1 hl1, lk48 hl1, ll48 hl1]
      refine c_length14 hl1 hS1.1.2 _ ?_
      rw [ell, en]
      simp only [g103_0, g103_0r, g103_1, g103_2, g103_5, g103_6, g103_6r, g103_7, g103_10, g103_11, g103_12, g103_13, g103_13r, g103_14, g103_17, g103_18, g103_19, g103_20, g103_20r, g103_21, g103_22, g103_25, g103_26, g103_28, g103_28r, g103_29, g103_30, g103_33, g103_36, g103_36r, g103_37, g103_38, g103_39, g103_42, g103_44, g103_44r, g103_45, g103_48, g103_48r, g103_49, g103_52, g103_52r, g103_53, g103_56, g103_58, g103_59, g103_62, g103_63, g103_63r, g103_64, g103_67, g103_67r, g103_68, g103_71, g103_71r, g103_72, g103_75, g103_77, g103_80, g103_81, g103_81r, g103_82, g103_82r, g103_83, g103_86, g103_87, g103_88, g103_91, g103_94, g103_97, z_kl_i, z_kl_l, z_kl_r, z_kl_n, z_kl_x, z_kl_vr, z_c8_0, z_c8_i, z_c8_l, z_c8_r, z_c8_vr, z_c8_n, z_vr_some, z_vr_none, Option.toList_some, Option.toList_none, List.cons_append, List.nil_append, true_and, and_true, and_self, z_k_sI, z_len_sI, z_R_sI, z_N_sI, z_set_0, z_set_1, z_set_s, eq_self, true_implies, false_implies, not_true_eq_false, not_false_eq_true, ne_eq, true_or, or_true, false_or, or_false, false_and, and_false, Int.reduceNeg, Int.reduceEq, Int.reduceNe, Int.reduceLT, Int.reduceLE, Nat.reduceLeDiff, Nat.reduceEqDiff, Nat.reduceSub, Nat.reduceAdd, reduceCtorEq, reduceIte, implies_true, List.reverse_nil, lk1 hl1, ll1 hl1, lk2 hl1, lr2_0 hl1, lr2_1 hl1, lr2_2 hl1, lr2_3 hl1, lr2_6 hl1, lr2_7 hl1, lr2_8 hl1, lr2_9 hl1, lr2_10 hl1, lr2_11 hl1, lr2_13 hl1, lr2_14 hl1, lr2_15 hl1, lr2_16 hl1, lr2_17 hl1, lr2_18 hl1, lk3 hl1, lr3_0 hl1, lk4 hl1, ll4 hl1, lk5 hl1, lr5_0 hl1, lr5_2 hl1, lr5_3 hl1, lr5_4 hl1, lk6 hl1, ll6 hl1, lk7 hl1, ll7 hl1, lk8 hl1, lr8_0 hl1, lk9 hl1, ll9 hl1, lk10 hl1, ll10 hl1, lk11 hl1, ll11 hl1, lk12 hl1, lr12_0 hl1, lk13 hl1, ll13 hl1, lk14 hl1, lr14_2 hl1, lr14_3 hl1, lr14_4 hl1, lr14_5 hl1, lr14_6 hl1, lr14_7 hl1, lr14_9 hl1, lr14_10 hl1, lk15 hl1, ll15 hl1, lk16 hl1, ll16 hl1, lk17 hl1, ll17 hl1, lk18 hl1, ll18 hl1, lk19 hl1, ll19 hl1, lk20 hl1, ll20 hl1, lk21 hl1, ll21 hl1, lk22 hl1, lr22_0 hl1, lk23 hl1, ll23 hl1, lk24 hl1, lr24_2 hl1, lr24_3 hl1, lr24_4 hl1, lr24_5 hl1, lr24_6 hl1, lr24_7 hl1, lr24_9 hl1, lr24_10 hl1, lk25 hl1, ll25 hl1, lk26 hl1, ll26 hl1, lk27 hl1, ll27 hl1, lk28 hl1, ll28 hl1, lk29 hl1, ll29 hl1, lk30 hl1, ll30 hl1, lk31 hl1, ll31 hl1, lk32 hl1, lr32_1 hl1, lk33 hl1, ll33 hl1, lk34 hl1, lr34_0 hl1, lk35 hl1, ll35 hl1, lk36 hl1, lr36_0 hl1, lk37 hl1, ll37 hl1, lk38 hl1, lr38_0 hl1, lk39 hl1, ll39 hl1, lk40 hl1, ll40 hl1, lk41 hl1, lk42 hl1, lr42_0 hl1, lr42_1 hl1, lr42_2 hl1, lr42_3 hl1, lk43 hl1, ll43 hl1, lk44 hl1, ll44 hl1, lk45 hl1, ll45 hl1, lk46 hl1, ll46 hl1, lk47 hl1, lr47_1 hl1, lk48 hl1, ll48 hl1]
      refine ⟨fun c => absurd c (by omega), fun c => ?_⟩
      refine xs_member14 hl1 hS1 hV1 _ _ ?_
      rw [ql]
      simp only [g103_0, g103_0r, g103_1, g103_2, g103_5, g103_6, g103_6r, g103_7, g103_10, g103_11, g103_12, g103_13, g103_13r, g103_14, g103_17, g103_18, g103_19, g103_20, g103_20r, g103_21, g103_22, g103_25, g103_26, g103_28, g103_28r, g103_29, g103_30, g103_33, g103_36, g103_36r, g103_37, g103_38, g103_39, g103_42, g103_44, g103_44r, g103_45, g103_48, g103_48r, g103_49, g103_52, g103_52r, g103_53, g103_56, g103_58, g103_59, g103_62, g103_63, g103_63r, g103_64, g103_67, g103_67r, g103_68, g103_71, g103_71r, g103_72, g103_75, g103_77, g103_80, g103_81, g103_81r, g103_82, g103_82r, g103_83, g103_86, g103_87, g103_88, g103_91, g103_94, g103_97, z_kl_i, z_kl_l, z_kl_r, z_kl_n, z_kl_x, z_kl_vr, z_c8_0, z_c8_i, z_c8_l, z_c8_r, z_c8_vr, z_c8_n, z_vr_some, z_vr_none, Option.toList_some, Option.toList_none, List.cons_append, List.nil_append, true_and, and_true, and_self, z_k_sI, z_len_sI, z_R_sI, z_N_sI, z_set_0, z_set_1, z_set_s, eq_self, true_implies, false_implies, not_true_eq_false, not_false_eq_true, ne_eq, true_or, or_true, false_or, or_false, false_and, and_false, Int.reduceNeg, Int.reduceEq, Int.reduceNe, Int.reduceLT, Int.reduceLE, Nat.reduceLeDiff, Nat.reduceEqDiff, Nat.reduceSub, Nat.reduceAdd, reduceCtorEq, reduceIte, implies_true, List.reverse_nil, lk1 hl1, ll1 hl1, lk2 hl1, lr2_0 hl1, lr2_1 hl1, lr2_2 hl1, lr2_3 hl1, lr2_6 hl1, lr2_7 hl1, lr2_8 hl1, lr2_9 hl1, lr2_10 hl1, lr2_11 hl1, lr2_13 hl1, lr2_14 hl1, lr2_15 hl1, lr2_16 hl1, lr2_17 hl1, lr2_18 hl1, lk3 hl1, lr3_0 hl1, lk4 hl1, ll4 hl1, lk5 hl1, lr5_0 hl1, lr5_2 hl1, lr5_3 hl1, lr5_4 hl1, lk6 hl1, ll6 hl1, lk7 hl1, ll7 hl1, lk8 hl1, lr8_0 hl1, lk9 hl1, ll9 hl1, lk10 hl1, ll10 hl1, lk11 hl1, ll11 hl1, lk12 hl1, lr12_0 hl1, lk13 hl1, ll13 hl1, lk14 hl1, lr14_2 hl1, lr14_3 hl1, lr14_4 hl1, lr14_5 hl1, lr14_6 hl1, lr14_7 hl1, lr14_9 hl1, lr14_10 hl1, lk15 hl1, ll15 hl1, lk16 hl1, ll16 hl1, lk17 hl1, ll17 hl1, lk18 hl1, ll18 hl1, lk19 hl1, ll19 hl1, lk20 hl1, ll20 hl1, lk21 hl1, ll21 hl1, lk22 hl1, lr22_0 hl1, lk23 hl1, ll23 hl1, lk24 hl1, lr24_2 hl1, lr24_3 hl1, lr24_4 hl1, lr24_5 hl1, lr24_6 hl1, lr24_7 hl1, lr24_9 hl1, lr24_10 hl1, lk25 hl1, ll25 hl1, lk26 hl1, ll26 hl1, lk27 hl1, ll27 hl1, lk28 hl1, ll28 hl1, lk29 hl1, ll29 hl1, lk30 hl1, ll30 hl1, lk31 hl1, ll31 hl1, lk32 hl1, lr32_1 hl1, lk33 hl1, ll33 hl1, lk34 hl1, lr34_0 hl1, lk35 hl1, ll35 hl1, lk36 hl1, lr36_0 hl1, lk37 hl1, ll37 hl1, lk38 hl1, lr38_0 hl1, lk39 hl1, ll39 hl1, lk40 hl1, ll40 hl1, lk41 hl1, lk42 hl1, lr42_0 hl1, lr42_1 hl1, lr42_2 hl1, lr42_3 hl1, lk43 hl1, ll43 hl1, lk44 hl1, ll44 hl1, lk45 hl1, ll45 hl1, lk46 hl1, ll46 hl1, lk47 hl1, lr47_1 hl1, lk48 hl1, ll48 hl1, h8]
      intro _
      refine xs_firstAbove14 hl1 hv he1 _ _ m4 x0 x1 m5 m6 ?_
      simp only [g103_0, g103_0r, g103_1, g103_2, g103_5, g103_6, g103_6r, g103_7, g103_10, g103_11, g103_12, g103_13, g103_13r, g103_14, g103_17, g103_18, g103_19, g103_20, g103_20r, g103_21, g103_22, g103_25, g103_26, g103_28, g103_28r, g103_29, g103_30, g103_33, g103_36, g103_36r, g103_37, g103_38, g103_39, g103_42, g103_44, g103_44r, g103_45, g103_48, g103_48r, g103_49, g103_52, g103_52r, g103_53, g103_56, g103_58, g103_59, g103_62, g103_63, g103_63r, g103_64, g103_67, g103_67r, g103_68, g103_71, g103_71r, g103_72, g103_75, g103_77, g103_80, g103_81, g103_81r, g103_82, g103_82r, g103_83, g103_86, g103_87, g103_88, g103_91, g103_94, g103_97, z_kl_i, z_kl_l, z_kl_r, z_kl_n, z_kl_x, z_kl_vr, z_c8_0, z_c8_i, z_c8_l, z_c8_r, z_c8_vr, z_c8_n, z_vr_some, z_vr_none, Option.toList_some, Option.toList_none, List.cons_append, List.nil_append, true_and, and_true, and_self, z_k_sI, z_len_sI, z_R_sI, z_N_sI, z_set_0, z_set_1, z_set_s, eq_self, true_implies, false_implies, not_true_eq_false, not_false_eq_true, ne_eq, true_or, or_true, false_or, or_false, false_and, and_false, Int.reduceNeg, Int.reduceEq, Int.reduceNe, Int.reduceLT, Int.reduceLE, Nat.reduceLeDiff, Nat.reduceEqDiff, Nat.reduceSub, Nat.reduceAdd, reduceCtorEq, reduceIte, implies_true, List.reverse_nil, lk1 hl1, ll1 hl1, lk2 hl1, lr2_0 hl1, lr2_1 hl1, lr2_2 hl1, lr2_3 hl1, lr2_6 hl1, lr2_7 hl1, lr2_8 hl1, lr2_9 hl1, lr2_10 hl1, lr2_11 hl1, lr2_13 hl1, lr2_14 hl1, lr2_15 hl1, lr2_16 hl1, lr2_17 hl1, lr2_18 hl1, lk3 hl1, lr3_0 hl1, lk4 hl1, ll4 hl1, lk5 hl1, lr5_0 hl1, lr5_2 hl1, lr5_3 hl1, lr5_4 hl1, lk6 hl1, ll6 hl1, lk7 hl1, ll7 hl1, lk8 hl1, lr8_0 hl1, lk9 hl1, ll9 hl1, lk10 hl1, ll10 hl1, lk11 hl1, ll11 hl1, lk12 hl1, lr12_0 hl1, lk13 hl1, ll13 hl1, lk14 hl1, lr14_2 hl1, lr14_3 hl1, lr14_4 hl1, lr14_5 hl1, lr14_6 hl1, lr14_7 hl1, lr14_9 hl1, lr14_10 hl1, lk15 hl1, ll15 hl1, lk16 hl1, ll16 hl1, lk17 hl1, ll17 hl1, lk18 hl1, ll18 hl1, lk19 hl1, ll19 hl1, lk20 hl1, ll20 hl1, lk21 hl1, ll21 hl1, lk22 hl1, lr22_0 hl1, lk23 hl1, ll23 hl1, lk24 hl1, lr24_2 hl1, lr24_3 hl1, lr24_4 hl1, lr24_5 hl1, lr24_6 hl1, lr24_7 hl1, lr24_9 hl1, lr24_10 hl1, lk25 hl1, ll25 hl1, lk26 hl1, ll26 hl1, lk27 hl1, ll27 hl1, lk28 hl1, ll28 hl1, lk29 hl1, ll29 hl1, lk30 hl1, ll30 hl1, lk31 hl1, ll31 hl1, lk32 hl1, lr32_1 hl1, lk33 hl1, ll33 hl1, lk34 hl1, lr34_0 hl1, lk35 hl1, ll35 hl1, lk36 hl1, lr36_0 hl1, lk37 hl1, ll37 hl1, lk38 hl1, lr38_0 hl1, lk39 hl1, ll39 hl1, lk40 hl1, ll40 hl1, lk41 hl1, lk42 hl1, lr42_0 hl1, lr42_1 hl1, lr42_2 hl1, lr42_3 hl1, lk43 hl1, ll43 hl1, lk44 hl1, ll44 hl1, lk45 hl1, ll45 hl1, lk46 hl1, ll46 hl1, lk47 hl1, lr47_1 hl1, lk48 hl1, ll48 hl1]
      refine ⟨by omega, by omega, ?_⟩
      have q8 : ∀ z, z_I (z_sI w1 18 (j + 1) z) 14 8 = j + 1 := fun z => (z_I_np (by decide)).trans h8
      have hf2 : z_fr [18, 19] [(14, 8)] w (z_sI w1 18 (j + 1) (fa_y V (sl_i V (sl_a V x) j) x)) := z_fr_sI hf (by decide)
      have hl2 := z_fr_lay hf2 hl
      rw [q8]
      intro _
      refine c_region12 hl2 _ m4.1 m4.2.1 ?_
      rw [z_I_np (by decide), v4]
      simp only [g103_0, g103_0r, g103_1, g103_2, g103_5, g103_6, g103_6r, g103_7, g103_10, g103_11, g103_12, g103_13, g103_13r, g103_14, g103_17, g103_18, g103_19, g103_20, g103_20r, g103_21, g103_22, g103_25, g103_26, g103_28, g103_28r, g103_29, g103_30, g103_33, g103_36, g103_36r, g103_37, g103_38, g103_39, g103_42, g103_44, g103_44r, g103_45, g103_48, g103_48r, g103_49, g103_52, g103_52r, g103_53, g103_56, g103_58, g103_59, g103_62, g103_63, g103_63r, g103_64, g103_67, g103_67r, g103_68, g103_71, g103_71r, g103_72, g103_75, g103_77, g103_80, g103_81, g103_81r, g103_82, g103_82r, g103_83, g103_86, g103_87, g103_88, g103_91, g103_94, g103_97, z_kl_i, z_kl_l, z_kl_r, z_kl_n, z_kl_x, z_kl_vr, z_c8_0, z_c8_i, z_c8_l, z_c8_r, z_c8_vr, z_c8_n, z_vr_some, z_vr_none, Option.toList_some, Option.toList_none, List.cons_append, List.nil_append, true_and, and_true, and_self, z_k_sI, z_len_sI, z_R_sI, z_N_sI, z_set_0, z_set_1, z_set_s, eq_self, true_implies, false_implies, not_true_eq_false, not_false_eq_true, ne_eq, true_or, or_true, false_or, or_false, false_and, and_false, Int.reduceNeg, Int.reduceEq, Int.reduceNe, Int.reduceLT, Int.reduceLE, Nat.reduceLeDiff, Nat.reduceEqDiff, Nat.reduceSub, Nat.reduceAdd, reduceCtorEq, reduceIte, implies_true, List.reverse_nil, lk1 hl2, ll1 hl2, lk2 hl2, lr2_0 hl2, lr2_1 hl2, lr2_2 hl2, lr2_3 hl2, lr2_6 hl2, lr2_7 hl2, lr2_8 hl2, lr2_9 hl2, lr2_10 hl2, lr2_11 hl2, lr2_13 hl2, lr2_14 hl2, lr2_15 hl2, lr2_16 hl2, lr2_17 hl2, lr2_18 hl2, lk3 hl2, lr3_0 hl2, lk4 hl2, ll4 hl2, lk5 hl2, lr5_0 hl2, lr5_2 hl2, lr5_3 hl2, lr5_4 hl2, lk6 hl2, ll6 hl2, lk7 hl2, ll7 hl2, lk8 hl2, lr8_0 hl2, lk9 hl2, ll9 hl2, lk10 hl2, ll10 hl2, lk11 hl2, ll11 hl2, lk12 hl2, lr12_0 hl2, lk13 hl2, ll13 hl2, lk14 hl2, lr14_2 hl2, lr14_3 hl2, lr14_4 hl2, lr14_5 hl2, lr14_6 hl2, lr14_7 hl2, lr14_9 hl2, lr14_10 hl2, lk15 hl2, ll15 hl2, lk16 hl2, ll16 hl2, lk17 hl2, ll17 hl2, lk18 hl2, ll18 hl2, lk19 hl2, ll19 hl2, lk20 hl2, ll20 hl2, lk21 hl2, ll21 hl2, lk22 hl2, lr22_0 hl2, lk23 hl2, ll23 hl2, lk24 hl2, lr24_2 hl2, lr24_3 hl2, lr24_4 hl2, lr24_5 hl2, lr24_6 hl2, lr24_7 hl2, lr24_9 hl2, lr24_10 hl2, lk25 hl2, ll25 hl2, lk26 hl2, ll26 hl2, lk27 hl2, ll27 hl2, lk28 hl2, ll28 hl2, lk29 hl2, ll29 hl2, lk30 hl2, ll30 hl2, lk31 hl2, ll31 hl2, lk32 hl2, lr32_1 hl2, lk33 hl2, ll33 hl2, lk34 hl2, lr34_0 hl2, lk35 hl2, ll35 hl2, lk36 hl2, lr36_0 hl2, lk37 hl2, ll37 hl2, lk38 hl2, lr38_0 hl2, lk39 hl2, ll39 hl2, lk40 hl2, ll40 hl2, lk41 hl2, lk42 hl2, lr42_0 hl2, lr42_1 hl2, lr42_2 hl2, lr42_3 hl2, lk43 hl2, ll43 hl2, lk44 hl2, ll44 hl2, lk45 hl2, ll45 hl2, lk46 hl2, ll46 hl2, lk47 hl2, lr47_1 hl2, lk48 hl2, ll48 hl2]
      refine ⟨by omega, by omega, fun _ => ?_⟩
      rw [z_I_np (by decide), q8, z_add_eq (by omega) (by omega), z_add_eq (by omega) (by omega)]
      refine ih _ _ _ (z_fr_sF (z_fr_sI hf2 (by decide)) (by decide)) (by omega) (by omega) (z_I_at rfl) (fun i i0 i1 => ?_)
      refine ⟨?_, ?_⟩
      · rw [z_I_np (by decide), z_I_np (by decide)]
        by_cases q : i = j + 1
        · rw [z_I_at q, q, fk]
        · rw [z_I_ne q]
          exact (hr i i0 (by omega)).1
      · rw [z_I_np (by decide)]
        by_cases q : i = j + 1
        · rw [z_I_at q, q]
        · rw [z_I_ne q, z_I_np (by decide)]
          exact (hr i i0 (by omega)).2
  simp only [g103_0, g103_0r, g103_1, g103_2, g103_5, g103_6, g103_6r, g103_7, g103_10, g103_11, g103_12, g103_13, g103_13r, g103_14, g103_17, g103_18, g103_19, g103_20, g103_20r, g103_21, g103_22, g103_25, g103_26, g103_28, g103_28r, g103_29, g103_30, g103_33, g103_36, g103_36r, g103_37, g103_38, g103_39, g103_42, g103_44, g103_44r, g103_45, g103_48, g103_48r, g103_49, g103_52, g103_52r, g103_53, g103_56, g103_58, g103_59, g103_62, g103_63, g103_63r, g103_64, g103_67, g103_67r, g103_68, g103_71, g103_71r, g103_72, g103_75, g103_77, g103_80, g103_81, g103_81r, g103_82, g103_82r, g103_83, g103_86, g103_87, g103_88, g103_91, g103_94, g103_97, z_kl_i, z_kl_l, z_kl_r, z_kl_n, z_kl_x, z_kl_vr, z_c8_0, z_c8_i, z_c8_l, z_c8_r, z_c8_vr, z_c8_n, z_vr_some, z_vr_none, Option.toList_some, Option.toList_none, List.cons_append, List.nil_append, true_and, and_true, and_self, z_k_sI, z_len_sI, z_R_sI, z_N_sI, z_set_0, z_set_1, z_set_s, eq_self, true_implies, false_implies, not_true_eq_false, not_false_eq_true, ne_eq, true_or, or_true, false_or, or_false, false_and, and_false, Int.reduceNeg, Int.reduceEq, Int.reduceNe, Int.reduceLT, Int.reduceLE, Nat.reduceLeDiff, Nat.reduceEqDiff, Nat.reduceSub, Nat.reduceAdd, reduceCtorEq, reduceIte, implies_true, List.reverse_nil, lk1 hl, ll1 hl, lk2 hl, lr2_0 hl, lr2_1 hl, lr2_2 hl, lr2_3 hl, lr2_6 hl, lr2_7 hl, lr2_8 hl, lr2_9 hl, lr2_10 hl, lr2_11 hl, lr2_13 hl, lr2_14 hl, lr2_15 hl, lr2_16 hl, lr2_17 hl, lr2_18 hl, lk3 hl, lr3_0 hl, lk4 hl, ll4 hl, lk5 hl, lr5_0 hl, lr5_2 hl, lr5_3 hl, lr5_4 hl, lk6 hl, ll6 hl, lk7 hl, ll7 hl, lk8 hl, lr8_0 hl, lk9 hl, ll9 hl, lk10 hl, ll10 hl, lk11 hl, ll11 hl, lk12 hl, lr12_0 hl, lk13 hl, ll13 hl, lk14 hl, lr14_2 hl, lr14_3 hl, lr14_4 hl, lr14_5 hl, lr14_6 hl, lr14_7 hl, lr14_9 hl, lr14_10 hl, lk15 hl, ll15 hl, lk16 hl, ll16 hl, lk17 hl, ll17 hl, lk18 hl, ll18 hl, lk19 hl, ll19 hl, lk20 hl, ll20 hl, lk21 hl, ll21 hl, lk22 hl, lr22_0 hl, lk23 hl, ll23 hl, lk24 hl, lr24_2 hl, lr24_3 hl, lr24_4 hl, lr24_5 hl, lr24_6 hl, lr24_7 hl, lr24_9 hl, lr24_10 hl, lk25 hl, ll25 hl, lk26 hl, ll26 hl, lk27 hl, ll27 hl, lk28 hl, ll28 hl, lk29 hl, ll29 hl, lk30 hl, ll30 hl, lk31 hl, ll31 hl, lk32 hl, lr32_1 hl, lk33 hl, ll33 hl, lk34 hl, lr34_0 hl, lk35 hl, ll35 hl, lk36 hl, lr36_0 hl, lk37 hl, ll37 hl, lk38 hl, lr38_0 hl, lk39 hl, ll39 hl, lk40 hl, ll40 hl, lk41 hl, lk42 hl, lr42_0 hl, lr42_1 hl, lr42_2 hl, lr42_3 hl, lk43 hl, ll43 hl, lk44 hl, ll44 hl, lk45 hl, ll45 hl, lk46 hl, ll46 hl, lk47 hl, lr47_1 hl, lk48 hl, ll48 hl]
  refine xs_slabOf14 hl hV x x0 ?_
  simp only [g103_0, g103_0r, g103_1, g103_2, g103_5, g103_6, g103_6r, g103_7, g103_10, g103_11, g103_12, g103_13, g103_13r, g103_14, g103_17, g103_18, g103_19, g103_20, g103_20r, g103_21, g103_22, g103_25, g103_26, g103_28, g103_28r, g103_29, g103_30, g103_33, g103_36, g103_36r, g103_37, g103_38, g103_39, g103_42, g103_44, g103_44r, g103_45, g103_48, g103_48r, g103_49, g103_52, g103_52r, g103_53, g103_56, g103_58, g103_59, g103_62, g103_63, g103_63r, g103_64, g103_67, g103_67r, g103_68, g103_71, g103_71r, g103_72, g103_75, g103_77, g103_80, g103_81, g103_81r, g103_82, g103_82r, g103_83, g103_86, g103_87, g103_88, g103_91, g103_94, g103_97, z_kl_i, z_kl_l, z_kl_r, z_kl_n, z_kl_x, z_kl_vr, z_c8_0, z_c8_i, z_c8_l, z_c8_r, z_c8_vr, z_c8_n, z_vr_some, z_vr_none, Option.toList_some, Option.toList_none, List.cons_append, List.nil_append, true_and, and_true, and_self, z_k_sI, z_len_sI, z_R_sI, z_N_sI, z_set_0, z_set_1, z_set_s, eq_self, true_implies, false_implies, not_true_eq_false, not_false_eq_true, ne_eq, true_or, or_true, false_or, or_false, false_and, and_false, Int.reduceNeg, Int.reduceEq, Int.reduceNe, Int.reduceLT, Int.reduceLE, Nat.reduceLeDiff, Nat.reduceEqDiff, Nat.reduceSub, Nat.reduceAdd, reduceCtorEq, reduceIte, implies_true, List.reverse_nil, lk1 hl, ll1 hl, lk2 hl, lr2_0 hl, lr2_1 hl, lr2_2 hl, lr2_3 hl, lr2_6 hl, lr2_7 hl, lr2_8 hl, lr2_9 hl, lr2_10 hl, lr2_11 hl, lr2_13 hl, lr2_14 hl, lr2_15 hl, lr2_16 hl, lr2_17 hl, lr2_18 hl, lk3 hl, lr3_0 hl, lk4 hl, ll4 hl, lk5 hl, lr5_0 hl, lr5_2 hl, lr5_3 hl, lr5_4 hl, lk6 hl, ll6 hl, lk7 hl, ll7 hl, lk8 hl, lr8_0 hl, lk9 hl, ll9 hl, lk10 hl, ll10 hl, lk11 hl, ll11 hl, lk12 hl, lr12_0 hl, lk13 hl, ll13 hl, lk14 hl, lr14_2 hl, lr14_3 hl, lr14_4 hl, lr14_5 hl, lr14_6 hl, lr14_7 hl, lr14_9 hl, lr14_10 hl, lk15 hl, ll15 hl, lk16 hl, ll16 hl, lk17 hl, ll17 hl, lk18 hl, ll18 hl, lk19 hl, ll19 hl, lk20 hl, ll20 hl, lk21 hl, ll21 hl, lk22 hl, lr22_0 hl, lk23 hl, ll23 hl, lk24 hl, lr24_2 hl, lr24_3 hl, lr24_4 hl, lr24_5 hl, lr24_6 hl, lr24_7 hl, lr24_9 hl, lr24_10 hl, lk25 hl, ll25 hl, lk26 hl, ll26 hl, lk27 hl, ll27 hl, lk28 hl, ll28 hl, lk29 hl, ll29 hl, lk30 hl, ll30 hl, lk31 hl, ll31 hl, lk32 hl, lr32_1 hl, lk33 hl, ll33 hl, lk34 hl, lr34_0 hl, lk35 hl, ll35 hl, lk36 hl, lr36_0 hl, lk37 hl, ll37 hl, lk38 hl, lr38_0 hl, lk39 hl, ll39 hl, lk40 hl, ll40 hl, lk41 hl, lk42 hl, lr42_0 hl, lr42_1 hl, lr42_2 hl, lr42_3 hl, lk43 hl, ll43 hl, lk44 hl, ll44 hl, lk45 hl, ll45 hl, lk46 hl, ll46 hl, lk47 hl, lr47_1 hl, lk48 hl, ll48 hl]
  refine loop (co_n V x).toNat 0 _ _ (z_fr_sF (z_fr_sI (z_fr_sI z_fr_rf (by decide)) (by decide)) (by decide)) (by omega) (by omega) (z_I_at rfl) (fun q q0 q1 => ?_)
  have eq : q = 0 := by omega
  refine ⟨?_, ?_⟩
  · rw [z_I_np (by decide), z_I_np (by decide), z_I_at eq, eq]
    exact (if_pos (Int.le_refl 0)).symm
  · rw [z_I_np (by decide), z_I_at eq, eq, rb_0]
theorem xs_partTo14 {d u w} {Q : z_P} (hl : z_lay w) {V : pu_V} {x : Int} (hW : co_W (z_I w 14 8) (z_I w 18) (z_I w 19) V x) (j : Int) (j0 : 0 ≤ j) (j1 : j ≤ co_n V x) (k : Q (some (z_i (co_f V x (j + 1)))) w) : z_G d u 104 0 [z_r 14, z_i j] [] w Q := by
  have nb := co_n_bd V x
  have h8 := hW.1
  have f1 : j + 1 ≤ co_n V x → z_I w 18 (j + 1) = co_f V x (j + 1) := fun h => (hW.2 (j + 1) (by omega) h).1
  have f2 : ¬ (j + 1 ≤ co_n V x) → (64 : Int) = co_f V x (j + 1) := fun h => by
    unfold co_f
    rw [if_neg (by omega), if_neg h]
  have kv : ∀ z, z = co_f V x (j + 1) → Q (some (z_i z)) w := fun z hz => by rw [hz]; exact k
  (repeat' (first | (simp (discharger := omega) only [z_add_eq, z_sub_eq, z_mul_eq]) | (with_reducible refine And.intro ?_ ?_) | (with_reducible intro _) | (exact kv _ (f1 (by omega))) | (exact kv _ (f2 (by omega))) | (simp only [g104_0, g104_1, g104_2, g104_3, g104_3r, g104_4, g104_7, g104_10, g104_10r, g104_11, g104_14, g104_15, g104_16, g104_17, g104_18, g104_21, g104_23 (st := []), z_kl_i, z_kl_l, z_kl_r, z_kl_n, z_kl_x, z_kl_vr, z_c8_0, z_c8_i, z_c8_l, z_c8_r, z_c8_vr, z_c8_n, z_vr_some, z_vr_none, Option.toList_some, Option.toList_none, List.cons_append, List.nil_append, true_and, and_true, and_self, z_k_sI, z_len_sI, z_R_sI, z_N_sI, z_set_0, z_set_1, z_set_s, eq_self, true_implies, false_implies, not_true_eq_false, not_false_eq_true, ne_eq, true_or, or_true, false_or, or_false, false_and, and_false, Int.reduceNeg, Int.reduceEq, Int.reduceNe, Int.reduceLT, Int.reduceLE, Nat.reduceLeDiff, Nat.reduceEqDiff, Nat.reduceSub, Nat.reduceAdd, reduceCtorEq, reduceIte, implies_true, List.reverse_nil, lk1 hl, ll1 hl, lk2 hl, lr2_0 hl, lr2_1 hl, lr2_2 hl, lr2_3 hl, lr2_6 hl, lr2_7 hl, lr2_8 hl, lr2_9 hl, lr2_10 hl, lr2_11 hl, lr2_13 hl, lr2_14 hl, lr2_15 hl, lr2_16 hl, lr2_17 hl, lr2_18 hl, lk3 hl, lr3_0 hl, lk4 hl, ll4 hl, lk5 hl, lr5_0 hl, lr5_2 hl, lr5_3 hl, lr5_4 hl, lk6 hl, ll6 hl, lk7 hl, ll7 hl, lk8 hl, lr8_0 hl, lk9 hl, ll9 hl, lk10 hl, ll10 hl, lk11 hl, ll11 hl, lk12 hl, lr12_0 hl, lk13 hl, ll13 hl, lk14 hl, lr14_2 hl, lr14_3 hl, lr14_4 hl, lr14_5 hl, lr14_6 hl, lr14_7 hl, lr14_9 hl, lr14_10 hl, lk15 hl, ll15 hl, lk16 hl, ll16 hl, lk17 hl, ll17 hl, lk18 hl, ll18 hl, lk19 hl, ll19 hl, lk20 hl, ll20 hl, lk21 hl, ll21 hl, lk22 hl, lr22_0 hl, lk23 hl, ll23 hl, lk24 hl, lr24_2 hl, lr24_3 hl, lr24_4 hl, lr24_5 hl, lr24_6 hl, lr24_7 hl, lr24_9 hl, lr24_10 hl, lk25 hl, ll25 hl, lk26 hl, ll26 hl, lk27 hl, ll27 hl, lk28 hl, ll28 hl, lk29 hl, ll29 hl, lk30 hl, ll30 hl, lk31 hl, ll31 hl, lk32 hl, lr32_1 hl, lk33 hl, ll33 hl, lk34 hl, lr34_0 hl, lk35 hl, ll35 hl, lk36 hl, lr36_0 hl, lk37 hl, ll37 hl, lk38 hl, lr38_0 hl, lk39 hl, ll39 hl, lk40 hl, ll40 hl, lk41 hl, lk42 hl, lr42_0 hl, lr42_1 hl, lr42_2 hl, lr42_3 hl, lk43 hl, ll43 hl, lk44 hl, ll44 hl, lk45 hl, ll45 hl, lk46 hl, ll46 hl, lk47 hl, lr47_1 hl, lk48 hl, ll48 hl]) | omega))
set_option maxRecDepth 20000 in
theorem xs_countPoints14 {d u w} {Q : z_P} (hl : z_lay w) (hS : z_SL w 14 13 16 17) {V : pu_V} (hv : pu_ok V) (hn : pu_nc V) (he : pu_eq (pu_vC (z_I w 13)) V) (hV : sl_V (z_I w 14 1) (z_I w 15) (z_I w 16) (z_I w 17) V) (k : ∀ w', z_fr [18, 19, 20] [(14, 8)] w w' → (∀ r, 0 ≤ r → r < 10 → z_I w' 20 r = pts V r) → Q (some (z_r 20)) w') : z_G (d + 4) u 105 0 [z_r 14, z_x, z_x] [] w Q := by
  have fr : ∀ w1, z_fr [18, 19, 20] [(14, 8)] w w1 → z_lay w1 ∧ z_SL w1 14 13 16 17 ∧ pu_eq (pu_vC (z_I w1 13)) V ∧ sl_V (z_I w1 14 1) (z_I w1 15) (z_I w1 16) (z_I w1 17) V := by
    intro w1 hf
    have ef : ∀ p, p ≠ 18 → p ≠ 19 → p ≠ 20 → p ≠ 14 → z_I w1 p = z_I w p := fun p h1 h2 h3 h4 => funext fun i => hf.2 p i (by simp only [List.mem_cons, List.not_mem_nil, or_false]; omega) (by simp only [List.mem_cons, List.not_mem_nil, or_false, Prod.mk.injEq]; omega)
    have e1 : z_I w1 14 1 = z_I w 14 1 := hf.2 14 1 (by decide) (by decide)
    refine ⟨z_fr_lay hf hl, z_SL_fr hf (by decide) (by decide) hS, ?_, ?_⟩
    · rw [ef 13 (by decide) (by decide) (by decide) (by decide)]
      exact he
    · rw [e1, ef 15 (by decide) (by decide) (by decide) (by decide), ef 16 (by decide) (by decide) (by decide) (by decide), ef 17 (by decide) (by decide) (by decide) (by decide)]
      exact hV
  have l2 : ∀ (n : Nat) (x j : Int) (w1 : z_W), z_fr [18, 19, 20] [(14, 8)] w w1 → 0 ≤ x → x ≤ 63 → co_W (z_I w1 14 8) (z_I w1 18) (z_I w1 19) V x → 0 ≤ j → j + n = co_n V x + 1 → (∀ r, 0 ≤ r → r < 10 → z_I w1 20 r + cn (co_p V x r) (co_f V x j) 64 + su (co_c V r) (63 - x).toNat (x + 1) = pts V r) → (∀ w2 j, z_fr [18, 19, 20] [(14, 8)] w w2 → (∀ r, 0 ≤ r → r < 10 → z_I w2 20 r + su (co_c V r) (63 - x).toNat (x + 1) = pts V r) → z_G (d + 4) u 105 63 [z_r 14, z_i x, z_i j] [] w2 Q) → z_G (d + 4) u 105 23 [z_r 14, z_i x, z_i j] [] w1 Q := by
    intro n
    induction n with
    | zero =>
      intro x j w1 hf x0 x1 hW j0 j1 g kk
      have hl1 := z_fr_lay hf hl
      have h8 := hW.1
      have e64 : co_f V x j = 64 := by
        have := co_n_bd V x
        unfold co_f
        rw [if_neg (by omega), if_neg (by omega)]
      rw [g105_23]
      simp only [g105_0, g105_0r, g105_1, g105_4, g105_5, g105_8, g105_9, g105_10, g105_11, g105_13, g105_16, g105_16r, g105_17, g105_18, g105_21, g105_22, g105_24, g105_24r, g105_25, g105_28, g105_31, g105_31r, g105_32, g105_35, g105_35r, g105_36, g105_39, g105_40, g105_41, g105_42, g105_43, g105_43r, g105_44, g105_45, g105_48, g105_48r, g105_49, g105_52, g105_53, g105_54, g105_55, g105_56, g105_57, g105_60, g105_66, g105_69, g105_69r, g105_70, g105_73 (st := []), g105_73r, g105_73n, z_kl_i, z_kl_l, z_kl_r, z_kl_n, z_kl_x, z_kl_vr, z_c8_0, z_c8_i, z_c8_l, z_c8_r, z_c8_vr, z_c8_n, z_vr_some, z_vr_none, Option.toList_some, Option.toList_none, List.cons_append, List.nil_append, true_and, and_true, and_self, z_k_sI, z_len_sI, z_R_sI, z_N_sI, z_set_0, z_set_1, z_set_s, eq_self, true_implies, false_implies, not_true_eq_false, not_false_eq_true, ne_eq, true_or, or_true, false_or, or_false, false_and, and_false, Int.reduceNeg, Int.reduceEq, Int.reduceNe, Int.reduceLT, Int.reduceLE, Nat.reduceLeDiff, Nat.reduceEqDiff, Nat.reduceSub, Nat.reduceAdd, reduceCtorEq, reduceIte, implies_true, List.reverse_nil, lk1 hl1, ll1 hl1, lk2 hl1, lr2_0 hl1, lr2_1 hl1, lr2_2 hl1, lr2_3 hl1, lr2_6 hl1, lr2_7 hl1, lr2_8 hl1, lr2_9 hl1, lr2_10 hl1, lr2_11 hl1, lr2_13 hl1, lr2_14 hl1, lr2_15 hl1, lr2_16 hl1, lr2_17 hl1, lr2_18 hl1, lk3 hl1, lr3_0 hl1, lk4 hl1, ll4 hl1, lk5 hl1, lr5_0 hl1, lr5_2 hl1, lr5_3 hl1, lr5_4 hl1, lk6 hl1, ll6 hl1, lk7 hl1, ll7 hl1, lk8 hl1, lr8_0 hl1, lk9 hl1, ll9 hl1, lk10 hl1, ll10 hl1, lk11 hl1, ll11 hl1, lk12 hl1, lr12_0 hl1, lk13 hl1, ll13 hl1, lk14 hl1, lr14_2 hl1, lr14_3 hl1, lr14_4 hl1, lr14_5 hl1, lr14_6 hl1, lr14_7 hl1, lr14_9 hl1, lr14_10 hl1, lk15 hl1, ll15 hl1, lk16 hl1, ll16 hl1, lk17 hl1, ll17 hl1, lk18 hl1, ll18 hl1, lk19 hl1, ll19 hl1, lk20 hl1, ll20 hl1, lk21 hl1, ll21 hl1, lk22 hl1, lr22_0 hl1, lk23 hl1, ll23 hl1, lk24 hl1, lr24_2 hl1, lr24_3 hl1, lr24_4 hl1, lr24_5 hl1, lr24_6 hl1, lr24_7 hl1, lr24_9 hl1, lr24_10 hl1, lk25 hl1, ll25 hl1, lk26 hl1, ll26 hl1, lk27 hl1, ll27 hl1, lk28 hl1, ll28 hl1, lk29 hl1, ll29 hl1, lk30 hl1, ll30 hl1, lk31 hl1, ll31 hl1, lk32 hl1, lr32_1 hl1, lk33 hl1, ll33 hl1, lk34 hl1, lr34_0 hl1, lk35 hl1, ll35 hl1, lk36 hl1, lr36_0 hl1, lk37 hl1, ll37 hl1, lk38 hl1, lr38_0 hl1, lk39 hl1, ll39 hl1, lk40 hl1, ll40 hl1, lk41 hl1, lk42 hl1, lr42_0 hl1, lr42_1 hl1, lr42_2 hl1, lr42_3 hl1, lk43 hl1, ll43 hl1, lk44 hl1, ll44 hl1, lk45 hl1, ll45 hl1, lk46 hl1, ll46 hl1, lk47 hl1, lr47_1 hl1, lk48 hl1, ll48 hl1]
      refine fun _ => ⟨fun c => kk w1 j hf (fun r r0 r1 => ?_), fun c => absurd c (by omega)⟩
      have q := g r r0 r1
      rw [e64, cn_0 _ (Int.le_refl _)] at q
      omega
    | succ n ih =>
      intro x j w1 hf x0 x1 hW j0 j1 g kk
      obtain ⟨hl1, hS1, he1, hV1⟩ := fr w1 hf
      have nb := co_n_bd V x
      have h8 := hW.1
      obtain ⟨a1, a2⟩ := hW.2 j j0 (by omega)
      have rbd := rb_bd hv (sl_a V x) j
      have fj := co_f_bd hv x0 j
      have fj1 := co_f_bd hv x0 (j + 1)
      have mo := co_f_mo hv hn x0 j
      have q := g _ rbd.1 (by omega)
      have cb := cn_bd (co_p V x (rb V (sl_a V x) j)) fj.2.1
      have sb := su_bd (f := co_c V (rb V (sl_a V x) j)) (B := 64) (63 - x).toNat (x + 1) (fun x _ _ => co_c_bd V _ x)
      have pb := pts_bd V (rb V (sl_a V x) j)
      rw [g105_23]
      simp only [g105_0, g105_0r, g105_1, g105_4, g105_5, g105_8, g105_9, g105_10, g105_11, g105_13, g105_16, g105_16r, g105_17, g105_18, g105_21, g105_22, g105_24, g105_24r, g105_25, g105_28, g105_31, g105_31r, g105_32, g105_35, g105_35r, g105_36, g105_39, g105_40, g105_41, g105_42, g105_43, g105_43r, g105_44, g105_45, g105_48, g105_48r, g105_49, g105_52, g105_53, g105_54, g105_55, g105_56, g105_57, g105_60, g105_66, g105_69, g105_69r, g105_70, g105_73 (st := []), g105_73r, g105_73n, z_kl_i, z_kl_l, z_kl_r, z_kl_n, z_kl_x, z_kl_vr, z_c8_0, z_c8_i, z_c8_l, z_c8_r, z_c8_vr, z_c8_n, z_vr_some, z_vr_none, Option.toList_some, Option.toList_none, List.cons_append, List.nil_append, true_and, and_true, and_self, z_k_sI, z_len_sI, z_R_sI, z_N_sI, z_set_0, z_set_1, z_set_s, eq_self, true_implies, false_implies, not_true_eq_false, not_false_eq_true, ne_eq, true_or, or_true, false_or, or_false, false_and, and_false, Int.reduceNeg, Int.reduceEq, Int.reduceNe, Int.reduceLT, Int.reduceLE, Nat.reduceLeDiff, Nat.reduceEqDiff, Nat.reduceSub, Nat.reduceAdd, reduceCtorEq, reduceIte, implies_true, List.reverse_nil, lk1 hl1, ll1 hl1, lk2 hl1, lr2_0 hl1, lr2_1 hl1, lr2_2 hl1, lr2_3 hl1, lr2_6 hl1, lr2_7 hl1, lr2_8 hl1, lr2_9 hl1, lr2_10 hl1, lr2_11 hl1, lr2_13 hl1, lr2_14 hl1, lr2_15 hl1, lr2_16 hl1, lr2_17 hl1, lr2_18 hl1, lk3 hl1, lr3_0 hl1, lk4 hl1, ll4 hl1, lk5 hl1, lr5_0 hl1, lr5_2 hl1, lr5_3 hl1, lr5_4 hl1, lk6 hl1, ll6 hl1, lk7 hl1, ll7 hl1, lk8 hl1, lr8_0 hl1, lk9 hl1, ll9 hl1, lk10 hl1, ll10 hl1, lk11 hl1, ll11 hl1, lk12 hl1, lr12_0 hl1, lk13 hl1, ll13 hl1, lk14 hl1, lr14_2 hl1, lr14_3 hl1, lr14_4 hl1, lr14_5 hl1, lr14_6 hl1, lr14_7 hl1, lr14_9 hl1, lr14_10 hl1, lk15 hl1, ll15 hl1, lk16 hl1, ll16 hl1, lk17 hl1, ll17 hl1, lk18 hl1, ll18 hl1, lk19 hl1, ll19 hl1, lk20 hl1, ll20 hl1, lk21 hl1, ll21 hl1, lk22 hl1, lr22_0 hl1, lk23 hl1, ll23 hl1, lk24 hl1, lr24_2 hl1, lr24_3 hl1, lr24_4 hl1, lr24_5 hl1, lr24_6 hl1, lr24_7 hl1, lr24_9 hl1, lr24_10 hl1, lk25 hl1, ll25 hl1, lk26 hl1, ll26 hl1, lk27 hl1, ll27 hl1, lk28 hl1, ll28 hl1, lk29 hl1, ll29 hl1, lk30 hl1, ll30 hl1, lk31 hl1, ll31 hl1, lk32 hl1, lr32_1 hl1, lk33 hl1, ll33 hl1, lk34 hl1, lr34_0 hl1, lk35 hl1, ll35 hl1, lk36 hl1, lr36_0 hl1, lk37 hl1, ll37 hl1, lk38 hl1, lr38_0 hl1, lk39 hl1, ll39 hl1, lk40 hl1, ll40 hl1, lk41 hl1, lk42 hl1, lr42_0 hl1, lr42_1 hl1, lr42_2 hl1, lr42_3 hl1, lk43 hl1, ll43 hl1, lk44 hl1, ll44 hl1, lk45 hl1, ll45 hl1, lk46 hl1, ll46 hl1, lk47 hl1, lr47_1 hl1, lk48 hl1, ll48 hl1, h8, a1, a2]
      refine fun _ => ⟨fun c => absurd c (by omega), fun c => ?_⟩
      refine ⟨by omega, by omega, fun _ => ⟨by omega, by omega, fun _ => ?_⟩⟩
      refine xs_partTo14 hl1 hW _ j0 (by omega) ?_
      simp only [g105_0, g105_0r, g105_1, g105_4, g105_5, g105_8, g105_9, g105_10, g105_11, g105_13, g105_16, g105_16r, g105_17, g105_18, g105_21, g105_22, g105_24, g105_24r, g105_25, g105_28, g105_31, g105_31r, g105_32, g105_35, g105_35r, g105_36, g105_39, g105_40, g105_41, g105_42, g105_43, g105_43r, g105_44, g105_45, g105_48, g105_48r, g105_49, g105_52, g105_53, g105_54, g105_55, g105_56, g105_57, g105_60, g105_66, g105_69, g105_69r, g105_70, g105_73 (st := []), g105_73r, g105_73n, z_kl_i, z_kl_l, z_kl_r, z_kl_n, z_kl_x, z_kl_vr, z_c8_0, z_c8_i, z_c8_l, z_c8_r, z_c8_vr, z_c8_n, z_vr_some, z_vr_none, Option.toList_some, Option.toList_none, List.cons_append, List.nil_append, true_and, and_true, and_self, z_k_sI, z_len_sI, z_R_sI, z_N_sI, z_set_0, z_set_1, z_set_s, eq_self, true_implies, false_implies, not_true_eq_false, not_false_eq_true, ne_eq, true_or, or_true, false_or, or_false, false_and, and_false, Int.reduceNeg, Int.reduceEq, Int.reduceNe, Int.reduceLT, Int.reduceLE, Nat.reduceLeDiff, Nat.reduceEqDiff, Nat.reduceSub, Nat.reduceAdd, reduceCtorEq, reduceIte, implies_true, List.reverse_nil, lk1 hl1, ll1 hl1, lk2 hl1, lr2_0 hl1, lr2_1 hl1, lr2_2 hl1, lr2_3 hl1, lr2_6 hl1, lr2_7 hl1, lr2_8 hl1, lr2_9 hl1, lr2_10 hl1, lr2_11 hl1, lr2_13 hl1, lr2_14 hl1, lr2_15 hl1, lr2_16 hl1, lr2_17 hl1, lr2_18 hl1, lk3 hl1, lr3_0 hl1, lk4 hl1, ll4 hl1, lk5 hl1, lr5_0 hl1, lr5_2 hl1, lr5_3 hl1, lr5_4 hl1, lk6 hl1, ll6 hl1, lk7 hl1, ll7 hl1, lk8 hl1, lr8_0 hl1, lk9 hl1, ll9 hl1, lk10 hl1, ll10 hl1, lk11 hl1, ll11 hl1, lk12 hl1, lr12_0 hl1, lk13 hl1, ll13 hl1, lk14 hl1, lr14_2 hl1, lr14_3 hl1, lr14_4 hl1, lr14_5 hl1, lr14_6 hl1, lr14_7 hl1, lr14_9 hl1, lr14_10 hl1, lk15 hl1, ll15 hl1, lk16 hl1, ll16 hl1, lk17 hl1, ll17 hl1, lk18 hl1, ll18 hl1, lk19 hl1, ll19 hl1, lk20 hl1, ll20 hl1, lk21 hl1, ll21 hl1, lk22 hl1, lr22_0 hl1, lk23 hl1, ll23 hl1, lk24 hl1, lr24_2 hl1, lr24_3 hl1, lr24_4 hl1, lr24_5 hl1, lr24_6 hl1, lr24_7 hl1, lr24_9 hl1, lr24_10 hl1, lk25 hl1, ll25 hl1, lk26 hl1, ll26 hl1, lk27 hl1, ll27 hl1, lk28 hl1, ll28 hl1, lk29 hl1, ll29 hl1, lk30 hl1, ll30 hl1, lk31 hl1, ll31 hl1, lk32 hl1, lr32_1 hl1, lk33 hl1, ll33 hl1, lk34 hl1, lr34_0 hl1, lk35 hl1, ll35 hl1, lk36 hl1, lr36_0 hl1, lk37 hl1, ll37 hl1, lk38 hl1, lr38_0 hl1, lk39 hl1, ll39 hl1, lk40 hl1, ll40 hl1, lk41 hl1, lk42 hl1, lr42_0 hl1, lr42_1 hl1, lr42_2 hl1, lr42_3 hl1, lk43 hl1, ll43 hl1, lk44 hl1, ll44 hl1, lk45 hl1, ll45 hl1, lk46 hl1, ll46 hl1, lk47 hl1, lr47_1 hl1, lk48 hl1, ll48 hl1, a1]
      refine ⟨by omega, by omega, fun _ => ⟨by omega, by omega, ?_⟩⟩
      rw [z_add_eq (a := j) (by omega) (by omega), z_sub_eq (by omega) (by omega), z_add_eq (by omega) (by omega)]
      refine ih x (j + 1) _ (z_fr_sI hf (by decide)) x0 x1 ?_ (by omega) (by omega) (fun r r0 r1 => ?_) kk
      · exact ⟨(z_I_np (by decide)).trans hW.1, fun q q0 q1 => ⟨(z_I_np (by decide)).trans (hW.2 q q0 q1).1, (z_I_np (by decide)).trans (hW.2 q q0 q1).2⟩⟩
      · have q2 := g r r0 r1
        rw [cn_sp (co_p V x r) mo fj1.2.1, co_in hv hn x0 j0 (by omega) r (Int.le_refl _) (Int.le_refl _) mo] at q2
        by_cases c2 : r = rb V (sl_a V x) j
        · rw [z_I_at c2]
          rw [if_pos c2.symm, c2] at q2
          rw [c2]
          omega
        · rw [z_I_ne c2]
          rw [if_neg (fun z => c2 z.symm)] at q2
          omega
  have l1 : ∀ (n : Nat) (x : Int) (v : z_V) (w1 : z_W), z_kl v = v → z_fr [18, 19, 20] [(14, 8)] w w1 → 0 ≤ x → x + n = 64 → (∀ r, 0 ≤ r → r < 10 → z_I w1 20 r + su (co_c V r) n x = pts V r) → z_G (d + 4) u 105 10 [z_r 14, z_i x, v] [] w1 Q := by
    intro n
    induction n with
    | zero =>
      intro x v w1 hkv hf x0 x1 g
      have hl1 := z_fr_lay hf hl
      rw [g105_10]
      simp only [g105_0, g105_0r, g105_1, g105_4, g105_5, g105_8, g105_9, g105_11, g105_13, g105_16, g105_16r, g105_17, g105_18, g105_21, g105_22, g105_24, g105_24r, g105_25, g105_28, g105_31, g105_31r, g105_32, g105_35, g105_35r, g105_36, g105_39, g105_40, g105_41, g105_42, g105_43, g105_43r, g105_44, g105_45, g105_48, g105_48r, g105_49, g105_52, g105_53, g105_54, g105_55, g105_56, g105_57, g105_60, g105_63, g105_66, g105_69, g105_69r, g105_70, g105_73 (st := []), g105_73r, g105_73n, z_kl_i, z_kl_l, z_kl_r, z_kl_n, z_kl_x, z_kl_vr, z_c8_0, z_c8_i, z_c8_l, z_c8_r, z_c8_vr, z_c8_n, z_vr_some, z_vr_none, Option.toList_some, Option.toList_none, List.cons_append, List.nil_append, true_and, and_true, and_self, z_k_sI, z_len_sI, z_R_sI, z_N_sI, z_set_0, z_set_1, z_set_s, eq_self, true_implies, false_implies, not_true_eq_false, not_false_eq_true, ne_eq, true_or, or_true, false_or, or_false, false_and, and_false, Int.reduceNeg, Int.reduceEq, Int.reduceNe, Int.reduceLT, Int.reduceLE, Nat.reduceLeDiff, Nat.reduceEqDiff, Nat.reduceSub, Nat.reduceAdd, reduceCtorEq, reduceIte, implies_true, List.reverse_nil, lk1 hl1, ll1 hl1, lk2 hl1, lr2_0 hl1, lr2_1 hl1, lr2_2 hl1, lr2_3 hl1, lr2_6 hl1, lr2_7 hl1, lr2_8 hl1, lr2_9 hl1, lr2_10 hl1, lr2_11 hl1, lr2_13 hl1, lr2_14 hl1, lr2_15 hl1, lr2_16 hl1, lr2_17 hl1, lr2_18 hl1, lk3 hl1, lr3_0 hl1, lk4 hl1, ll4 hl1, lk5 hl1, lr5_0 hl1, lr5_2 hl1, lr5_3 hl1, lr5_4 hl1, lk6 hl1, ll6 hl1, lk7 hl1, ll7 hl1, lk8 hl1, lr8_0 hl1, lk9 hl1, ll9 hl1, lk10 hl1, ll10 hl1, lk11 hl1, ll11 hl1, lk12 hl1, lr12_0 hl1, lk13 hl1, ll13 hl1, lk14 hl1, lr14_2 hl1, lr14_3 hl1, lr14_4 hl1, lr14_5 hl1, lr14_6 hl1, lr14_7 hl1, lr14_9 hl1, lr14_10 hl1, lk15 hl1, ll15 hl1, lk16 hl1, ll16 hl1, lk17 hl1, ll17 hl1, lk18 hl1, ll18 hl1, lk19 hl1, ll19 hl1, lk20 hl1, ll20 hl1, lk21 hl1, ll21 hl1, lk22 hl1, lr22_0 hl1, lk23 hl1, ll23 hl1, lk24 hl1, lr24_2 hl1, lr24_3 hl1, lr24_4 hl1, lr24_5 hl1, lr24_6 hl1, lr24_7 hl1, lr24_9 hl1, lr24_10 hl1, lk25 hl1, ll25 hl1, lk26 hl1, ll26 hl1, lk27 hl1, ll27 hl1, lk28 hl1, ll28 hl1, lk29 hl1, ll29 hl1, lk30 hl1, ll30 hl1, lk31 hl1, ll31 hl1, lk32 hl1, lr32_1 hl1, lk33 hl1, ll33 hl1, lk34 hl1, lr34_0 hl1, lk35 hl1, ll35 hl1, lk36 hl1, lr36_0 hl1, lk37 hl1, ll37 hl1, lk38 hl1, lr38_0 hl1, lk39 hl1, ll39 hl1, lk40 hl1, ll40 hl1, lk41 hl1, lk42 hl1, lr42_0 hl1, lr42_1 hl1, lr42_2 hl1, lr42_3 hl1, lk43 hl1, ll43 hl1, lk44 hl1, ll44 hl1, lk45 hl1, ll45 hl1, lk46 hl1, ll46 hl1, lk47 hl1, lr47_1 hl1, lk48 hl1, ll48 hl1]
      refine ⟨fun _ => k w1 hf (fun r r0 r1 => ?_), fun c => absurd c (by omega)⟩
      have q := g r r0 r1
      rw [su] at q
      omega
    | succ n ih =>
      intro x v w1 hkv hf x0 x1 g
      obtain ⟨hl1, hS1, he1, hV1⟩ := fr w1 hf
      rw [g105_10]
      simp only [g105_0, g105_0r, g105_1, g105_4, g105_5, g105_8, g105_9, g105_11, g105_13, g105_16, g105_16r, g105_17, g105_18, g105_21, g105_22, g105_24, g105_24r, g105_25, g105_28, g105_31, g105_31r, g105_32, g105_35, g105_35r, g105_36, g105_39, g105_40, g105_41, g105_42, g105_43, g105_43r, g105_44, g105_45, g105_48, g105_48r, g105_49, g105_52, g105_53, g105_54, g105_55, g105_56, g105_57, g105_60, g105_63, g105_66, g105_69, g105_69r, g105_70, g105_73 (st := []), g105_73r, g105_73n, z_kl_i, z_kl_l, z_kl_r, z_kl_n, z_kl_x, z_kl_vr, z_c8_0, z_c8_i, z_c8_l, z_c8_r, z_c8_vr, z_c8_n, z_vr_some, z_vr_none, Option.toList_some, Option.toList_none, List.cons_append, List.nil_append, true_and, and_true, and_self, z_k_sI, z_len_sI, z_R_sI, z_N_sI, z_set_0, z_set_1, z_set_s, eq_self, true_implies, false_implies, not_true_eq_false, not_false_eq_true, ne_eq, true_or, or_true, false_or, or_false, false_and, and_false, Int.reduceNeg, Int.reduceEq, Int.reduceNe, Int.reduceLT, Int.reduceLE, Nat.reduceLeDiff, Nat.reduceEqDiff, Nat.reduceSub, Nat.reduceAdd, reduceCtorEq, reduceIte, implies_true, List.reverse_nil, lk1 hl1, ll1 hl1, lk2 hl1, lr2_0 hl1, lr2_1 hl1, lr2_2 hl1, lr2_3 hl1, lr2_6 hl1, lr2_7 hl1, lr2_8 hl1, lr2_9 hl1, lr2_10 hl1, lr2_11 hl1, lr2_13 hl1, lr2_14 hl1, lr2_15 hl1, lr2_16 hl1, lr2_17 hl1, lr2_18 hl1, lk3 hl1, lr3_0 hl1, lk4 hl1, ll4 hl1, lk5 hl1, lr5_0 hl1, lr5_2 hl1, lr5_3 hl1, lr5_4 hl1, lk6 hl1, ll6 hl1, lk7 hl1, ll7 hl1, lk8 hl1, lr8_0 hl1, lk9 hl1, ll9 hl1, lk10 hl1, ll10 hl1, lk11 hl1, ll11 hl1, lk12 hl1, lr12_0 hl1, lk13 hl1, ll13 hl1, lk14 hl1, lr14_2 hl1, lr14_3 hl1, lr14_4 hl1, lr14_5 hl1, lr14_6 hl1, lr14_7 hl1, lr14_9 hl1, lr14_10 hl1, lk15 hl1, ll15 hl1, lk16 hl1, ll16 hl1, lk17 hl1, ll17 hl1, lk18 hl1, ll18 hl1, lk19 hl1, ll19 hl1, lk20 hl1, ll20 hl1, lk21 hl1, ll21 hl1, lk22 hl1, lr22_0 hl1, lk23 hl1, ll23 hl1, lk24 hl1, lr24_2 hl1, lr24_3 hl1, lr24_4 hl1, lr24_5 hl1, lr24_6 hl1, lr24_7 hl1, lr24_9 hl1, lr24_10 hl1, lk25 hl1, ll25 hl1, lk26 hl1, ll26 hl1, lk27 hl1, ll27 hl1, lk28 hl1, ll28 hl1, lk29 hl1, ll29 hl1, lk30 hl1, ll30 hl1, lk31 hl1, ll31 hl1, lk32 hl1, lr32_1 hl1, lk33 hl1, ll33 hl1, lk34 hl1, lr34_0 hl1, lk35 hl1, ll35 hl1, lk36 hl1, lr36_0 hl1, lk37 hl1, ll37 hl1, lk38 hl1, lr38_0 hl1, lk39 hl1, ll39 hl1, lk40 hl1, ll40 hl1, lk41 hl1, lk42 hl1, lr42_0 hl1, lr42_1 hl1, lr42_2 hl1, lr42_3 hl1, lk43 hl1, ll43 hl1, lk44 hl1, ll44 hl1, lk45 hl1, ll45 hl1, lk46 hl1, ll46 hl1, lk47 hl1, lr47_1 hl1, lk48 hl1, ll48 hl1, hkv]
      refine ⟨fun c => absurd c (by omega), fun c => ?_⟩
      refine xs_cutColumn14 hl1 hS1 hv he1 hV1 x x0 (by omega) (fun w2 g1 g2 => ?_)
      simp only [g105_0, g105_0r, g105_1, g105_4, g105_5, g105_8, g105_9, g105_11, g105_13, g105_16, g105_16r, g105_17, g105_18, g105_21, g105_22, g105_24, g105_24r, g105_25, g105_28, g105_31, g105_31r, g105_32, g105_35, g105_35r, g105_36, g105_39, g105_40, g105_41, g105_42, g105_43, g105_43r, g105_44, g105_45, g105_48, g105_48r, g105_49, g105_52, g105_53, g105_54, g105_55, g105_56, g105_57, g105_60, g105_63, g105_66, g105_69, g105_69r, g105_70, g105_73 (st := []), g105_73r, g105_73n, z_kl_i, z_kl_l, z_kl_r, z_kl_n, z_kl_x, z_kl_vr, z_c8_0, z_c8_i, z_c8_l, z_c8_r, z_c8_vr, z_c8_n, z_vr_some, z_vr_none, Option.toList_some, Option.toList_none, List.cons_append, List.nil_append, true_and, and_true, and_self, z_k_sI, z_len_sI, z_R_sI, z_N_sI, z_set_0, z_set_1, z_set_s, eq_self, true_implies, false_implies, not_true_eq_false, not_false_eq_true, ne_eq, true_or, or_true, false_or, or_false, false_and, and_false, Int.reduceNeg, Int.reduceEq, Int.reduceNe, Int.reduceLT, Int.reduceLE, Nat.reduceLeDiff, Nat.reduceEqDiff, Nat.reduceSub, Nat.reduceAdd, reduceCtorEq, reduceIte, implies_true, List.reverse_nil, hkv]
      have hf2 := z_fr_tr hf (z_fr_mo g1 (by decide) (by decide) : z_fr [18, 19, 20] [(14, 8)] w1 w2)
      have en : (63 - x).toNat = n := by omega
      refine l2 (co_n V x + 1).toNat x 0 w2 hf2 x0 (by omega) g2 (by omega) (by have := co_n_bd V x; omega) (fun r r0 r1 => ?_) (fun w3 j g3 g4 => ?_)
      · have q := g r r0 r1
        rw [su] at q
        rw [g1.2 20 r (by decide) (by simp), en]
        replace q : z_I w1 20 r + (cn (co_p V x r) 0 64 + su (co_c V r) n (x + 1)) = pts V r := q
        rw [show co_f V x 0 = 0 from if_pos (Int.le_refl 0)]
        omega
      · rw [en] at g4
        simp only [g105_0, g105_0r, g105_1, g105_4, g105_5, g105_8, g105_9, g105_11, g105_13, g105_16, g105_16r, g105_17, g105_18, g105_21, g105_22, g105_24, g105_24r, g105_25, g105_28, g105_31, g105_31r, g105_32, g105_35, g105_35r, g105_36, g105_39, g105_40, g105_41, g105_42, g105_43, g105_43r, g105_44, g105_45, g105_48, g105_48r, g105_49, g105_52, g105_53, g105_54, g105_55, g105_56, g105_57, g105_60, g105_63, g105_66, g105_69, g105_69r, g105_70, g105_73 (st := []), g105_73r, g105_73n, z_kl_i, z_kl_l, z_kl_r, z_kl_n, z_kl_x, z_kl_vr, z_c8_0, z_c8_i, z_c8_l, z_c8_r, z_c8_vr, z_c8_n, z_vr_some, z_vr_none, Option.toList_some, Option.toList_none, List.cons_append, List.nil_append, true_and, and_true, and_self, z_k_sI, z_len_sI, z_R_sI, z_N_sI, z_set_0, z_set_1, z_set_s, eq_self, true_implies, false_implies, not_true_eq_false, not_false_eq_true, ne_eq, true_or, or_true, false_or, or_false, false_and, and_false, Int.reduceNeg, Int.reduceEq, Int.reduceNe, Int.reduceLT, Int.reduceLE, Nat.reduceLeDiff, Nat.reduceEqDiff, Nat.reduceSub, Nat.reduceAdd, reduceCtorEq, reduceIte, implies_true, List.reverse_nil]
        rw [z_add_eq (by omega) (by omega)]
        exact ih _ _ w3 rfl g3 (by omega) (by omega) g4
  simp only [g105_0, g105_0r, g105_1, g105_4, g105_5, g105_8, g105_9, g105_11, g105_13, g105_16, g105_16r, g105_17, g105_18, g105_21, g105_22, g105_24, g105_24r, g105_25, g105_28, g105_31, g105_31r, g105_32, g105_35, g105_35r, g105_36, g105_39, g105_40, g105_41, g105_42, g105_43, g105_43r, g105_44, g105_45, g105_48, g105_48r, g105_49, g105_52, g105_53, g105_54, g105_55, g105_56, g105_57, g105_60, g105_63, g105_66, g105_69, g105_69r, g105_70, g105_73 (st := []), g105_73r, g105_73n, z_kl_i, z_kl_l, z_kl_r, z_kl_n, z_kl_x, z_kl_vr, z_c8_0, z_c8_i, z_c8_l, z_c8_r, z_c8_vr, z_c8_n, z_vr_some, z_vr_none, Option.toList_some, Option.toList_none, List.cons_append, List.nil_append, true_and, and_true, and_self, z_k_sI, z_len_sI, z_R_sI, z_N_sI, z_set_0, z_set_1, z_set_s, eq_self, true_implies, false_implies, not_true_eq_false, not_false_eq_true, ne_eq, true_or, or_true, false_or, or_false, false_and, and_false, Int.reduceNeg, Int.reduceEq, Int.reduceNe, Int.reduceLT, Int.reduceLE, Nat.reduceLeDiff, Nat.reduceEqDiff, Nat.reduceSub, Nat.reduceAdd, reduceCtorEq, reduceIte, implies_true, List.reverse_nil, lk1 hl, ll1 hl, lk2 hl, lr2_0 hl, lr2_1 hl, lr2_2 hl, lr2_3 hl, lr2_6 hl, lr2_7 hl, lr2_8 hl, lr2_9 hl, lr2_10 hl, lr2_11 hl, lr2_13 hl, lr2_14 hl, lr2_15 hl, lr2_16 hl, lr2_17 hl, lr2_18 hl, lk3 hl, lr3_0 hl, lk4 hl, ll4 hl, lk5 hl, lr5_0 hl, lr5_2 hl, lr5_3 hl, lr5_4 hl, lk6 hl, ll6 hl, lk7 hl, ll7 hl, lk8 hl, lr8_0 hl, lk9 hl, ll9 hl, lk10 hl, ll10 hl, lk11 hl, ll11 hl, lk12 hl, lr12_0 hl, lk13 hl, ll13 hl, lk14 hl, lr14_2 hl, lr14_3 hl, lr14_4 hl, lr14_5 hl, lr14_6 hl, lr14_7 hl, lr14_9 hl, lr14_10 hl, lk15 hl, ll15 hl, lk16 hl, ll16 hl, lk17 hl, ll17 hl, lk18 hl, ll18 hl, lk19 hl, ll19 hl, lk20 hl, ll20 hl, lk21 hl, ll21 hl, lk22 hl, lr22_0 hl, lk23 hl, ll23 hl, lk24 hl, lr24_2 hl, lr24_3 hl, lr24_4 hl, lr24_5 hl, lr24_6 hl, lr24_7 hl, lr24_9 hl, lr24_10 hl, lk25 hl, ll25 hl, lk26 hl, ll26 hl, lk27 hl, ll27 hl, lk28 hl, ll28 hl, lk29 hl, ll29 hl, lk30 hl, ll30 hl, lk31 hl, ll31 hl, lk32 hl, lr32_1 hl, lk33 hl, ll33 hl, lk34 hl, lr34_0 hl, lk35 hl, ll35 hl, lk36 hl, lr36_0 hl, lk37 hl, ll37 hl, lk38 hl, lr38_0 hl, lk39 hl, ll39 hl, lk40 hl, ll40 hl, lk41 hl, lk42 hl, lr42_0 hl, lr42_1 hl, lr42_2 hl, lr42_3 hl, lk43 hl, ll43 hl, lk44 hl, ll44 hl, lk45 hl, ll45 hl, lk46 hl, ll46 hl, lk47 hl, lr47_1 hl, lk48 hl, ll48 hl]
  refine c_fill 20 _ 10 (lk20 hl) (ll20 hl) (by omega) (fun w1 g1 g2 => ?_)
  simp only [g105_0, g105_0r, g105_1, g105_4, g105_5, g105_8, g105_9, g105_11, g105_13, g105_16, g105_16r, g105_17, g105_18, g105_21, g105_22, g105_24, g105_24r, g105_25, g105_28, g105_31, g105_31r, g105_32, g105_35, g105_35r, g105_36, g105_39, g105_40, g105_41, g105_42, g105_43, g105_43r, g105_44, g105_45, g105_48, g105_48r, g105_49, g105_52, g105_53, g105_54, g105_55, g105_56, g105_57, g105_60, g105_63, g105_66, g105_69, g105_69r, g105_70, g105_73 (st := []), g105_73r, g105_73n, z_kl_i, z_kl_l, z_kl_r, z_kl_n, z_kl_x, z_kl_vr, z_c8_0, z_c8_i, z_c8_l, z_c8_r, z_c8_vr, z_c8_n, z_vr_some, z_vr_none, Option.toList_some, Option.toList_none, List.cons_append, List.nil_append, true_and, and_true, and_self, z_k_sI, z_len_sI, z_R_sI, z_N_sI, z_set_0, z_set_1, z_set_s, eq_self, true_implies, false_implies, not_true_eq_false, not_false_eq_true, ne_eq, true_or, or_true, false_or, or_false, false_and, and_false, Int.reduceNeg, Int.reduceEq, Int.reduceNe, Int.reduceLT, Int.reduceLE, Nat.reduceLeDiff, Nat.reduceEqDiff, Nat.reduceSub, Nat.reduceAdd, reduceCtorEq, reduceIte, implies_true, List.reverse_nil]
  refine l1 64 0 _ w1 rfl (z_fr_mo g1 (by decide) (by decide)) (by omega) (by omega) (fun r r0 r1 => ?_)
  rw [g2 r r0 r1, Int.zero_add]
  rfl
set_option maxRecDepth 20000 in
theorem xs_pointsIn14 {d u w} {Q : z_P} (hl : z_lay w) {V : pu_V} (hv : pu_ok V) (hn : pu_nc V) {x : Int} (x0 : 0 ≤ x) (hW : co_W (z_I w 14 8) (z_I w 18) (z_I w 19) V x) (F T r : Int) (F0 : 0 ≤ F) (FT : F ≤ T) (T1 : T ≤ 64) (k : Q (some (z_i (cn (co_p V x r) F T))) w) : z_G (d + 1) u 109 0 [z_r 14, z_i F, z_i T, z_i r, z_x, z_x] [] w Q := by
  have h8 := hW.1
  have nb := co_n_bd V x
  have tb := cn_bd (co_p V x r) FT
  have loop : ∀ (n : Nat) (t j : Int), 0 ≤ j → j + n = co_n V x + 1 → 0 ≤ t → t + cn (co_p V x r) (z_max F (co_f V x j)) T = cn (co_p V x r) F T → z_G (d + 1) u 109 6 [z_r 14, z_i F, z_i T, z_i r, z_i t, z_i j] [] w Q := by
    intro n
    induction n with
    | zero =>
      intro t j j0 j1 t0 g
      have e64 : co_f V x j = 64 := by
        unfold co_f
        rw [if_neg (by omega), if_neg (by omega)]
      have mb := z_max_bd F (co_f V x j)
      rw [cn_0 _ (show T ≤ z_max F (co_f V x j) by omega), Int.add_zero] at g
      rw [← g] at k
      rw [g109_6]
      simp only [g109_0, g109_1, g109_3, g109_4, g109_8, g109_8r, g109_9, g109_12, g109_15, g109_15r, g109_16, g109_19, g109_21, g109_22, g109_23, g109_26, g109_28, g109_29, g109_30, g109_30r, g109_31, g109_33, g109_36, g109_39, g109_40, g109_40r, g109_41, g109_44, g109_46, g109_47, g109_50, g109_51, g109_54, g109_55, g109_57, g109_60, g109_63, g109_65 (st := []), z_kl_i, z_kl_l, z_kl_r, z_kl_n, z_kl_x, z_kl_vr, z_c8_0, z_c8_i, z_c8_l, z_c8_r, z_c8_vr, z_c8_n, z_vr_some, z_vr_none, Option.toList_some, Option.toList_none, List.cons_append, List.nil_append, true_and, and_true, and_self, z_k_sI, z_len_sI, z_R_sI, z_N_sI, z_set_0, z_set_1, z_set_s, eq_self, true_implies, false_implies, not_true_eq_false, not_false_eq_true, ne_eq, true_or, or_true, false_or, or_false, false_and, and_false, Int.reduceNeg, Int.reduceEq, Int.reduceNe, Int.reduceLT, Int.reduceLE, Nat.reduceLeDiff, Nat.reduceEqDiff, Nat.reduceSub, Nat.reduceAdd, reduceCtorEq, reduceIte, implies_true, List.reverse_nil, lk1 hl, ll1 hl, lk2 hl, lr2_0 hl, lr2_1 hl, lr2_2 hl, lr2_3 hl, lr2_6 hl, lr2_7 hl, lr2_8 hl, lr2_9 hl, lr2_10 hl, lr2_11 hl, lr2_13 hl, lr2_14 hl, lr2_15 hl, lr2_16 hl, lr2_17 hl, lr2_18 hl, lk3 hl, lr3_0 hl, lk4 hl, ll4 hl, lk5 hl, lr5_0 hl, lr5_2 hl, lr5_3 hl, lr5_4 hl, lk6 hl, ll6 hl, lk7 hl, ll7 hl, lk8 hl, lr8_0 hl, lk9 hl, ll9 hl, lk10 hl, ll10 hl, lk11 hl, ll11 hl, lk12 hl, lr12_0 hl, lk13 hl, ll13 hl, lk14 hl, lr14_2 hl, lr14_3 hl, lr14_4 hl, lr14_5 hl, lr14_6 hl, lr14_7 hl, lr14_9 hl, lr14_10 hl, lk15 hl, ll15 hl, lk16 hl, ll16 hl, lk17 hl, ll17 hl, lk18 hl, ll18 hl, lk19 hl, ll19 hl, lk20 hl, ll20 hl, lk21 hl, ll21 hl, lk22 hl, lr22_0 hl, lk23 hl, ll23 hl, lk24 hl, lr24_2 hl, lr24_3 hl, lr24_4 hl, lr24_5 hl, lr24_6 hl, lr24_7 hl, lr24_9 hl, lr24_10 hl, lk25 hl, ll25 hl, lk26 hl, ll26 hl, lk27 hl, ll27 hl, lk28 hl, ll28 hl, lk29 hl, ll29 hl, lk30 hl, ll30 hl, lk31 hl, ll31 hl, lk32 hl, lr32_1 hl, lk33 hl, ll33 hl, lk34 hl, lr34_0 hl, lk35 hl, ll35 hl, lk36 hl, lr36_0 hl, lk37 hl, ll37 hl, lk38 hl, lr38_0 hl, lk39 hl, ll39 hl, lk40 hl, ll40 hl, lk41 hl, lk42 hl, lr42_0 hl, lr42_1 hl, lr42_2 hl, lr42_3 hl, lk43 hl, ll43 hl, lk44 hl, ll44 hl, lk45 hl, ll45 hl, lk46 hl, ll46 hl, lk47 hl, lr47_1 hl, lk48 hl, ll48 hl]
      exact fun _ => ⟨fun _ => k, fun c => absurd c (by omega)⟩
    | succ n ih =>
      intro t j j0 j1 t0 g
      obtain ⟨a1, a2⟩ := hW.2 j j0 (by omega)
      have fj := co_f_bd hv x0 j
      have fj1 := co_f_bd hv x0 (j + 1)
      have st := co_st hv hn x0 j0 (show j ≤ co_n V x by omega) r F T
      have mb := z_max_bd F (co_f V x j)
      have mb1 := z_max_bd F (co_f V x (j + 1))
      have mc := z_max_bd 0 (z_min T (co_f V x (j + 1)) - z_max F (co_f V x j))
      have mm : (z_min T (co_f V x (j + 1)) = T ∨ z_min T (co_f V x (j + 1)) = co_f V x (j + 1)) := by
        unfold z_min
        split <;> omega
      have yes : rb V (sl_a V x) j = r → z_G (d + 1) u 109 6 [z_r 14, z_i F, z_i T, z_i r, z_i (t + z_max 0 (z_min T (co_f V x (j + 1)) - z_max F (co_f V x j))), z_i (j + 1)] [] w Q := fun h => ih _ _ (by omega) (by omega) (by omega) (by rw [if_pos h] at st; omega)
      have no : rb V (sl_a V x) j ≠ r → z_G (d + 1) u 109 6 [z_r 14, z_i F, z_i T, z_i r, z_i t, z_i (j + 1)] [] w Q := fun h => ih _ _ (by omega) (by omega) (by omega) (by rw [if_neg h] at st; omega)
      rw [g109_6]
      simp only [g109_0, g109_1, g109_3, g109_4, g109_8, g109_8r, g109_9, g109_12, g109_15, g109_15r, g109_16, g109_19, g109_21, g109_22, g109_23, g109_26, g109_28, g109_29, g109_30, g109_30r, g109_31, g109_33, g109_36, g109_39, g109_40, g109_40r, g109_41, g109_44, g109_46, g109_47, g109_50, g109_51, g109_54, g109_55, g109_57, g109_60, g109_63, g109_65 (st := []), z_kl_i, z_kl_l, z_kl_r, z_kl_n, z_kl_x, z_kl_vr, z_c8_0, z_c8_i, z_c8_l, z_c8_r, z_c8_vr, z_c8_n, z_vr_some, z_vr_none, Option.toList_some, Option.toList_none, List.cons_append, List.nil_append, true_and, and_true, and_self, z_k_sI, z_len_sI, z_R_sI, z_N_sI, z_set_0, z_set_1, z_set_s, eq_self, true_implies, false_implies, not_true_eq_false, not_false_eq_true, ne_eq, true_or, or_true, false_or, or_false, false_and, and_false, Int.reduceNeg, Int.reduceEq, Int.reduceNe, Int.reduceLT, Int.reduceLE, Nat.reduceLeDiff, Nat.reduceEqDiff, Nat.reduceSub, Nat.reduceAdd, reduceCtorEq, reduceIte, implies_true, List.reverse_nil, lk1 hl, ll1 hl, lk2 hl, lr2_0 hl, lr2_1 hl, lr2_2 hl, lr2_3 hl, lr2_6 hl, lr2_7 hl, lr2_8 hl, lr2_9 hl, lr2_10 hl, lr2_11 hl, lr2_13 hl, lr2_14 hl, lr2_15 hl, lr2_16 hl, lr2_17 hl, lr2_18 hl, lk3 hl, lr3_0 hl, lk4 hl, ll4 hl, lk5 hl, lr5_0 hl, lr5_2 hl, lr5_3 hl, lr5_4 hl, lk6 hl, ll6 hl, lk7 hl, ll7 hl, lk8 hl, lr8_0 hl, lk9 hl, ll9 hl, lk10 hl, ll10 hl, lk11 hl, ll11 hl, lk12 hl, lr12_0 hl, lk13 hl, ll13 hl, lk14 hl, lr14_2 hl, lr14_3 hl, lr14_4 hl, lr14_5 hl, lr14_6 hl, lr14_7 hl, lr14_9 hl, lr14_10 hl, lk15 hl, ll15 hl, lk16 hl, ll16 hl, lk17 hl, ll17 hl, lk18 hl, ll18 hl, lk19 hl, ll19 hl, lk20 hl, ll20 hl, lk21 hl, ll21 hl, lk22 hl, lr22_0 hl, lk23 hl, ll23 hl, lk24 hl, lr24_2 hl, lr24_3 hl, lr24_4 hl, lr24_5 hl, lr24_6 hl, lr24_7 hl, lr24_9 hl, lr24_10 hl, lk25 hl, ll25 hl, lk26 hl, ll26 hl, lk27 hl, ll27 hl, lk28 hl, ll28 hl, lk29 hl, ll29 hl, lk30 hl, ll30 hl, lk31 hl, ll31 hl, lk32 hl, lr32_1 hl, lk33 hl, ll33 hl, lk34 hl, lr34_0 hl, lk35 hl, ll35 hl, lk36 hl, lr36_0 hl, lk37 hl, ll37 hl, lk38 hl, lr38_0 hl, lk39 hl, ll39 hl, lk40 hl, ll40 hl, lk41 hl, lk42 hl, lr42_0 hl, lr42_1 hl, lr42_2 hl, lr42_3 hl, lk43 hl, ll43 hl, lk44 hl, ll44 hl, lk45 hl, ll45 hl, lk46 hl, ll46 hl, lk47 hl, lr47_1 hl, lk48 hl, ll48 hl, h8, a1, a2]
      refine fun _ => ⟨fun c => absurd c (by omega), fun c => ⟨by omega, by omega, fun _ => ⟨fun c2 => ?_, fun c2 => ?_⟩⟩⟩
      · rw [z_add_eq (by omega) (by omega)]
        exact no c2
      · refine xs_partTo14 hl hW _ j0 (by omega) ?_
        simp only [g109_0, g109_1, g109_3, g109_4, g109_8, g109_8r, g109_9, g109_12, g109_15, g109_15r, g109_16, g109_19, g109_21, g109_22, g109_23, g109_26, g109_28, g109_29, g109_30, g109_30r, g109_31, g109_33, g109_36, g109_39, g109_40, g109_40r, g109_41, g109_44, g109_46, g109_47, g109_50, g109_51, g109_54, g109_55, g109_57, g109_60, g109_63, g109_65 (st := []), z_kl_i, z_kl_l, z_kl_r, z_kl_n, z_kl_x, z_kl_vr, z_c8_0, z_c8_i, z_c8_l, z_c8_r, z_c8_vr, z_c8_n, z_vr_some, z_vr_none, Option.toList_some, Option.toList_none, List.cons_append, List.nil_append, true_and, and_true, and_self, z_k_sI, z_len_sI, z_R_sI, z_N_sI, z_set_0, z_set_1, z_set_s, eq_self, true_implies, false_implies, not_true_eq_false, not_false_eq_true, ne_eq, true_or, or_true, false_or, or_false, false_and, and_false, Int.reduceNeg, Int.reduceEq, Int.reduceNe, Int.reduceLT, Int.reduceLE, Nat.reduceLeDiff, Nat.reduceEqDiff, Nat.reduceSub, Nat.reduceAdd, reduceCtorEq, reduceIte, implies_true, List.reverse_nil, lk1 hl, ll1 hl, lk2 hl, lr2_0 hl, lr2_1 hl, lr2_2 hl, lr2_3 hl, lr2_6 hl, lr2_7 hl, lr2_8 hl, lr2_9 hl, lr2_10 hl, lr2_11 hl, lr2_13 hl, lr2_14 hl, lr2_15 hl, lr2_16 hl, lr2_17 hl, lr2_18 hl, lk3 hl, lr3_0 hl, lk4 hl, ll4 hl, lk5 hl, lr5_0 hl, lr5_2 hl, lr5_3 hl, lr5_4 hl, lk6 hl, ll6 hl, lk7 hl, ll7 hl, lk8 hl, lr8_0 hl, lk9 hl, ll9 hl, lk10 hl, ll10 hl, lk11 hl, ll11 hl, lk12 hl, lr12_0 hl, lk13 hl, ll13 hl, lk14 hl, lr14_2 hl, lr14_3 hl, lr14_4 hl, lr14_5 hl, lr14_6 hl, lr14_7 hl, lr14_9 hl, lr14_10 hl, lk15 hl, ll15 hl, lk16 hl, ll16 hl, lk17 hl, ll17 hl, lk18 hl, ll18 hl, lk19 hl, ll19 hl, lk20 hl, ll20 hl, lk21 hl, ll21 hl, lk22 hl, lr22_0 hl, lk23 hl, ll23 hl, lk24 hl, lr24_2 hl, lr24_3 hl, lr24_4 hl, lr24_5 hl, lr24_6 hl, lr24_7 hl, lr24_9 hl, lr24_10 hl, lk25 hl, ll25 hl, lk26 hl, ll26 hl, lk27 hl, ll27 hl, lk28 hl, ll28 hl, lk29 hl, ll29 hl, lk30 hl, ll30 hl, lk31 hl, ll31 hl, lk32 hl, lr32_1 hl, lk33 hl, ll33 hl, lk34 hl, lr34_0 hl, lk35 hl, ll35 hl, lk36 hl, lr36_0 hl, lk37 hl, ll37 hl, lk38 hl, lr38_0 hl, lk39 hl, ll39 hl, lk40 hl, ll40 hl, lk41 hl, lk42 hl, lr42_0 hl, lr42_1 hl, lr42_2 hl, lr42_3 hl, lk43 hl, ll43 hl, lk44 hl, ll44 hl, lk45 hl, ll45 hl, lk46 hl, ll46 hl, lk47 hl, lr47_1 hl, lk48 hl, ll48 hl, a1]
        refine ⟨by omega, by omega, fun _ => ?_⟩
        have bb : cn (co_p V x r) (z_max F (co_f V x (j + 1))) T ≤ 64 ∧ 0 ≤ cn (co_p V x r) (z_max F (co_f V x (j + 1))) T := by
          by_cases q : z_max F (co_f V x (j + 1)) ≤ T
          · have := cn_bd (co_p V x r) q
            omega
          · rw [cn_0 _ (by omega)]
            omega
        have t1 : t ≤ 64 := by
          by_cases q : z_max F (co_f V x j) ≤ T
          · have := cn_bd (co_p V x r) q
            omega
          · rw [cn_0 _ (by omega)] at g
            omega
        rw [z_sub_eq (by omega) (by omega), z_add_eq (a := t) (by omega) (by omega), z_add_eq (by omega) (by omega)]
        exact yes (by omega)
  simp only [g109_0, g109_1, g109_3, g109_4, g109_8, g109_8r, g109_9, g109_12, g109_15, g109_15r, g109_16, g109_19, g109_21, g109_22, g109_23, g109_26, g109_28, g109_29, g109_30, g109_30r, g109_31, g109_33, g109_36, g109_39, g109_40, g109_40r, g109_41, g109_44, g109_46, g109_47, g109_50, g109_51, g109_54, g109_55, g109_57, g109_60, g109_63, g109_65 (st := []), z_kl_i, z_kl_l, z_kl_r, z_kl_n, z_kl_x, z_kl_vr, z_c8_0, z_c8_i, z_c8_l, z_c8_r, z_c8_vr, z_c8_n, z_vr_some, z_vr_none, Option.toList_some, Option.toList_none, List.cons_append, List.nil_append, true_and, and_true, and_self, z_k_sI, z_len_sI, z_R_sI, z_N_sI, z_set_0, z_set_1, z_set_s, eq_self, true_implies, false_implies, not_true_eq_false, not_false_eq_true, ne_eq, true_or, or_true, false_or, or_false, false_and, and_false, Int.reduceNeg, Int.reduceEq, Int.reduceNe, Int.reduceLT, Int.reduceLE, Nat.reduceLeDiff, Nat.reduceEqDiff, Nat.reduceSub, Nat.reduceAdd, reduceCtorEq, reduceIte, implies_true, List.reverse_nil]
  refine loop (co_n V x + 1).toNat 0 0 (by omega) (by omega) (by omega) ?_
  have e0 : co_f V x 0 = 0 := if_pos (Int.le_refl 0)
  have mb := z_max_bd F 0
  rw [e0, Int.zero_add, show z_max F 0 = F by omega]
set_option maxRecDepth 20000 in
theorem xs_firstAbove24 {d u w} {Q : z_P} (hl : z_lay w) {V : pu_V} (hv : pu_ok V) (he : pu_eq (pu_vC (z_I w 23)) V) (e x : Int) (hs : pu_has V e) (x0 : 0 ≤ x) (x1 : x ≤ 63) (h0 : V e 0 ≤ x) (h1 : x ≤ V e 2) (k : Q (some (z_i (fa_y V e x))) w) : z_G (d + 1) u 29 0 [z_r 22, z_i e, z_i x, z_x] [] w Q := by
  obtain ⟨e0, e1, hp⟩ := hs
  have hp2 := hp
  rw [← he e 4 e0 e1 (by omega) (by omega), pu_vC4] at hp2
  have be := sl_hw_bd hv e0 e1 hp (t := 2 * x) (by omega) (by omega)
  have b0 := sl_h_0 hv ⟨e0, e1, hp⟩ h0 h1
  have q := sl_h_eq he e0 e1 (2 * x)
  have kv : Q (some (z_i (z_div (sl_h V e (2 * x) + 2 * sl_w V e - 1) (2 * sl_w V e)))) w := by
    rw [z_div_eq (by omega) (by omega) (by omega) (by omega)]
    exact k
  simp only [g29_0, g29_1, g29_1r, g29_2, g29_3, g29_6, g29_7, g29_8, g29_9, g29_12, g29_13, g29_16, g29_16r, g29_17, g29_18, g29_19, g29_20, g29_21, g29_24, g29_25, g29_26, g29_27, g29_28, g29_29, g29_30 (st := []), z_kl_i, z_kl_l, z_kl_r, z_kl_n, z_kl_x, z_kl_vr, z_c8_0, z_c8_i, z_c8_l, z_c8_r, z_c8_vr, z_c8_n, z_vr_some, z_vr_none, Option.toList_some, Option.toList_none, List.cons_append, List.nil_append, true_and, and_true, and_self, z_k_sI, z_len_sI, z_R_sI, z_N_sI, z_set_0, z_set_1, z_set_s, eq_self, true_implies, false_implies, not_true_eq_false, not_false_eq_true, ne_eq, true_or, or_true, false_or, or_false, false_and, and_false, Int.reduceNeg, Int.reduceEq, Int.reduceNe, Int.reduceLT, Int.reduceLE, Nat.reduceLeDiff, Nat.reduceEqDiff, Nat.reduceSub, Nat.reduceAdd, reduceCtorEq, reduceIte, implies_true, List.reverse_nil, lk1 hl, ll1 hl, lk2 hl, lr2_0 hl, lr2_1 hl, lr2_2 hl, lr2_3 hl, lr2_6 hl, lr2_7 hl, lr2_8 hl, lr2_9 hl, lr2_10 hl, lr2_11 hl, lr2_13 hl, lr2_14 hl, lr2_15 hl, lr2_16 hl, lr2_17 hl, lr2_18 hl, lk3 hl, lr3_0 hl, lk4 hl, ll4 hl, lk5 hl, lr5_0 hl, lr5_2 hl, lr5_3 hl, lr5_4 hl, lk6 hl, ll6 hl, lk7 hl, ll7 hl, lk8 hl, lr8_0 hl, lk9 hl, ll9 hl, lk10 hl, ll10 hl, lk11 hl, ll11 hl, lk12 hl, lr12_0 hl, lk13 hl, ll13 hl, lk14 hl, lr14_2 hl, lr14_3 hl, lr14_4 hl, lr14_5 hl, lr14_6 hl, lr14_7 hl, lr14_9 hl, lr14_10 hl, lk15 hl, ll15 hl, lk16 hl, ll16 hl, lk17 hl, ll17 hl, lk18 hl, ll18 hl, lk19 hl, ll19 hl, lk20 hl, ll20 hl, lk21 hl, ll21 hl, lk22 hl, lr22_0 hl, lk23 hl, ll23 hl, lk24 hl, lr24_2 hl, lr24_3 hl, lr24_4 hl, lr24_5 hl, lr24_6 hl, lr24_7 hl, lr24_9 hl, lr24_10 hl, lk25 hl, ll25 hl, lk26 hl, ll26 hl, lk27 hl, ll27 hl, lk28 hl, ll28 hl, lk29 hl, ll29 hl, lk30 hl, ll30 hl, lk31 hl, ll31 hl, lk32 hl, lr32_1 hl, lk33 hl, ll33 hl, lk34 hl, lr34_0 hl, lk35 hl, ll35 hl, lk36 hl, lr36_0 hl, lk37 hl, ll37 hl, lk38 hl, lr38_0 hl, lk39 hl, ll39 hl, lk40 hl, ll40 hl, lk41 hl, lk42 hl, lr42_0 hl, lr42_1 hl, lr42_2 hl, lr42_3 hl, lk43 hl, ll43 hl, lk44 hl, ll44 hl, lk45 hl, ll45 hl, lk46 hl, ll46 hl, lk47 hl, lr47_1 hl, lk48 hl, ll48 hl]
  refine xs_w24 hl (pu_ok_eq he hv) _ e0 e1 hp2 ?_
  rw [q.2]
  simp only [g29_0, g29_1, g29_1r, g29_2, g29_3, g29_6, g29_7, g29_8, g29_9, g29_12, g29_13, g29_16, g29_16r, g29_17, g29_18, g29_19, g29_20, g29_21, g29_24, g29_25, g29_26, g29_27, g29_28, g29_29, g29_30 (st := []), z_kl_i, z_kl_l, z_kl_r, z_kl_n, z_kl_x, z_kl_vr, z_c8_0, z_c8_i, z_c8_l, z_c8_r, z_c8_vr, z_c8_n, z_vr_some, z_vr_none, Option.toList_some, Option.toList_none, List.cons_append, List.nil_append, true_and, and_true, and_self, z_k_sI, z_len_sI, z_R_sI, z_N_sI, z_set_0, z_set_1, z_set_s, eq_self, true_implies, false_implies, not_true_eq_false, not_false_eq_true, ne_eq, true_or, or_true, false_or, or_false, false_and, and_false, Int.reduceNeg, Int.reduceEq, Int.reduceNe, Int.reduceLT, Int.reduceLE, Nat.reduceLeDiff, Nat.reduceEqDiff, Nat.reduceSub, Nat.reduceAdd, reduceCtorEq, reduceIte, implies_true, List.reverse_nil, lk1 hl, ll1 hl, lk2 hl, lr2_0 hl, lr2_1 hl, lr2_2 hl, lr2_3 hl, lr2_6 hl, lr2_7 hl, lr2_8 hl, lr2_9 hl, lr2_10 hl, lr2_11 hl, lr2_13 hl, lr2_14 hl, lr2_15 hl, lr2_16 hl, lr2_17 hl, lr2_18 hl, lk3 hl, lr3_0 hl, lk4 hl, ll4 hl, lk5 hl, lr5_0 hl, lr5_2 hl, lr5_3 hl, lr5_4 hl, lk6 hl, ll6 hl, lk7 hl, ll7 hl, lk8 hl, lr8_0 hl, lk9 hl, ll9 hl, lk10 hl, ll10 hl, lk11 hl, ll11 hl, lk12 hl, lr12_0 hl, lk13 hl, ll13 hl, lk14 hl, lr14_2 hl, lr14_3 hl, lr14_4 hl, lr14_5 hl, lr14_6 hl, lr14_7 hl, lr14_9 hl, lr14_10 hl, lk15 hl, ll15 hl, lk16 hl, ll16 hl, lk17 hl, ll17 hl, lk18 hl, ll18 hl, lk19 hl, ll19 hl, lk20 hl, ll20 hl, lk21 hl, ll21 hl, lk22 hl, lr22_0 hl, lk23 hl, ll23 hl, lk24 hl, lr24_2 hl, lr24_3 hl, lr24_4 hl, lr24_5 hl, lr24_6 hl, lr24_7 hl, lr24_9 hl, lr24_10 hl, lk25 hl, ll25 hl, lk26 hl, ll26 hl, lk27 hl, ll27 hl, lk28 hl, ll28 hl, lk29 hl, ll29 hl, lk30 hl, ll30 hl, lk31 hl, ll31 hl, lk32 hl, lr32_1 hl, lk33 hl, ll33 hl, lk34 hl, lr34_0 hl, lk35 hl, ll35 hl, lk36 hl, lr36_0 hl, lk37 hl, ll37 hl, lk38 hl, lr38_0 hl, lk39 hl, ll39 hl, lk40 hl, ll40 hl, lk41 hl, lk42 hl, lr42_0 hl, lr42_1 hl, lr42_2 hl, lr42_3 hl, lk43 hl, ll43 hl, lk44 hl, ll44 hl, lk45 hl, ll45 hl, lk46 hl, ll46 hl, lk47 hl, lr47_1 hl, lk48 hl, ll48 hl]
  rw [z_mul_eq (a := 2) (b := sl_w V e) (by omega) (by omega)]
  refine ⟨fun c => ?_, fun c => absurd c (by omega)⟩
  rw [z_mul_eq (a := 2) (b := x) (by omega) (by omega)]
  refine xs_h24 hl (pu_ok_eq he hv) _ _ e0 e1 hp2 (by omega) (by omega) ?_
  rw [q.1]
  simp only [g29_0, g29_1, g29_1r, g29_2, g29_3, g29_6, g29_7, g29_8, g29_9, g29_12, g29_13, g29_16, g29_16r, g29_17, g29_18, g29_19, g29_20, g29_21, g29_24, g29_25, g29_26, g29_27, g29_28, g29_29, g29_30 (st := []), z_kl_i, z_kl_l, z_kl_r, z_kl_n, z_kl_x, z_kl_vr, z_c8_0, z_c8_i, z_c8_l, z_c8_r, z_c8_vr, z_c8_n, z_vr_some, z_vr_none, Option.toList_some, Option.toList_none, List.cons_append, List.nil_append, true_and, and_true, and_self, z_k_sI, z_len_sI, z_R_sI, z_N_sI, z_set_0, z_set_1, z_set_s, eq_self, true_implies, false_implies, not_true_eq_false, not_false_eq_true, ne_eq, true_or, or_true, false_or, or_false, false_and, and_false, Int.reduceNeg, Int.reduceEq, Int.reduceNe, Int.reduceLT, Int.reduceLE, Nat.reduceLeDiff, Nat.reduceEqDiff, Nat.reduceSub, Nat.reduceAdd, reduceCtorEq, reduceIte, implies_true, List.reverse_nil, lk1 hl, ll1 hl, lk2 hl, lr2_0 hl, lr2_1 hl, lr2_2 hl, lr2_3 hl, lr2_6 hl, lr2_7 hl, lr2_8 hl, lr2_9 hl, lr2_10 hl, lr2_11 hl, lr2_13 hl, lr2_14 hl, lr2_15 hl, lr2_16 hl, lr2_17 hl, lr2_18 hl, lk3 hl, lr3_0 hl, lk4 hl, ll4 hl, lk5 hl, lr5_0 hl, lr5_2 hl, lr5_3 hl, lr5_4 hl, lk6 hl, ll6 hl, lk7 hl, ll7 hl, lk8 hl, lr8_0 hl, lk9 hl, ll9 hl, lk10 hl, ll10 hl, lk11 hl, ll11 hl, lk12 hl, lr12_0 hl, lk13 hl, ll13 hl, lk14 hl, lr14_2 hl, lr14_3 hl, lr14_4 hl, lr14_5 hl, lr14_6 hl, lr14_7 hl, lr14_9 hl, lr14_10 hl, lk15 hl, ll15 hl, lk16 hl, ll16 hl, lk17 hl, ll17 hl, lk18 hl, ll18 hl, lk19 hl, ll19 hl, lk20 hl, ll20 hl, lk21 hl, ll21 hl, lk22 hl, lr22_0 hl, lk23 hl, ll23 hl, lk24 hl, lr24_2 hl, lr24_3 hl, lr24_4 hl, lr24_5 hl, lr24_6 hl, lr24_7 hl, lr24_9 hl, lr24_10 hl, lk25 hl, ll25 hl, lk26 hl, ll26 hl, lk27 hl, ll27 hl, lk28 hl, ll28 hl, lk29 hl, ll29 hl, lk30 hl, ll30 hl, lk31 hl, ll31 hl, lk32 hl, lr32_1 hl, lk33 hl, ll33 hl, lk34 hl, lr34_0 hl, lk35 hl, ll35 hl, lk36 hl, lr36_0 hl, lk37 hl, ll37 hl, lk38 hl, lr38_0 hl, lk39 hl, ll39 hl, lk40 hl, ll40 hl, lk41 hl, lk42 hl, lr42_0 hl, lr42_1 hl, lr42_2 hl, lr42_3 hl, lk43 hl, ll43 hl, lk44 hl, ll44 hl, lk45 hl, ll45 hl, lk46 hl, ll46 hl, lk47 hl, lr47_1 hl, lk48 hl, ll48 hl]
  rw [z_add_eq (by omega) (by omega), z_sub_eq (by omega) (by omega)]
  exact ⟨by omega, kv⟩
set_option maxRecDepth 20000 in
theorem xs_cutColumn24 {d u w} {Q : z_P} (hl : z_lay w) (hS : z_SL w 24 23 26 27) {V : pu_V} (hv : pu_ok V) (he : pu_eq (pu_vC (z_I w 23)) V) (hV : sl_V (z_I w 24 1) (z_I w 25) (z_I w 26) (z_I w 27) V) (x : Int) (x0 : 0 ≤ x) (x1 : x ≤ 63) (k : ∀ w', z_fr [28, 29] [(24, 8)] w w' → co_W (z_I w' 24 8) (z_I w' 28) (z_I w' 29) V x → Q none w') : z_G (d + 3) u 103 0 [z_r 24, z_i x, z_x, z_x, z_x] [] w Q := by
  have nb := co_n_bd V x
  have sb := sl_a_bd V x
  have en : z_ll w 24 26 (sl_a V x) = co_n V x := by
    unfold co_n
    by_cases ha : sl_a V x = -1
    · rw [if_pos ha]
      unfold z_ll
      rw [if_neg (by omega)]
    · have h1 := hV.1
      rw [if_neg ha, z_ll_in (by omega) (by omega)]
      exact (hV.2.2 _ (by omega) (by omega)).1
  have loop : ∀ (n : Nat) (j : Int) (v : z_V) (w1 : z_W), z_fr [28, 29] [(24, 8)] w w1 → 0 ≤ j → j + n = co_n V x → z_I w1 24 8 = j + 1 → (∀ q, 0 ≤ q → q ≤ j → z_I w1 28 q = co_f V x q ∧ z_I w1 29 q = rb V (sl_a V x) q) → z_G (d + 3) u 103 27 [z_r 24, z_i x, z_i (sl_a V x), z_i j, v] [] w1 Q := by
    intro n
    induction n with
    | zero =>
      intro j v w1 hf j0 j1 h8 hr
      have hl1 := z_fr_lay hf hl
      have hS1 := z_SL_fr hf (by decide) (by decide) hS
      have ell := z_ll_fr (p := 24) (a := 26) hf (by decide) (by decide) (sl_a V x)
      rw [g103_27]
      simp only [g103_0, g103_0r, g103_1, g103_2, g103_5, g103_6, g103_6r, g103_7, g103_10, g103_11, g103_12, g103_13, g103_13r, g103_14, g103_17, g103_18, g103_19, g103_20, g103_20r, g103_21, g103_22, g103_25, g103_26, g103_28, g103_28r, g103_29, g103_30, g103_33, g103_36, g103_36r, g103_37, g103_38, g103_39, g103_42, g103_44, g103_44r, g103_45, g103_48, g103_48r, g103_49, g103_52, g103_52r, g103_53, g103_56, g103_58, g103_59, g103_62, g103_63, g103_63r, g103_64, g103_67, g103_67r, g103_68, g103_71, g103_71r, g103_72, g103_75, g103_77, g103_80, g103_81, g103_81r, g103_82, g103_82r, g103_83, g103_86, g103_87, g103_88, g103_91, g103_94, g103_97, z_kl_i, z_kl_l, z_kl_r, z_kl_n, z_kl_x, z_kl_vr, z_c8_0, z_c8_i, z_c8_l, z_c8_r, z_c8_vr, z_c8_n, z_vr_some, z_vr_none, Option.toList_some, Option.toList_none, List.cons_append, List.nil_append, true_and, and_true, and_self, z_k_sI, z_len_sI, z_R_sI, z_N_sI, z_set_0, z_set_1, z_set_s, eq_self, true_implies, false_implies, not_true_eq_false, not_false_eq_true, ne_eq, true_or, or_true, false_or, or_false, false_and, and_false, Int.reduceNeg, Int.reduceEq, Int.reduceNe, Int.reduceLT, Int.reduceLE, Nat.reduceLeDiff, Nat.reduceEqDiff, Nat.reduceSub, Nat.reduceAdd, reduceCtorEq, reduceIte, implies_true, List.reverse_nil, lk1 hl1, ll1 hl1, lk2 hl1, lr2_0 hl1, lr2_1 hl1, lr2_2 hl1, lr2_3 hl1, lr2_6 hl1, lr2_7 hl1, lr2_8 hl1, lr2_9 hl1, lr2_10 hl1, lr2_11 hl1, lr2_13 hl1, lr2_14 hl1, lr2_15 hl1, lr2_16 hl1, lr2_17 hl1, lr2_18 hl1, lk3 hl1, lr3_0 hl1, lk4 hl1, ll4 hl1, lk5 hl1, lr5_0 hl1, lr5_2 hl1, lr5_3 hl1, lr5_4 hl1, lk6 hl1, ll6 hl1, lk7 hl1, ll7 hl1, lk8 hl1, lr8_0 hl1, lk9 hl1, ll9 hl1, lk10 hl1, ll10 hl1, lk11 hl1, ll11 hl1, lk12 hl1, lr12_0 hl1, lk13 hl1, ll13 hl1, lk14 hl1, lr14_2 hl1, lr14_3 hl1, lr14_4 hl1, lr14_5 hl1, lr14_6 hl1, lr14_7 hl1, lr14_9 hl1, lr14_10 hl1, lk15 hl1, ll15 hl1, lk16 hl1, ll16 hl1, lk17 hl1, ll17 hl1, lk18 hl1, ll18 hl1, lk19 hl1, ll19 hl1, lk20 hl1, ll20 hl1, lk21 hl1, ll21 hl1, lk22 hl1, lr22_0 hl1, lk23 hl1, ll23 hl1, lk24 hl1, lr24_2 hl1, lr24_3 hl1, lr24_4 hl1, lr24_5 hl1, lr24_6 hl1, lr24_7 hl1, lr24_9 hl1, lr24_10 hl1, lk25 hl1, ll25 hl1, lk26 hl1, ll26 hl1, lk27 hl1, ll27 hl1, lk28 hl1, ll28 hl1, lk29 hl1, ll29 hl1, lk30 hl1, ll30 hl1, lk31 hl1, ll31 hl1, lk32 hl1, lr32_1 hl1, lk33 hl1, ll33 hl1, lk34 hl1, lr34_0 hl1, lk35 hl1, ll35 hl1, lk36 hl1, lr36_0 hl1, lk37 hl1, ll37 hl1, lk38 hl1, lr38_0 hl1, lk39 hl1, ll39 hl1, lk40 hl1, ll40 hl1, lk41 hl1, lk42 hl1, lr42_0 hl1, lr42_1 hl1, lr42_2 hl1, lr42_3 hl1, lk43 hl1, ll43 hl1, lk44 hl1, ll44 hl1, lk45 hl1, ll45 hl1, lk46 hl1, ll46 hl1, lk47 hl1, lr47_1 hl1, lk48 hl1, ll48 hl1]
      refine c_length24 hl1 hS1.1.2 _ ?_
      rw [ell, en]
      simp only [g103_0, g103_0r, g103_1, g103_2, g103_5, g103_6, g103_6r, g103_7, g103_10, g103_11, g103_12, g103_13, g103_13r, g103_14, g103_17, g103_18, g103_19, g103_20, g103_20r, g103_21, g103_22, g103_25, g103_26, g103_28, g103_28r, g103_29, g103_30, g103_33, g103_36, g103_36r, g103_37, g103_38, g103_39, g103_42, g103_44, g103_44r, g103_45, g103_48, g103_48r, g103_49, g103_52, g103_52r, g103_53, g103_56, g103_58, g103_59, g103_62, g103_63, g103_63r, g103_64, g103_67, g103_67r, g103_68, g103_71, g103_71r, g103_72, g103_75, g103_77, g103_80, g103_81, g103_81r, g103_82, g103_82r, g103_83, g103_86, g103_87, g103_88, g103_91, g103_94, g103_97, z_kl_i, z_kl_l, z_kl_r, z_kl_n, z_kl_x, z_kl_vr, z_c8_0, z_c8_i, z_c8_l, z_c8_r, z_c8_vr, z_c8_n, z_vr_some, z_vr_none, Option.toList_some, Option.toList_none, List.cons_append, List.nil_append, true_and, and_true, and_self, z_k_sI, z_len_sI, z_R_sI, z_N_sI, z_set_0, z_set_1, z_set_s, eq_self, true_implies, false_implies, not_true_eq_false, not_false_eq_true, ne_eq, true_or, or_true, false_or, or_false, false_and, and_false, Int.reduceNeg, Int.reduceEq, Int.reduceNe, Int.reduceLT, Int.reduceLE, Nat.reduceLeDiff, Nat.reduceEqDiff, Nat.reduceSub, Nat.reduceAdd, reduceCtorEq, reduceIte, implies_true, List.reverse_nil, lk1 hl1, ll1 hl1, lk2 hl1, lr2_0 hl1, lr2_1 hl1, lr2_2 hl1, lr2_3 hl1, lr2_6 hl1, lr2_7 hl1, lr2_8 hl1, lr2_9 hl1, lr2_10 hl1, lr2_11 hl1, lr2_13 hl1, lr2_14 hl1, lr2_15 hl1, lr2_16 hl1, lr2_17 hl1, lr2_18 hl1, lk3 hl1, lr3_0 hl1, lk4 hl1, ll4 hl1, lk5 hl1, lr5_0 hl1, lr5_2 hl1, lr5_3 hl1, lr5_4 hl1, lk6 hl1, ll6 hl1, lk7 hl1, ll7 hl1, lk8 hl1, lr8_0 hl1, lk9 hl1, ll9 hl1, lk10 hl1, ll10 hl1, lk11 hl1, ll11 hl1, lk12 hl1, lr12_0 hl1, lk13 hl1, ll13 hl1, lk14 hl1, lr14_2 hl1, lr14_3 hl1, lr14_4 hl1, lr14_5 hl1, lr14_6 hl1, lr14_7 hl1, lr14_9 hl1, lr14_10 hl1, lk15 hl1, ll15 hl1, lk16 hl1, ll16 hl1, lk17 hl1, ll17 hl1, lk18 hl1, ll18 hl1, lk19 hl1, ll19 hl1, lk20 hl1, ll20 hl1, lk21 hl1, ll21 hl1, lk22 hl1, lr22_0 hl1, lk23 hl1, ll23 hl1, lk24 hl1, lr24_2 hl1, lr24_3 hl1, lr24_4 hl1, lr24_5 hl1, lr24_6 hl1, lr24_7 hl1, lr24_9 hl1, lr24_10 hl1, lk25 hl1, ll25 hl1, lk26 hl1, ll26 hl1, lk27 hl1, ll27 hl1, lk28 hl1, ll28 hl1, lk29 hl1, ll29 hl1, lk30 hl1, ll30 hl1, lk31 hl1, ll31 hl1, lk32 hl1, lr32_1 hl1, lk33 hl1, ll33 hl1, lk34 hl1, lr34_0 hl1, lk35 hl1, ll35 hl1, lk36 hl1, lr36_0 hl1, lk37 hl1, ll37 hl1, lk38 hl1, lr38_0 hl1, lk39 hl1, ll39 hl1, lk40 hl1, ll40 hl1, lk41 hl1, lk42 hl1, lr42_0 hl1, lr42_1 hl1, lr42_2 hl1, lr42_3 hl1, lk43 hl1, ll43 hl1, lk44 hl1, ll44 hl1, lk45 hl1, ll45 hl1, lk46 hl1, ll46 hl1, lk47 hl1, lr47_1 hl1, lk48 hl1, ll48 hl1]
      exact ⟨fun _ => k w1 hf ⟨by omega, fun q q0 q1 => hr q q0 (by omega)⟩, fun c => absurd c (by omega)⟩
    | succ n ih =>
      intro j v w1 hf j0 j1 h8 hr
      have hl1 := z_fr_lay hf hl
      have hS1 := z_SL_fr hf (by decide) (by decide) hS
      have ell := z_ll_fr (p := 24) (a := 26) hf (by decide) (by decide) (sl_a V x)
      have ef : ∀ p, p ≠ 28 → p ≠ 29 → p ≠ 24 → z_I w1 p = z_I w p := fun p h1 h2 h3 => funext fun i => hf.2 p i (by simp only [List.mem_cons, List.not_mem_nil, or_false]; omega) (by simp only [List.mem_cons, List.not_mem_nil, or_false, Prod.mk.injEq]; omega)
      have e1 : z_I w1 24 1 = z_I w 24 1 := hf.2 24 1 (by decide) (by decide)
      have he1 : pu_eq (pu_vC (z_I w1 23)) V := by
        rw [ef 23 (by decide) (by decide) (by decide)]
        exact he
      have hV1 : sl_V (z_I w1 24 1) (z_I w1 25) (z_I w1 26) (z_I w1 27) V := by
        rw [e1, ef 25 (by decide) (by decide) (by decide), ef 26 (by decide) (by decide) (by decide), ef 27 (by decide) (by decide) (by decide)]
        exact hV
      obtain ⟨m1, m2, m3, m4, m5, m6, _, _⟩ := co_m hv x0 j0 (by omega)
      have ql := q_list_in m2.1 m2.2 j0 m3
      have v4 : z_I w1 23 (96 + sl_i V (sl_a V x) j) = rb V (sl_a V x) (j + 1) := by
        rw [rb_s m2.1 m2.2 j0 m3, ← he1 _ 4 m4.1 m4.2.1 (by omega) (by omega), pu_vC4]
      have fk := co_fk (V := V) (x := x) (p := j + 1) (by omega) (by omega)
      rw [show j + 1 - 1 = j by omega] at fk
      rw [g103_27]
      simp only [g103_0, g103_0r, g103_1, g103_2, g103_5, g103_6, g103_6r, g103_7, g103_10, g103_11, g103_12, g103_13, g103_13r, g103_14, g103_17, g103_18, g103_19, g103_20, g103_20r, g103_21, g103_22, g103_25, g103_26, g103_28, g103_28r, g103_29, g103_30, g103_33, g103_36, g103_36r, g103_37, g103_38, g103_39, g103_42, g103_44, g103_44r, g103_45, g103_48, g103_48r, g103_49, g103_52, g103_52r, g103_53, g103_56, g103_58, g103_59, g103_62, g103_63, g103_63r, g103_64, g103_67, g103_67r, g103_68, g103_71, g103_71r, g103_72, g103_75, g103_77, g103_80, g103_81, g103_81r, g103_82, g103_82r, g103_83, g103_86, g103_87, g103_88, g103_91, g103_94, g103_97, z_kl_i, z_kl_l, z_kl_r, z_kl_n, z_kl_x, z_kl_vr, z_c8_0, z_c8_i, z_c8_l, z_c8_r, z_c8_vr, z_c8_n, z_vr_some, z_vr_none, Option.toList_some, Option.toList_none, List.cons_append, List.nil_append, true_and, and_true, and_self, z_k_sI, z_len_sI, z_R_sI, z_N_sI, z_set_0, z_set_1, z_set_s, eq_self, true_implies, false_implies, not_true_eq_false, not_false_eq_true, ne_eq, true_or, or_true, false_or, or_false, false_and, and_false, Int.reduceNeg, Int.reduceEq, Int.reduceNe, Int.reduceLT, Int.reduceLE, Nat.reduceLeDiff, Nat.reduceEqDiff, Nat.reduceSub, Nat.reduceAdd, reduceCtorEq, reduceIte, implies_true, List.reverse_nil, lk1 hl1, ll1 hl1, lk2 hl1, lr2_0 hl1, lr2_1 hl1, lr2_2 hl1, lr2_3 hl1, lr2_6 hl1, lr2_7 hl1, lr2_8 hl1, lr2_9 hl1, lr2_10 hl1, lr2_11 hl1, lr2_13 hl1, lr2_14 hl1, lr2_15 hl1, lr2_16 hl1, lr2_17 hl1, lr2_18 hl1, lk3 hl1, lr3_0 hl1, lk4 hl1, ll4 hl1, lk5 hl1, lr5_0 hl1, lr5_2 hl1, lr5_3 hl1, lr5_4 hl1, lk6 hl1, ll6 hl1, lk7 hl1, ll7 hl1, lk8 hl1, lr8_0 hl1, lk9 hl1, ll9 hl1, lk10 hl1, ll10 hl1, lk11 hl1, ll11 hl1, lk12 hl1, lr12_0 hl1, lk13 hl1, ll13 hl1, lk14 hl1, lr14_2 hl1, lr14_3 hl1, lr14_4 hl1, lr14_5 hl1, lr14_6 hl1, lr14_7 hl1, lr14_9 hl1, lr14_10 hl1, lk15 hl1, ll15 hl1, lk16 hl1, ll16 hl1, lk17 hl1, ll17 hl1, lk18 hl1, ll18 hl1, lk19 hl1, ll19 hl1, lk20 hl1, ll20 hl1, lk21 hl1, ll21 hl1, lk22 hl1, lr22_0 hl1, lk23 hl1, ll23 hl1, lk24 hl1, lr24_2 hl1, lr24_3 hl1, lr24_4 hl1, lr24_5 hl1, lr24_6 hl1, lr24_7 hl1, lr24_9 hl1, lr24_10 hl1, lk25 hl1, ll25 hl1, lk26 hl1, ll26 hl1, lk27 hl1, ll27 hl1, lk28 hl1, ll28 hl1, lk29 hl1, ll29 hl1, lk30 hl1, ll30 hl1, lk31 hl1, ll31 hl1, lk32 hl1, lr32_1 hl1, lk33 hl1, ll33 hl1, lk34 hl1, lr34_0 hl1, lk35 hl1, ll35 hl1, lk36 hl1, lr36_0 hl1, lk37 hl1, ll37 hl1, lk38 hl1, lr38_0 hl1, lk39 hl1, ll39 hl1, lk40 hl1, ll40 hl1, lk41 hl1, lk42 hl1, lr42_0 hl1, lr42_1 hl1, lr42_2 hl1, lr42_3 hl1, lk43 hl1, ll43 hl1, lk44 hl1, ll44 hl1, lk45 hl1, ll45 hl1, lk46 hl1, ll46 hl1, lk47 hl1, lr47_1 hl1, lk48 hl1, ll48 hl1]
      refine c_length24 hl1 hS1.1.2 _ ?_
      rw [ell, en]
      simp only [g103_0, g103_0r, g103_1, g103_2, g103_5, g103_6, g103_6r, g103_7, g103_10, g103_11, g103_12, g103_13, g103_13r, g103_14, g103_17, g103_18, g103_19, g103_20, g103_20r, g103_21, g103_22, g103_25, g103_26, g103_28, g103_28r, g103_29, g103_30, g103_33, g103_36, g103_36r, g103_37, g103_38, g103_39, g103_42, g103_44, g103_44r, g103_45, g103_48, g103_48r, g103_49, g103_52, g103_52r, g103_53, g103_56, g103_58, g103_59, g103_62, g103_63, g103_63r, g103_64, g103_67, g103_67r, g103_68, g103_71, g103_71r, g103_72, g103_75, g103_77, g103_80, g103_81, g103_81r, g103_82, g103_82r, g103_83, g103_86, g103_87, g103_88, g103_91, g103_94, g103_97, z_kl_i, z_kl_l, z_kl_r, z_kl_n, z_kl_x, z_kl_vr, z_c8_0, z_c8_i, z_c8_l, z_c8_r, z_c8_vr, z_c8_n, z_vr_some, z_vr_none, Option.toList_some, Option.toList_none, List.cons_append, List.nil_append, true_and, and_true, and_self, z_k_sI, z_len_sI, z_R_sI, z_N_sI, z_set_0, z_set_1, z_set_s, eq_self, true_implies, false_implies, not_true_eq_false, not_false_eq_true, ne_eq, true_or, or_true, false_or, or_false, false_and, and_false, Int.reduceNeg, Int.reduceEq, Int.reduceNe, Int.reduceLT, Int.reduceLE, Nat.reduceLeDiff, Nat.reduceEqDiff, Nat.reduceSub, Nat.reduceAdd, reduceCtorEq, reduceIte, implies_true, List.reverse_nil, lk1 hl1, ll1 hl1, lk2 hl1, lr2_0 hl1, lr2_1 hl1, lr2_2 hl1, lr2_3 hl1, lr2_6 hl1, lr2_7 hl1, lr2_8 hl1, lr2_9 hl1, lr2_10 hl1, lr2_11 hl1, lr2_13 hl1, lr2_14 hl1, lr2_15 hl1, lr2_16 hl1, lr2_17 hl1, lr2_18 hl1, lk3 hl1, lr3_0 hl1, lk4 hl1, ll4 hl1, lk5 hl1, lr5_0 hl1, lr5_2 hl1, lr5_3 hl1, lr5_4 hl1, lk6 hl1, ll6 hl1, lk7 hl1, ll7 hl1, lk8 hl1, lr8_0 hl1, lk9 hl1, ll9 hl1, lk10 hl1, ll10 hl1, lk11 hl1, ll11 hl1, lk12 hl1, lr12_0 hl1, lk13 hl1, ll13 hl1, lk14 hl1, lr14_2 hl1, lr14_3 hl1, lr14_4 hl1, lr14_5 hl1, lr14_6 hl1, lr14_7 hl1, lr14_9 hl1, lr14_10 hl1, lk15 hl1, ll15 hl1, lk16 hl1, ll16 hl1, lk17 hl1, ll17 hl1, lk18 hl1, ll18 hl1, lk19 hl1, ll19 hl1, lk20 hl1, ll20 hl1, lk21 hl1, ll21 hl1, lk22 hl1, lr22_0 hl1, lk23 hl1, ll23 hl1, lk24 hl1, lr24_2 hl1, lr24_3 hl1, lr24_4 hl1, lr24_5 hl1, lr24_6 hl1, lr24_7 hl1, lr24_9 hl1, lr24_10 hl1, lk25 hl1, ll25 hl1, lk26 hl1, ll26 hl1, lk27 hl1, ll27 hl1, lk28 hl1, ll28 hl1, lk29 hl1, ll29 hl1, lk30 hl1, ll30 hl1, lk31 hl1, ll31 hl1, lk32 hl1, lr32_1 hl1, lk33 hl1, ll33 hl1, lk34 hl1, lr34_0 hl1, lk35 hl1, ll35 hl1, lk36 hl1, lr36_0 hl1, lk37 hl1, ll37 hl1, lk38 hl1, lr38_0 hl1, lk39 hl1, ll39 hl1, lk40 hl1, ll40 hl1, lk41 hl1, lk42 hl1, lr42_0 hl1, lr42_1 hl1, lr42_2 hl1, lr42_3 hl1, lk43 hl1, ll43 hl1, lk44 hl1, ll44 hl1, lk45 hl1, ll45 hl1, lk46 hl1, ll46 hl1, lk47 hl1, lr47_1 hl1, lk48 hl1, ll48 hl1]
      refine ⟨fun c => absurd c (by omega), fun c => ?_⟩
      refine xs_member24 hl1 hS1 hV1 _ _ ?_
      rw [ql]
      simp only [g103_0, g103_0r, g103_1, g103_2, g103_5, g103_6, g103_6r, g103_7, g103_10, g103_11, g103_12, g103_13, g103_13r, g103_14, g103_17, g103_18, g103_19, g103_20, g103_20r, g103_21, g103_22, g103_25, g103_26, g103_28, g103_28r, g103_29, g103_30, g103_33, g103_36, g103_36r, g103_37, g103_38, g103_39, g103_42, g103_44, g103_44r, g103_45, g103_48, g103_48r, g103_49, g103_52, g103_52r, g103_53, g103_56, g103_58, g103_59, g103_62, g103_63, g103_63r, g103_64, g103_67, g103_67r, g103_68, g103_71, g103_71r, g103_72, g103_75, g103_77, g103_80, g103_81, g103_81r, g103_82, g103_82r, g103_83, g103_86, g103_87, g103_88, g103_91, g103_94, g103_97, z_kl_i, z_kl_l, z_kl_r, z_kl_n, z_kl_x, z_kl_vr, z_c8_0, z_c8_i, z_c8_l, z_c8_r, z_c8_vr, z_c8_n, z_vr_some, z_vr_none, Option.toList_some, Option.toList_none, List.cons_append, List.nil_append, true_and, and_true, and_self, z_k_sI, z_len_sI, z_R_sI, z_N_sI, z_set_0, z_set_1, z_set_s, eq_self, true_implies, false_implies, not_true_eq_false, not_false_eq_true, ne_eq, true_or, or_true, false_or, or_false, false_and, and_false, Int.reduceNeg, Int.reduceEq, Int.reduceNe, Int.reduceLT, Int.reduceLE, Nat.reduceLeDiff, Nat.reduceEqDiff, Nat.reduceSub, Nat.reduceAdd, reduceCtorEq, reduceIte, implies_true, List.reverse_nil, lk1 hl1, ll1 hl1, lk2 hl1, lr2_0 hl1, lr2_1 hl1, lr2_2 hl1, lr2_3 hl1, lr2_6 hl1, lr2_7 hl1, lr2_8 hl1, lr2_9 hl1, lr2_10 hl1, lr2_11 hl1, lr2_13 hl1, lr2_14 hl1, lr2_15 hl1, lr2_16 hl1, lr2_17 hl1, lr2_18 hl1, lk3 hl1, lr3_0 hl1, lk4 hl1, ll4 hl1, lk5 hl1, lr5_0 hl1, lr5_2 hl1, lr5_3 hl1, lr5_4 hl1, lk6 hl1, ll6 hl1, lk7 hl1, ll7 hl1, lk8 hl1, lr8_0 hl1, lk9 hl1, ll9 hl1, lk10 hl1, ll10 hl1, lk11 hl1, ll11 hl1, lk12 hl1, lr12_0 hl1, lk13 hl1, ll13 hl1, lk14 hl1, lr14_2 hl1, lr14_3 hl1, lr14_4 hl1, lr14_5 hl1, lr14_6 hl1, lr14_7 hl1, lr14_9 hl1, lr14_10 hl1, lk15 hl1, ll15 hl1, lk16 hl1, ll16 hl1, lk17 hl1, ll17 hl1, lk18 hl1, ll18 hl1, lk19 hl1, ll19 hl1, lk20 hl1, ll20 hl1, lk21 hl1, ll21 hl1, lk22 hl1, lr22_0 hl1, lk23 hl1, ll23 hl1, lk24 hl1, lr24_2 hl1, lr24_3 hl1, lr24_4 hl1, lr24_5 hl1, lr24_6 hl1, lr24_7 hl1, lr24_9 hl1, lr24_10 hl1, lk25 hl1, ll25 hl1, lk26 hl1, ll26 hl1, lk27 hl1, ll27 hl1, lk28 hl1, ll28 hl1, lk29 hl1, ll29 hl1, lk30 hl1, ll30 hl1, lk31 hl1, ll31 hl1, lk32 hl1, lr32_1 hl1, lk33 hl1, ll33 hl1, lk34 hl1, lr34_0 hl1, lk35 hl1, ll35 hl1, lk36 hl1, lr36_0 hl1, lk37 hl1, ll37 hl1, lk38 hl1, lr38_0 hl1, lk39 hl1, ll39 hl1, lk40 hl1, ll40 hl1, lk41 hl1, lk42 hl1, lr42_0 hl1, lr42_1 hl1, lr42_2 hl1, lr42_3 hl1, lk43 hl1, ll43 hl1, lk44 hl1, ll44 hl1, lk45 hl1, ll45 hl1, lk46 hl1, ll46 hl1, lk47 hl1, lr47_1 hl1, lk48 hl1, ll48 hl1, h8]
      intro _
      refine xs_firstAbove24 hl1 hv he1 _ _ m4 x0 x1 m5 m6 ?_
      simp only [g103_0, g103_0r, g103_1, g103_2, g103_5, g103_6, g103_6r, g103_7, g103_10, g103_11, g103_12, g103_13, g103_13r, g103_14, g103_17, g103_18, g103_19, g103_20, g103_20r, g103_21, g103_22, g103_25, g103_26, g103_28, g103_28r, g103_29, g103_30, g103_33, g103_36, g103_36r, g103_37, g103_38, g103_39, g103_42, g103_44, g103_44r, g103_45, g103_48, g103_48r, g103_49, g103_52, g103_52r, g103_53, g103_56, g103_58, g103_59, g103_62, g103_63, g103_63r, g103_64, g103_67, g103_67r, g103_68, g103_71, g103_71r, g103_72, g103_75, g103_77, g103_80, g103_81, g103_81r, g103_82, g103_82r, g103_83, g103_86, g103_87, g103_88, g103_91, g103_94, g103_97, z_kl_i, z_kl_l, z_kl_r, z_kl_n, z_kl_x, z_kl_vr, z_c8_0, z_c8_i, z_c8_l, z_c8_r, z_c8_vr, z_c8_n, z_vr_some, z_vr_none, Option.toList_some, Option.toList_none, List.cons_append, List.nil_append, true_and, and_true, and_self, z_k_sI, z_len_sI, z_R_sI, z_N_sI, z_set_0, z_set_1, z_set_s, eq_self, true_implies, false_implies, not_true_eq_false, not_false_eq_true, ne_eq, true_or, or_true, false_or, or_false, false_and, and_false, Int.reduceNeg, Int.reduceEq, Int.reduceNe, Int.reduceLT, Int.reduceLE, Nat.reduceLeDiff, Nat.reduceEqDiff, Nat.reduceSub, Nat.reduceAdd, reduceCtorEq, reduceIte, implies_true, List.reverse_nil, lk1 hl1, ll1 hl1, lk2 hl1, lr2_0 hl1, lr2_1 hl1, lr2_2 hl1, lr2_3 hl1, lr2_6 hl1, lr2_7 hl1, lr2_8 hl1, lr2_9 hl1, lr2_10 hl1, lr2_11 hl1, lr2_13 hl1, lr2_14 hl1, lr2_15 hl1, lr2_16 hl1, lr2_17 hl1, lr2_18 hl1, lk3 hl1, lr3_0 hl1, lk4 hl1, ll4 hl1, lk5 hl1, lr5_0 hl1, lr5_2 hl1, lr5_3 hl1, lr5_4 hl1, lk6 hl1, ll6 hl1, lk7 hl1, ll7 hl1, lk8 hl1, lr8_0 hl1, lk9 hl1, ll9 hl1, lk10 hl1, ll10 hl1, lk11 hl1, ll11 hl1, lk12 hl1, lr12_0 hl1, lk13 hl1, ll13 hl1, lk14 hl1, lr14_2 hl1, lr14_3 hl1, lr14_4 hl1, lr14_5 hl1, lr14_6 hl1, lr14_7 hl1, lr14_9 hl1, lr14_10 hl1, lk15 hl1, ll15 hl1, lk16 hl1, ll16 hl1, lk17 hl1, ll17 hl1, lk18 hl1, ll18 hl1, lk19 hl1, ll19 hl1, lk20 hl1, ll20 hl1, lk21 hl1, ll21 hl1, lk22 hl1, lr22_0 hl1, lk23 hl1, ll23 hl1, lk24 hl1, lr24_2 hl1, lr24_3 hl1, lr24_4 hl1, lr24_5 hl1, lr24_6 hl1, lr24_7 hl1, lr24_9 hl1, lr24_10 hl1, lk25 hl1, ll25 hl1, lk26 hl1, ll26 hl1, lk27 hl1, ll27 hl1, lk28 hl1, ll28 hl1, lk29 hl1, ll29 hl1, lk30 hl1, ll30 hl1, lk31 hl1, ll31 hl1, lk32 hl1, lr32_1 hl1, lk33 hl1, ll33 hl1, lk34 hl1, lr34_0 hl1, lk35 hl1, ll35 hl1, lk36 hl1, lr36_0 hl1, lk37 hl1, ll37 hl1, lk38 hl1, lr38_0 hl1, lk39 hl1, ll39 hl1, lk40 hl1, ll40 hl1, lk41 hl1, lk42 hl1, lr42_0 hl1, lr42_1 hl1, lr42_2 hl1, lr42_3 hl1, lk43 hl1, ll43 hl1, lk44 hl1, ll44 hl1, lk45 hl1, ll45 hl1, lk46 hl1, ll46 hl1, lk47 hl1, lr47_1 hl1, lk48 hl1, ll48 hl1]
      refine ⟨by omega, by omega, ?_⟩
      have q8 : ∀ z, z_I (z_sI w1 28 (j + 1) z) 24 8 = j + 1 := fun z => (z_I_np (by decide)).trans h8
      have hf2 : z_fr [28, 29] [(24, 8)] w (z_sI w1 28 (j + 1) (fa_y V (sl_i V (sl_a V x) j) x)) := z_fr_sI hf (by decide)
      have hl2 := z_fr_lay hf2 hl
      rw [q8]
      intro _
      refine c_region22 hl2 _ m4.1 m4.2.1 ?_
      rw [z_I_np (by decide), v4]
      simp only [g103_0, g103_0r, g103_1, g103_2, g103_5, g103_6, g103_6r, g103_7, g103_10, g103_11, g103_12, g103_13, g103_13r, g103_14, g103_17, g103_18, g103_19, g103_20, g103_20r, g103_21, g103_22, g103_25, g103_26, g103_28, g103_28r, g103_29, g103_30, g103_33, g103_36, g103_36r, g103_37, g103_38, g103_39, g103_42, g103_44, g103_44r, g103_45, g103_48, g103_48r, g103_49, g103_52, g103_52r, g103_53, g103_56, g103_58, g103_59, g103_62, g103_63, g103_63r, g103_64, g103_67, g103_67r, g103_68, g103_71, g103_71r, g103_72, g103_75, g103_77, g103_80, g103_81, g103_81r, g103_82, g103_82r, g103_83, g103_86, g103_87, g103_88, g103_91, g103_94, g103_97, z_kl_i, z_kl_l, z_kl_r, z_kl_n, z_kl_x, z_kl_vr, z_c8_0, z_c8_i, z_c8_l, z_c8_r, z_c8_vr, z_c8_n, z_vr_some, z_vr_none, Option.toList_some, Option.toList_none, List.cons_append, List.nil_append, true_and, and_true, and_self, z_k_sI, z_len_sI, z_R_sI, z_N_sI, z_set_0, z_set_1, z_set_s, eq_self, true_implies, false_implies, not_true_eq_false, not_false_eq_true, ne_eq, true_or, or_true, false_or, or_false, false_and, and_false, Int.reduceNeg, Int.reduceEq, Int.reduceNe, Int.reduceLT, Int.reduceLE, Nat.reduceLeDiff, Nat.reduceEqDiff, Nat.reduceSub, Nat.reduceAdd, reduceCtorEq, reduceIte, implies_true, List.reverse_nil, lk1 hl2, ll1 hl2, lk2 hl2, lr2_0 hl2, lr2_1 hl2, lr2_2 hl2, lr2_3 hl2, lr2_6 hl2, lr2_7 hl2, lr2_8 hl2, lr2_9 hl2, lr2_10 hl2, lr2_11 hl2, lr2_13 hl2, lr2_14 hl2, lr2_15 hl2, lr2_16 hl2, lr2_17 hl2, lr2_18 hl2, lk3 hl2, lr3_0 hl2, lk4 hl2, ll4 hl2, lk5 hl2, lr5_0 hl2, lr5_2 hl2, lr5_3 hl2, lr5_4 hl2, lk6 hl2, ll6 hl2, lk7 hl2, ll7 hl2, lk8 hl2, lr8_0 hl2, lk9 hl2, ll9 hl2, lk10 hl2, ll10 hl2, lk11 hl2, ll11 hl2, lk12 hl2, lr12_0 hl2, lk13 hl2, ll13 hl2, lk14 hl2, lr14_2 hl2, lr14_3 hl2, lr14_4 hl2, lr14_5 hl2, lr14_6 hl2, lr14_7 hl2, lr14_9 hl2, lr14_10 hl2, lk15 hl2, ll15 hl2, lk16 hl2, ll16 hl2, lk17 hl2, ll17 hl2, lk18 hl2, ll18 hl2, lk19 hl2, ll19 hl2, lk20 hl2, ll20 hl2, lk21 hl2, ll21 hl2, lk22 hl2, lr22_0 hl2, lk23 hl2, ll23 hl2, lk24 hl2, lr24_2 hl2, lr24_3 hl2, lr24_4 hl2, lr24_5 hl2, lr24_6 hl2, lr24_7 hl2, lr24_9 hl2, lr24_10 hl2, lk25 hl2, ll25 hl2, lk26 hl2, ll26 hl2, lk27 hl2, ll27 hl2, lk28 hl2, ll28 hl2, lk29 hl2, ll29 hl2, lk30 hl2, ll30 hl2, lk31 hl2, ll31 hl2, lk32 hl2, lr32_1 hl2, lk33 hl2, ll33 hl2, lk34 hl2, lr34_0 hl2, lk35 hl2, ll35 hl2, lk36 hl2, lr36_0 hl2, lk37 hl2, ll37 hl2, lk38 hl2, lr38_0 hl2, lk39 hl2, ll39 hl2, lk40 hl2, ll40 hl2, lk41 hl2, lk42 hl2, lr42_0 hl2, lr42_1 hl2, lr42_2 hl2, lr42_3 hl2, lk43 hl2, ll43 hl2, lk44 hl2, ll44 hl2, lk45 hl2, ll45 hl2, lk46 hl2, ll46 hl2, lk47 hl2, lr47_1 hl2, lk48 hl2, ll48 hl2]
      refine ⟨by omega, by omega, fun _ => ?_⟩
      rw [z_I_np (by decide), q8, z_add_eq (by omega) (by omega), z_add_eq (by omega) (by omega)]
      refine ih _ _ _ (z_fr_sF (z_fr_sI hf2 (by decide)) (by decide)) (by omega) (by omega) (z_I_at rfl) (fun i i0 i1 => ?_)
      refine ⟨?_, ?_⟩
      · rw [z_I_np (by decide), z_I_np (by decide)]
        by_cases q : i = j + 1
        · rw [z_I_at q, q, fk]
        · rw [z_I_ne q]
          exact (hr i i0 (by omega)).1
      · rw [z_I_np (by decide)]
        by_cases q : i = j + 1
        · rw [z_I_at q, q]
        · rw [z_I_ne q, z_I_np (by decide)]
          exact (hr i i0 (by omega)).2
  simp only [g103_0, g103_0r, g103_1, g103_2, g103_5, g103_6, g103_6r, g103_7, g103_10, g103_11, g103_12, g103_13, g103_13r, g103_14, g103_17, g103_18, g103_19, g103_20, g103_20r, g103_21, g103_22, g103_25, g103_26, g103_28, g103_28r, g103_29, g103_30, g103_33, g103_36, g103_36r, g103_37, g103_38, g103_39, g103_42, g103_44, g103_44r, g103_45, g103_48, g103_48r, g103_49, g103_52, g103_52r, g103_53, g103_56, g103_58, g103_59, g103_62, g103_63, g103_63r, g103_64, g103_67, g103_67r, g103_68, g103_71, g103_71r, g103_72, g103_75, g103_77, g103_80, g103_81, g103_81r, g103_82, g103_82r, g103_83, g103_86, g103_87, g103_88, g103_91, g103_94, g103_97, z_kl_i, z_kl_l, z_kl_r, z_kl_n, z_kl_x, z_kl_vr, z_c8_0, z_c8_i, z_c8_l, z_c8_r, z_c8_vr, z_c8_n, z_vr_some, z_vr_none, Option.toList_some, Option.toList_none, List.cons_append, List.nil_append, true_and, and_true, and_self, z_k_sI, z_len_sI, z_R_sI, z_N_sI, z_set_0, z_set_1, z_set_s, eq_self, true_implies, false_implies, not_true_eq_false, not_false_eq_true, ne_eq, true_or, or_true, false_or, or_false, false_and, and_false, Int.reduceNeg, Int.reduceEq, Int.reduceNe, Int.reduceLT, Int.reduceLE, Nat.reduceLeDiff, Nat.reduceEqDiff, Nat.reduceSub, Nat.reduceAdd, reduceCtorEq, reduceIte, implies_true, List.reverse_nil, lk1 hl, ll1 hl, lk2 hl, lr2_0 hl, lr2_1 hl, lr2_2 hl, lr2_3 hl, lr2_6 hl, lr2_7 hl, lr2_8 hl, lr2_9 hl, lr2_10 hl, lr2_11 hl, lr2_13 hl, lr2_14 hl, lr2_15 hl, lr2_16 hl, lr2_17 hl, lr2_18 hl, lk3 hl, lr3_0 hl, lk4 hl, ll4 hl, lk5 hl, lr5_0 hl, lr5_2 hl, lr5_3 hl, lr5_4 hl, lk6 hl, ll6 hl, lk7 hl, ll7 hl, lk8 hl, lr8_0 hl, lk9 hl, ll9 hl, lk10 hl, ll10 hl, lk11 hl, ll11 hl, lk12 hl, lr12_0 hl, lk13 hl, ll13 hl, lk14 hl, lr14_2 hl, lr14_3 hl, lr14_4 hl, lr14_5 hl, lr14_6 hl, lr14_7 hl, lr14_9 hl, lr14_10 hl, lk15 hl, ll15 hl, lk16 hl, ll16 hl, lk17 hl, ll17 hl, lk18 hl, ll18 hl, lk19 hl, ll19 hl, lk20 hl, ll20 hl, lk21 hl, ll21 hl, lk22 hl, lr22_0 hl, lk23 hl, ll23 hl, lk24 hl, lr24_2 hl, lr24_3 hl, lr24_4 hl, lr24_5 hl, lr24_6 hl, lr24_7 hl, lr24_9 hl, lr24_10 hl, lk25 hl, ll25 hl, lk26 hl, ll26 hl, lk27 hl, ll27 hl, lk28 hl, ll28 hl, lk29 hl, ll29 hl, lk30 hl, ll30 hl, lk31 hl, ll31 hl, lk32 hl, lr32_1 hl, lk33 hl, ll33 hl, lk34 hl, lr34_0 hl, lk35 hl, ll35 hl, lk36 hl, lr36_0 hl, lk37 hl, ll37 hl, lk38 hl, lr38_0 hl, lk39 hl, ll39 hl, lk40 hl, ll40 hl, lk41 hl, lk42 hl, lr42_0 hl, lr42_1 hl, lr42_2 hl, lr42_3 hl, lk43 hl, ll43 hl, lk44 hl, ll44 hl, lk45 hl, ll45 hl, lk46 hl, ll46 hl, lk47 hl, lr47_1 hl, lk48 hl, ll48 hl]
  refine xs_slabOf24 hl hV x x0 ?_
  simp only [g103_0, g103_0r, g103_1, g103_2, g103_5, g103_6, g103_6r, g103_7, g103_10, g103_11, g103_12, g103_13, g103_13r, g103_14, g103_17, g103_18, g103_19, g103_20, g103_20r, g103_21, g103_22, g103_25, g103_26, g103_28, g103_28r, g103_29, g103_30, g103_33, g103_36, g103_36r, g103_37, g103_38, g103_39, g103_42, g103_44, g103_44r, g103_45, g103_48, g103_48r, g103_49, g103_52, g103_52r, g103_53, g103_56, g103_58, g103_59, g103_62, g103_63, g103_63r, g103_64, g103_67, g103_67r, g103_68, g103_71, g103_71r, g103_72, g103_75, g103_77, g103_80, g103_81, g103_81r, g103_82, g103_82r, g103_83, g103_86, g103_87, g103_88, g103_91, g103_94, g103_97, z_kl_i, z_kl_l, z_kl_r, z_kl_n, z_kl_x, z_kl_vr, z_c8_0, z_c8_i, z_c8_l, z_c8_r, z_c8_vr, z_c8_n, z_vr_some, z_vr_none, Option.toList_some, Option.toList_none, List.cons_append, List.nil_append, true_and, and_true, and_self, z_k_sI, z_len_sI, z_R_sI, z_N_sI, z_set_0, z_set_1, z_set_s, eq_self, true_implies, false_implies, not_true_eq_false, not_false_eq_true, ne_eq, true_or, or_true, false_or, or_false, false_and, and_false, Int.reduceNeg, Int.reduceEq, Int.reduceNe, Int.reduceLT, Int.reduceLE, Nat.reduceLeDiff, Nat.reduceEqDiff, Nat.reduceSub, Nat.reduceAdd, reduceCtorEq, reduceIte, implies_true, List.reverse_nil, lk1 hl, ll1 hl, lk2 hl, lr2_0 hl, lr2_1 hl, lr2_2 hl, lr2_3 hl, lr2_6 hl, lr2_7 hl, lr2_8 hl, lr2_9 hl, lr2_10 hl, lr2_11 hl, lr2_13 hl, lr2_14 hl, lr2_15 hl, lr2_16 hl, lr2_17 hl, lr2_18 hl, lk3 hl, lr3_0 hl, lk4 hl, ll4 hl, lk5 hl, lr5_0 hl, lr5_2 hl, lr5_3 hl, lr5_4 hl, lk6 hl, ll6 hl, lk7 hl, ll7 hl, lk8 hl, lr8_0 hl, lk9 hl, ll9 hl, lk10 hl, ll10 hl, lk11 hl, ll11 hl, lk12 hl, lr12_0 hl, lk13 hl, ll13 hl, lk14 hl, lr14_2 hl, lr14_3 hl, lr14_4 hl, lr14_5 hl, lr14_6 hl, lr14_7 hl, lr14_9 hl, lr14_10 hl, lk15 hl, ll15 hl, lk16 hl, ll16 hl, lk17 hl, ll17 hl, lk18 hl, ll18 hl, lk19 hl, ll19 hl, lk20 hl, ll20 hl, lk21 hl, ll21 hl, lk22 hl, lr22_0 hl, lk23 hl, ll23 hl, lk24 hl, lr24_2 hl, lr24_3 hl, lr24_4 hl, lr24_5 hl, lr24_6 hl, lr24_7 hl, lr24_9 hl, lr24_10 hl, lk25 hl, ll25 hl, lk26 hl, ll26 hl, lk27 hl, ll27 hl, lk28 hl, ll28 hl, lk29 hl, ll29 hl, lk30 hl, ll30 hl, lk31 hl, ll31 hl, lk32 hl, lr32_1 hl, lk33 hl, ll33 hl, lk34 hl, lr34_0 hl, lk35 hl, ll35 hl, lk36 hl, lr36_0 hl, lk37 hl, ll37 hl, lk38 hl, lr38_0 hl, lk39 hl, ll39 hl, lk40 hl, ll40 hl, lk41 hl, lk42 hl, lr42_0 hl, lr42_1 hl, lr42_2 hl, lr42_3 hl, lk43 hl, ll43 hl, lk44 hl, ll44 hl, lk45 hl, ll45 hl, lk46 hl, ll46 hl, lk47 hl, lr47_1 hl, lk48 hl, ll48 hl]
  refine loop (co_n V x).toNat 0 _ _ (z_fr_sF (z_fr_sI (z_fr_sI z_fr_rf (by decide)) (by decide)) (by decide)) (by omega) (by omega) (z_I_at rfl) (fun q q0 q1 => ?_)
  have eq : q = 0 := by omega
  refine ⟨?_, ?_⟩
  · rw [z_I_np (by decide), z_I_np (by decide), z_I_at eq, eq]
    exact (if_pos (Int.le_refl 0)).symm
  · rw [z_I_np (by decide), z_I_at eq, eq, rb_0]
theorem xs_partTo24 {d u w} {Q : z_P} (hl : z_lay w) {V : pu_V} {x : Int} (hW : co_W (z_I w 24 8) (z_I w 28) (z_I w 29) V x) (j : Int) (j0 : 0 ≤ j) (j1 : j ≤ co_n V x) (k : Q (some (z_i (co_f V x (j + 1)))) w) : z_G d u 104 0 [z_r 24, z_i j] [] w Q := by
  have nb := co_n_bd V x
  have h8 := hW.1
  have f1 : j + 1 ≤ co_n V x → z_I w 28 (j + 1) = co_f V x (j + 1) := fun h => (hW.2 (j + 1) (by omega) h).1
  have f2 : ¬ (j + 1 ≤ co_n V x) → (64 : Int) = co_f V x (j + 1) := fun h => by
    unfold co_f
    rw [if_neg (by omega), if_neg h]
  have kv : ∀ z, z = co_f V x (j + 1) → Q (some (z_i z)) w := fun z hz => by rw [hz]; exact k
  (repeat' (first | (simp (discharger := omega) only [z_add_eq, z_sub_eq, z_mul_eq]) | (with_reducible refine And.intro ?_ ?_) | (with_reducible intro _) | (exact kv _ (f1 (by omega))) | (exact kv _ (f2 (by omega))) | (simp only [g104_0, g104_1, g104_2, g104_3, g104_3r, g104_4, g104_7, g104_10, g104_10r, g104_11, g104_14, g104_15, g104_16, g104_17, g104_18, g104_21, g104_23 (st := []), z_kl_i, z_kl_l, z_kl_r, z_kl_n, z_kl_x, z_kl_vr, z_c8_0, z_c8_i, z_c8_l, z_c8_r, z_c8_vr, z_c8_n, z_vr_some, z_vr_none, Option.toList_some, Option.toList_none, List.cons_append, List.nil_append, true_and, and_true, and_self, z_k_sI, z_len_sI, z_R_sI, z_N_sI, z_set_0, z_set_1, z_set_s, eq_self, true_implies, false_implies, not_true_eq_false, not_false_eq_true, ne_eq, true_or, or_true, false_or, or_false, false_and, and_false, Int.reduceNeg, Int.reduceEq, Int.reduceNe, Int.reduceLT, Int.reduceLE, Nat.reduceLeDiff, Nat.reduceEqDiff, Nat.reduceSub, Nat.reduceAdd, reduceCtorEq, reduceIte, implies_true, List.reverse_nil, lk1 hl, ll1 hl, lk2 hl, lr2_0 hl, lr2_1 hl, lr2_2 hl, lr2_3 hl, lr2_6 hl, lr2_7 hl, lr2_8 hl, lr2_9 hl, lr2_10 hl, lr2_11 hl, lr2_13 hl, lr2_14 hl, lr2_15 hl, lr2_16 hl, lr2_17 hl, lr2_18 hl, lk3 hl, lr3_0 hl, lk4 hl, ll4 hl, lk5 hl, lr5_0 hl, lr5_2 hl, lr5_3 hl, lr5_4 hl, lk6 hl, ll6 hl, lk7 hl, ll7 hl, lk8 hl, lr8_0 hl, lk9 hl, ll9 hl, lk10 hl, ll10 hl, lk11 hl, ll11 hl, lk12 hl, lr12_0 hl, lk13 hl, ll13 hl, lk14 hl, lr14_2 hl, lr14_3 hl, lr14_4 hl, lr14_5 hl, lr14_6 hl, lr14_7 hl, lr14_9 hl, lr14_10 hl, lk15 hl, ll15 hl, lk16 hl, ll16 hl, lk17 hl, ll17 hl, lk18 hl, ll18 hl, lk19 hl, ll19 hl, lk20 hl, ll20 hl, lk21 hl, ll21 hl, lk22 hl, lr22_0 hl, lk23 hl, ll23 hl, lk24 hl, lr24_2 hl, lr24_3 hl, lr24_4 hl, lr24_5 hl, lr24_6 hl, lr24_7 hl, lr24_9 hl, lr24_10 hl, lk25 hl, ll25 hl, lk26 hl, ll26 hl, lk27 hl, ll27 hl, lk28 hl, ll28 hl, lk29 hl, ll29 hl, lk30 hl, ll30 hl, lk31 hl, ll31 hl, lk32 hl, lr32_1 hl, lk33 hl, ll33 hl, lk34 hl, lr34_0 hl, lk35 hl, ll35 hl, lk36 hl, lr36_0 hl, lk37 hl, ll37 hl, lk38 hl, lr38_0 hl, lk39 hl, ll39 hl, lk40 hl, ll40 hl, lk41 hl, lk42 hl, lr42_0 hl, lr42_1 hl, lr42_2 hl, lr42_3 hl, lk43 hl, ll43 hl, lk44 hl, ll44 hl, lk45 hl, ll45 hl, lk46 hl, ll46 hl, lk47 hl, lr47_1 hl, lk48 hl, ll48 hl]) | omega))
set_option maxRecDepth 20000 in
theorem xs_countPoints24 {d u w} {Q : z_P} (hl : z_lay w) (hS : z_SL w 24 23 26 27) {V : pu_V} (hv : pu_ok V) (hn : pu_nc V) (he : pu_eq (pu_vC (z_I w 23)) V) (hV : sl_V (z_I w 24 1) (z_I w 25) (z_I w 26) (z_I w 27) V) (k : ∀ w', z_fr [28, 29, 30] [(24, 8)] w w' → (∀ r, 0 ≤ r → r < 10 → z_I w' 30 r = pts V r) → Q (some (z_r 30)) w') : z_G (d + 4) u 105 0 [z_r 24, z_x, z_x] [] w Q := by
  have fr : ∀ w1, z_fr [28, 29, 30] [(24, 8)] w w1 → z_lay w1 ∧ z_SL w1 24 23 26 27 ∧ pu_eq (pu_vC (z_I w1 23)) V ∧ sl_V (z_I w1 24 1) (z_I w1 25) (z_I w1 26) (z_I w1 27) V := by
    intro w1 hf
    have ef : ∀ p, p ≠ 28 → p ≠ 29 → p ≠ 30 → p ≠ 24 → z_I w1 p = z_I w p := fun p h1 h2 h3 h4 => funext fun i => hf.2 p i (by simp only [List.mem_cons, List.not_mem_nil, or_false]; omega) (by simp only [List.mem_cons, List.not_mem_nil, or_false, Prod.mk.injEq]; omega)
    have e1 : z_I w1 24 1 = z_I w 24 1 := hf.2 24 1 (by decide) (by decide)
    refine ⟨z_fr_lay hf hl, z_SL_fr hf (by decide) (by decide) hS, ?_, ?_⟩
    · rw [ef 23 (by decide) (by decide) (by decide) (by decide)]
      exact he
    · rw [e1, ef 25 (by decide) (by decide) (by decide) (by decide), ef 26 (by decide) (by decide) (by decide) (by decide), ef 27 (by decide) (by decide) (by decide) (by decide)]
      exact hV
  have l2 : ∀ (n : Nat) (x j : Int) (w1 : z_W), z_fr [28, 29, 30] [(24, 8)] w w1 → 0 ≤ x → x ≤ 63 → co_W (z_I w1 24 8) (z_I w1 28) (z_I w1 29) V x → 0 ≤ j → j + n = co_n V x + 1 → (∀ r, 0 ≤ r → r < 10 → z_I w1 30 r + cn (co_p V x r) (co_f V x j) 64 + su (co_c V r) (63 - x).toNat (x + 1) = pts V r) → (∀ w2 j, z_fr [28, 29, 30] [(24, 8)] w w2 → (∀ r, 0 ≤ r → r < 10 → z_I w2 30 r + su (co_c V r) (63 - x).toNat (x + 1) = pts V r) → z_G (d + 4) u 105 63 [z_r 24, z_i x, z_i j] [] w2 Q) → z_G (d + 4) u 105 23 [z_r 24, z_i x, z_i j] [] w1 Q := by
    intro n
    induction n with
    | zero =>
      intro x j w1 hf x0 x1 hW j0 j1 g kk
      have hl1 := z_fr_lay hf hl
      have h8 := hW.1
      have e64 : co_f V x j = 64 := by
        have := co_n_bd V x
        unfold co_f
        rw [if_neg (by omega), if_neg (by omega)]
      rw [g105_23]
      simp only [g105_0, g105_0r, g105_1, g105_4, g105_5, g105_8, g105_9, g105_10, g105_11, g105_13, g105_16, g105_16r, g105_17, g105_18, g105_21, g105_22, g105_24, g105_24r, g105_25, g105_28, g105_31, g105_31r, g105_32, g105_35, g105_35r, g105_36, g105_39, g105_40, g105_41, g105_42, g105_43, g105_43r, g105_44, g105_45, g105_48, g105_48r, g105_49, g105_52, g105_53, g105_54, g105_55, g105_56, g105_57, g105_60, g105_66, g105_69, g105_69r, g105_70, g105_73 (st := []), g105_73r, g105_73n, z_kl_i, z_kl_l, z_kl_r, z_kl_n, z_kl_x, z_kl_vr, z_c8_0, z_c8_i, z_c8_l, z_c8_r, z_c8_vr, z_c8_n, z_vr_some, z_vr_none, Option.toList_some, Option.toList_none, List.cons_append, List.nil_append, true_and, and_true, and_self, z_k_sI, z_len_sI, z_R_sI, z_N_sI, z_set_0, z_set_1, z_set_s, eq_self, true_implies, false_implies, not_true_eq_false, not_false_eq_true, ne_eq, true_or, or_true, false_or, or_false, false_and, and_false, Int.reduceNeg, Int.reduceEq, Int.reduceNe, Int.reduceLT, Int.reduceLE, Nat.reduceLeDiff, Nat.reduceEqDiff, Nat.reduceSub, Nat.reduceAdd, reduceCtorEq, reduceIte, implies_true, List.reverse_nil, lk1 hl1, ll1 hl1, lk2 hl1, lr2_0 hl1, lr2_1 hl1, lr2_2 hl1, lr2_3 hl1, lr2_6 hl1, lr2_7 hl1, lr2_8 hl1, lr2_9 hl1, lr2_10 hl1, lr2_11 hl1, lr2_13 hl1, lr2_14 hl1, lr2_15 hl1, lr2_16 hl1, lr2_17 hl1, lr2_18 hl1, lk3 hl1, lr3_0 hl1, lk4 hl1, ll4 hl1, lk5 hl1, lr5_0 hl1, lr5_2 hl1, lr5_3 hl1, lr5_4 hl1, lk6 hl1, ll6 hl1, lk7 hl1, ll7 hl1, lk8 hl1, lr8_0 hl1, lk9 hl1, ll9 hl1, lk10 hl1, ll10 hl1, lk11 hl1, ll11 hl1, lk12 hl1, lr12_0 hl1, lk13 hl1, ll13 hl1, lk14 hl1, lr14_2 hl1, lr14_3 hl1, lr14_4 hl1, lr14_5 hl1, lr14_6 hl1, lr14_7 hl1, lr14_9 hl1, lr14_10 hl1, lk15 hl1, ll15 hl1, lk16 hl1, ll16 hl1, lk17 hl1, ll17 hl1, lk18 hl1, ll18 hl1, lk19 hl1, ll19 hl1, lk20 hl1, ll20 hl1, lk21 hl1, ll21 hl1, lk22 hl1, lr22_0 hl1, lk23 hl1, ll23 hl1, lk24 hl1, lr24_2 hl1, lr24_3 hl1, lr24_4 hl1, lr24_5 hl1, lr24_6 hl1, lr24_7 hl1, lr24_9 hl1, lr24_10 hl1, lk25 hl1, ll25 hl1, lk26 hl1, ll26 hl1, lk27 hl1, ll27 hl1, lk28 hl1, ll28 hl1, lk29 hl1, ll29 hl1, lk30 hl1, ll30 hl1, lk31 hl1, ll31 hl1, lk32 hl1, lr32_1 hl1, lk33 hl1, ll33 hl1, lk34 hl1, lr34_0 hl1, lk35 hl1, ll35 hl1, lk36 hl1, lr36_0 hl1, lk37 hl1, ll37 hl1, lk38 hl1, lr38_0 hl1, lk39 hl1, ll39 hl1, lk40 hl1, ll40 hl1, lk41 hl1, lk42 hl1, lr42_0 hl1, lr42_1 hl1, lr42_2 hl1, lr42_3 hl1, lk43 hl1, ll43 hl1, lk44 hl1, ll44 hl1, lk45 hl1, ll45 hl1, lk46 hl1, ll46 hl1, lk47 hl1, lr47_1 hl1, lk48 hl1, ll48 hl1]
      refine fun _ => ⟨fun c => kk w1 j hf (fun r r0 r1 => ?_), fun c => absurd c (by omega)⟩
      have q := g r r0 r1
      rw [e64, cn_0 _ (Int.le_refl _)] at q
      omega
    | succ n ih =>
      intro x j w1 hf x0 x1 hW j0 j1 g kk
      obtain ⟨hl1, hS1, he1, hV1⟩ := fr w1 hf
      have nb := co_n_bd V x
      have h8 := hW.1
      obtain ⟨a1, a2⟩ := hW.2 j j0 (by omega)
      have rbd := rb_bd hv (sl_a V x) j
      have fj := co_f_bd hv x0 j
      have fj1 := co_f_bd hv x0 (j + 1)
      have mo := co_f_mo hv hn x0 j
      have q := g _ rbd.1 (by omega)
      have cb := cn_bd (co_p V x (rb V (sl_a V x) j)) fj.2.1
      have sb := su_bd (f := co_c V (rb V (sl_a V x) j)) (B := 64) (63 - x).toNat (x + 1) (fun x _ _ => co_c_bd V _ x)
      have pb := pts_bd V (rb V (sl_a V x) j)
      rw [g105_23]
      simp only [g105_0, g105_0r, g105_1, g105_4, g105_5, g105_8, g105_9, g105_10, g105_11, g105_13, g105_16, g105_16r, g105_17, g105_18, g105_21, g105_22, g105_24, g105_24r, g105_25, g105_28, g105_31, g105_31r, g105_32, g105_35, g105_35r, g105_36, g105_39, g105_40, g105_41, g105_42, g105_43, g105_43r, g105_44, g105_45, g105_48, g105_48r, g105_49, g105_52, g105_53, g105_54, g105_55, g105_56, g105_57, g105_60, g105_66, g105_69, g105_69r, g105_70, g105_73 (st := []), g105_73r, g105_73n, z_kl_i, z_kl_l, z_kl_r, z_kl_n, z_kl_x, z_kl_vr, z_c8_0, z_c8_i, z_c8_l, z_c8_r, z_c8_vr, z_c8_n, z_vr_some, z_vr_none, Option.toList_some, Option.toList_none, List.cons_append, List.nil_append, true_and, and_true, and_self, z_k_sI, z_len_sI, z_R_sI, z_N_sI, z_set_0, z_set_1, z_set_s, eq_self, true_implies, false_implies, not_true_eq_false, not_false_eq_true, ne_eq, true_or, or_true, false_or, or_false, false_and, and_false, Int.reduceNeg, Int.reduceEq, Int.reduceNe, Int.reduceLT, Int.reduceLE, Nat.reduceLeDiff, Nat.reduceEqDiff, Nat.reduceSub, Nat.reduceAdd, reduceCtorEq, reduceIte, implies_true, List.reverse_nil, lk1 hl1, ll1 hl1, lk2 hl1, lr2_0 hl1, lr2_1 hl1, lr2_2 hl1, lr2_3 hl1, lr2_6 hl1, lr2_7 hl1, lr2_8 hl1, lr2_9 hl1, lr2_10 hl1, lr2_11 hl1, lr2_13 hl1, lr2_14 hl1, lr2_15 hl1, lr2_16 hl1, lr2_17 hl1, lr2_18 hl1, lk3 hl1, lr3_0 hl1, lk4 hl1, ll4 hl1, lk5 hl1, lr5_0 hl1, lr5_2 hl1, lr5_3 hl1, lr5_4 hl1, lk6 hl1, ll6 hl1, lk7 hl1, ll7 hl1, lk8 hl1, lr8_0 hl1, lk9 hl1, ll9 hl1, lk10 hl1, ll10 hl1, lk11 hl1, ll11 hl1, lk12 hl1, lr12_0 hl1, lk13 hl1, ll13 hl1, lk14 hl1, lr14_2 hl1, lr14_3 hl1, lr14_4 hl1, lr14_5 hl1, lr14_6 hl1, lr14_7 hl1, lr14_9 hl1, lr14_10 hl1, lk15 hl1, ll15 hl1, lk16 hl1, ll16 hl1, lk17 hl1, ll17 hl1, lk18 hl1, ll18 hl1, lk19 hl1, ll19 hl1, lk20 hl1, ll20 hl1, lk21 hl1, ll21 hl1, lk22 hl1, lr22_0 hl1, lk23 hl1, ll23 hl1, lk24 hl1, lr24_2 hl1, lr24_3 hl1, lr24_4 hl1, lr24_5 hl1, lr24_6 hl1, lr24_7 hl1, lr24_9 hl1, lr24_10 hl1, lk25 hl1, ll25 hl1, lk26 hl1, ll26 hl1, lk27 hl1, ll27 hl1, lk28 hl1, ll28 hl1, lk29 hl1, ll29 hl1, lk30 hl1, ll30 hl1, lk31 hl1, ll31 hl1, lk32 hl1, lr32_1 hl1, lk33 hl1, ll33 hl1, lk34 hl1, lr34_0 hl1, lk35 hl1, ll35 hl1, lk36 hl1, lr36_0 hl1, lk37 hl1, ll37 hl1, lk38 hl1, lr38_0 hl1, lk39 hl1, ll39 hl1, lk40 hl1, ll40 hl1, lk41 hl1, lk42 hl1, lr42_0 hl1, lr42_1 hl1, lr42_2 hl1, lr42_3 hl1, lk43 hl1, ll43 hl1, lk44 hl1, ll44 hl1, lk45 hl1, ll45 hl1, lk46 hl1, ll46 hl1, lk47 hl1, lr47_1 hl1, lk48 hl1, ll48 hl1, h8, a1, a2]
      refine fun _ => ⟨fun c => absurd c (by omega), fun c => ?_⟩
      refine ⟨by omega, by omega, fun _ => ⟨by omega, by omega, fun _ => ?_⟩⟩
      refine xs_partTo24 hl1 hW _ j0 (by omega) ?_
      simp only [g105_0, g105_0r, g105_1, g105_4, g105_5, g105_8, g105_9, g105_10, g105_11, g105_13, g105_16, g105_16r, g105_17, g105_18, g105_21, g105_22, g105_24, g105_24r, g105_25, g105_28, g105_31, g105_31r, g105_32, g105_35, g105_35r, g105_36, g105_39, g105_40, g105_41, g105_42, g105_43, g105_43r, g105_44, g105_45, g105_48, g105_48r, g105_49, g105_52, g105_53, g105_54, g105_55, g105_56, g105_57, g105_60, g105_66, g105_69, g105_69r, g105_70, g105_73 (st := []), g105_73r, g105_73n, z_kl_i, z_kl_l, z_kl_r, z_kl_n, z_kl_x, z_kl_vr, z_c8_0, z_c8_i, z_c8_l, z_c8_r, z_c8_vr, z_c8_n, z_vr_some, z_vr_none, Option.toList_some, Option.toList_none, List.cons_append, List.nil_append, true_and, and_true, and_self, z_k_sI, z_len_sI, z_R_sI, z_N_sI, z_set_0, z_set_1, z_set_s, eq_self, true_implies, false_implies, not_true_eq_false, not_false_eq_true, ne_eq, true_or, or_true, false_or, or_false, false_and, and_false, Int.reduceNeg, Int.reduceEq, Int.reduceNe, Int.reduceLT, Int.reduceLE, Nat.reduceLeDiff, Nat.reduceEqDiff, Nat.reduceSub, Nat.reduceAdd, reduceCtorEq, reduceIte, implies_true, List.reverse_nil, lk1 hl1, ll1 hl1, lk2 hl1, lr2_0 hl1, lr2_1 hl1, lr2_2 hl1, lr2_3 hl1, lr2_6 hl1, lr2_7 hl1, lr2_8 hl1, lr2_9 hl1, lr2_10 hl1, lr2_11 hl1, lr2_13 hl1, lr2_14 hl1, lr2_15 hl1, lr2_16 hl1, lr2_17 hl1, lr2_18 hl1, lk3 hl1, lr3_0 hl1, lk4 hl1, ll4 hl1, lk5 hl1, lr5_0 hl1, lr5_2 hl1, lr5_3 hl1, lr5_4 hl1, lk6 hl1, ll6 hl1, lk7 hl1, ll7 hl1, lk8 hl1, lr8_0 hl1, lk9 hl1, ll9 hl1, lk10 hl1, ll10 hl1, lk11 hl1, ll11 hl1, lk12 hl1, lr12_0 hl1, lk13 hl1, ll13 hl1, lk14 hl1, lr14_2 hl1, lr14_3 hl1, lr14_4 hl1, lr14_5 hl1, lr14_6 hl1, lr14_7 hl1, lr14_9 hl1, lr14_10 hl1, lk15 hl1, ll15 hl1, lk16 hl1, ll16 hl1, lk17 hl1, ll17 hl1, lk18 hl1, ll18 hl1, lk19 hl1, ll19 hl1, lk20 hl1, ll20 hl1, lk21 hl1, ll21 hl1, lk22 hl1, lr22_0 hl1, lk23 hl1, ll23 hl1, lk24 hl1, lr24_2 hl1, lr24_3 hl1, lr24_4 hl1, lr24_5 hl1, lr24_6 hl1, lr24_7 hl1, lr24_9 hl1, lr24_10 hl1, lk25 hl1, ll25 hl1, lk26 hl1, ll26 hl1, lk27 hl1, ll27 hl1, lk28 hl1, ll28 hl1, lk29 hl1, ll29 hl1, lk30 hl1, ll30 hl1, lk31 hl1, ll31 hl1, lk32 hl1, lr32_1 hl1, lk33 hl1, ll33 hl1, lk34 hl1, lr34_0 hl1, lk35 hl1, ll35 hl1, lk36 hl1, lr36_0 hl1, lk37 hl1, ll37 hl1, lk38 hl1, lr38_0 hl1, lk39 hl1, ll39 hl1, lk40 hl1, ll40 hl1, lk41 hl1, lk42 hl1, lr42_0 hl1, lr42_1 hl1, lr42_2 hl1, lr42_3 hl1, lk43 hl1, ll43 hl1, lk44 hl1, ll44 hl1, lk45 hl1, ll45 hl1, lk46 hl1, ll46 hl1, lk47 hl1, lr47_1 hl1, lk48 hl1, ll48 hl1, a1]
      refine ⟨by omega, by omega, fun _ => ⟨by omega, by omega, ?_⟩⟩
      rw [z_add_eq (a := j) (by omega) (by omega), z_sub_eq (by omega) (by omega), z_add_eq (by omega) (by omega)]
      refine ih x (j + 1) _ (z_fr_sI hf (by decide)) x0 x1 ?_ (by omega) (by omega) (fun r r0 r1 => ?_) kk
      · exact ⟨(z_I_np (by decide)).trans hW.1, fun q q0 q1 => ⟨(z_I_np (by decide)).trans (hW.2 q q0 q1).1, (z_I_np (by decide)).trans (hW.2 q q0 q1).2⟩⟩
      · have q2 := g r r0 r1
        rw [cn_sp (co_p V x r) mo fj1.2.1, co_in hv hn x0 j0 (by omega) r (Int.le_refl _) (Int.le_refl _) mo] at q2
        by_cases c2 : r = rb V (sl_a V x) j
        · rw [z_I_at c2]
          rw [if_pos c2.symm, c2] at q2
          rw [c2]
          omega
        · rw [z_I_ne c2]
          rw [if_neg (fun z => c2 z.symm)] at q2
          omega
  have l1 : ∀ (n : Nat) (x : Int) (v : z_V) (w1 : z_W), z_kl v = v → z_fr [28, 29, 30] [(24, 8)] w w1 → 0 ≤ x → x + n = 64 → (∀ r, 0 ≤ r → r < 10 → z_I w1 30 r + su (co_c V r) n x = pts V r) → z_G (d + 4) u 105 10 [z_r 24, z_i x, v] [] w1 Q := by
    intro n
    induction n with
    | zero =>
      intro x v w1 hkv hf x0 x1 g
      have hl1 := z_fr_lay hf hl
      rw [g105_10]
      simp only [g105_0, g105_0r, g105_1, g105_4, g105_5, g105_8, g105_9, g105_11, g105_13, g105_16, g105_16r, g105_17, g105_18, g105_21, g105_22, g105_24, g105_24r, g105_25, g105_28, g105_31, g105_31r, g105_32, g105_35, g105_35r, g105_36, g105_39, g105_40, g105_41, g105_42, g105_43, g105_43r, g105_44, g105_45, g105_48, g105_48r, g105_49, g105_52, g105_53, g105_54, g105_55, g105_56, g105_57, g105_60, g105_63, g105_66, g105_69, g105_69r, g105_70, g105_73 (st := []), g105_73r, g105_73n, z_kl_i, z_kl_l, z_kl_r, z_kl_n, z_kl_x, z_kl_vr, z_c8_0, z_c8_i, z_c8_l, z_c8_r, z_c8_vr, z_c8_n, z_vr_some, z_vr_none, Option.toList_some, Option.toList_none, List.cons_append, List.nil_append, true_and, and_true, and_self, z_k_sI, z_len_sI, z_R_sI, z_N_sI, z_set_0, z_set_1, z_set_s, eq_self, true_implies, false_implies, not_true_eq_false, not_false_eq_true, ne_eq, true_or, or_true, false_or, or_false, false_and, and_false, Int.reduceNeg, Int.reduceEq, Int.reduceNe, Int.reduceLT, Int.reduceLE, Nat.reduceLeDiff, Nat.reduceEqDiff, Nat.reduceSub, Nat.reduceAdd, reduceCtorEq, reduceIte, implies_true, List.reverse_nil, lk1 hl1, ll1 hl1, lk2 hl1, lr2_0 hl1, lr2_1 hl1, lr2_2 hl1, lr2_3 hl1, lr2_6 hl1, lr2_7 hl1, lr2_8 hl1, lr2_9 hl1, lr2_10 hl1, lr2_11 hl1, lr2_13 hl1, lr2_14 hl1, lr2_15 hl1, lr2_16 hl1, lr2_17 hl1, lr2_18 hl1, lk3 hl1, lr3_0 hl1, lk4 hl1, ll4 hl1, lk5 hl1, lr5_0 hl1, lr5_2 hl1, lr5_3 hl1, lr5_4 hl1, lk6 hl1, ll6 hl1, lk7 hl1, ll7 hl1, lk8 hl1, lr8_0 hl1, lk9 hl1, ll9 hl1, lk10 hl1, ll10 hl1, lk11 hl1, ll11 hl1, lk12 hl1, lr12_0 hl1, lk13 hl1, ll13 hl1, lk14 hl1, lr14_2 hl1, lr14_3 hl1, lr14_4 hl1, lr14_5 hl1, lr14_6 hl1, lr14_7 hl1, lr14_9 hl1, lr14_10 hl1, lk15 hl1, ll15 hl1, lk16 hl1, ll16 hl1, lk17 hl1, ll17 hl1, lk18 hl1, ll18 hl1, lk19 hl1, ll19 hl1, lk20 hl1, ll20 hl1, lk21 hl1, ll21 hl1, lk22 hl1, lr22_0 hl1, lk23 hl1, ll23 hl1, lk24 hl1, lr24_2 hl1, lr24_3 hl1, lr24_4 hl1, lr24_5 hl1, lr24_6 hl1, lr24_7 hl1, lr24_9 hl1, lr24_10 hl1, lk25 hl1, ll25 hl1, lk26 hl1, ll26 hl1, lk27 hl1, ll27 hl1, lk28 hl1, ll28 hl1, lk29 hl1, ll29 hl1, lk30 hl1, ll30 hl1, lk31 hl1, ll31 hl1, lk32 hl1, lr32_1 hl1, lk33 hl1, ll33 hl1, lk34 hl1, lr34_0 hl1, lk35 hl1, ll35 hl1, lk36 hl1, lr36_0 hl1, lk37 hl1, ll37 hl1, lk38 hl1, lr38_0 hl1, lk39 hl1, ll39 hl1, lk40 hl1, ll40 hl1, lk41 hl1, lk42 hl1, lr42_0 hl1, lr42_1 hl1, lr42_2 hl1, lr42_3 hl1, lk43 hl1, ll43 hl1, lk44 hl1, ll44 hl1, lk45 hl1, ll45 hl1, lk46 hl1, ll46 hl1, lk47 hl1, lr47_1 hl1, lk48 hl1, ll48 hl1]
      refine ⟨fun _ => k w1 hf (fun r r0 r1 => ?_), fun c => absurd c (by omega)⟩
      have q := g r r0 r1
      rw [su] at q
      omega
    | succ n ih =>
      intro x v w1 hkv hf x0 x1 g
      obtain ⟨hl1, hS1, he1, hV1⟩ := fr w1 hf
      rw [g105_10]
      simp only [g105_0, g105_0r, g105_1, g105_4, g105_5, g105_8, g105_9, g105_11, g105_13, g105_16, g105_16r, g105_17, g105_18, g105_21, g105_22, g105_24, g105_24r, g105_25, g105_28, g105_31, g105_31r, g105_32, g105_35, g105_35r, g105_36, g105_39, g105_40, g105_41, g105_42, g105_43, g105_43r, g105_44, g105_45, g105_48, g105_48r, g105_49, g105_52, g105_53, g105_54, g105_55, g105_56, g105_57, g105_60, g105_63, g105_66, g105_69, g105_69r, g105_70, g105_73 (st := []), g105_73r, g105_73n, z_kl_i, z_kl_l, z_kl_r, z_kl_n, z_kl_x, z_kl_vr, z_c8_0, z_c8_i, z_c8_l, z_c8_r, z_c8_vr, z_c8_n, z_vr_some, z_vr_none, Option.toList_some, Option.toList_none, List.cons_append, List.nil_append, true_and, and_true, and_self, z_k_sI, z_len_sI, z_R_sI, z_N_sI, z_set_0, z_set_1, z_set_s, eq_self, true_implies, false_implies, not_true_eq_false, not_false_eq_true, ne_eq, true_or, or_true, false_or, or_false, false_and, and_false, Int.reduceNeg, Int.reduceEq, Int.reduceNe, Int.reduceLT, Int.reduceLE, Nat.reduceLeDiff, Nat.reduceEqDiff, Nat.reduceSub, Nat.reduceAdd, reduceCtorEq, reduceIte, implies_true, List.reverse_nil, lk1 hl1, ll1 hl1, lk2 hl1, lr2_0 hl1, lr2_1 hl1, lr2_2 hl1, lr2_3 hl1, lr2_6 hl1, lr2_7 hl1, lr2_8 hl1, lr2_9 hl1, lr2_10 hl1, lr2_11 hl1, lr2_13 hl1, lr2_14 hl1, lr2_15 hl1, lr2_16 hl1, lr2_17 hl1, lr2_18 hl1, lk3 hl1, lr3_0 hl1, lk4 hl1, ll4 hl1, lk5 hl1, lr5_0 hl1, lr5_2 hl1, lr5_3 hl1, lr5_4 hl1, lk6 hl1, ll6 hl1, lk7 hl1, ll7 hl1, lk8 hl1, lr8_0 hl1, lk9 hl1, ll9 hl1, lk10 hl1, ll10 hl1, lk11 hl1, ll11 hl1, lk12 hl1, lr12_0 hl1, lk13 hl1, ll13 hl1, lk14 hl1, lr14_2 hl1, lr14_3 hl1, lr14_4 hl1, lr14_5 hl1, lr14_6 hl1, lr14_7 hl1, lr14_9 hl1, lr14_10 hl1, lk15 hl1, ll15 hl1, lk16 hl1, ll16 hl1, lk17 hl1, ll17 hl1, lk18 hl1, ll18 hl1, lk19 hl1, ll19 hl1, lk20 hl1, ll20 hl1, lk21 hl1, ll21 hl1, lk22 hl1, lr22_0 hl1, lk23 hl1, ll23 hl1, lk24 hl1, lr24_2 hl1, lr24_3 hl1, lr24_4 hl1, lr24_5 hl1, lr24_6 hl1, lr24_7 hl1, lr24_9 hl1, lr24_10 hl1, lk25 hl1, ll25 hl1, lk26 hl1, ll26 hl1, lk27 hl1, ll27 hl1, lk28 hl1, ll28 hl1, lk29 hl1, ll29 hl1, lk30 hl1, ll30 hl1, lk31 hl1, ll31 hl1, lk32 hl1, lr32_1 hl1, lk33 hl1, ll33 hl1, lk34 hl1, lr34_0 hl1, lk35 hl1, ll35 hl1, lk36 hl1, lr36_0 hl1, lk37 hl1, ll37 hl1, lk38 hl1, lr38_0 hl1, lk39 hl1, ll39 hl1, lk40 hl1, ll40 hl1, lk41 hl1, lk42 hl1, lr42_0 hl1, lr42_1 hl1, lr42_2 hl1, lr42_3 hl1, lk43 hl1, ll43 hl1, lk44 hl1, ll44 hl1, lk45 hl1, ll45 hl1, lk46 hl1, ll46 hl1, lk47 hl1, lr47_1 hl1, lk48 hl1, ll48 hl1, hkv]
      refine ⟨fun c => absurd c (by omega), fun c => ?_⟩
      refine xs_cutColumn24 hl1 hS1 hv he1 hV1 x x0 (by omega) (fun w2 g1 g2 => ?_)
      simp only [g105_0, g105_0r, g105_1, g105_4, g105_5, g105_8, g105_9, g105_11, g105_13, g105_16, g105_16r, g105_17, g105_18, g105_21, g105_22, g105_24, g105_24r, g105_25, g105_28, g105_31, g105_31r, g105_32, g105_35, g105_35r, g105_36, g105_39, g105_40, g105_41, g105_42, g105_43, g105_43r, g105_44, g105_45, g105_48, g105_48r, g105_49, g105_52, g105_53, g105_54, g105_55, g105_56, g105_57, g105_60, g105_63, g105_66, g105_69, g105_69r, g105_70, g105_73 (st := []), g105_73r, g105_73n, z_kl_i, z_kl_l, z_kl_r, z_kl_n, z_kl_x, z_kl_vr, z_c8_0, z_c8_i, z_c8_l, z_c8_r, z_c8_vr, z_c8_n, z_vr_some, z_vr_none, Option.toList_some, Option.toList_none, List.cons_append, List.nil_append, true_and, and_true, and_self, z_k_sI, z_len_sI, z_R_sI, z_N_sI, z_set_0, z_set_1, z_set_s, eq_self, true_implies, false_implies, not_true_eq_false, not_false_eq_true, ne_eq, true_or, or_true, false_or, or_false, false_and, and_false, Int.reduceNeg, Int.reduceEq, Int.reduceNe, Int.reduceLT, Int.reduceLE, Nat.reduceLeDiff, Nat.reduceEqDiff, Nat.reduceSub, Nat.reduceAdd, reduceCtorEq, reduceIte, implies_true, List.reverse_nil, hkv]
      have hf2 := z_fr_tr hf (z_fr_mo g1 (by decide) (by decide) : z_fr [28, 29, 30] [(24, 8)] w1 w2)
      have en : (63 - x).toNat = n := by omega
      refine l2 (co_n V x + 1).toNat x 0 w2 hf2 x0 (by omega) g2 (by omega) (by have := co_n_bd V x; omega) (fun r r0 r1 => ?_) (fun w3 j g3 g4 => ?_)
      · have q := g r r0 r1
        rw [su] at q
        rw [g1.2 30 r (by decide) (by simp), en]
        replace q : z_I w1 30 r + (cn (co_p V x r) 0 64 + su (co_c V r) n (x + 1)) = pts V r := q
        rw [show co_f V x 0 = 0 from if_pos (Int.le_refl 0)]
        omega
      · rw [en] at g4
        simp only [g105_0, g105_0r, g105_1, g105_4, g105_5, g105_8, g105_9, g105_11, g105_13, g105_16, g105_16r, g105_17, g105_18, g105_21, g105_22, g105_24, g105_24r, g105_25, g105_28, g105_31, g105_31r, g105_32, g105_35, g105_35r, g105_36, g105_39, g105_40, g105_41, g105_42, g105_43, g105_43r, g105_44, g105_45, g105_48, g105_48r, g105_49, g105_52, g105_53, g105_54, g105_55, g105_56, g105_57, g105_60, g105_63, g105_66, g105_69, g105_69r, g105_70, g105_73 (st := []), g105_73r, g105_73n, z_kl_i, z_kl_l, z_kl_r, z_kl_n, z_kl_x, z_kl_vr, z_c8_0, z_c8_i, z_c8_l, z_c8_r, z_c8_vr, z_c8_n, z_vr_some, z_vr_none, Option.toList_some, Option.toList_none, List.cons_append, List.nil_append, true_and, and_true, and_self, z_k_sI, z_len_sI, z_R_sI, z_N_sI, z_set_0, z_set_1, z_set_s, eq_self, true_implies, false_implies, not_true_eq_false, not_false_eq_true, ne_eq, true_or, or_true, false_or, or_false, false_and, and_false, Int.reduceNeg, Int.reduceEq, Int.reduceNe, Int.reduceLT, Int.reduceLE, Nat.reduceLeDiff, Nat.reduceEqDiff, Nat.reduceSub, Nat.reduceAdd, reduceCtorEq, reduceIte, implies_true, List.reverse_nil]
        rw [z_add_eq (by omega) (by omega)]
        exact ih _ _ w3 rfl g3 (by omega) (by omega) g4
  simp only [g105_0, g105_0r, g105_1, g105_4, g105_5, g105_8, g105_9, g105_11, g105_13, g105_16, g105_16r, g105_17, g105_18, g105_21, g105_22, g105_24, g105_24r, g105_25, g105_28, g105_31, g105_31r, g105_32, g105_35, g105_35r, g105_36, g105_39, g105_40, g105_41, g105_42, g105_43, g105_43r, g105_44, g105_45, g105_48, g105_48r, g105_49, g105_52, g105_53, g105_54, g105_55, g105_56, g105_57, g105_60, g105_63, g105_66, g105_69, g105_69r, g105_70, g105_73 (st := []), g105_73r, g105_73n, z_kl_i, z_kl_l, z_kl_r, z_kl_n, z_kl_x, z_kl_vr, z_c8_0, z_c8_i, z_c8_l, z_c8_r, z_c8_vr, z_c8_n, z_vr_some, z_vr_none, Option.toList_some, Option.toList_none, List.cons_append, List.nil_append, true_and, and_true, and_self, z_k_sI, z_len_sI, z_R_sI, z_N_sI, z_set_0, z_set_1, z_set_s, eq_self, true_implies, false_implies, not_true_eq_false, not_false_eq_true, ne_eq, true_or, or_true, false_or, or_false, false_and, and_false, Int.reduceNeg, Int.reduceEq, Int.reduceNe, Int.reduceLT, Int.reduceLE, Nat.reduceLeDiff, Nat.reduceEqDiff, Nat.reduceSub, Nat.reduceAdd, reduceCtorEq, reduceIte, implies_true, List.reverse_nil, lk1 hl, ll1 hl, lk2 hl, lr2_0 hl, lr2_1 hl, lr2_2 hl, lr2_3 hl, lr2_6 hl, lr2_7 hl, lr2_8 hl, lr2_9 hl, lr2_10 hl, lr2_11 hl, lr2_13 hl, lr2_14 hl, lr2_15 hl, lr2_16 hl, lr2_17 hl, lr2_18 hl, lk3 hl, lr3_0 hl, lk4 hl, ll4 hl, lk5 hl, lr5_0 hl, lr5_2 hl, lr5_3 hl, lr5_4 hl, lk6 hl, ll6 hl, lk7 hl, ll7 hl, lk8 hl, lr8_0 hl, lk9 hl, ll9 hl, lk10 hl, ll10 hl, lk11 hl, ll11 hl, lk12 hl, lr12_0 hl, lk13 hl, ll13 hl, lk14 hl, lr14_2 hl, lr14_3 hl, lr14_4 hl, lr14_5 hl, lr14_6 hl, lr14_7 hl, lr14_9 hl, lr14_10 hl, lk15 hl, ll15 hl, lk16 hl, ll16 hl, lk17 hl, ll17 hl, lk18 hl, ll18 hl, lk19 hl, ll19 hl, lk20 hl, ll20 hl, lk21 hl, ll21 hl, lk22 hl, lr22_0 hl, lk23 hl, ll23 hl, lk24 hl, lr24_2 hl, lr24_3 hl, lr24_4 hl, lr24_5 hl, lr24_6 hl, lr24_7 hl, lr24_9 hl, lr24_10 hl, lk25 hl, ll25 hl, lk26 hl, ll26 hl, lk27 hl, ll27 hl, lk28 hl, ll28 hl, lk29 hl, ll29 hl, lk30 hl, ll30 hl, lk31 hl, ll31 hl, lk32 hl, lr32_1 hl, lk33 hl, ll33 hl, lk34 hl, lr34_0 hl, lk35 hl, ll35 hl, lk36 hl, lr36_0 hl, lk37 hl, ll37 hl, lk38 hl, lr38_0 hl, lk39 hl, ll39 hl, lk40 hl, ll40 hl, lk41 hl, lk42 hl, lr42_0 hl, lr42_1 hl, lr42_2 hl, lr42_3 hl, lk43 hl, ll43 hl, lk44 hl, ll44 hl, lk45 hl, ll45 hl, lk46 hl, ll46 hl, lk47 hl, lr47_1 hl, lk48 hl, ll48 hl]
  refine c_fill 30 _ 10 (lk30 hl) (ll30 hl) (by omega) (fun w1 g1 g2 => ?_)
  simp only [g105_0, g105_0r, g105_1, g105_4, g105_5, g105_8, g105_9, g105_11, g105_13, g105_16, g105_16r, g105_17, g105_18, g105_21, g105_22, g105_24, g105_24r, g105_25, g105_28, g105_31, g105_31r, g105_32, g105_35, g105_35r, g105_36, g105_39, g105_40, g105_41, g105_42, g105_43, g105_43r, g105_44, g105_45, g105_48, g105_48r, g105_49, g105_52, g105_53, g105_54, g105_55, g105_56, g105_57, g105_60, g105_63, g105_66, g105_69, g105_69r, g105_70, g105_73 (st := []), g105_73r, g105_73n, z_kl_i, z_kl_l, z_kl_r, z_kl_n, z_kl_x, z_kl_vr, z_c8_0, z_c8_i, z_c8_l, z_c8_r, z_c8_vr, z_c8_n, z_vr_some, z_vr_none, Option.toList_some, Option.toList_none, List.cons_append, List.nil_append, true_and, and_true, and_self, z_k_sI, z_len_sI, z_R_sI, z_N_sI, z_set_0, z_set_1, z_set_s, eq_self, true_implies, false_implies, not_true_eq_false, not_false_eq_true, ne_eq, true_or, or_true, false_or, or_false, false_and, and_false, Int.reduceNeg, Int.reduceEq, Int.reduceNe, Int.reduceLT, Int.reduceLE, Nat.reduceLeDiff, Nat.reduceEqDiff, Nat.reduceSub, Nat.reduceAdd, reduceCtorEq, reduceIte, implies_true, List.reverse_nil]
  refine l1 64 0 _ w1 rfl (z_fr_mo g1 (by decide) (by decide)) (by omega) (by omega) (fun r r0 r1 => ?_)
  rw [g2 r r0 r1, Int.zero_add]
  rfl
set_option maxRecDepth 20000 in
theorem xs_pointsIn24 {d u w} {Q : z_P} (hl : z_lay w) {V : pu_V} (hv : pu_ok V) (hn : pu_nc V) {x : Int} (x0 : 0 ≤ x) (hW : co_W (z_I w 24 8) (z_I w 28) (z_I w 29) V x) (F T r : Int) (F0 : 0 ≤ F) (FT : F ≤ T) (T1 : T ≤ 64) (k : Q (some (z_i (cn (co_p V x r) F T))) w) : z_G (d + 1) u 109 0 [z_r 24, z_i F, z_i T, z_i r, z_x, z_x] [] w Q := by
  have h8 := hW.1
  have nb := co_n_bd V x
  have tb := cn_bd (co_p V x r) FT
  have loop : ∀ (n : Nat) (t j : Int), 0 ≤ j → j + n = co_n V x + 1 → 0 ≤ t → t + cn (co_p V x r) (z_max F (co_f V x j)) T = cn (co_p V x r) F T → z_G (d + 1) u 109 6 [z_r 24, z_i F, z_i T, z_i r, z_i t, z_i j] [] w Q := by
    intro n
    induction n with
    | zero =>
      intro t j j0 j1 t0 g
      have e64 : co_f V x j = 64 := by
        unfold co_f
        rw [if_neg (by omega), if_neg (by omega)]
      have mb := z_max_bd F (co_f V x j)
      rw [cn_0 _ (show T ≤ z_max F (co_f V x j) by omega), Int.add_zero] at g
      rw [← g] at k
      rw [g109_6]
      simp only [g109_0, g109_1, g109_3, g109_4, g109_8, g109_8r, g109_9, g109_12, g109_15, g109_15r, g109_16, g109_19, g109_21, g109_22, g109_23, g109_26, g109_28, g109_29, g109_30, g109_30r, g109_31, g109_33, g109_36, g109_39, g109_40, g109_40r, g109_41, g109_44, g109_46, g109_47, g109_50, g109_51, g109_54, g109_55, g109_57, g109_60, g109_63, g109_65 (st := []), z_kl_i, z_kl_l, z_kl_r, z_kl_n, z_kl_x, z_kl_vr, z_c8_0, z_c8_i, z_c8_l, z_c8_r, z_c8_vr, z_c8_n, z_vr_some, z_vr_none, Option.toList_some, Option.toList_none, List.cons_append, List.nil_append, true_and, and_true, and_self, z_k_sI, z_len_sI, z_R_sI, z_N_sI, z_set_0, z_set_1, z_set_s, eq_self, true_implies, false_implies, not_true_eq_false, not_false_eq_true, ne_eq, true_or, or_true, false_or, or_false, false_and, and_false, Int.reduceNeg, Int.reduceEq, Int.reduceNe, Int.reduceLT, Int.reduceLE, Nat.reduceLeDiff, Nat.reduceEqDiff, Nat.reduceSub, Nat.reduceAdd, reduceCtorEq, reduceIte, implies_true, List.reverse_nil, lk1 hl, ll1 hl, lk2 hl, lr2_0 hl, lr2_1 hl, lr2_2 hl, lr2_3 hl, lr2_6 hl, lr2_7 hl, lr2_8 hl, lr2_9 hl, lr2_10 hl, lr2_11 hl, lr2_13 hl, lr2_14 hl, lr2_15 hl, lr2_16 hl, lr2_17 hl, lr2_18 hl, lk3 hl, lr3_0 hl, lk4 hl, ll4 hl, lk5 hl, lr5_0 hl, lr5_2 hl, lr5_3 hl, lr5_4 hl, lk6 hl, ll6 hl, lk7 hl, ll7 hl, lk8 hl, lr8_0 hl, lk9 hl, ll9 hl, lk10 hl, ll10 hl, lk11 hl, ll11 hl, lk12 hl, lr12_0 hl, lk13 hl, ll13 hl, lk14 hl, lr14_2 hl, lr14_3 hl, lr14_4 hl, lr14_5 hl, lr14_6 hl, lr14_7 hl, lr14_9 hl, lr14_10 hl, lk15 hl, ll15 hl, lk16 hl, ll16 hl, lk17 hl, ll17 hl, lk18 hl, ll18 hl, lk19 hl, ll19 hl, lk20 hl, ll20 hl, lk21 hl, ll21 hl, lk22 hl, lr22_0 hl, lk23 hl, ll23 hl, lk24 hl, lr24_2 hl, lr24_3 hl, lr24_4 hl, lr24_5 hl, lr24_6 hl, lr24_7 hl, lr24_9 hl, lr24_10 hl, lk25 hl, ll25 hl, lk26 hl, ll26 hl, lk27 hl, ll27 hl, lk28 hl, ll28 hl, lk29 hl, ll29 hl, lk30 hl, ll30 hl, lk31 hl, ll31 hl, lk32 hl, lr32_1 hl, lk33 hl, ll33 hl, lk34 hl, lr34_0 hl, lk35 hl, ll35 hl, lk36 hl, lr36_0 hl, lk37 hl, ll37 hl, lk38 hl, lr38_0 hl, lk39 hl, ll39 hl, lk40 hl, ll40 hl, lk41 hl, lk42 hl, lr42_0 hl, lr42_1 hl, lr42_2 hl, lr42_3 hl, lk43 hl, ll43 hl, lk44 hl, ll44 hl, lk45 hl, ll45 hl, lk46 hl, ll46 hl, lk47 hl, lr47_1 hl, lk48 hl, ll48 hl]
      exact fun _ => ⟨fun _ => k, fun c => absurd c (by omega)⟩
    | succ n ih =>
      intro t j j0 j1 t0 g
      obtain ⟨a1, a2⟩ := hW.2 j j0 (by omega)
      have fj := co_f_bd hv x0 j
      have fj1 := co_f_bd hv x0 (j + 1)
      have st := co_st hv hn x0 j0 (show j ≤ co_n V x by omega) r F T
      have mb := z_max_bd F (co_f V x j)
      have mb1 := z_max_bd F (co_f V x (j + 1))
      have mc := z_max_bd 0 (z_min T (co_f V x (j + 1)) - z_max F (co_f V x j))
      have mm : (z_min T (co_f V x (j + 1)) = T ∨ z_min T (co_f V x (j + 1)) = co_f V x (j + 1)) := by
        unfold z_min
        split <;> omega
      have yes : rb V (sl_a V x) j = r → z_G (d + 1) u 109 6 [z_r 24, z_i F, z_i T, z_i r, z_i (t + z_max 0 (z_min T (co_f V x (j + 1)) - z_max F (co_f V x j))), z_i (j + 1)] [] w Q := fun h => ih _ _ (by omega) (by omega) (by omega) (by rw [if_pos h] at st; omega)
      have no : rb V (sl_a V x) j ≠ r → z_G (d + 1) u 109 6 [z_r 24, z_i F, z_i T, z_i r, z_i t, z_i (j + 1)] [] w Q := fun h => ih _ _ (by omega) (by omega) (by omega) (by rw [if_neg h] at st; omega)
      rw [g109_6]
      simp only [g109_0, g109_1, g109_3, g109_4, g109_8, g109_8r, g109_9, g109_12, g109_15, g109_15r, g109_16, g109_19, g109_21, g109_22, g109_23, g109_26, g109_28, g109_29, g109_30, g109_30r, g109_31, g109_33, g109_36, g109_39, g109_40, g109_40r, g109_41, g109_44, g109_46, g109_47, g109_50, g109_51, g109_54, g109_55, g109_57, g109_60, g109_63, g109_65 (st := []), z_kl_i, z_kl_l, z_kl_r, z_kl_n, z_kl_x, z_kl_vr, z_c8_0, z_c8_i, z_c8_l, z_c8_r, z_c8_vr, z_c8_n, z_vr_some, z_vr_none, Option.toList_some, Option.toList_none, List.cons_append, List.nil_append, true_and, and_true, and_self, z_k_sI, z_len_sI, z_R_sI, z_N_sI, z_set_0, z_set_1, z_set_s, eq_self, true_implies, false_implies, not_true_eq_false, not_false_eq_true, ne_eq, true_or, or_true, false_or, or_false, false_and, and_false, Int.reduceNeg, Int.reduceEq, Int.reduceNe, Int.reduceLT, Int.reduceLE, Nat.reduceLeDiff, Nat.reduceEqDiff, Nat.reduceSub, Nat.reduceAdd, reduceCtorEq, reduceIte, implies_true, List.reverse_nil, lk1 hl, ll1 hl, lk2 hl, lr2_0 hl, lr2_1 hl, lr2_2 hl, lr2_3 hl, lr2_6 hl, lr2_7 hl, lr2_8 hl, lr2_9 hl, lr2_10 hl, lr2_11 hl, lr2_13 hl, lr2_14 hl, lr2_15 hl, lr2_16 hl, lr2_17 hl, lr2_18 hl, lk3 hl, lr3_0 hl, lk4 hl, ll4 hl, lk5 hl, lr5_0 hl, lr5_2 hl, lr5_3 hl, lr5_4 hl, lk6 hl, ll6 hl, lk7 hl, ll7 hl, lk8 hl, lr8_0 hl, lk9 hl, ll9 hl, lk10 hl, ll10 hl, lk11 hl, ll11 hl, lk12 hl, lr12_0 hl, lk13 hl, ll13 hl, lk14 hl, lr14_2 hl, lr14_3 hl, lr14_4 hl, lr14_5 hl, lr14_6 hl, lr14_7 hl, lr14_9 hl, lr14_10 hl, lk15 hl, ll15 hl, lk16 hl, ll16 hl, lk17 hl, ll17 hl, lk18 hl, ll18 hl, lk19 hl, ll19 hl, lk20 hl, ll20 hl, lk21 hl, ll21 hl, lk22 hl, lr22_0 hl, lk23 hl, ll23 hl, lk24 hl, lr24_2 hl, lr24_3 hl, lr24_4 hl, lr24_5 hl, lr24_6 hl, lr24_7 hl, lr24_9 hl, lr24_10 hl, lk25 hl, ll25 hl, lk26 hl, ll26 hl, lk27 hl, ll27 hl, lk28 hl, ll28 hl, lk29 hl, ll29 hl, lk30 hl, ll30 hl, lk31 hl, ll31 hl, lk32 hl, lr32_1 hl, lk33 hl, ll33 hl, lk34 hl, lr34_0 hl, lk35 hl, ll35 hl, lk36 hl, lr36_0 hl, lk37 hl, ll37 hl, lk38 hl, lr38_0 hl, lk39 hl, ll39 hl, lk40 hl, ll40 hl, lk41 hl, lk42 hl, lr42_0 hl, lr42_1 hl, lr42_2 hl, lr42_3 hl, lk43 hl, ll43 hl, lk44 hl, ll44 hl, lk45 hl, ll45 hl, lk46 hl, ll46 hl, lk47 hl, lr47_1 hl, lk48 hl, ll48 hl, h8, a1, a2]
      refine fun _ => ⟨fun c => absurd c (by omega), fun c => ⟨by omega, by omega, fun _ => ⟨fun c2 => ?_, fun c2 => ?_⟩⟩⟩
      · rw [z_add_eq (by omega) (by omega)]
        exact no c2
      · refine xs_partTo24 hl hW _ j0 (by omega) ?_
        simp only [g109_0, g109_1, g109_3, g109_4, g109_8, g109_8r, g109_9, g109_12, g109_15, g109_15r, g109_16, g109_19, g109_21, g109_22, g109_23, g109_26, g109_28, g109_29, g109_30, g109_30r, g109_31, g109_33, g109_36, g109_39, g109_40, g109_40r, g109_41, g109_44, g109_46, g109_47, g109_50, g109_51, g109_54, g109_55, g109_57, g109_60, g109_63, g109_65 (st := []), z_kl_i, z_kl_l, z_kl_r, z_kl_n, z_kl_x, z_kl_vr, z_c8_0, z_c8_i, z_c8_l, z_c8_r, z_c8_vr, z_c8_n, z_vr_some, z_vr_none, Option.toList_some, Option.toList_none, List.cons_append, List.nil_append, true_and, and_true, and_self, z_k_sI, z_len_sI, z_R_sI, z_N_sI, z_set_0, z_set_1, z_set_s, eq_self, true_implies, false_implies, not_true_eq_false, not_false_eq_true, ne_eq, true_or, or_true, false_or, or_false, false_and, and_false, Int.reduceNeg, Int.reduceEq, Int.reduceNe, Int.reduceLT, Int.reduceLE, Nat.reduceLeDiff, Nat.reduceEqDiff, Nat.reduceSub, Nat.reduceAdd, reduceCtorEq, reduceIte, implies_true, List.reverse_nil, lk1 hl, ll1 hl, lk2 hl, lr2_0 hl, lr2_1 hl, lr2_2 hl, lr2_3 hl, lr2_6 hl, lr2_7 hl, lr2_8 hl, lr2_9 hl, lr2_10 hl, lr2_11 hl, lr2_13 hl, lr2_14 hl, lr2_15 hl, lr2_16 hl, lr2_17 hl, lr2_18 hl, lk3 hl, lr3_0 hl, lk4 hl, ll4 hl, lk5 hl, lr5_0 hl, lr5_2 hl, lr5_3 hl, lr5_4 hl, lk6 hl, ll6 hl, lk7 hl, ll7 hl, lk8 hl, lr8_0 hl, lk9 hl, ll9 hl, lk10 hl, ll10 hl, lk11 hl, ll11 hl, lk12 hl, lr12_0 hl, lk13 hl, ll13 hl, lk14 hl, lr14_2 hl, lr14_3 hl, lr14_4 hl, lr14_5 hl, lr14_6 hl, lr14_7 hl, lr14_9 hl, lr14_10 hl, lk15 hl, ll15 hl, lk16 hl, ll16 hl, lk17 hl, ll17 hl, lk18 hl, ll18 hl, lk19 hl, ll19 hl, lk20 hl, ll20 hl, lk21 hl, ll21 hl, lk22 hl, lr22_0 hl, lk23 hl, ll23 hl, lk24 hl, lr24_2 hl, lr24_3 hl, lr24_4 hl, lr24_5 hl, lr24_6 hl, lr24_7 hl, lr24_9 hl, lr24_10 hl, lk25 hl, ll25 hl, lk26 hl, ll26 hl, lk27 hl, ll27 hl, lk28 hl, ll28 hl, lk29 hl, ll29 hl, lk30 hl, ll30 hl, lk31 hl, ll31 hl, lk32 hl, lr32_1 hl, lk33 hl, ll33 hl, lk34 hl, lr34_0 hl, lk35 hl, ll35 hl, lk36 hl, lr36_0 hl, lk37 hl, ll37 hl, lk38 hl, lr38_0 hl, lk39 hl, ll39 hl, lk40 hl, ll40 hl, lk41 hl, lk42 hl, lr42_0 hl, lr42_1 hl, lr42_2 hl, lr42_3 hl, lk43 hl, ll43 hl, lk44 hl, ll44 hl, lk45 hl, ll45 hl, lk46 hl, ll46 hl, lk47 hl, lr47_1 hl, lk48 hl, ll48 hl, a1]
        refine ⟨by omega, by omega, fun _ => ?_⟩
        have bb : cn (co_p V x r) (z_max F (co_f V x (j + 1))) T ≤ 64 ∧ 0 ≤ cn (co_p V x r) (z_max F (co_f V x (j + 1))) T := by
          by_cases q : z_max F (co_f V x (j + 1)) ≤ T
          · have := cn_bd (co_p V x r) q
            omega
          · rw [cn_0 _ (by omega)]
            omega
        have t1 : t ≤ 64 := by
          by_cases q : z_max F (co_f V x j) ≤ T
          · have := cn_bd (co_p V x r) q
            omega
          · rw [cn_0 _ (by omega)] at g
            omega
        rw [z_sub_eq (by omega) (by omega), z_add_eq (a := t) (by omega) (by omega), z_add_eq (by omega) (by omega)]
        exact yes (by omega)
  simp only [g109_0, g109_1, g109_3, g109_4, g109_8, g109_8r, g109_9, g109_12, g109_15, g109_15r, g109_16, g109_19, g109_21, g109_22, g109_23, g109_26, g109_28, g109_29, g109_30, g109_30r, g109_31, g109_33, g109_36, g109_39, g109_40, g109_40r, g109_41, g109_44, g109_46, g109_47, g109_50, g109_51, g109_54, g109_55, g109_57, g109_60, g109_63, g109_65 (st := []), z_kl_i, z_kl_l, z_kl_r, z_kl_n, z_kl_x, z_kl_vr, z_c8_0, z_c8_i, z_c8_l, z_c8_r, z_c8_vr, z_c8_n, z_vr_some, z_vr_none, Option.toList_some, Option.toList_none, List.cons_append, List.nil_append, true_and, and_true, and_self, z_k_sI, z_len_sI, z_R_sI, z_N_sI, z_set_0, z_set_1, z_set_s, eq_self, true_implies, false_implies, not_true_eq_false, not_false_eq_true, ne_eq, true_or, or_true, false_or, or_false, false_and, and_false, Int.reduceNeg, Int.reduceEq, Int.reduceNe, Int.reduceLT, Int.reduceLE, Nat.reduceLeDiff, Nat.reduceEqDiff, Nat.reduceSub, Nat.reduceAdd, reduceCtorEq, reduceIte, implies_true, List.reverse_nil]
  refine loop (co_n V x + 1).toNat 0 0 (by omega) (by omega) (by omega) ?_
  have e0 : co_f V x 0 = 0 := if_pos (Int.le_refl 0)
  have mb := z_max_bd F 0
  rw [e0, Int.zero_add, show z_max F 0 = F by omega]
