/-! geometry: edges of a list stay in order all through their slab -/
/-- e is no higher than f at half of t -/
abbrev ge_le (V : pu_V) (t e f : Int) : Prop := sl_h V e t * sl_w V f ≤ sl_h V f t * sl_w V e
theorem ge_tr {V : pu_V} {t e f g : Int} (we : 0 < sl_w V e) (wf : 0 < sl_w V f) (wg : 0 < sl_w V g) (h1 : ge_le V t e f) (h2 : ge_le V t f g) : ge_le V t e g := by
  have m1 := Int.mul_le_mul_of_nonneg_right h1 (Int.le_of_lt wg)
  have m2 := Int.mul_le_mul_of_nonneg_right h2 (Int.le_of_lt we)
  unfold ge_le
  generalize sl_h V e t = he at *
  generalize sl_h V f t = hf at *
  generalize sl_h V g t = hg at *
  generalize sl_w V e = we' at *
  generalize sl_w V f = wf' at *
  generalize sl_w V g = wg' at *
  refine Int.le_of_mul_le_mul_right (a := wf') ?_ wf
  rw [Int.mul_right_comm he wg' wf', Int.mul_right_comm hg we' wf']
  exact Int.le_trans m1 (by rw [Int.mul_right_comm hf we' wg']; exact m2)
def sl_so (V : pu_V) (t : Int) (st : sl_T) : Prop := ∀ i j, 0 ≤ i → i < j → j < st.1 → ge_le V t (st.2 i) (st.2 j)
theorem sl_ip_sp {b : Int → Bool} : ∀ (n : Nat), (∀ j : Int, sl_ip b n ≤ j → j < n → b j = true) ∧ (sl_ip b n = 0 ∨ b (sl_ip b n - 1) = false) := by
  intro n
  induction n with
  | zero => exact ⟨fun j a c => by rw [sl_ip] at a; omega, Or.inl rfl⟩
  | succ n ih =>
    rw [sl_ip]
    by_cases c : b n = true
    · rw [if_pos c]
      refine ⟨fun j a e => ?_, ih.2⟩
      by_cases q : j = n
      · rw [q]; exact c
      · exact ih.1 j a (by omega)
    · rw [if_neg c]
      refine ⟨fun j a e => by omega, Or.inr ?_⟩
      rw [show (n : Int) + 1 - 1 = n by omega]
      exact Bool.eq_false_iff.2 c
theorem sl_so_ins {V : pu_V} {t e : Int} {st : sl_T} (h0 : 0 ≤ st.1) (hs : sl_so V t st) (hw : ∀ j, 0 ≤ j → j < st.1 → 0 < sl_w V (st.2 j)) (we : 0 < sl_w V e) : sl_so V t (sl_ins V t st e) := by
  have bd := sl_ip_bd (b := fun j => sl_ov V t (st.2 j) e) st.1.toNat
  obtain ⟨up, dn⟩ := sl_ip_sp (b := fun j => sl_ov V t (st.2 j) e) st.1.toNat
  have A : ∀ j, sl_ip (fun j => sl_ov V t (st.2 j) e) st.1.toNat ≤ j → j < st.1 → ge_le V t e (st.2 j) := fun j a c => Int.le_of_lt (of_decide_eq_true (up j a (by omega)))
  have D : 1 ≤ sl_ip (fun j => sl_ov V t (st.2 j) e) st.1.toNat → ge_le V t (st.2 (sl_ip (fun j => sl_ov V t (st.2 j) e) st.1.toNat - 1)) e := fun a => by
    rcases dn with q | q
    · omega
    · exact Int.not_lt.1 (of_decide_eq_false q)
  intro i j i0 ij j1
  replace j1 : j < st.1 + 1 := j1
  show ge_le V t (if i < sl_ip (fun j => sl_ov V t (st.2 j) e) st.1.toNat then st.2 i else if i = sl_ip (fun j => sl_ov V t (st.2 j) e) st.1.toNat then e else st.2 (i - 1)) (if j < sl_ip (fun j => sl_ov V t (st.2 j) e) st.1.toNat then st.2 j else if j = sl_ip (fun j => sl_ov V t (st.2 j) e) st.1.toNat then e else st.2 (j - 1))
  generalize sl_ip (fun j => sl_ov V t (st.2 j) e) st.1.toNat = p at *
  by_cases c1 : j < p
  · rw [if_pos c1, if_pos (by omega)]
    exact hs i j i0 ij (by omega)
  · rw [if_neg c1]
    by_cases c2 : j = p
    · rw [if_pos c2, if_pos (by omega)]
      have d := D (by omega)
      by_cases c3 : i = p - 1
      · rw [c3]; exact d
      · exact ge_tr (hw i i0 (by omega)) (hw (p - 1) (by omega) (by omega)) we (hs i (p - 1) i0 (by omega) (by omega)) d
    · rw [if_neg c2]
      by_cases c3 : i < p
      · rw [if_pos c3]
        exact hs i (j - 1) i0 (by omega) (by omega)
      · rw [if_neg c3]
        by_cases c4 : i = p
        · rw [if_pos c4]
          exact A (j - 1) (by omega) (by omega)
        · rw [if_neg c4]
          exact hs (i - 1) (j - 1) (by omega) (by omega) (by omega)
theorem sl_w_p {V : pu_V} (hv : pu_ok V) {e : Int} (he : pu_has V e) : 0 < sl_w V e := by
  have q := hv e he.1 he.2.1 he.2.2
  unfold sl_w
  omega
/-- all members have P -/
def sl_q (P : Int → Prop) (st : sl_T) : Prop := ∀ j, 0 ≤ j → j < st.1 → P (st.2 j)
theorem sl_q_ins {P : Int → Prop} {V : pu_V} {t e : Int} {st : sl_T} (h0 : 0 ≤ st.1) (h : sl_q P st) (he : P e) : sl_q P (sl_ins V t st e) := by
  have bd := sl_ip_bd (b := fun j => sl_ov V t (st.2 j) e) st.1.toNat
  intro j j0 j1
  replace j1 : j < st.1 + 1 := j1
  show P (if j < sl_ip (fun j => sl_ov V t (st.2 j) e) st.1.toNat then st.2 j else if j = sl_ip (fun j => sl_ov V t (st.2 j) e) st.1.toNat then e else st.2 (j - 1))
  split
  · exact h j j0 (by omega)
  · split
    · exact he
    · exact h (j - 1) (by omega) (by omega)
theorem sl_so_go {V : pu_V} (hv : pu_ok V) {x X : Int} : ∀ (n : Nat) (e : Int) (st : sl_T), 0 ≤ e → e + n ≤ 24 → sl_m st → sl_q (fun f => pu_has V f ∧ sl_in V x X f) st → sl_so V (x + X) st → sl_q (fun f => pu_has V f ∧ sl_in V x X f) (sl_go V x X n e st) ∧ sl_so V (x + X) (sl_go V x X n e st) := by
  intro n
  induction n with
  | zero => intro e st _ _ _ h1 h2; exact ⟨h1, h2⟩
  | succ n ih =>
    intro e st e0 e1 hm h1 h2
    rw [sl_go]
    have key : sl_q (fun f => pu_has V f ∧ sl_in V x X f) (sl_st V x X st e) ∧ sl_so V (x + X) (sl_st V x X st e) := by
      unfold sl_st
      by_cases c : sl_in V x X e
      · rw [if_pos c]
        have he : pu_has V e := ⟨e0, by omega, c.1⟩
        exact ⟨sl_q_ins hm.1 h1 ⟨he, c⟩, sl_so_ins hm.1 h2 (fun j j0 j1 => sl_w_p hv (h1 j j0 j1).1) (sl_w_p hv he)⟩
      · rw [if_neg c]
        exact ⟨h1, h2⟩
    exact ih (e + 1) _ (by omega) (by omega) (sl_m_st hm e0 (by omega)) key.1 key.2
theorem sl_L_so {V : pu_V} (hv : pu_ok V) (x X : Int) : sl_q (fun f => pu_has V f ∧ sl_in V x X f) (sl_L V x X) ∧ sl_so V (x + X) (sl_L V x X) :=
  sl_so_go hv 24 0 _ (by omega) (by omega) ⟨Int.le_refl _, fun j j0 j1 => by replace j1 : j < 0 := j1; omega⟩ (fun j j0 j1 => by replace j1 : j < 0 := j1; omega) (fun i j i0 ij j1 => by replace j1 : j < 0 := j1; omega)
/-! no two edges cross: the order in the middle is that at each x -/
theorem ge_i1 (x1 y1 x2 y2 u1 v1 u2 v2 : Int) : (2 * v1 * (u2 - u1) + (v2 - v1) * (2 * x1 - 2 * u1)) * (x2 - x1) - (2 * y1 * (x2 - x1) + (y2 - y1) * (2 * x1 - 2 * x1)) * (u2 - u1) = (x2 - x1) * (-2 * ((u2 - u1) * (y1 - v1) - (v2 - v1) * (x1 - u1))) := by grind
theorem ge_i2 (x1 y1 x2 y2 u1 v1 u2 v2 : Int) : (2 * v1 * (u2 - u1) + (v2 - v1) * (2 * x2 - 2 * u1)) * (x2 - x1) - (2 * y1 * (x2 - x1) + (y2 - y1) * (2 * x2 - 2 * x1)) * (u2 - u1) = (x2 - x1) * (-2 * ((u2 - u1) * (y2 - v1) - (v2 - v1) * (x2 - u1))) := by grind
theorem ge_i3 (x1 y1 x2 y2 u1 v1 u2 v2 : Int) : (2 * v1 * (u2 - u1) + (v2 - v1) * (2 * u1 - 2 * u1)) * (x2 - x1) - (2 * y1 * (x2 - x1) + (y2 - y1) * (2 * u1 - 2 * x1)) * (u2 - u1) = (u2 - u1) * (2 * ((x2 - x1) * (v1 - y1) - (y2 - y1) * (u1 - x1))) := by grind
theorem ge_i4 (x1 y1 x2 y2 u1 v1 u2 v2 : Int) : (2 * v1 * (u2 - u1) + (v2 - v1) * (2 * u2 - 2 * u1)) * (x2 - x1) - (2 * y1 * (x2 - x1) + (y2 - y1) * (2 * u2 - 2 * x1)) * (u2 - u1) = (u2 - u1) * (2 * ((x2 - x1) * (v2 - y1) - (y2 - y1) * (u2 - x1))) := by grind
theorem ge_il (x1 y1 x2 y2 u1 v1 u2 v2 s t : Int) : (2 * v1 * (u2 - u1) + (v2 - v1) * (s - 2 * u1)) * (x2 - x1) - (2 * y1 * (x2 - x1) + (y2 - y1) * (s - 2 * x1)) * (u2 - u1) = (2 * v1 * (u2 - u1) + (v2 - v1) * (t - 2 * u1)) * (x2 - x1) - (2 * y1 * (x2 - x1) + (y2 - y1) * (t - 2 * x1)) * (u2 - u1) + ((v2 - v1) * (x2 - x1) - (y2 - y1) * (u2 - u1)) * (s - t) := by grind
theorem ge_sg {w T : Int} (hw : 0 < w) : (w * T < 0 → T < 0) ∧ (0 < w * T → 0 < T) := by
  refine ⟨fun h => ?_, fun h => ?_⟩
  · apply Classical.byContradiction
    intro q
    have := Int.mul_nonneg (Int.le_of_lt hw) (show 0 ≤ T by omega)
    omega
  · apply Classical.byContradiction
    intro q
    have := Int.mul_nonneg (Int.le_of_lt hw) (show 0 ≤ -T by omega)
    rw [Int.mul_neg] at this
    omega
theorem ge_pp {a b : Int} (h1 : 0 ≤ a) (h2 : 0 ≤ b) : 0 ≤ a * b := Int.mul_nonneg h1 h2
theorem ge_all {V : pu_V} (hv : pu_ok V) (hn : pu_nc V) {e f a b : Int} (he : pu_has V e) (hf : pu_has V f) (ea : V e 0 ≤ a) (eb : b ≤ V e 2) (fa : V f 0 ≤ a) (fb : b ≤ V f 2) (ab : a < b) (h : ge_le V (a + b) e f) (x : Int) (xa : a ≤ x) (xb : x ≤ b) : ge_le V (2 * x) e f := by
  by_cases ef : e = f
  · subst ef
    exact Int.le_refl _
  apply Classical.byContradiction
  intro hx
  have nc := hn e f he.1 he.2.1 hf.1 hf.2.1 ef he.2.2 hf.2.2
  have we := sl_w_p hv he
  have wf := sl_w_p hv hf
  apply nc
  have i1 := ge_i1 (V e 0) (V e 1) (V e 2) (V e 3) (V f 0) (V f 1) (V f 2) (V f 3)
  have i2 := ge_i2 (V e 0) (V e 1) (V e 2) (V e 3) (V f 0) (V f 1) (V f 2) (V f 3)
  have i3 := ge_i3 (V e 0) (V e 1) (V e 2) (V e 3) (V f 0) (V f 1) (V f 2) (V f 3)
  have i4 := ge_i4 (V e 0) (V e 1) (V e 2) (V e 3) (V f 0) (V f 1) (V f 2) (V f 3)
  have il := ge_il (V e 0) (V e 1) (V e 2) (V e 3) (V f 0) (V f 1) (V f 2) (V f 3)
  unfold ge_le sl_h sl_w at h hx
  unfold sl_w at we wf
  have s1 := ge_sg (T := -2 * ((V f 2 - V f 0) * (V e 1 - V f 1) - (V f 3 - V f 1) * (V e 0 - V f 0))) we
  have s2 := ge_sg (T := -2 * ((V f 2 - V f 0) * (V e 3 - V f 1) - (V f 3 - V f 1) * (V e 2 - V f 0))) we
  have s3 := ge_sg (T := 2 * ((V e 2 - V e 0) * (V f 1 - V e 1) - (V e 3 - V e 1) * (V f 0 - V e 0))) wf
  have s4 := ge_sg (T := 2 * ((V e 2 - V e 0) * (V f 3 - V e 1) - (V e 3 - V e 1) * (V f 2 - V e 0))) wf
  rw [← i1] at s1
  rw [← i2] at s2
  rw [← i3] at s3
  rw [← i4] at s4
  clear i1 i2 i3 i4
  unfold pu_cx pu_op pu_trn
  generalize hg : (fun t => (2 * V f 1 * (V f 2 - V f 0) + (V f 3 - V f 1) * (t - 2 * V f 0)) * (V e 2 - V e 0) - (2 * V e 1 * (V e 2 - V e 0) + (V e 3 - V e 1) * (t - 2 * V e 0)) * (V f 2 - V f 0)) = g
  have gv : ∀ t, (2 * V f 1 * (V f 2 - V f 0) + (V f 3 - V f 1) * (t - 2 * V f 0)) * (V e 2 - V e 0) - (2 * V e 1 * (V e 2 - V e 0) + (V e 3 - V e 1) * (t - 2 * V e 0)) * (V f 2 - V f 0) = g t := fun t => by rw [← hg]
  have h2 : 0 ≤ g (a + b) := by rw [← gv]; omega
  have hx2 : g (2 * x) < 0 := by rw [← gv]; omega
  simp only [gv] at s1 s2 s3 s4 il
  generalize (V f 3 - V f 1) * (V e 2 - V e 0) - (V e 3 - V e 1) * (V f 2 - V f 0) = β at il
  generalize (V f 2 - V f 0) * (V e 1 - V f 1) - (V f 3 - V f 1) * (V e 0 - V f 0) = t1 at *
  generalize (V f 2 - V f 0) * (V e 3 - V f 1) - (V f 3 - V f 1) * (V e 2 - V f 0) = t2 at *
  generalize (V e 2 - V e 0) * (V f 1 - V e 1) - (V e 3 - V e 1) * (V f 0 - V e 0) = t3 at *
  generalize (V e 2 - V e 0) * (V f 3 - V e 1) - (V e 3 - V e 1) * (V f 2 - V e 0) = t4 at *
  clear gv hg h hx nc
  have lx := il (2 * x) (a + b)
  by_cases c1 : 2 * x < a + b
  · have βp : 0 < β := by
      apply Classical.byContradiction
      intro q
      have := ge_pp (show 0 ≤ -β by omega) (show 0 ≤ a + b - 2 * x by omega)
      rw [show -β * (a + b - 2 * x) = β * (2 * x - (a + b)) by grind] at this
      omega
    have lo : ∀ u, u ≤ a → g (2 * u) < 0 := fun u hu => by
      have l := il (2 * u) (2 * x)
      have := ge_pp (Int.le_of_lt βp) (show 0 ≤ 2 * x - 2 * u by omega)
      rw [show β * (2 * x - 2 * u) = -(β * (2 * u - 2 * x)) by grind] at this
      omega
    have hi : ∀ v, b ≤ v → 0 < g (2 * v) := fun v hv' => by
      have l := il (2 * v) (a + b)
      have := Int.mul_pos βp (show 0 < 2 * v - (a + b) by omega)
      omega
    have q1 := s1.1 (lo _ ea)
    have q2 := s2.2 (hi _ eb)
    have q3 := s3.1 (lo _ fa)
    have q4 := s4.2 (hi _ fb)
    omega
  · have βn : β < 0 := by
      apply Classical.byContradiction
      intro q
      have := ge_pp (show 0 ≤ β by omega) (show 0 ≤ 2 * x - (a + b) by omega)
      omega
    have lo : ∀ u, u ≤ a → 0 < g (2 * u) := fun u hu => by
      have l := il (2 * u) (a + b)
      have := Int.mul_pos (show 0 < -β by omega) (show 0 < a + b - 2 * u by omega)
      rw [show -β * (a + b - 2 * u) = β * (2 * u - (a + b)) by grind] at this
      omega
    have hi : ∀ v, b ≤ v → g (2 * v) < 0 := fun v hv' => by
      have l := il (2 * v) (2 * x)
      have := ge_pp (show 0 ≤ -β by omega) (show 0 ≤ 2 * v - 2 * x by omega)
      rw [show -β * (2 * v - 2 * x) = -(β * (2 * v - 2 * x)) by grind] at this
      omega
    have q1 := s1.2 (lo _ ea)
    have q2 := s2.1 (hi _ eb)
    have q3 := s3.2 (lo _ fa)
    have q4 := s4.1 (hi _ fb)
    omega
theorem ge_list {V : pu_V} (hv : pu_ok V) (hn : pu_nc V) {s x : Int} (s0 : 0 ≤ s) (s1 : s < sl_n V) (x0 : cu V s ≤ x) (x1 : x ≤ cu V (s + 1)) (i j : Int) (i0 : 0 ≤ i) (ij : i < j) (j1 : j < sl_l V s) : ge_le V (2 * x) (sl_i V s i) (sl_i V s j) := by
  have L := sl_L_so hv (cu V s) (cu V (s + 1))
  have mi := L.1 i i0 (show i < sl_l V s by omega)
  have mj := L.1 j (by omega) j1
  have lt := cu_lt (V := V) (i := s) (j := s + 1) s0 (by omega) (sl_n_N s0 s1)
  exact ge_all hv hn mi.1 mj.1 mi.2.2.1 mi.2.2.2 mj.2.2.1 mj.2.2.2 lt (L.2 i j i0 ij j1) x x0 x1
/-! the first point of a column that is no lower than an edge -/
def fa_y (V : pu_V) (e x : Int) : Int := (sl_h V e (2 * x) + 2 * sl_w V e - 1) / (2 * sl_w V e)
theorem fa_iff {V : pu_V} {e x y : Int} (hw : 0 < sl_w V e) : sl_nh V x y e = true ↔ fa_y V e x ≤ y := by
  unfold sl_nh fa_y
  rw [decide_eq_true_eq]
  have q := Int.ediv_lt_iff_lt_mul (a := sl_h V e (2 * x) + 2 * sl_w V e - 1) (b := y + 1) (c := 2 * sl_w V e) (by omega)
  rw [show (y + 1) * (2 * sl_w V e) = 2 * y * sl_w V e + 2 * sl_w V e by grind] at q
  omega
theorem fa_mo {V : pu_V} {e f x : Int} (we : 0 < sl_w V e) (wf : 0 < sl_w V f) (h : ge_le V (2 * x) e f) : fa_y V e x ≤ fa_y V f x := by
  have q := of_decide_eq_true ((fa_iff (V := V) (e := f) (x := x) (y := fa_y V f x) wf).2 (Int.le_refl _))
  refine (fa_iff we).1 (decide_eq_true ?_)
  have m := Int.mul_le_mul_of_nonneg_right q (Int.le_of_lt we)
  unfold ge_le at h
  generalize sl_h V e (2 * x) = he at *
  generalize sl_h V f (2 * x) = hf at *
  generalize fa_y V f x = y at *
  generalize sl_w V e = w at *
  generalize sl_w V f = v at *
  refine Int.le_of_mul_le_mul_right (a := v) ?_ wf
  refine Int.le_trans h ?_
  rw [Int.mul_right_comm (2 * y) w v]
  exact m
theorem ge_i5 (x1 y1 x2 y2 x : Int) : 2 * y1 * (x2 - x1) + (y2 - y1) * (2 * x - 2 * x1) = 2 * (y1 * (x2 - x) + y2 * (x - x1)) := by grind
theorem fa_bd {V : pu_V} (hv : pu_ok V) {e x : Int} (he : pu_has V e) (h0 : V e 0 ≤ x) (h1 : x ≤ V e 2) : 0 ≤ fa_y V e x ∧ fa_y V e x ≤ 63 := by
  have q := hv e he.1 he.2.1 he.2.2
  have w := sl_w_p hv he
  have i := ge_i5 (V e 0) (V e 1) (V e 2) (V e 3) x
  have p1 := ge_pp q.2.1.1 (show 0 ≤ V e 2 - x by omega)
  have p2 := ge_pp q.2.2.2.1.1 (show 0 ≤ x - V e 0 by omega)
  have p3 := ge_pp (show 0 ≤ 63 - V e 1 by omega) (show 0 ≤ V e 2 - x by omega)
  have p4 := ge_pp (show 0 ≤ 63 - V e 3 by omega) (show 0 ≤ x - V e 0 by omega)
  rw [Int.sub_mul] at p3 p4
  have hh : sl_h V e (2 * x) = 2 * (V e 1 * (V e 2 - x) + V e 3 * (x - V e 0)) := by
    unfold sl_h
    exact i
  have ew : sl_w V e = V e 2 - V e 0 := rfl
  refine ⟨?_, (fa_iff w).1 (decide_eq_true (by rw [hh, ew]; omega))⟩
  unfold fa_y
  exact Int.ediv_nonneg (by rw [hh]; omega) (by omega)
