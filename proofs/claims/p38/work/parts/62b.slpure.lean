/-! pure: where edges end, lists of slabs -/
theorem pu_mulB {a b : Int} (A B : Int) (a0 : -A ≤ a) (a1 : a ≤ A) (b0 : -B ≤ b) (b1 : b ≤ B) : -(A * B) ≤ a * b ∧ a * b ≤ A * B := by
  have h1 := Int.mul_nonneg (show 0 ≤ A - a by omega) (show 0 ≤ B + b by omega)
  have h2 := Int.mul_nonneg (show 0 ≤ A + a by omega) (show 0 ≤ B - b by omega)
  have h3 := Int.mul_nonneg (show 0 ≤ A - a by omega) (show 0 ≤ B - b by omega)
  have h4 := Int.mul_nonneg (show 0 ≤ A + a by omega) (show 0 ≤ B + b by omega)
  have e1 : (A - a) * (B + b) + (A + a) * (B - b) = 2 * (A * B) - 2 * (a * b) := by grind
  have e2 : (A - a) * (B - b) + (A + a) * (B + b) = 2 * (A * B) + 2 * (a * b) := by grind
  omega
/-- whether one of the first n edges ends at x -/
def en_b (V : pu_V) : Nat → Int → Bool
  | 0, _ => false
  | n + 1, x => en_b V n x || decide (V n 4 ≠ -1 ∧ (x = V n 0 ∨ x = V n 2))
def en_P (V : pu_V) : Int → Bool := en_b V 24
theorem en_b_iff {V : pu_V} : ∀ {n : Nat} {x : Int}, en_b V n x = true ↔ ∃ e : Int, 0 ≤ e ∧ e < n ∧ V e 4 ≠ -1 ∧ (x = V e 0 ∨ x = V e 2) := by
  intro n
  induction n with
  | zero =>
    intro x
    refine ⟨fun h => absurd h (by simp [en_b]), fun h => ?_⟩
    obtain ⟨e, e0, e1, _⟩ := h
    omega
  | succ n ih =>
    intro x
    rw [en_b, Bool.or_eq_true, ih, decide_eq_true_eq]
    refine ⟨fun h => ?_, fun h => ?_⟩
    · rcases h with ⟨e, e0, e1, h⟩ | h
      · exact ⟨e, e0, by omega, h⟩
      · exact ⟨n, by omega, by omega, h⟩
    · obtain ⟨e, e0, e1, h⟩ := h
      by_cases c : e = n
      · subst c
        exact Or.inr h
      · exact Or.inl ⟨e, e0, by omega, h⟩
theorem en_P_iff {V : pu_V} {x : Int} : en_P V x = true ↔ ∃ e : Int, 0 ≤ e ∧ e ≤ 23 ∧ V e 4 ≠ -1 ∧ (x = V e 0 ∨ x = V e 2) := by
  unfold en_P
  rw [en_b_iff]
  refine ⟨fun ⟨e, a, b, c⟩ => ⟨e, a, by omega, c⟩, fun ⟨e, a, b, c⟩ => ⟨e, a, by omega, c⟩⟩
theorem en_P_eq {A B : pu_V} (h : pu_eq A B) (x : Int) : en_P A x = en_P B x := by
  have q : en_P A x = true ↔ en_P B x = true := by
    rw [en_P_iff, en_P_iff]
    refine ⟨fun ⟨e, a, b, c, d⟩ => ⟨e, a, b, ?_, ?_⟩, fun ⟨e, a, b, c, d⟩ => ⟨e, a, b, ?_, ?_⟩⟩
    · rw [← h e 4 a b (by omega) (by omega)]; exact c
    · rw [← h e 0 a b (by omega) (by omega), ← h e 2 a b (by omega) (by omega)]; exact d
    · rw [h e 4 a b (by omega) (by omega)]; exact c
    · rw [h e 0 a b (by omega) (by omega), h e 2 a b (by omega) (by omega)]; exact d
  exact Bool.eq_iff_iff.mpr q
theorem en_P_bd {V : pu_V} (hv : pu_ok V) {x : Int} (h : en_P V x = true) : 0 ≤ x ∧ x ≤ 63 := by
  obtain ⟨e, a, b, c, d⟩ := en_P_iff.1 h
  have q := hv e a b c
  omega
/-- how many of the first n numbers P has -/
def pu_N (P : Int → Bool) (x : Int) : Int := pu_ct P x.toNat 0
theorem pu_N_0 (P : Int → Bool) : pu_N P 0 = 0 := rfl
theorem pu_N_s {P : Int → Bool} {x : Int} (h : 0 ≤ x) : pu_N P (x + 1) = pu_N P x + (if P x = true then 1 else 0) := by
  unfold pu_N
  rw [show (x + 1).toNat = x.toNat + 1 by omega, pu_ct_last, show (0 : Int) + (x.toNat : Int) = x by omega]
theorem pu_N_bd {P : Int → Bool} {x : Int} (h : 0 ≤ x) : 0 ≤ pu_N P x ∧ pu_N P x ≤ x := by
  have := pu_ct_bd (P := P) x.toNat 0
  unfold pu_N
  omega
theorem pu_N_mo {P : Int → Bool} {x : Int} (h : 0 ≤ x) : ∀ (n : Nat), pu_N P x ≤ pu_N P (x + n) := by
  intro n
  induction n with
  | zero => rw [show x + ((0 : Nat) : Int) = x by omega]; omega
  | succ n ih =>
    have := pu_N_s (P := P) (x := x + n) (by omega)
    rw [show x + ((n + 1 : Nat) : Int) = x + n + 1 by omega, this]
    split <;> omega
theorem pu_N_le {P : Int → Bool} {x y : Int} (h : 0 ≤ x) (hy : x ≤ y) : pu_N P x ≤ pu_N P y := by
  have := pu_N_mo (P := P) h (y - x).toNat
  rw [show x + ((y - x).toNat : Int) = y by omega] at this
  exact this
/-- the one of rank i -/
theorem pu_N_ex {P : Int → Bool} : ∀ (n : Nat) {i : Int}, 0 ≤ i → i < pu_N P n → ∃ x : Int, 0 ≤ x ∧ x < n ∧ P x = true ∧ pu_N P x = i := by
  intro n
  induction n with
  | zero => intro i i0 i1; rw [show ((0 : Nat) : Int) = 0 by rfl, pu_N_0] at i1; omega
  | succ n ih =>
    intro i i0 i1
    rw [show ((n + 1 : Nat) : Int) = (n : Int) + 1 by omega, pu_N_s (by omega)] at i1
    by_cases c : i < pu_N P n
    · obtain ⟨x, a, b, e, f⟩ := ih i0 c
      exact ⟨x, a, by omega, e, f⟩
    · by_cases p : P n = true
      · rw [if_pos p] at i1
        exact ⟨n, by omega, by omega, p, by omega⟩
      · rw [if_neg p] at i1
        omega
theorem pu_ct_or {P R : Int → Bool} : ∀ (n : Nat) (s : Int), pu_ct (fun x => P x || R x) n s ≤ pu_ct P n s + pu_ct R n s := by
  intro n
  induction n with
  | zero => intro s; rw [pu_ct, pu_ct, pu_ct]; omega
  | succ n ih =>
    intro s
    have := ih (s + 1)
    rw [pu_ct, pu_ct, pu_ct]
    cases P s <;> cases R s <;> simp <;> omega
theorem pu_ct_0 {P : Int → Bool} : ∀ (n : Nat) (s : Int), (∀ x, s ≤ x → P x = false) → pu_ct P n s = 0 := by
  intro n
  induction n with
  | zero => intro s _; rfl
  | succ n ih =>
    intro s h
    rw [pu_ct_n (h s (Int.le_refl _))]
    exact ih (s + 1) (fun x hx => h x (by omega))
theorem pu_ct_1 {c : Int} : ∀ (n : Nat) (s : Int), pu_ct (fun x => decide (x = c)) n s ≤ 1 := by
  intro n
  induction n with
  | zero => intro s; rw [pu_ct]; omega
  | succ n ih =>
    intro s
    have := ih (s + 1)
    by_cases q : s = c
    · rw [pu_ct_y (by simp [q]), pu_ct_0 n (s + 1) (fun x hx => by simp; omega)]
      omega
    · rw [pu_ct_n (by simp [q])]
      exact this
theorem pu_ct_up2 {P R : Int → Bool} (h : ∀ x, P x = true → R x = true) : ∀ (n : Nat) (s : Int), pu_ct P n s ≤ pu_ct R n s := by
  intro n
  induction n with
  | zero => intro s; exact Int.le_refl _
  | succ n ih =>
    intro s
    have := ih (s + 1)
    rw [pu_ct, pu_ct]
    by_cases p : P s = true
    · rw [if_pos p, if_pos (h s p)]; omega
    · rw [if_neg p]
      split <;> omega
theorem en_b_ct {V : pu_V} : ∀ (n : Nat), pu_ct (en_b V n) 64 0 ≤ 2 * n := by
  intro n
  induction n with
  | zero => rw [pu_ct_0 (P := en_b V 0) 64 0 (fun x _ => rfl)]; omega
  | succ n ih =>
    have h1 := pu_ct_or (P := en_b V n) (R := fun x => decide (x = V n 0) || decide (x = V n 2)) 64 0
    have h2 := pu_ct_or (P := fun x => decide (x = V n 0)) (R := fun x => decide (x = V n 2)) 64 0
    have h3 := pu_ct_1 (c := V n 0) 64 0
    have h4 := pu_ct_1 (c := V n 2) 64 0
    have h5 : pu_ct (en_b V (n + 1)) 64 0 ≤ pu_ct (fun x => en_b V n x || (decide (x = V n 0) || decide (x = V n 2))) 64 0 := by
      by_cases c : V n 4 = -1
      · have e : pu_ct (en_b V (n + 1)) 64 0 = pu_ct (en_b V n) 64 0 := pu_ct_cg 64 0 (fun x _ _ => by
          rw [en_b]; simp [c])
        rw [e]
        have := pu_ct_up2 (P := en_b V n) (R := fun x => en_b V n x || (decide (x = V n 0) || decide (x = V n 2))) (fun x h => by simp [h]) 64 0
        exact this
      · have e : pu_ct (en_b V (n + 1)) 64 0 = pu_ct (fun x => en_b V n x || (decide (x = V n 0) || decide (x = V n 2))) 64 0 := pu_ct_cg 64 0 (fun x _ _ => by
          rw [en_b]; simp [c])
        rw [e]
        exact Int.le_refl _
    omega
/-! lists: edges one above the other in the middle of a slab -/
def sl_w (V : pu_V) (e : Int) : Int := V e 2 - V e 0
def sl_h (V : pu_V) (e t : Int) : Int := 2 * V e 1 * (V e 2 - V e 0) + (V e 3 - V e 1) * (t - 2 * V e 0)
/-- f is over e at half of t -/
def sl_ov (V : pu_V) (t f e : Int) : Bool := decide (sl_h V e t * sl_w V f < sl_h V f t * sl_w V e)
abbrev sl_T : Type := Int × (Int → Int)
def sl_ip (b : Int → Bool) : Nat → Int
  | 0 => 0
  | k + 1 => if b k = true then sl_ip b k else k + 1
def sl_ins (V : pu_V) (t : Int) (st : sl_T) (e : Int) : sl_T := (st.1 + 1, fun j => if j < sl_ip (fun j => sl_ov V t (st.2 j) e) st.1.toNat then st.2 j else if j = sl_ip (fun j => sl_ov V t (st.2 j) e) st.1.toNat then e else st.2 (j - 1))
abbrev sl_in (V : pu_V) (x X e : Int) : Prop := V e 4 ≠ -1 ∧ V e 0 ≤ x ∧ X ≤ V e 2
def sl_st (V : pu_V) (x X : Int) (st : sl_T) (e : Int) : sl_T := if sl_in V x X e then sl_ins V (x + X) st e else st
def sl_go (V : pu_V) (x X : Int) : Nat → Int → sl_T → sl_T
  | 0, _, st => st
  | n + 1, e, st => sl_go V x X n (e + 1) (sl_st V x X st e)
def sl_L (V : pu_V) (x X : Int) : sl_T := sl_go V x X 24 0 (0, fun _ => 0)
theorem sl_ip_bd {b : Int → Bool} : ∀ (n : Nat), 0 ≤ sl_ip b n ∧ sl_ip b n ≤ n := by
  intro n
  induction n with
  | zero => rw [sl_ip]; omega
  | succ n ih => rw [sl_ip]; split <;> omega
theorem sl_ip_cg {b c : Int → Bool} : ∀ (n : Nat), (∀ j : Int, 0 ≤ j → j < n → b j = c j) → sl_ip b n = sl_ip c n := by
  intro n
  induction n with
  | zero => intro _; rfl
  | succ n ih =>
    intro h
    rw [sl_ip, sl_ip, h n (by omega) (by omega), ih (fun j a b => h j a (by omega))]
/-- all from k on are -/
theorem sl_ip_dn {b : Int → Bool} (k : Nat) : ∀ (n : Nat), (∀ j : Int, (k : Int) ≤ j → j < k + n → b j = true) → sl_ip b (k + n) = sl_ip b k := by
  intro n
  induction n with
  | zero => intro _; rfl
  | succ n ih =>
    intro h
    rw [show k + (n + 1) = (k + n) + 1 by omega, sl_ip, if_pos (h ((k + n : Nat) : Int) (by omega) (by omega))]
    exact ih (fun j a b => h j a (by omega))
theorem sl_ip_at {b : Int → Bool} {k : Int} (k0 : 0 ≤ k) (h : k = 0 ∨ b (k - 1) = false) {n : Int} (hn : k ≤ n) (hb : ∀ j, k ≤ j → j < n → b j = true) : sl_ip b n.toNat = k := by
  have e : n.toNat = k.toNat + (n - k).toNat := by omega
  rw [e, sl_ip_dn k.toNat (n - k).toNat (fun j a c => hb j (by omega) (by omega))]
  rcases h with h | h
  · subst h; rfl
  · by_cases c : k = 0
    · subst c; rfl
    · rw [show k.toNat = (k - 1).toNat + 1 by omega, sl_ip, show (((k - 1).toNat : Nat) : Int) = k - 1 by omega, if_neg (by rw [h]; decide)]
      omega
theorem sl_h_eq {A B : pu_V} (h : pu_eq A B) {e : Int} (e0 : 0 ≤ e) (e1 : e ≤ 23) (t : Int) : sl_h A e t = sl_h B e t ∧ sl_w A e = sl_w B e := by
  unfold sl_h sl_w
  rw [h e 0 e0 e1 (by omega) (by omega), h e 1 e0 e1 (by omega) (by omega), h e 2 e0 e1 (by omega) (by omega), h e 3 e0 e1 (by omega) (by omega)]
  exact ⟨rfl, rfl⟩
/-- lists' members are edges -/
def sl_m (st : sl_T) : Prop := 0 ≤ st.1 ∧ ∀ j, 0 ≤ j → j < st.1 → 0 ≤ st.2 j ∧ st.2 j ≤ 23
theorem sl_m_ins {V : pu_V} {t e : Int} {st : sl_T} (h : sl_m st) (e0 : 0 ≤ e) (e1 : e ≤ 23) : sl_m (sl_ins V t st e) := by
  have b := sl_ip_bd (b := fun j => sl_ov V t (st.2 j) e) st.1.toNat
  have h0 := h.1
  refine ⟨by show 0 ≤ st.1 + 1; omega, fun j j0 j1 => ?_⟩
  replace j1 : j < st.1 + 1 := j1
  show 0 ≤ (if j < sl_ip (fun j => sl_ov V t (st.2 j) e) st.1.toNat then st.2 j else if j = sl_ip (fun j => sl_ov V t (st.2 j) e) st.1.toNat then e else st.2 (j - 1)) ∧ (if j < sl_ip (fun j => sl_ov V t (st.2 j) e) st.1.toNat then st.2 j else if j = sl_ip (fun j => sl_ov V t (st.2 j) e) st.1.toNat then e else st.2 (j - 1)) ≤ 23
  split
  · exact h.2 j j0 (by omega)
  · split
    · exact ⟨e0, e1⟩
    · exact h.2 (j - 1) (by omega) (by omega)
theorem sl_m_st {V : pu_V} {x X e : Int} {st : sl_T} (h : sl_m st) (e0 : 0 ≤ e) (e1 : e ≤ 23) : sl_m (sl_st V x X st e) := by
  unfold sl_st
  split
  · exact sl_m_ins h e0 e1
  · exact h
theorem sl_m_go {V : pu_V} {x X : Int} : ∀ (n : Nat) (e : Int) (st : sl_T), 0 ≤ e → e + n ≤ 24 → sl_m st → sl_m (sl_go V x X n e st) := by
  intro n
  induction n with
  | zero => intro e st _ _ h; exact h
  | succ n ih => intro e st e0 e1 h; exact ih (e + 1) _ (by omega) (by omega) (sl_m_st h e0 (by omega))
theorem sl_m_L (V : pu_V) (x X : Int) : sl_m (sl_L V x X) := sl_m_go 24 0 _ (by omega) (by omega) ⟨Int.le_refl _, fun j j0 j1 => by replace j1 : j < 0 := j1; omega⟩
theorem sl_ins_eq {A B : pu_V} (h : pu_eq A B) (t : Int) {st : sl_T} (hs : sl_m st) {e : Int} (e0 : 0 ≤ e) (e1 : e ≤ 23) : sl_ins A t st e = sl_ins B t st e := by
  have q : sl_ip (fun j => sl_ov A t (st.2 j) e) st.1.toNat = sl_ip (fun j => sl_ov B t (st.2 j) e) st.1.toNat := sl_ip_cg _ (fun j j0 j1 => by
    have hj := hs.2 j j0 (by have := hs.1; omega)
    have h1 := sl_h_eq h e0 e1 t
    have h2 := sl_h_eq h hj.1 hj.2 t
    unfold sl_ov
    rw [h1.1, h1.2, h2.1, h2.2])
  unfold sl_ins
  rw [q]
theorem sl_go_eq {A B : pu_V} (h : pu_eq A B) {x X : Int} : ∀ (n : Nat) (e : Int) (st : sl_T), 0 ≤ e → e + n ≤ 24 → sl_m st → sl_go A x X n e st = sl_go B x X n e st := by
  intro n
  induction n with
  | zero => intro e st _ _ _; rfl
  | succ n ih =>
    intro e st e0 e1 hs
    have c : sl_in A x X e ↔ sl_in B x X e := by
      unfold sl_in
      rw [h e 4 e0 (by omega) (by omega) (by omega), h e 0 e0 (by omega) (by omega) (by omega), h e 2 e0 (by omega) (by omega) (by omega)]
    have q : sl_st A x X st e = sl_st B x X st e := by
      unfold sl_st
      by_cases c1 : sl_in A x X e
      · rw [if_pos c1, if_pos (c.1 c1), sl_ins_eq h _ hs e0 (by omega)]
      · rw [if_neg c1, if_neg (fun x => c1 (c.2 x))]
    rw [sl_go, sl_go, q]
    exact ih (e + 1) _ (by omega) (by omega) (sl_m_st hs e0 (by omega))
theorem sl_L_eq {A B : pu_V} (h : pu_eq A B) (x X : Int) : sl_L A x X = sl_L B x X := sl_go_eq h 24 0 _ (by omega) (by omega) ⟨Int.le_refl _, fun j j0 j1 => by replace j1 : j < 0 := j1; omega⟩
/-- slabs: how many, cuts, lists -/
def sl_n (V : pu_V) : Int := z_max 0 (pu_N (en_P V) 64 - 1)
def sl_ok (V : pu_V) (n : Int) (c len lst : Int → Int) : Prop := n = sl_n V ∧ (∀ x, 0 ≤ x → x ≤ 63 → en_P V x = true → c (pu_N (en_P V) x) = x) ∧ ∀ s, 0 ≤ s → s < n → len s = (sl_L V (c s) (c (s + 1))).1 ∧ ∀ j, 0 ≤ j → j < len s → lst (24 * s + j) = (sl_L V (c s) (c (s + 1))).2 j
theorem sl_n_eq {A B : pu_V} (h : pu_eq A B) : sl_n A = sl_n B := by
  unfold sl_n pu_N
  rw [pu_ct_cg (P := en_P A) (R := en_P B) _ _ (fun x _ _ => en_P_eq h x)]
theorem sl_n_bd (V : pu_V) : (0 ≤ sl_n V ∧ sl_n V ≤ 47) ∧ (sl_n V = pu_N (en_P V) 64 - 1 ∨ (sl_n V = 0 ∧ pu_N (en_P V) 64 ≤ 1)) := by
  have ct := en_b_ct (V := V) 24
  have c2 : pu_N (en_P V) 64 ≤ 48 := by
    show pu_ct (en_b V 24) 64 0 ≤ 48
    omega
  unfold sl_n z_max
  split <;> omega
