/-! pure: edges seen, what an act asks, what it does -/
abbrev pu_V : Type := Int → Int → Int
def pu_vC (g : Int → Int) : pu_V := fun e k => if g (96 + e) = -1 then -1 else g (24 * k + e)
def pu_vM (g : Int → Int) : pu_V := fun e k => if g (5 * e + 4) = -1 then -1 else g (5 * e + k)
def pu_eq (A B : pu_V) : Prop := ∀ e k, 0 ≤ e → e ≤ 23 → 0 ≤ k → k ≤ 4 → A e k = B e k
theorem pu_eq_rf (A : pu_V) : pu_eq A A := fun _ _ _ _ _ _ => rfl
theorem pu_eq_sy {A B : pu_V} (h : pu_eq A B) : pu_eq B A := fun e k a b c d => (h e k a b c d).symm
theorem pu_eq_tr {A B C : pu_V} (h : pu_eq A B) (h2 : pu_eq B C) : pu_eq A C := fun e k a b c d => (h e k a b c d).trans (h2 e k a b c d)
theorem pu_vC4 (g : Int → Int) (e : Int) : pu_vC g e 4 = g (96 + e) := by
  unfold pu_vC
  by_cases h : g (96 + e) = -1
  · rw [if_pos h, h]
  · rw [if_neg h, show (24 : Int) * 4 + e = 96 + e by omega]
theorem pu_vC_k {g : Int → Int} {e : Int} (h : g (96 + e) ≠ -1) : pu_vC g e 0 = g e ∧ pu_vC g e 1 = g (24 + e) ∧ pu_vC g e 2 = g (48 + e) ∧ pu_vC g e 3 = g (72 + e) := by
  unfold pu_vC
  rw [if_neg h, if_neg h, if_neg h, if_neg h, show (24 : Int) * 0 + e = e by omega, show (24 : Int) * 1 + e = 24 + e by omega, show (24 : Int) * 2 + e = 48 + e by omega, show (24 : Int) * 3 + e = 72 + e by omega]
  exact ⟨rfl, rfl, rfl, rfl⟩
theorem pu_vC_n {g : Int → Int} {e : Int} (h : g (96 + e) = -1) (k : Int) : pu_vC g e k = -1 := by
  unfold pu_vC
  rw [if_pos h]
theorem pu_vM4 (g : Int → Int) (e : Int) : pu_vM g e 4 = g (5 * e + 4) := by
  unfold pu_vM
  by_cases h : g (5 * e + 4) = -1
  · rw [if_pos h, h]
  · rw [if_neg h]
theorem pu_vM_k {g : Int → Int} {e : Int} (h : g (5 * e + 4) ≠ -1) (k : Int) : pu_vM g e k = g (5 * e + k) := by
  unfold pu_vM
  rw [if_neg h]
theorem pu_vM_n {g : Int → Int} {e : Int} (h : g (5 * e + 4) = -1) (k : Int) : pu_vM g e k = -1 := by
  unfold pu_vM
  rw [if_pos h]
theorem pu_vC_cg {f g : Int → Int} (h : ∀ j, 0 ≤ j → j < 120 → f j = g j) : pu_eq (pu_vC f) (pu_vC g) := by
  intro e k e0 e1 k0 k1
  unfold pu_vC
  rw [h (96 + e) (by omega) (by omega), h (24 * k + e) (by omega) (by omega)]
theorem pu_vM_cg {f g : Int → Int} (h : ∀ j, 0 ≤ j → j < 120 → f j = g j) : pu_eq (pu_vM f) (pu_vM g) := by
  intro e k e0 e1 k0 k1
  unfold pu_vM
  rw [h (5 * e + 4) (by omega) (by omega), h (5 * e + k) (by omega) (by omega)]
/-- edges within their bounds -/
def pu_ok (V : pu_V) : Prop := ∀ e, 0 ≤ e → e ≤ 23 → V e 4 ≠ -1 → (0 ≤ V e 0 ∧ V e 0 ≤ 63) ∧ (0 ≤ V e 1 ∧ V e 1 ≤ 63) ∧ (0 ≤ V e 2 ∧ V e 2 ≤ 63) ∧ (0 ≤ V e 3 ∧ V e 3 ≤ 63) ∧ V e 0 < V e 2 ∧ 0 ≤ V e 4 ∧ V e 4 ≤ 9
theorem pu_ok_eq {A B : pu_V} (h : pu_eq A B) (hb : pu_ok B) : pu_ok A := by
  intro e e0 e1 hn
  have q0 := h e 0 e0 e1 (by omega) (by omega)
  have q1 := h e 1 e0 e1 (by omega) (by omega)
  have q2 := h e 2 e0 e1 (by omega) (by omega)
  have q3 := h e 3 e0 e1 (by omega) (by omega)
  have q4 := h e 4 e0 e1 (by omega) (by omega)
  rw [q4] at hn
  rw [q0, q1, q2, q3, q4]
  exact hb e e0 e1 hn
/-- the first of s, s + 1 .. (n of them) -/
def pu_fst (P : Int → Bool) : Nat → Int → Int
  | 0, _ => -1
  | n + 1, s => if P s = true then s else pu_fst P n (s + 1)
/-- how many of them -/
def pu_ct (P : Int → Bool) : Nat → Int → Int
  | 0, _ => 0
  | n + 1, s => (if P s = true then 1 else 0) + pu_ct P n (s + 1)
theorem pu_fst_y {P : Int → Bool} {n : Nat} {s : Int} (h : P s = true) : pu_fst P (n + 1) s = s := by
  unfold pu_fst; rw [if_pos h]
theorem pu_fst_n {P : Int → Bool} {n : Nat} {s : Int} (h : P s = false) : pu_fst P (n + 1) s = pu_fst P n (s + 1) := by
  rw [pu_fst, if_neg (by rw [h]; decide)]
theorem pu_ct_y {P : Int → Bool} {n : Nat} {s : Int} (h : P s = true) : pu_ct P (n + 1) s = 1 + pu_ct P n (s + 1) := by
  rw [pu_ct, if_pos h]
theorem pu_ct_n {P : Int → Bool} {n : Nat} {s : Int} (h : P s = false) : pu_ct P (n + 1) s = pu_ct P n (s + 1) := by
  rw [pu_ct, if_neg (by rw [h]; decide), Int.zero_add]
theorem pu_fst_cg {P R : Int → Bool} : ∀ (n : Nat) (s : Int), (∀ i, s ≤ i → i < s + n → P i = R i) → pu_fst P n s = pu_fst R n s
  | 0, _, _ => rfl
  | n + 1, s, h => by
    have e := h s (Int.le_refl _) (by omega)
    have ih := pu_fst_cg n (s + 1) (fun i a b => h i (by omega) (by omega))
    rw [pu_fst, pu_fst, e, ih]
theorem pu_ct_cg {P R : Int → Bool} : ∀ (n : Nat) (s : Int), (∀ i, s ≤ i → i < s + n → P i = R i) → pu_ct P n s = pu_ct R n s
  | 0, _, _ => rfl
  | n + 1, s, h => by
    have e := h s (Int.le_refl _) (by omega)
    have ih := pu_ct_cg n (s + 1) (fun i a b => h i (by omega) (by omega))
    rw [pu_ct, pu_ct, e, ih]
theorem pu_fst_sp {P : Int → Bool} : ∀ (n : Nat) (s : Int), 0 ≤ s → (pu_fst P n s = -1 ∧ ∀ i, s ≤ i → i < s + n → P i = false) ∨ (s ≤ pu_fst P n s ∧ pu_fst P n s < s + n ∧ P (pu_fst P n s) = true ∧ ∀ i, s ≤ i → i < pu_fst P n s → P i = false)
  | 0, s, _ => Or.inl ⟨rfl, fun i a b => absurd b (by omega)⟩
  | n + 1, s, h0 => by
    cases e : P s with
    | true =>
      rw [pu_fst_y e]
      exact Or.inr ⟨Int.le_refl _, by omega, e, fun i a b => absurd b (by omega)⟩
    | false =>
      rw [pu_fst_n e]
      rcases pu_fst_sp (P := P) n (s + 1) (by omega) with ⟨h1, h2⟩ | ⟨h1, h2, h3, h4⟩
      · refine Or.inl ⟨h1, fun i a b => ?_⟩
        by_cases q : i = s
        · rw [q]; exact e
        · exact h2 i (by omega) (by omega)
      · refine Or.inr ⟨by omega, by omega, h3, fun i a b => ?_⟩
        by_cases q : i = s
        · rw [q]; exact e
        · exact h4 i (by omega) b
theorem pu_fst_no {P : Int → Bool} {n : Nat} {s : Int} (h0 : 0 ≤ s) (h : pu_fst P n s = -1) : ∀ i, s ≤ i → i < s + n → P i = false := by
  rcases pu_fst_sp (P := P) n s h0 with ⟨_, h2⟩ | ⟨h1, _⟩
  · exact h2
  · omega
theorem pu_fst_ye {P : Int → Bool} {n : Nat} {s : Int} (h0 : 0 ≤ s) (h : pu_fst P n s ≠ -1) : s ≤ pu_fst P n s ∧ pu_fst P n s < s + n ∧ P (pu_fst P n s) = true := by
  rcases pu_fst_sp (P := P) n s h0 with ⟨h1, _⟩ | ⟨h1, h2, h3, _⟩
  · exact absurd h1 h
  · exact ⟨h1, h2, h3⟩
theorem pu_fst_ex {P : Int → Bool} {n : Nat} {s i : Int} (h0 : 0 ≤ s) (a : s ≤ i) (b : i < s + n) (h : P i = true) : pu_fst P n s ≠ -1 := by
  intro q
  rw [pu_fst_no h0 q i a b] at h
  exact absurd h (by decide)
theorem pu_ct_bd {P : Int → Bool} : ∀ (n : Nat) (s : Int), 0 ≤ pu_ct P n s ∧ pu_ct P n s ≤ n
  | 0, _ => ⟨Int.le_refl _, Int.le_refl _⟩
  | n + 1, s => by
    have ih := pu_ct_bd (P := P) n (s + 1)
    cases e : P s with
    | true => rw [pu_ct_y e]; omega
    | false => rw [pu_ct_n e]; omega
theorem pu_ct_all {P : Int → Bool} : ∀ (n : Nat) (s : Int), (pu_ct P n s = n ↔ ∀ i, s ≤ i → i < s + n → P i = true)
  | 0, s => ⟨fun _ i a b => absurd b (by omega), fun _ => rfl⟩
  | n + 1, s => by
    have ih := pu_ct_all (P := P) n (s + 1)
    have bd := pu_ct_bd (P := P) n (s + 1)
    cases e : P s with
    | true =>
      rw [pu_ct_y e]
      refine ⟨fun h i a b => ?_, fun h => ?_⟩
      · by_cases q : i = s
        · rw [q]; exact e
        · exact ih.1 (by omega) i (by omega) (by omega)
      · have := ih.2 (fun i a b => h i (by omega) (by omega))
        omega
    | false =>
      rw [pu_ct_n e]
      refine ⟨fun h => by omega, fun h => ?_⟩
      rw [h s (Int.le_refl _) (by omega)] at e
      exact absurd e (by decide)
theorem pu_ct_up {P R : Int → Bool} {i : Int} (h1 : P i = false) (h2 : R i = true) : ∀ (n : Nat) (s : Int), s ≤ i → i < s + n → (∀ j, s ≤ j → j < s + n → j ≠ i → R j = P j) → pu_ct R n s = pu_ct P n s + 1
  | 0, s, a, b, _ => absurd b (by omega)
  | n + 1, s, a, b, h => by
    by_cases q : s = i
    · subst q
      rw [pu_ct_y h2, pu_ct_n h1, pu_ct_cg (P := R) (R := P) n (s + 1) (fun j a b => h j (by omega) (by omega) (by omega))]
      omega
    · have ih := pu_ct_up h1 h2 n (s + 1) (by omega) (by omega) (fun j a b c => h j (by omega) (by omega) c)
      have e := h s (Int.le_refl _) (by omega) q
      cases e2 : P s with
      | true => rw [pu_ct_y e2, pu_ct_y (e.trans e2), ih]; omega
      | false => rw [pu_ct_n e2, pu_ct_n (e.trans e2), ih]
/-- one more, from behind -/
theorem pu_ct_last {P : Int → Bool} : ∀ (n : Nat) (s : Int), pu_ct P (n + 1) s = pu_ct P n s + (if P (s + n) = true then 1 else 0)
  | 0, s => by
    rw [pu_ct, pu_ct, pu_ct, show s + ((0 : Nat) : Int) = s by omega]
    omega
  | n + 1, s => by
    have ih := pu_ct_last (P := P) n (s + 1)
    rw [pu_ct, ih, show s + 1 + (n : Int) = s + ((n + 1 : Nat) : Int) by omega]
    rw [show pu_ct P (n + 1) s = (if P s = true then 1 else 0) + pu_ct P n (s + 1) from rfl]
    omega
abbrev pu_has (V : pu_V) (e : Int) : Prop := 0 ≤ e ∧ e ≤ 23 ∧ V e 4 ≠ -1
abbrev pu_pt (x y : Int) : Prop := 0 ≤ x ∧ x ≤ 63 ∧ 0 ≤ y ∧ y ≤ 63
def pu_pr (V : pu_V) (e : Int) : Bool := decide (V e 4 ≠ -1)
def pu_em (V : pu_V) (e : Int) : Bool := decide (V e 4 = -1)
def pu_cnt (V : pu_V) : Int := pu_ct (pu_pr V) 24 0
def pu_fr (V : pu_V) : Int := pu_fst (pu_em V) 24 0
theorem pu_fr_cnt (V : pu_V) : pu_fr V = -1 ↔ 24 ≤ pu_cnt V := by
  have bd := pu_ct_bd (P := pu_pr V) 24 0
  have al := pu_ct_all (P := pu_pr V) 24 0
  unfold pu_fr pu_cnt
  refine ⟨fun h => ?_, fun h => ?_⟩
  · have := al.2 (fun i a b => by
      have q := pu_fst_no (Int.le_refl _) h i a b
      unfold pu_em at q
      unfold pu_pr
      simpa using q)
    omega
  · rcases pu_fst_sp (P := pu_em V) 24 0 (Int.le_refl _) with ⟨h1, _⟩ | ⟨h1, h2, h3, _⟩
    · exact h1
    · have := al.1 (by omega) _ h1 h2
      unfold pu_em at h3
      unfold pu_pr at this
      simp only [decide_eq_true_eq] at h3 this
      exact absurd h3 this
/-! whether a way and an edge have a point in common that is an end of neither -/
def pu_trn (ax ay bx dy cx cy : Int) : Int := (bx - ax) * (cy - ay) - (dy - ay) * (cx - ax)
abbrev pu_op (a b : Int) : Prop := (a < 0 ∧ 0 < b) ∨ (0 < a ∧ b < 0)
abbrev pu_mt (x y X Y a b c d : Int) : Prop := (pu_trn x y X Y a b = 0 ∧ pu_trn x y X Y c d = 0 ∧ z_max x (z_min a c) < z_min X (z_max a c)) ∨ (¬ (pu_trn x y X Y a b = 0 ∧ pu_trn x y X Y c d = 0) ∧ pu_op (pu_trn x y X Y a b) (pu_trn x y X Y c d) ∧ pu_op (pu_trn a b c d x y) (pu_trn a b c d X Y))
def pu_ms (V : pu_V) (a b c d e : Int) : Bool := decide (V e 4 ≠ -1 ∧ pu_mt (V e 0) (V e 1) (V e 2) (V e 3) a b c d)
def pu_bk (V : pu_V) (a b c d : Int) : Int := pu_fst (pu_ms V a b c d) 24 0
def pu_out (V : pu_V) (a b e : Int) : Bool := decide (V e 4 ≠ -1 ∧ ¬ (pu_pt (V e 0 + a) (V e 1 + b) ∧ pu_pt (V e 2 + a) (V e 3 + b)))
def pu_mo (V : pu_V) (a b : Int) : Int := pu_fst (pu_out V a b) 24 0
/-- why an act can't be: -1: it can -/
def pu_why (V : pu_V) (t a b c d e : Int) : Int :=
  if t = 0 then (if pu_pt a b ∧ pu_pt c d ∧ 0 ≤ e ∧ e ≤ 9 then (if c ≤ a then 2 else if pu_bk V a b c d ≠ -1 ∨ pu_fr V = -1 then 3 else -1) else 1)
  else if t = 1 then (if pu_has V a then -1 else 0)
  else if t = 2 then (if pu_has V a then (if 0 ≤ b ∧ b ≤ 9 then (if V a 4 = b then 2 else -1) else 1) else 0)
  else (if -63 ≤ a ∧ a ≤ 63 ∧ -63 ≤ b ∧ b ≤ 63 then (if a = 0 ∧ b = 0 then 2 else if pu_mo V a b ≠ -1 then 3 else -1) else 1)
def pu_do (V : pu_V) (t a b c d e : Int) : pu_V :=
  if t = 0 then fun j k => if j = pu_fr V then (if k = 0 then a else if k = 1 then b else if k = 2 then c else if k = 3 then d else e) else V j k
  else if t = 1 then fun j k => if j = a then -1 else V j k
  else if t = 2 then fun j k => if j = a ∧ k = 4 then b else V j k
  else fun j k => if V j 4 = -1 then V j k else if k = 0 ∨ k = 2 then V j k + a else if k = 1 ∨ k = 3 then V j k + b else V j k
def pu_ans (V : pu_V) (t a : Int) : Int := if t = 0 then pu_fr V else if t = 1 ∨ t = 2 then V a 4 else pu_cnt V
theorem pu_fr_eq {A B : pu_V} (h : pu_eq A B) : pu_fr A = pu_fr B := pu_fst_cg 24 0 (fun i a b => by
  unfold pu_em
  rw [h i 4 a (by omega) (by omega) (by omega)])
theorem pu_cnt_eq {A B : pu_V} (h : pu_eq A B) : pu_cnt A = pu_cnt B := pu_ct_cg 24 0 (fun i a b => by
  unfold pu_pr
  rw [h i 4 a (by omega) (by omega) (by omega)])
theorem pu_bk_eq {A B : pu_V} (h : pu_eq A B) (a b c d : Int) : pu_bk A a b c d = pu_bk B a b c d := pu_fst_cg 24 0 (fun i p q => by
  unfold pu_ms
  rw [h i 4 p (by omega) (by omega) (by omega), h i 0 p (by omega) (by omega) (by omega), h i 1 p (by omega) (by omega) (by omega), h i 2 p (by omega) (by omega) (by omega), h i 3 p (by omega) (by omega) (by omega)])
theorem pu_mo_eq {A B : pu_V} (h : pu_eq A B) (a b : Int) : pu_mo A a b = pu_mo B a b := pu_fst_cg 24 0 (fun i p q => by
  unfold pu_out
  rw [h i 4 p (by omega) (by omega) (by omega), h i 0 p (by omega) (by omega) (by omega), h i 1 p (by omega) (by omega) (by omega), h i 2 p (by omega) (by omega) (by omega), h i 3 p (by omega) (by omega) (by omega)])
theorem pu_why_eq {A B : pu_V} (h : pu_eq A B) (t a b c d e : Int) : pu_why A t a b c d e = pu_why B t a b c d e := by
  by_cases ha : 0 ≤ a ∧ a ≤ 23
  · have e4 := h a 4 ha.1 ha.2 (by omega) (by omega)
    simp only [pu_why, pu_has, pu_bk_eq h, pu_fr_eq h, pu_mo_eq h, e4]
  · have na : ∀ V : pu_V, ¬ pu_has V a := fun V q => ha ⟨q.1, q.2.1⟩
    simp only [pu_why, pu_bk_eq h, pu_fr_eq h, pu_mo_eq h, if_neg (na A), if_neg (na B)]
theorem pu_do_eq {A B : pu_V} (h : pu_eq A B) (t a b c d e : Int) : pu_eq (pu_do A t a b c d e) (pu_do B t a b c d e) := by
  intro j k j0 j1 k0 k1
  have e1 := h j k j0 j1 k0 k1
  have e4 := h j 4 j0 j1 (by omega) (by omega)
  unfold pu_do
  split
  · simp only [pu_fr_eq h, e1]
  · split
    · simp only [e1]
    · split
      · simp only [e1]
      · simp only [e1, e4]
theorem pu_ans_eq {A B : pu_V} (h : pu_eq A B) {t a : Int} (ha : t = 1 ∨ t = 2 → 0 ≤ a ∧ a ≤ 23) : pu_ans A t a = pu_ans B t a := by
  unfold pu_ans
  rw [pu_fr_eq h, pu_cnt_eq h]
  split
  · rfl
  · split
    · rename_i q
      exact h a 4 (ha q).1 (ha q).2 (by omega) (by omega)
    · rfl
/-- what an act that can be done keeps to -/
theorem pu_why0 {V : pu_V} {a b c d e : Int} (h : pu_why V 0 a b c d e = -1) : pu_pt a b ∧ pu_pt c d ∧ (0 ≤ e ∧ e ≤ 9) ∧ a < c ∧ pu_bk V a b c d = -1 ∧ pu_fr V ≠ -1 := by
  unfold pu_why at h
  rw [if_pos rfl] at h
  split at h
  · rename_i q
    split at h
    · exact absurd h (by decide)
    · split at h
      · exact absurd h (by decide)
      · rename_i q2 q3
        exact ⟨q.1, q.2.1, q.2.2, by omega, Classical.byContradiction (fun x => q3 (Or.inl x)), fun x => q3 (Or.inr x)⟩
  · exact absurd h (by decide)
theorem pu_why1 {V : pu_V} {a b c d e : Int} (h : pu_why V 1 a b c d e = -1) : pu_has V a := by
  unfold pu_why at h
  rw [if_neg (by decide), if_pos rfl] at h
  split at h
  · assumption
  · exact absurd h (by decide)
theorem pu_why2 {V : pu_V} {a b c d e : Int} (h : pu_why V 2 a b c d e = -1) : pu_has V a ∧ (0 ≤ b ∧ b ≤ 9) := by
  unfold pu_why at h
  rw [if_neg (by decide), if_neg (by decide), if_pos rfl] at h
  split at h
  · split at h
    · exact ⟨by assumption, by assumption⟩
    · exact absurd h (by decide)
  · exact absurd h (by decide)
theorem pu_why3 {V : pu_V} {a b c d e : Int} (h : pu_why V 3 a b c d e = -1) : (-63 ≤ a ∧ a ≤ 63 ∧ -63 ≤ b ∧ b ≤ 63) ∧ ∀ i, 0 ≤ i → i ≤ 23 → V i 4 ≠ -1 → pu_pt (V i 0 + a) (V i 1 + b) ∧ pu_pt (V i 2 + a) (V i 3 + b) := by
  unfold pu_why at h
  rw [if_neg (by decide), if_neg (by decide), if_neg (by decide)] at h
  split at h
  · rename_i q
    split at h
    · exact absurd h (by decide)
    · split at h
      · exact absurd h (by decide)
      · rename_i q2 q3
        refine ⟨q, fun i i0 i1 hi => ?_⟩
        have q4 : pu_mo V a b = -1 := Classical.byContradiction (fun x => q3 x)
        have q5 := pu_fst_no (Int.le_refl _) q4 i i0 (by omega)
        unfold pu_out at q5
        have q6 := of_decide_eq_false q5
        exact Classical.byContradiction (fun x => q6 ⟨hi, x⟩)
  · exact absurd h (by decide)
theorem pu_fr_sp {V : pu_V} (h : pu_fr V ≠ -1) : 0 ≤ pu_fr V ∧ pu_fr V ≤ 23 ∧ V (pu_fr V) 4 = -1 := by
  have q := pu_fst_ye (P := pu_em V) (Int.le_refl _) h
  have q3 := q.2.2
  unfold pu_em at q3
  exact ⟨q.1, by have := q.2.1; unfold pu_fr; omega, of_decide_eq_true q3⟩
theorem pu_do_ok {V : pu_V} {t a b c d e : Int} (hv : pu_ok V) (ht : 0 ≤ t ∧ t ≤ 3) (h : pu_why V t a b c d e = -1) : pu_ok (pu_do V t a b c d e) := by
  have h4 : t = 0 ∨ t = 1 ∨ t = 2 ∨ t = 3 := by omega
  intro i i0 i1
  rcases h4 with rfl | rfl | rfl | rfl
  · have q := pu_why0 h
    unfold pu_do
    rw [if_pos rfl]
    by_cases ci : i = pu_fr V
    · simp only [if_pos ci]
      intro _
      exact ⟨⟨q.1.1, q.1.2.1⟩, ⟨q.1.2.2.1, q.1.2.2.2⟩, ⟨q.2.1.1, q.2.1.2.1⟩, ⟨q.2.1.2.2.1, q.2.1.2.2.2⟩, q.2.2.2.1, q.2.2.1.1, q.2.2.1.2⟩
    · simp only [if_neg ci]
      exact hv i i0 i1
  · unfold pu_do
    rw [if_neg (by decide), if_pos rfl]
    by_cases ci : i = a
    · simp only [if_pos ci]
      intro x
      exact absurd rfl x
    · simp only [if_neg ci]
      exact hv i i0 i1
  · have q := pu_why2 h
    unfold pu_do
    rw [if_neg (by decide), if_neg (by decide), if_pos rfl]
    by_cases ci : i = a
    · subst ci
      have q2 := hv i i0 i1 q.1.2.2
      simp only [true_and, and_true, if_pos, show ¬ ((0 : Int) = 4) by decide, show ¬ ((1 : Int) = 4) by decide, show ¬ ((2 : Int) = 4) by decide, show ¬ ((3 : Int) = 4) by decide, if_false]
      intro _
      exact ⟨q2.1, q2.2.1, q2.2.2.1, q2.2.2.2.1, q2.2.2.2.2.1, q.2.1, q.2.2⟩
    · simp only [ci, false_and, if_false]
      exact hv i i0 i1
  · have q := pu_why3 h
    unfold pu_do
    rw [if_neg (by decide), if_neg (by decide), if_neg (by decide)]
    by_cases ci : V i 4 = -1
    · simp only [if_pos ci]
      intro x
      exact absurd ci x
    · have q2 := q.2 i i0 i1 ci
      have q3 := hv i i0 i1 ci
      simp only [if_neg ci]
      intro _
      simp only [Int.reduceEq, or_self, or_true, true_or, or_false, false_or, if_true, if_false]
      exact ⟨⟨q2.1.1, q2.1.2.1⟩, ⟨q2.1.2.2.1, q2.1.2.2.2⟩, ⟨q2.2.1, q2.2.2.1⟩, ⟨q2.2.2.2.1, q2.2.2.2.2⟩, by omega, q3.2.2.2.2.2.1, q3.2.2.2.2.2.2⟩
theorem pu_cnt_do {V : pu_V} {t a b c d e : Int} (hv : pu_ok V) (ht : 0 ≤ t ∧ t ≤ 3) (h : pu_why V t a b c d e = -1) : pu_cnt (pu_do V t a b c d e) = pu_cnt V + (if t = 0 then 1 else if t = 1 then -1 else 0) := by
  have h4 : t = 0 ∨ t = 1 ∨ t = 2 ∨ t = 3 := by omega
  unfold pu_cnt
  rcases h4 with rfl | rfl | rfl | rfl
  · have q := pu_why0 h
    have f := pu_fr_sp q.2.2.2.2.2
    rw [if_pos rfl]
    refine pu_ct_up (i := pu_fr V) ?_ ?_ 24 0 f.1 (by omega) (fun j _ _ cj => ?_)
    · unfold pu_pr; rw [f.2.2]; rfl
    · unfold pu_pr pu_do
      simp only [if_true]
      exact decide_eq_true (by have := q.2.2.1; show e ≠ -1; omega)
    · unfold pu_pr pu_do
      simp only [if_true, if_neg cj]
  · have q := pu_why1 h
    have u := pu_ct_up (P := pu_pr (pu_do V 1 a b c d e)) (R := pu_pr V) (i := a) (by
      unfold pu_pr pu_do
      simp only [show ¬ ((1 : Int) = 0) by decide, if_true, if_false]
      rfl) (by unfold pu_pr; exact decide_eq_true q.2.2) 24 0 q.1 (by have := q.2.1; omega) (fun j _ _ cj => by
      unfold pu_pr pu_do
      simp only [show ¬ ((1 : Int) = 0) by decide, if_true, if_false, if_neg cj])
    rw [if_neg (by decide), if_pos rfl]
    omega
  · have q := pu_why2 h
    rw [if_neg (by decide), if_neg (by decide), Int.add_zero]
    refine pu_ct_cg 24 0 (fun j _ _ => ?_)
    unfold pu_pr pu_do
    simp only [show ¬ ((2 : Int) = 0) by decide, show ¬ ((2 : Int) = 1) by decide, if_true, if_false, and_true]
    by_cases cj : j = a
    · rw [if_pos cj, cj]
      have := q.1.2.2
      have := q.2.1
      rw [decide_eq_true (show b ≠ -1 by omega), decide_eq_true (show V a 4 ≠ -1 by assumption)]
    · rw [if_neg cj]
  · have q := pu_why3 h
    rw [if_neg (by decide), if_neg (by decide), Int.add_zero]
    refine pu_ct_cg 24 0 (fun j _ _ => ?_)
    unfold pu_pr pu_do
    simp only [show ¬ ((3 : Int) = 0) by decide, show ¬ ((3 : Int) = 1) by decide, show ¬ ((3 : Int) = 2) by decide, show ¬ ((4 : Int) = 0 ∨ (4 : Int) = 2) by decide, show ¬ ((4 : Int) = 1 ∨ (4 : Int) = 3) by decide, if_false, ite_self]
theorem pu_vC_set {g g' : Int → Int} {s : Int} {f : Int → Int} (hs : ∀ k, 0 ≤ k → k ≤ 4 → g' (24 * k + s) = f k) (h4 : f 4 ≠ -1) (ho : ∀ j k, 0 ≤ j → j ≤ 23 → j ≠ s → 0 ≤ k → k ≤ 4 → g' (24 * k + j) = g (24 * k + j)) : pu_eq (pu_vC g') (fun j k => if j = s then f k else pu_vC g j k) := by
  intro j k j0 j1 k0 k1
  show (if g' (96 + j) = -1 then -1 else g' (24 * k + j)) = if j = s then f k else if g (96 + j) = -1 then -1 else g (24 * k + j)
  rw [show 96 + j = 24 * 4 + j by omega]
  by_cases c : j = s
  · subst c
    rw [hs 4 (by omega) (by omega), if_neg h4, if_pos rfl, hs k k0 k1]
  · rw [ho j 4 j0 j1 c (by omega) (by omega), ho j k j0 j1 c k0 k1, if_neg c]
theorem pu_vC_del {g g' : Int → Int} {s : Int} (hs : g' (96 + s) = -1) (ho : ∀ j k, 0 ≤ j → j ≤ 23 → j ≠ s → 0 ≤ k → k ≤ 4 → g' (24 * k + j) = g (24 * k + j)) : pu_eq (pu_vC g') (fun j k => if j = s then -1 else pu_vC g j k) := by
  intro j k j0 j1 k0 k1
  show (if g' (96 + j) = -1 then -1 else g' (24 * k + j)) = if j = s then -1 else if g (96 + j) = -1 then -1 else g (24 * k + j)
  by_cases c : j = s
  · subst c
    rw [if_pos hs, if_pos rfl]
  · rw [show 96 + j = 24 * 4 + j by omega, ho j 4 j0 j1 c (by omega) (by omega), ho j k j0 j1 c k0 k1, if_neg c]
theorem pu_vM_set {g g' : Int → Int} {s : Int} {f : Int → Int} (hs : ∀ k, 0 ≤ k → k ≤ 4 → g' (5 * s + k) = f k) (h4 : f 4 ≠ -1) (ho : ∀ j k, 0 ≤ j → j ≤ 23 → j ≠ s → 0 ≤ k → k ≤ 4 → g' (5 * j + k) = g (5 * j + k)) : pu_eq (pu_vM g') (fun j k => if j = s then f k else pu_vM g j k) := by
  intro j k j0 j1 k0 k1
  show (if g' (5 * j + 4) = -1 then -1 else g' (5 * j + k)) = if j = s then f k else if g (5 * j + 4) = -1 then -1 else g (5 * j + k)
  by_cases c : j = s
  · subst c
    rw [hs 4 (by omega) (by omega), if_neg h4, if_pos rfl, hs k k0 k1]
  · rw [ho j 4 j0 j1 c (by omega) (by omega), ho j k j0 j1 c k0 k1, if_neg c]
theorem pu_vM_del {g g' : Int → Int} {s : Int} (hs : g' (5 * s + 4) = -1) (ho : ∀ j k, 0 ≤ j → j ≤ 23 → j ≠ s → 0 ≤ k → k ≤ 4 → g' (5 * j + k) = g (5 * j + k)) : pu_eq (pu_vM g') (fun j k => if j = s then -1 else pu_vM g j k) := by
  intro j k j0 j1 k0 k1
  show (if g' (5 * j + 4) = -1 then -1 else g' (5 * j + k)) = if j = s then -1 else if g (5 * j + 4) = -1 then -1 else g (5 * j + k)
  by_cases c : j = s
  · subst c
    rw [if_pos hs, if_pos rfl]
  · rw [ho j 4 j0 j1 c (by omega) (by omega), ho j k j0 j1 c k0 k1, if_neg c]
/-- products of small numbers -/
theorem pu_mulb {a b : Int} (a0 : -63 ≤ a) (a1 : a ≤ 63) (b0 : -63 ≤ b) (b1 : b ≤ 63) : -3969 ≤ a * b ∧ a * b ≤ 3969 := by
  have h1 := Int.mul_nonneg (show 0 ≤ 63 - a by omega) (show 0 ≤ 63 + b by omega)
  have h2 := Int.mul_nonneg (show 0 ≤ 63 + a by omega) (show 0 ≤ 63 - b by omega)
  have h3 := Int.mul_nonneg (show 0 ≤ 63 - a by omega) (show 0 ≤ 63 - b by omega)
  have h4 := Int.mul_nonneg (show 0 ≤ 63 + a by omega) (show 0 ≤ 63 + b by omega)
  rw [Int.sub_mul, Int.mul_add, Int.mul_add] at h1
  rw [Int.add_mul, Int.mul_sub, Int.mul_sub] at h2
  rw [Int.sub_mul, Int.mul_sub, Int.mul_sub] at h3
  rw [Int.add_mul, Int.mul_add, Int.mul_add] at h4
  omega
/-! signs, ways: the reference's reckoning -/
def pu_sg (a : Int) : Int := if 0 < a then 1 else if a < 0 then -1 else 0
theorem pu_sg_0 (a : Int) : pu_sg a = 0 ↔ a = 0 := by
  unfold pu_sg
  split
  · omega
  · split <;> omega
theorem pu_sg_op (a b : Int) : z_mul (pu_sg a) (pu_sg b) < 0 ↔ pu_op a b := by
  unfold pu_op
  by_cases a1 : 0 < a
  · have ea : pu_sg a = 1 := by unfold pu_sg; rw [if_pos a1]
    by_cases b1 : 0 < b
    · have eb : pu_sg b = 1 := by unfold pu_sg; rw [if_pos b1]
      rw [ea, eb, show z_mul 1 1 = 1 by decide]; omega
    · by_cases b2 : b < 0
      · have eb : pu_sg b = -1 := by unfold pu_sg; rw [if_neg b1, if_pos b2]
        rw [ea, eb, show z_mul 1 (-1) = -1 by decide]; omega
      · have eb : pu_sg b = 0 := by unfold pu_sg; rw [if_neg b1, if_neg b2]
        rw [ea, eb, show z_mul 1 0 = 0 by decide]; omega
  · by_cases a2 : a < 0
    · have ea : pu_sg a = -1 := by unfold pu_sg; rw [if_neg a1, if_pos a2]
      by_cases b1 : 0 < b
      · have eb : pu_sg b = 1 := by unfold pu_sg; rw [if_pos b1]
        rw [ea, eb, show z_mul (-1) 1 = -1 by decide]; omega
      · by_cases b2 : b < 0
        · have eb : pu_sg b = -1 := by unfold pu_sg; rw [if_neg b1, if_pos b2]
          rw [ea, eb, show z_mul (-1) (-1) = 1 by decide]; omega
        · have eb : pu_sg b = 0 := by unfold pu_sg; rw [if_neg b1, if_neg b2]
          rw [ea, eb, show z_mul (-1) 0 = 0 by decide]; omega
    · have ea : pu_sg a = 0 := by unfold pu_sg; rw [if_neg a1, if_neg a2]
      by_cases b1 : 0 < b
      · have eb : pu_sg b = 1 := by unfold pu_sg; rw [if_pos b1]
        rw [ea, eb, show z_mul 0 1 = 0 by decide]; omega
      · by_cases b2 : b < 0
        · have eb : pu_sg b = -1 := by unfold pu_sg; rw [if_neg b1, if_pos b2]
          rw [ea, eb, show z_mul 0 (-1) = 0 by decide]; omega
        · have eb : pu_sg b = 0 := by unfold pu_sg; rw [if_neg b1, if_neg b2]
          rw [ea, eb, show z_mul 0 0 = 0 by decide]; omega
theorem pu_alg (W D u v p q : Int) (h1 : W * v - D * u = 0) (h2 : W * q - D * p = 0) : W * (q * u - p * v) = 0 := by grind
theorem pu_algx (a b c f x y : Int) : (c - a) * (y - b) - (f - b) * (x - a) = (f - y) * (a - x) - (c - x) * (b - y) := by grind
theorem pu_algX (a b c f x y X Y : Int) : (c - a) * (Y - b) - (f - b) * (X - a) = ((f - y) * (a - x) - (c - x) * (b - y)) + ((X - x) * (b - y) - (Y - y) * (a - x)) - ((X - x) * (f - y) - (Y - y) * (c - x)) := by grind
/-- a way whose ends lie on the edge's line: the edge's ends lie on the way's -/
theorem pu_line {x y X Y a b c f : Int} (hx : x < X) (h1 : pu_trn x y X Y a b = 0) (h2 : pu_trn x y X Y c f = 0) : pu_trn a b c f x y = 0 ∧ pu_trn a b c f X Y = 0 := by
  unfold pu_trn at h1 h2 ⊢
  have e := pu_alg (X - x) (Y - y) (a - x) (b - y) (c - x) (f - y) h1 h2
  have e2 : (f - y) * (a - x) - (c - x) * (b - y) = 0 := by
    rcases Int.mul_eq_zero.mp e with h | h
    · omega
    · exact h
  rw [pu_algx, pu_algX a b c f x y X Y, e2, h1, h2]
  exact ⟨rfl, rfl⟩
theorem pu_mm {x X a c : Int} (hx : x < X) : (z_max (z_min a c) (z_min x X) < z_min (z_max a c) (z_max x X)) ↔ (z_max x (z_min a c) < z_min X (z_max a c)) := by
  unfold z_max z_min
  repeat' split
  all_goals omega
/-! no two edges cross -/
abbrev pu_cx (V : pu_V) (e f : Int) : Prop := pu_op (pu_trn (V e 0) (V e 1) (V e 2) (V e 3) (V f 0) (V f 1)) (pu_trn (V e 0) (V e 1) (V e 2) (V e 3) (V f 2) (V f 3)) ∧ pu_op (pu_trn (V f 0) (V f 1) (V f 2) (V f 3) (V e 0) (V e 1)) (pu_trn (V f 0) (V f 1) (V f 2) (V f 3) (V e 2) (V e 3))
def pu_nc (V : pu_V) : Prop := ∀ e f, 0 ≤ e → e ≤ 23 → 0 ≤ f → f ≤ 23 → e ≠ f → V e 4 ≠ -1 → V f 4 ≠ -1 → ¬ pu_cx V e f
theorem pu_nc_eq {A B : pu_V} (h : pu_eq A B) (hb : pu_nc B) : pu_nc A := by
  intro e f e0 e1 f0 f1 ef he hf
  rw [h e 4 e0 e1 (by omega) (by omega)] at he
  rw [h f 4 f0 f1 (by omega) (by omega)] at hf
  have q := hb e f e0 e1 f0 f1 ef he hf
  unfold pu_cx
  rw [h e 0 e0 e1 (by omega) (by omega), h e 1 e0 e1 (by omega) (by omega), h e 2 e0 e1 (by omega) (by omega), h e 3 e0 e1 (by omega) (by omega), h f 0 f0 f1 (by omega) (by omega), h f 1 f0 f1 (by omega) (by omega), h f 2 f0 f1 (by omega) (by omega), h f 3 f0 f1 (by omega) (by omega)]
  exact q
theorem pu_trn_mv (p q ax ay bx dy cx cy : Int) : pu_trn (ax + p) (ay + q) (bx + p) (dy + q) (cx + p) (cy + q) = pu_trn ax ay bx dy cx cy := by
  unfold pu_trn
  rw [show bx + p - (ax + p) = bx - ax by omega, show cy + q - (ay + q) = cy - ay by omega, show dy + q - (ay + q) = dy - ay by omega, show cx + p - (ax + p) = cx - ax by omega]
theorem pu_bk_cx {V : pu_V} {a b c d e : Int} (h : pu_bk V a b c d = -1) (e0 : 0 ≤ e) (e1 : e ≤ 23) (he : V e 4 ≠ -1) : ¬ (pu_op (pu_trn (V e 0) (V e 1) (V e 2) (V e 3) a b) (pu_trn (V e 0) (V e 1) (V e 2) (V e 3) c d) ∧ pu_op (pu_trn a b c d (V e 0) (V e 1)) (pu_trn a b c d (V e 2) (V e 3))) := by
  intro q
  have h1 := pu_fst_no (Int.le_refl 0) h e e0 (by omega)
  unfold pu_ms at h1
  refine of_decide_eq_false h1 ⟨he, Or.inr ⟨fun z => ?_, q.1, q.2⟩⟩
  have := q.1
  omega
theorem pu_do_nc {V : pu_V} {t a b c d e : Int} (hn : pu_nc V) (ht : 0 ≤ t ∧ t ≤ 3) (h : pu_why V t a b c d e = -1) : pu_nc (pu_do V t a b c d e) := by
  have h4 : t = 0 ∨ t = 1 ∨ t = 2 ∨ t = 3 := by omega
  intro i j i0 i1 j0 j1 ij
  rcases h4 with rfl | rfl | rfl | rfl
  · have q := pu_why0 h
    have f := pu_fr_sp q.2.2.2.2.2
    unfold pu_cx pu_do
    rw [if_pos rfl]
    by_cases ci : i = pu_fr V
    · have cj : ¬ j = pu_fr V := fun x => ij (ci.trans x.symm)
      simp only [if_pos ci, if_neg cj, Int.reduceEq, if_true, if_false]
      intro _ hj x
      exact pu_bk_cx q.2.2.2.2.1 j0 j1 hj ⟨x.2, x.1⟩
    · by_cases cj : j = pu_fr V
      · simp only [if_neg ci, if_pos cj, Int.reduceEq, if_true, if_false]
        intro hi _ x
        exact pu_bk_cx q.2.2.2.2.1 i0 i1 hi x
      · simp only [if_neg ci, if_neg cj]
        exact hn i j i0 i1 j0 j1 ij
  · unfold pu_cx pu_do
    rw [if_neg (by decide), if_pos rfl]
    by_cases ci : i = a
    · simp only [if_pos ci]
      intro x
      exact absurd rfl x
    · by_cases cj : j = a
      · simp only [if_pos cj]
        intro _ x
        exact absurd rfl x
      · simp only [if_neg ci, if_neg cj]
        exact hn i j i0 i1 j0 j1 ij
  · have q := pu_why2 h
    have k4 : ∀ k, pu_do V 2 a b c d e k 4 ≠ -1 → 0 ≤ k → k ≤ 23 → V k 4 ≠ -1 := by
      intro k hk _ _
      by_cases ck : k = a
      · rw [ck]; exact q.1.2.2
      · unfold pu_do at hk
        rw [if_neg (by decide), if_neg (by decide), if_pos rfl] at hk
        simp only [ck, false_and, if_false] at hk
        exact hk
    have kk : ∀ k n, n ≠ 4 → pu_do V 2 a b c d e k n = V k n := by
      intro k n hk
      unfold pu_do
      rw [if_neg (by decide), if_neg (by decide), if_pos rfl]
      simp only [hk, and_false, if_false]
    intro hi hj
    unfold pu_cx
    rw [kk i 0 (by decide), kk i 1 (by decide), kk i 2 (by decide), kk i 3 (by decide), kk j 0 (by decide), kk j 1 (by decide), kk j 2 (by decide), kk j 3 (by decide)]
    exact hn i j i0 i1 j0 j1 ij (k4 i hi i0 i1) (k4 j hj j0 j1)
  · have k4 : ∀ k, pu_do V 3 a b c d e k 4 ≠ -1 → V k 4 ≠ -1 := by
      intro k hk x
      unfold pu_do at hk
      rw [if_neg (by decide), if_neg (by decide), if_neg (by decide)] at hk
      simp only [if_pos x] at hk
      exact hk x
    have kk : ∀ k, V k 4 ≠ -1 → pu_do V 3 a b c d e k 0 = V k 0 + a ∧ pu_do V 3 a b c d e k 1 = V k 1 + b ∧ pu_do V 3 a b c d e k 2 = V k 2 + a ∧ pu_do V 3 a b c d e k 3 = V k 3 + b := by
      intro k hk
      unfold pu_do
      rw [if_neg (by decide), if_neg (by decide), if_neg (by decide)]
      simp only [if_neg hk, Int.reduceEq, or_self, or_true, true_or, or_false, false_or, if_true, if_false, and_self]
    intro hi hj
    have hi' := k4 i hi
    have hj' := k4 j hj
    obtain ⟨a0, a1, a2, a3⟩ := kk i hi'
    obtain ⟨b0, b1, b2, b3⟩ := kk j hj'
    unfold pu_cx
    rw [a0, a1, a2, a3, b0, b1, b2, b3, pu_trn_mv, pu_trn_mv, pu_trn_mv, pu_trn_mv]
    exact hn i j i0 i1 j0 j1 ij hi' hj'
