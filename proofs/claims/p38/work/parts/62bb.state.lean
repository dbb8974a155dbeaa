/-! pure: the map now and ahead of each act that can be undone (by ago), the log likewise -/
abbrev pu_H : Type := Int → pu_V
abbrev pu_L : Type := Int → Int → Int → Int
abbrev pu_S : Type := Int × pu_H × (Int → Int) × pu_L
def pu_m6 (t : Int) : Int := if t ≤ 60 then t else 60
def pu_up (n : Int) : Int := if n < 40 then n + 1 else 40
def pu_act1 (S : pu_S) (t a b c d e : Int) : pu_S := (pu_up S.1, fun g => if g = 0 then pu_do (S.2.1 0) t a b c d e else S.2.1 (g - 1), fun g => if g = 0 then pu_m6 (S.2.2.1 0 + 1) else S.2.2.1 (g - 1), fun g i x => if g = 0 then (if i = 0 then (if x = 0 then t else if x = 2 then sl_n (pu_do (S.2.1 0) t a b c d e) else if t = 0 then pu_fr (S.2.1 0) else a) else S.2.2.2 0 (i - 1) x) else S.2.2.2 (g - 1) i x)
def pu_back1 (S : pu_S) : pu_S := (S.1 - 1, fun g => S.2.1 (g + 1), fun g => S.2.2.1 (g + 1), fun g i x => S.2.2.2 (g + 1) i x)
def st_ok (m : Int) (S : pu_S) : Prop := (m = 0 ∨ m = 1) ∧ (0 ≤ S.1 ∧ S.1 ≤ 40) ∧ (∀ g, 0 ≤ g → g ≤ S.1 → pu_ok (S.2.1 g) ∧ 0 ≤ S.2.2.1 g ∧ S.2.2.1 g ≤ 60 ∧ pu_nc (S.2.1 g)) ∧ (m = 0 → S.1 = 0 ∧ S.2.2.1 0 = 0 ∧ ∀ e k, S.2.1 0 e k = -1)
def st_C (w : z_W) (m : Int) (S : pu_S) : Prop := z_I w 2 5 = m ∧ pu_eq (pu_vC (z_I w 13)) (S.2.1 0) ∧ z_I w 12 1 = pu_cnt (S.2.1 0) ∧ z_I w 32 0 = S.1 ∧ (0 ≤ z_I w 32 2 ∧ z_I w 32 2 ≤ 39) ∧ (∀ g, 1 ≤ g → g ≤ S.1 → pu_eq (pu_vC (fun j => z_I w 33 (120 * ((z_I w 32 2 + 40 - g) % 40) + j))) (S.2.1 g)) ∧ S.1 ≤ z_I w 34 1 ∧ (∀ g, 0 ≤ g → g ≤ S.1 → S.2.2.1 g = pu_m6 (z_I w 34 1 - g)) ∧ (∀ g i x, 0 ≤ g → g ≤ S.1 → 0 ≤ i → i < S.2.2.1 g → 0 ≤ x → x ≤ 2 → z_I w 35 (3 * ((z_I w 34 1 - 1 - g - i) % 100) + x) = S.2.2.2 g i x)
def st_M (w : z_W) (m : Int) (S : pu_S) : Prop := z_I w 49 17 = m ∧ z_I w 49 30 = S.1 ∧ (m ≠ 0 → pu_eq (pu_vM (z_I w 56)) (S.2.1 0)) ∧ z_I w 56 120 = S.2.2.1 0 ∧ (∀ g, 1 ≤ g → g ≤ S.1 → pu_eq (pu_vM (fun j => z_I w 70 (301 * (S.1 - g) + j))) (S.2.1 g) ∧ z_I w 70 (301 * (S.1 - g) + 120) = S.2.2.1 g) ∧ (∀ i x, 0 ≤ i → i < S.2.2.1 0 → 0 ≤ x → x ≤ 2 → z_I w 56 (121 + (3 * (S.2.2.1 0 - 1 - i) + x)) = S.2.2.2 0 i x) ∧ (∀ g i x, 1 ≤ g → g ≤ S.1 → 0 ≤ i → i < S.2.2.1 g → 0 ≤ x → x ≤ 2 → z_I w 70 (301 * (S.1 - g) + (121 + (3 * (S.2.2.1 g - 1 - i) + x))) = S.2.2.2 g i x)
theorem st_ok_act {m : Int} {S : pu_S} (h : st_ok m S) (hm : m ≠ 0) {t a b c d e : Int} (ht : 0 ≤ t ∧ t ≤ 3) (hw : pu_why (S.2.1 0) t a b c d e = -1) : st_ok m (pu_act1 S t a b c d e) := by
  obtain ⟨h1, ⟨h2, h3⟩, h4, h5⟩ := h
  refine ⟨h1, ?_, fun g g0 g1 => ?_, fun q => absurd q hm⟩
  · show 0 ≤ pu_up S.1 ∧ pu_up S.1 ≤ 40
    unfold pu_up; split <;> omega
  · replace g1 : g ≤ pu_up S.1 := g1
    unfold pu_act1
    by_cases c : g = 0
    · simp only [if_pos c]
      have q := h4 0 (by omega) (by omega)
      refine ⟨pu_do_ok q.1 ht hw, ?_, ?_, pu_do_nc q.2.2.2 ht hw⟩
      · unfold pu_m6; split <;> omega
      · unfold pu_m6; split <;> omega
    · simp only [if_neg c]
      have : pu_up S.1 ≤ S.1 + 1 := by unfold pu_up; split <;> omega
      exact h4 (g - 1) (by omega) (by omega)
theorem st_ok_back {m : Int} {S : pu_S} (h : st_ok m S) (hn : 1 ≤ S.1) : st_ok m (pu_back1 S) := by
  obtain ⟨h1, ⟨h2, h3⟩, h4, h5⟩ := h
  refine ⟨h1, ?_, fun g g0 g1 => ?_, fun q => ?_⟩
  · show 0 ≤ S.1 - 1 ∧ S.1 - 1 ≤ 40
    omega
  · replace g1 : g ≤ S.1 - 1 := g1
    exact h4 (g + 1) (by omega) (by omega)
  · have := (h5 q).1; omega
/-! pure: draws, steps of a script -/
theorem dw_any (f : Int → Int) (g : Int → Int → Int) : ∃ F : (Int → Int) × (Int → Int → Int), (∀ x, F.1 x = f x) ∧ ∀ x j, F.2 x j = g x j := ⟨(f, g), fun _ => rfl, fun _ _ => rfl⟩
theorem dw_ex : ∃ F : (Int → Int) × (Int → Int → Int), (∀ x, F.1 x = z_ladd (z_lmul x 6364136223846793005) 1442695040888963407) ∧ ∀ x j, F.2 x j = z_l2i (z_lrem (z_lush x 33) (z_i2l j)) := dw_any (fun x => z_ladd (z_lmul x 6364136223846793005) 1442695040888963407) (fun x j => z_l2i (z_lrem (z_lush x 33) (z_i2l j)))
noncomputable def dw_n (x : Int) : Int := (Classical.choose dw_ex).1 x
noncomputable def dw_v (x j : Int) : Int := (Classical.choose dw_ex).2 x j
theorem dw_n_eq (x : Int) : dw_n x = z_ladd (z_lmul x 6364136223846793005) 1442695040888963407 := (Classical.choose_spec dw_ex).1 x
theorem dw_v_eq (x j : Int) : dw_v x j = z_l2i (z_lrem (z_lush x 33) (z_i2l j)) := (Classical.choose_spec dw_ex).2 x j
noncomputable def dw_s (x : Int) : Int := dw_v (dw_n x) 8
noncomputable def dw_1 (x j : Int) : Int := dw_v (dw_n (dw_n x)) j
noncomputable def dw_2 (x j : Int) : Int := dw_v (dw_n (dw_n (dw_n x))) j
noncomputable def dw_3 (x j : Int) : Int := dw_v (dw_n (dw_n (dw_n (dw_n x)))) j
noncomputable def dw_4 (x j : Int) : Int := dw_v (dw_n (dw_n (dw_n (dw_n (dw_n x))))) j
noncomputable def dw_5 (x j : Int) : Int := dw_v (dw_n (dw_n (dw_n (dw_n (dw_n (dw_n x)))))) j
noncomputable def dw_t (x : Int) : Int := if dw_s x ≤ 3 then 0 else if dw_s x = 4 then 1 else if dw_s x ≤ 6 then 2 else 3
noncomputable def dw_w (x : Int) : Prop := dw_3 x 64 < dw_1 x 64
noncomputable def dw_a (x : Int) : Int := if dw_s x ≤ 3 then (if dw_3 x 64 < dw_1 x 64 then dw_3 x 64 else dw_1 x 64) else if dw_s x ≤ 6 then dw_1 x 24 else z_sub (dw_1 x 9) 4
noncomputable def dw_b (x : Int) : Int := if dw_s x ≤ 3 then (if dw_3 x 64 < dw_1 x 64 then dw_4 x 64 else dw_2 x 64) else if dw_s x = 4 then 0 else if dw_s x ≤ 6 then dw_2 x 10 else z_sub (dw_2 x 9) 4
noncomputable def dw_c (x : Int) : Int := if dw_s x ≤ 3 then (if dw_3 x 64 < dw_1 x 64 then dw_1 x 64 else dw_3 x 64) else 0
noncomputable def dw_d (x : Int) : Int := if dw_s x ≤ 3 then (if dw_3 x 64 < dw_1 x 64 then dw_2 x 64 else dw_4 x 64) else 0
noncomputable def dw_e (x : Int) : Int := if dw_s x ≤ 3 then dw_5 x 10 else 0
noncomputable def dw_x (x : Int) : Int := if dw_s x ≤ 3 then dw_n (dw_n (dw_n (dw_n (dw_n (dw_n x))))) else if dw_s x = 4 then dw_n (dw_n x) else dw_n (dw_n (dw_n x))
def pu_try (S : pu_S) (t a b c d e : Int) : pu_S := if pu_why (S.2.1 0) t a b c d e = -1 then pu_act1 S t a b c d e else S
def dw_gg (nx : Int → Int) (f : Int → pu_S → pu_S) : Nat → Int → pu_S → pu_S
  | 0, _, S => S
  | k + 1, x, S => dw_gg nx f k (nx x) (f x S)
theorem dw_gg_0 (nx : Int → Int) (f : Int → pu_S → pu_S) (x : Int) (S : pu_S) : dw_gg nx f 0 x S = S := rfl
theorem dw_gg_s (nx : Int → Int) (f : Int → pu_S → pu_S) (k : Nat) (x : Int) (S : pu_S) : dw_gg nx f (k + 1) x S = dw_gg nx f k (nx x) (f x S) := rfl
noncomputable def dw_f (x : Int) (S : pu_S) : pu_S := pu_try S (dw_t x) (dw_a x) (dw_b x) (dw_c x) (dw_d x) (dw_e x)
noncomputable def dw_go (k : Nat) (x : Int) (S : pu_S) : pu_S := dw_gg dw_x dw_f k x S
theorem dw_go_0 (x : Int) (S : pu_S) : dw_go 0 x S = S := dw_gg_0 dw_x dw_f x S
theorem dw_go_s (k : Nat) (x : Int) (S : pu_S) : dw_go (k + 1) x S = dw_go k (dw_x x) (dw_f x S) := dw_gg_s dw_x dw_f k x S
def go_n (R : Int → Int) : Nat → Int → pu_V → Int
  | 0, i, _ => i
  | k + 1, i, V => if pu_why V (R (6 * i)) (R (6 * i + 1)) (R (6 * i + 2)) (R (6 * i + 3)) (R (6 * i + 4)) (R (6 * i + 5)) = -1 then go_n R k (i + 1) (pu_do V (R (6 * i)) (R (6 * i + 1)) (R (6 * i + 2)) (R (6 * i + 3)) (R (6 * i + 4)) (R (6 * i + 5))) else i
def go_S (R : Int → Int) : Nat → Int → pu_S → pu_S
  | 0, _, S => S
  | k + 1, i, S => if pu_why (S.2.1 0) (R (6 * i)) (R (6 * i + 1)) (R (6 * i + 2)) (R (6 * i + 3)) (R (6 * i + 4)) (R (6 * i + 5)) = -1 then go_S R k (i + 1) (pu_act1 S (R (6 * i)) (R (6 * i + 1)) (R (6 * i + 2)) (R (6 * i + 3)) (R (6 * i + 4)) (R (6 * i + 5))) else S
def go_V (R : Int → Int) : Nat → Int → pu_V → pu_V
  | 0, _, V => V
  | k + 1, i, V => if pu_why V (R (6 * i)) (R (6 * i + 1)) (R (6 * i + 2)) (R (6 * i + 3)) (R (6 * i + 4)) (R (6 * i + 5)) = -1 then go_V R k (i + 1) (pu_do V (R (6 * i)) (R (6 * i + 1)) (R (6 * i + 2)) (R (6 * i + 3)) (R (6 * i + 4)) (R (6 * i + 5))) else V
theorem go_V_ok {R : Int → Int} : ∀ (k : Nat) (i : Int) (V : pu_V), (∀ j : Int, i ≤ j → j < i + k → 0 ≤ R (6 * j) ∧ R (6 * j) ≤ 3) → pu_ok V → pu_ok (go_V R k i V) := by
  intro k
  induction k with
  | zero => intro i V _ h; exact h
  | succ k ih =>
    intro i V ht h
    rw [go_V]
    split
    · rename_i hw
      exact ih (i + 1) _ (fun j j0 j1 => ht j (by omega) (by omega)) (pu_do_ok h (ht i (by omega) (by omega)) hw)
    · exact h
theorem go_V_cg {R R' : Int → Int} : ∀ (k : Nat) (i : Int) (V : pu_V), (∀ j, 6 * i ≤ j → j < 6 * (i + k) → R j = R' j) → go_V R k i V = go_V R' k i V := by
  intro k
  induction k with
  | zero => intro i V _; rw [go_V, go_V]
  | succ k ih =>
    intro i V h
    rw [go_V, go_V, h (6 * i) (by omega) (by omega), h (6 * i + 1) (by omega) (by omega), h (6 * i + 2) (by omega) (by omega), h (6 * i + 3) (by omega) (by omega), h (6 * i + 4) (by omega) (by omega), h (6 * i + 5) (by omega) (by omega), ih (i + 1) _ (fun j j0 j1 => h j (by omega) (by omega))]
theorem dw_tb (x : Int) : 0 ≤ dw_t x ∧ dw_t x ≤ 3 := by
  unfold dw_t
  (repeat' split) <;> omega
theorem st_ok_try {m : Int} {S : pu_S} (h : st_ok m S) (hm : m ≠ 0) {t a b c d e : Int} (ht : 0 ≤ t ∧ t ≤ 3) : st_ok m (pu_try S t a b c d e) := by
  unfold pu_try
  split
  · exact st_ok_act h hm ht (by assumption)
  · exact h
theorem st_ok_dw {m : Int} (hm : m ≠ 0) : ∀ (k : Nat) (x : Int) (S : pu_S), st_ok m S → st_ok m (dw_go k x S) := by
  intro k
  induction k with
  | zero => intro x S h; rw [dw_go_0]; exact h
  | succ k ih => intro x S h; rw [dw_go_s]; exact ih _ _ (st_ok_try h hm (dw_tb x))
theorem st_ok_go {m : Int} (hm : m ≠ 0) {R : Int → Int} : ∀ (k : Nat) (i : Int) (S : pu_S), (∀ j, i ≤ j → j < i + k → 0 ≤ R (6 * j) ∧ R (6 * j) ≤ 3) → st_ok m S → st_ok m (go_S R k i S) := by
  intro k
  induction k with
  | zero => intro i S _ h; rw [go_S]; exact h
  | succ k ih =>
    intro i S hR h
    rw [go_S]
    split
    · exact ih (i + 1) _ (fun j j0 j1 => hR j (by omega) (by omega)) (st_ok_act h hm (hR i (by omega) (by omega)) (by assumption))
    · exact h
theorem go_n_bd {R : Int → Int} : ∀ (k : Nat) (i : Int) (V : pu_V), i ≤ go_n R k i V ∧ go_n R k i V ≤ i + k := by
  intro k
  induction k with
  | zero => intro i V; rw [go_n]; omega
  | succ k ih =>
    intro i V
    rw [go_n]
    split
    · have := ih (i + 1) (pu_do V (R (6 * i)) (R (6 * i + 1)) (R (6 * i + 2)) (R (6 * i + 3)) (R (6 * i + 4)) (R (6 * i + 5)))
      omega
    · omega
theorem go_n_eq {R : Int → Int} : ∀ (k : Nat) (i : Int) (A B : pu_V), pu_eq A B → go_n R k i A = go_n R k i B := by
  intro k
  induction k with
  | zero => intro i A B _; rw [go_n, go_n]
  | succ k ih =>
    intro i A B h
    rw [go_n, go_n, pu_why_eq h, ih (i + 1) _ _ (pu_do_eq h _ _ _ _ _ _)]
/-! pure: the image -/
def im_ok (m h : Int) (V : pu_V) (N : Int) : Prop := (h = 0 ∨ h = 1) ∧ (h ≠ 0 → m ≠ 0 ∧ pu_ok V ∧ 0 ≤ N ∧ N ≤ 60 ∧ pu_nc V)
def im_C (w : z_W) (h : Int) (V : pu_V) (N : Int) (L : Int → Int → Int) : Prop := z_I w 2 12 = h ∧ (h ≠ 0 → pu_eq (pu_vC (z_I w 37)) V ∧ z_I w 36 1 = pu_cnt V ∧ 0 ≤ z_I w 38 1 ∧ N = pu_m6 (z_I w 38 1) ∧ ∀ i x, 0 ≤ i → i < N → 0 ≤ x → x ≤ 2 → z_I w 39 (3 * ((z_I w 38 1 - 1 - i) % 100) + x) = L i x)
def im_M (w : z_W) (h : Int) (V : pu_V) (N : Int) (L : Int → Int → Int) : Prop := z_I w 49 38 = h ∧ (h ≠ 0 → pu_eq (pu_vM (z_I w 75)) V ∧ z_I w 75 120 = N ∧ ∀ i x, 0 ≤ i → i < N → 0 ≤ x → x ≤ 2 → z_I w 75 (121 + (3 * (N - 1 - i) + x)) = L i x)
def im_S (V : pu_V) (N : Int) (L : Int → Int → Int) : pu_S := (0, fun _ => V, fun _ => N, fun _ => L)
theorem st_ok_im {m h : Int} {V : pu_V} {N : Int} (L : Int → Int → Int) (hi : im_ok m h V N) (hh : h ≠ 0) (hm : m = 0 ∨ m = 1) : st_ok m (im_S V N L) := by
  obtain ⟨h1, h2, h3, h4⟩ := hi.2 hh
  exact ⟨hm, ⟨Int.le_refl _, by show (0 : Int) ≤ 40; omega⟩, fun g _ _ => ⟨h2, h3, h4⟩, fun q => absurd q h1⟩
