/-! all that is held alike: the invariant of both sides -/
abbrev xc_k (p : Nat) (j : Int) : Prop := p = 10 ∨ p = 13 ∨ p = 33 ∨ p = 35 ∨ p = 37 ∨ p = 39 ∨ p = 40 ∨ (p = 2 ∧ (j = 5 ∨ j = 12)) ∨ (p = 12 ∧ j = 1) ∨ (p = 32 ∧ (j = 0 ∨ j = 2)) ∨ (p = 34 ∧ j = 1) ∨ (p = 36 ∧ j = 1) ∨ (p = 38 ∧ j = 1)
abbrev xm_k (p : Nat) (j : Int) : Prop := p = 56 ∨ p = 58 ∨ p = 60 ∨ p = 70 ∨ p = 75 ∨ (p = 49 ∧ (j = 17 ∨ j = 30 ∨ j = 38))
theorem st_C_e {w w' : z_W} {m : Int} {S : pu_S} (e : ∀ p j, xc_k p j → z_I w' p j = z_I w p j) (h : st_C w m S) : st_C w' m S := by
  have e13 : z_I w' 13 = z_I w 13 := funext fun j => e 13 j (by omega)
  have e33 : ∀ j, z_I w' 33 j = z_I w 33 j := fun j => e 33 j (by omega)
  have e35 : ∀ j, z_I w' 35 j = z_I w 35 j := fun j => e 35 j (by omega)
  unfold st_C at h ⊢
  simp only [e13, e33, e35, e 2 5 (by omega), e 12 1 (by omega), e 32 0 (by omega), e 32 2 (by omega), e 34 1 (by omega)]
  exact h
theorem im_C_e {w w' : z_W} {h : Int} {V : pu_V} {N : Int} {L : Int → Int → Int} (e : ∀ p j, xc_k p j → z_I w' p j = z_I w p j) (H : im_C w h V N L) : im_C w' h V N L := by
  have e37 : z_I w' 37 = z_I w 37 := funext fun j => e 37 j (by omega)
  have e39 : ∀ j, z_I w' 39 j = z_I w 39 j := fun j => e 39 j (by omega)
  unfold im_C at H ⊢
  simp only [e37, e39, e 2 12 (by omega), e 36 1 (by omega), e 38 1 (by omega)]
  exact H
theorem st_M_e {w w' : z_W} {m : Int} {S : pu_S} (e : ∀ p j, 0 ≤ j → xm_k p j → z_I w' p j = z_I w p j) (hn : 0 ≤ S.1) (h : st_M w m S) : st_M w' m S := by
  obtain ⟨h1, h2, h3, h4, h5, h6, h7⟩ := h
  refine ⟨(e 49 17 (by omega) (by omega)).trans h1, (e 49 30 (by omega) (by omega)).trans h2, fun q => pu_eq_tr (pu_vM_cg (fun j j0 _ => e 56 j j0 (by omega))) (h3 q), (e 56 120 (by omega) (by omega)).trans h4, fun g g0 g1 => ⟨pu_eq_tr (pu_vM_cg (fun j j0 _ => e 70 _ (by omega) (by omega))) (h5 g g0 g1).1, (e 70 _ (by omega) (by omega)).trans (h5 g g0 g1).2⟩, fun i x i0 i1 x0 x1 => (e 56 _ (by omega) (by omega)).trans (h6 i x i0 i1 x0 x1), fun g i x g0 g1 i0 i1 x0 x1 => (e 70 _ (by omega) (by omega)).trans (h7 g i x g0 g1 i0 i1 x0 x1)⟩
theorem im_M_e {w w' : z_W} {h : Int} {V : pu_V} {N : Int} {L : Int → Int → Int} (e : ∀ p j, 0 ≤ j → xm_k p j → z_I w' p j = z_I w p j) (H : im_M w h V N L) : im_M w' h V N L := by
  obtain ⟨h1, h2⟩ := H
  refine ⟨(e 49 38 (by omega) (by omega)).trans h1, fun q => ?_⟩
  obtain ⟨g1, g2, g3⟩ := h2 q
  exact ⟨pu_eq_tr (pu_vM_cg (fun j j0 _ => e 75 j j0 (by omega))) g1, (e 75 120 (by omega) (by omega)).trans g2, fun i x i0 i1 x0 x1 => (e 75 _ (by omega) (by omega)).trans (g3 i x i0 i1 x0 x1)⟩
/-- names' lengths and refusals alike -/
def x_R (w : z_W) : Prop := (∀ r, 0 ≤ r → r < 10 → z_I w 10 (5 * r) = z_I w 60 r) ∧ ∀ a, 0 ≤ a → a ≤ 3 → z_I w 40 a = z_I w 58 a
theorem x_R_e {w w' : z_W} (ec : ∀ p j, xc_k p j → z_I w' p j = z_I w p j) (em : ∀ p j, 0 ≤ j → xm_k p j → z_I w' p j = z_I w p j) (h : x_R w) : x_R w' :=
  ⟨fun r r0 r1 => by rw [ec 10 _ (by omega), em 60 r r0 (by omega)]; exact h.1 r r0 r1, fun a a0 a1 => by rw [ec 40 a (by omega), em 58 a a0 (by omega)]; exact h.2 a a0 a1⟩
def x_A (w : z_W) (m : Int) (S : pu_S) (h : Int) (V : pu_V) (N : Int) (L : Int → Int → Int) : Prop := (st_C w m S ∧ im_C w h V N L) ∧ (st_M w m S ∧ im_M w h V N L) ∧ (st_ok m S ∧ im_ok m h V N) ∧ x_R w
theorem x_A_e {w w' : z_W} {m : Int} {S : pu_S} {h : Int} {V : pu_V} {N : Int} {L : Int → Int → Int} (ec : ∀ p j, xc_k p j → z_I w' p j = z_I w p j) (em : ∀ p j, 0 ≤ j → xm_k p j → z_I w' p j = z_I w p j) (H : x_A w m S h V N L) : x_A w' m S h V N L :=
  ⟨⟨st_C_e ec H.1.1, im_C_e ec H.1.2⟩, ⟨st_M_e em H.2.2.1.1.2.1.1 H.2.1.1, im_M_e em H.2.1.2⟩, H.2.2.1, x_R_e ec em H.2.2.2⟩
/-! where frames leave them -/
theorem xc_q {w w' : z_W} (h : z_fr (76 :: z_SQ) z_FQ w w') : ∀ p j, xc_k p j → z_I w' p j = z_I w p j := by
  intro p j hk
  refine h.2 p j ?_ ?_
  · simp only [List.mem_cons, List.not_mem_nil, or_false]; omega
  · simp only [List.mem_cons, List.not_mem_nil, or_false, Prod.mk.injEq]; omega
theorem xc_m {S : List Nat} {F : List (Nat × Int)} {w w' : z_W} (h : z_fr S F w w') (s : ∀ p ∈ S, 49 ≤ p) (f : ∀ q ∈ F, 49 ≤ q.1) : ∀ p j, xc_k p j → z_I w' p j = z_I w p j := by
  intro p j hk
  refine h.2 p j (fun x => ?_) (fun x => ?_)
  · have := s p x; omega
  · have := f _ x; simp only at this; omega
theorem xm_c {S : List Nat} {F : List (Nat × Int)} {w w' : z_W} (h : z_fr S F w w') (s : ∀ p ∈ S, p < 49 ∨ p = 76) (f : ∀ q ∈ F, q.1 < 49) : ∀ p j, 0 ≤ j → xm_k p j → z_I w' p j = z_I w p j := by
  intro p j _ hk
  refine h.2 p j (fun x => ?_) (fun x => ?_)
  · have := s p x; omega
  · have := f _ x; simp only at this; omega
theorem xm_g {S : List Nat} {F : List (Nat × Int)} {w w' : z_W} (hl : z_lay w) (h : z_gw S F w w') (s : ∀ p ∈ S, p < 49 ∨ p = 76) (f : ∀ q ∈ F, q.1 < 49) : ∀ p j, 0 ≤ j → xm_k p j → z_I w' p j = z_I w p j := by
  intro p j _ hk
  have hN := hl.2.2.2
  refine h.2.2.2 p j (by omega) (fun x => ?_) (fun x => ?_)
  · have := s p x; omega
  · have := f _ x; simp only at this; omega
theorem xm_s {w w' : z_W} (h : z_fr (56 :: z_SC) z_FC w w') (h56 : ∀ j, 0 ≤ j → z_I w' 56 j = z_I w 56 j) : ∀ p j, 0 ≤ j → xm_k p j → z_I w' p j = z_I w p j := by
  intro p j j0 hk
  by_cases c : p = 56
  · subst c; exact h56 j j0
  · refine h.2 p j ?_ ?_
    · simp only [List.mem_cons, List.not_mem_nil, or_false]; omega
    · simp only [List.mem_cons, List.not_mem_nil, or_false, Prod.mk.injEq]; omega
theorem xm_sc {w w' : z_W} (h : z_fr z_SC z_FC w w') : ∀ p j, 0 ≤ j → xm_k p j → z_I w' p j = z_I w p j :=
  xm_s (z_fr_mo h (by decide) (by decide)) (fun j _ => h.2 56 j (by decide) (by simp))
theorem z_G_both {d u m pc ls st w} {P1 P2 Q : z_P} (h1 : z_G d u m pc ls st w P1) (h2 : z_G d u m pc ls st w P2) (k : ∀ r w', P1 r w' → P2 r w' → Q r w') : z_G d u m pc ls st w Q := z_q_mo (z_G_and h1 h2) (fun r w' h => k r w' h.1 h.2)
theorem z_IC_34 {w : z_W} {B : Int} (hI : z_IC w B) : 0 ≤ z_I w 34 1 ∧ z_I w 34 1 ≤ B := hI.2.2.2.2.2.1
/-! the class: contracts joined -/
theorem x_addC {d u w} {Q : z_P} {B m : Int} {S : pu_S} (hl : z_lay w) (hI : z_IC w B) (hB : B ≤ 900000) (hS : st_C w m S) (hk : st_ok m S) (a b c e f : Int) (k : ∀ w', z_fr z_S41 z_F41 w w' → z_IC w' (B + 40) → st_C w' m (ac_S m S 0 a b c e f) → (∀ j, 0 ≤ j → z_I w' 40 j = ac_t (z_I w 40) (ac_y m S 0 a b c e f) j) → Q (some (z_i (ac_z m S 0 a b c e f))) w') : z_G (d + 20) u 137 0 [z_r 2, z_i a, z_i b, z_i c, z_i e, z_i f] [] w Q :=
  z_G_both (P1 := fun _ w' => z_IC w' (B + 1)) (P2 := fun r w' => r = some (z_i (ac_z m S 0 a b c e f)) ∧ z_fr z_S41 z_F41 w w' ∧ st_C w' m (ac_S m S 0 a b c e f) ∧ ∀ j, 0 ≤ j → z_I w' 40 j = ac_t (z_I w 40) (ac_y m S 0 a b c e f) j) (c_addC hl hI (by omega) _ _ _ _ _ (fun _ _ _ q => q)) (ex_addC hl hS hk (by have := z_IC_34 hI; omega) _ _ _ _ _ (fun w' h1 h2 h3 => ⟨rfl, h1, h2, h3⟩)) (fun r w' p1 p2 => by
    obtain ⟨e, h1, h2, h3⟩ := p2
    subst e
    exact k w' h1 (z_IC_mono (by omega) p1) h2 h3)
theorem x_dropC {d u w} {Q : z_P} {B m : Int} {S : pu_S} (hl : z_lay w) (hI : z_IC w B) (hB : B ≤ 900000) (hS : st_C w m S) (hk : st_ok m S) (a : Int) (k : ∀ w', z_fr z_S41 z_F41 w w' → z_IC w' (B + 40) → st_C w' m (ac_S m S 1 a 0 0 0 0) → (∀ j, 0 ≤ j → z_I w' 40 j = ac_t (z_I w 40) (ac_y m S 1 a 0 0 0 0) j) → Q (some (z_i (ac_z m S 1 a 0 0 0 0))) w') : z_G (d + 20) u 138 0 [z_r 2, z_i a] [] w Q :=
  z_G_both (P1 := fun _ w' => z_IC w' (B + 1)) (P2 := fun r w' => r = some (z_i (ac_z m S 1 a 0 0 0 0)) ∧ z_fr z_S41 z_F41 w w' ∧ st_C w' m (ac_S m S 1 a 0 0 0 0) ∧ ∀ j, 0 ≤ j → z_I w' 40 j = ac_t (z_I w 40) (ac_y m S 1 a 0 0 0 0) j) (c_dropC hl hI (by omega) _ (fun _ _ _ q => q)) (ex_dropC hl hS hk (by have := z_IC_34 hI; omega) _ (fun w' h1 h2 h3 => ⟨rfl, h1, h2, h3⟩)) (fun r w' p1 p2 => by
    obtain ⟨e, h1, h2, h3⟩ := p2
    subst e
    exact k w' h1 (z_IC_mono (by omega) p1) h2 h3)
theorem x_tellC {d u w} {Q : z_P} {B m : Int} {S : pu_S} (hl : z_lay w) (hI : z_IC w B) (hB : B ≤ 900000) (hS : st_C w m S) (hk : st_ok m S) (a b : Int) (k : ∀ w', z_fr z_S41 z_F41 w w' → z_IC w' (B + 40) → st_C w' m (ac_S m S 2 a b 0 0 0) → (∀ j, 0 ≤ j → z_I w' 40 j = ac_t (z_I w 40) (ac_y m S 2 a b 0 0 0) j) → Q (some (z_i (ac_z m S 2 a b 0 0 0))) w') : z_G (d + 20) u 139 0 [z_r 2, z_i a, z_i b] [] w Q :=
  z_G_both (P1 := fun _ w' => z_IC w' (B + 1)) (P2 := fun r w' => r = some (z_i (ac_z m S 2 a b 0 0 0)) ∧ z_fr z_S41 z_F41 w w' ∧ st_C w' m (ac_S m S 2 a b 0 0 0) ∧ ∀ j, 0 ≤ j → z_I w' 40 j = ac_t (z_I w 40) (ac_y m S 2 a b 0 0 0) j) (c_tellC hl hI (by omega) _ _ (fun _ _ _ q => q)) (ex_tellC hl hS hk (by have := z_IC_34 hI; omega) _ _ (fun w' h1 h2 h3 => ⟨rfl, h1, h2, h3⟩)) (fun r w' p1 p2 => by
    obtain ⟨e, h1, h2, h3⟩ := p2
    subst e
    exact k w' h1 (z_IC_mono (by omega) p1) h2 h3)
theorem x_moveC {d u w} {Q : z_P} {B m : Int} {S : pu_S} (hl : z_lay w) (hI : z_IC w B) (hB : B ≤ 900000) (hS : st_C w m S) (hk : st_ok m S) (a b : Int) (k : ∀ w', z_fr z_S41 z_F41 w w' → z_IC w' (B + 40) → st_C w' m (ac_S m S 3 a b 0 0 0) → (∀ j, 0 ≤ j → z_I w' 40 j = ac_t (z_I w 40) (ac_y m S 3 a b 0 0 0) j) → Q (some (z_i (ac_z m S 3 a b 0 0 0))) w') : z_G (d + 20) u 140 0 [z_r 2, z_i a, z_i b] [] w Q :=
  z_G_both (P1 := fun _ w' => z_IC w' (B + 1)) (P2 := fun r w' => r = some (z_i (ac_z m S 3 a b 0 0 0)) ∧ z_fr z_S41 z_F41 w w' ∧ st_C w' m (ac_S m S 3 a b 0 0 0) ∧ ∀ j, 0 ≤ j → z_I w' 40 j = ac_t (z_I w 40) (ac_y m S 3 a b 0 0 0) j) (c_moveC hl hI (by omega) _ _ (fun _ _ _ q => q)) (ex_moveC hl hS hk (by have := z_IC_34 hI; omega) _ _ (fun w' h1 h2 h3 => ⟨rfl, h1, h2, h3⟩)) (fun r w' p1 p2 => by
    obtain ⟨e, h1, h2, h3⟩ := p2
    subst e
    exact k w' h1 (z_IC_mono (by omega) p1) h2 h3)
def bk_S (S : pu_S) : pu_S := if S.1 = 0 then S else pu_back1 S
def bk_z (S : pu_S) : Int := if S.1 = 0 then -1 else S.1 - 1
theorem st_ok_bk {m : Int} {S : pu_S} (h : st_ok m S) : st_ok m (bk_S S) := by
  have := h.2.1
  unfold bk_S
  split
  · exact h
  · exact st_ok_back h (by omega)
theorem x_undoC {d u w} {Q : z_P} {B m : Int} {S : pu_S} (hl : z_lay w) (hI : z_IC w B) (hB : B ≤ 900000) (hS : st_C w m S) (hk : st_ok m S) (k : ∀ w', z_fr [13] [(12, 1), (14, 0), (32, 0), (32, 2), (34, 1)] w w' → z_IC w' (B + 40) → st_C w' m (bk_S S) → Q (some (z_i (bk_z S))) w') : z_G (d + 20) u 147 0 [z_r 2] [] w Q := by
  have h34 := z_IC_34 hI
  refine z_G_both (P1 := fun _ w' => z_IC w' B) (P2 := fun r w' => r = some (z_i (bk_z S)) ∧ z_fr [13] [(12, 1), (14, 0), (32, 0), (32, 2), (34, 1)] w w' ∧ st_C w' m (bk_S S)) (c_undoC hl hI (by omega) (fun _ _ _ q => q)) (ex_undoC hl hS hk (by omega) (fun q => ?_) (fun q w' h1 h2 => ?_)) (fun r w' p1 p2 => ?_)
  · unfold bk_z bk_S
    rw [if_pos q, if_pos q]
    exact ⟨rfl, z_fr_rf, hS⟩
  · unfold bk_z bk_S
    rw [if_neg q, if_neg q]
    exact ⟨rfl, h1, h2⟩
  · obtain ⟨e, h1, h2⟩ := p2
    subst e
    exact k w' h1 (z_IC_mono (by omega) p1) h2
noncomputable def wy_S (m : Int) (S : pu_S) (n x : Int) : pu_S := if m ≠ 0 ∧ 1 ≤ n ∧ n ≤ 40 then dw_go n.toNat x S else S
noncomputable def wy_z (m : Int) (S : pu_S) (n x : Int) : Int := if m ≠ 0 ∧ 1 ≤ n ∧ n ≤ 40 then sl_n ((dw_go n.toNat x S).2.1 0) else -1
noncomputable def im_z (m : Int) (V : pu_V) : Int := if m = 0 then -1 else sl_n V
theorem st_ok_wy {m : Int} {S : pu_S} (h : st_ok m S) (n x : Int) : st_ok m (wy_S m S n x) := by
  unfold wy_S
  split
  · rename_i q
    exact st_ok_dw q.1 _ _ _ h
  · exact h
theorem x_waysC {d w} {Q : z_P} {B m : Int} {S : pu_S} (hl : z_lay w) (hI : z_IC w B) (hB : B ≤ 900000) (hIS : z_IS w) (hS : st_C w m S) (hk : st_ok m S) (n x : Int) (k : ∀ w', z_gw z_SK z_FK w w' → z_IC w' (B + 40) → z_IS w' → (∀ r j, (r = 2 ∨ r = 10 ∨ (36 ≤ r ∧ r ≤ 40)) → z_I w' r j = z_I w r j) → st_C w' m (wy_S m S n x) → Q (some (z_i (wy_z m S n x))) w') : z_G (d + 20) (1, 1) 143 0 [z_r 2, z_i n, z_l x, z_x, z_x, z_x] [] w Q :=
  z_G_both (P1 := fun _ w' => z_gw z_SK z_FK w w' ∧ z_IC w' (B + 40) ∧ z_IS w') (P2 := fun r w' => r = some (z_i (wy_z m S n x)) ∧ (∀ r j, (r = 2 ∨ r = 10 ∨ (36 ≤ r ∧ r ≤ 40)) → z_I w' r j = z_I w r j) ∧ st_C w' m (wy_S m S n x)) (c_waysC hl hI (by omega) hIS _ _ (fun w' z h1 h2 h3 => ⟨h1, h2, h3⟩)) (ex_waysC hl hS hk (by have := z_IC_34 hI; omega) _ _ (fun w' z h1 h2 hz => by subst hz; exact ⟨rfl, h1, h2⟩)) (fun r w' p1 p2 => by
    obtain ⟨e, g1, g2⟩ := p2
    subst e
    exact k w' p1.1 p1.2.1 p1.2.2 g1 g2)
theorem x_imageC {d u w} {Q : z_P} {B m : Int} {S : pu_S} (hl : z_lay w) (hI : z_IC w B) (hS : st_C w m S) (hk : st_ok m S) (k : ∀ w', z_fr [37, 39] [(2, 12), (36, 1), (38, 1)] w w' → z_IC w' B → (m = 0 → w' = w) → (m ≠ 0 → im_C w' 1 (S.2.1 0) (S.2.2.1 0) (S.2.2.2 0)) → Q (some (z_i (im_z m (S.2.1 0)))) w') : z_G (d + 20) u 163 0 [z_r 2] [] w Q :=
  z_G_both (P1 := fun _ w' => z_IC w' B) (P2 := fun r w' => r = some (z_i (im_z m (S.2.1 0))) ∧ z_fr [37, 39] [(2, 12), (36, 1), (38, 1)] w w' ∧ (m = 0 → w' = w) ∧ (m ≠ 0 → im_C w' 1 (S.2.1 0) (S.2.2.1 0) (S.2.2.2 0))) (c_imageC hl hI (fun _ _ _ q => q)) (ex_imageC hl hS hk (z_IC_34 hI).1 (fun q => ⟨by unfold im_z; rw [if_pos q], z_fr_rf, fun _ => rfl, fun x => absurd q x⟩) (fun q w' h1 h2 => ⟨by unfold im_z; rw [if_neg q], h1, fun x => absurd x q, fun _ => h2⟩)) (fun r w' p1 p2 => by
    obtain ⟨e, h1, h2, h3⟩ := p2
    subst e
    exact k w' h1 p1 h2 h3)
theorem x_backC {d u w} {Q : z_P} {B m h : Int} {S : pu_S} {V : pu_V} {N : Int} {L : Int → Int → Int} (hl : z_lay w) (hI : z_IC w B) (hS : st_C w m S) (hi : im_C w h V N L) (hk : im_ok m h V N) (k : ∀ w', z_fr [13, 35] [(12, 1), (14, 0), (32, 0), (34, 1)] w w' → z_IC w' B → (h = 0 → w' = w) → (h ≠ 0 → st_C w' m (im_S V N L)) → Q (some (z_i (im_z h V))) w') : z_G (d + 20) u 164 0 [z_r 2] [] w Q :=
  z_G_both (P1 := fun _ w' => z_IC w' B) (P2 := fun r w' => r = some (z_i (im_z h V)) ∧ z_fr [13, 35] [(12, 1), (14, 0), (32, 0), (34, 1)] w w' ∧ (h = 0 → w' = w) ∧ (h ≠ 0 → st_C w' m (im_S V N L))) (c_backC hl hI (fun _ _ _ q => q)) (ex_backC hl hS hi hk (fun q => ⟨by unfold im_z; rw [if_pos q], z_fr_rf, fun _ => rfl, fun x => absurd q x⟩) (fun q w' h1 h2 => ⟨by unfold im_z; rw [if_neg q], h1, fun x => absurd x q, fun _ => h2⟩)) (fun r w' p1 p2 => by
    obtain ⟨e, h1, h2, h3⟩ := p2
    subst e
    exact k w' h1 p1 h2 h3)
/-- a script done -/
def pf_S (w : z_W) (m : Int) (S : pu_S) (a : Int) : pu_S := if 0 ≤ a ∧ a < z_I w 49 11 ∧ m ≠ 0 then go_S (fun j => z_I w 54 (72 * a + j)) (z_I w 55 a).toNat 0 S else S
def pf_z (w : z_W) (m : Int) (S : pu_S) (a : Int) : Int := if 0 ≤ a ∧ a < z_I w 49 11 ∧ m ≠ 0 then go_n (fun j => z_I w 54 (72 * a + j)) (z_I w 55 a).toNat 0 (S.2.1 0) else -1
theorem pf_eq {w w' : z_W} (h11 : z_I w' 49 11 = z_I w 49 11) (h54 : ∀ j, z_I w' 54 j = z_I w 54 j) (h55 : ∀ j, z_I w' 55 j = z_I w 55 j) (m : Int) (S : pu_S) (a : Int) : pf_S w' m S a = pf_S w m S a ∧ pf_z w' m S a = pf_z w m S a := by
  unfold pf_S pf_z
  simp only [h11, h54, h55]
  exact ⟨trivial, trivial⟩
theorem st_ok_pf {w : z_W} {m : Int} {S : pu_S} (hI : z_IM w) (h : st_ok m S) (a : Int) : st_ok m (pf_S w m S a) := by
  unfold pf_S
  split
  · rename_i q
    have h6 := hI.2.2.2.2.2.1
    have h55 := hI.2.2.2.2.2.2.1 a (by omega) (by omega)
    exact st_ok_go q.2.2 _ _ _ (fun j j0 j1 => hI.2.2.2.2.2.2.2.2.1 a j q.1 q.2.1 j0 (by omega)) h
  · exact h
theorem x_performC {d u w} {Q : z_P} {B m : Int} {S : pu_S} (hl : z_lay w) (hI : z_IC w B) (hB : B ≤ 900000) (hIM : z_IM w) (hIS : z_IS w) (hR : sc_R w) (hS : st_C w m S) (hk : st_ok m S) (a : Int) (k : ∀ w', z_fr z_SK z_FK w w' → z_IC w' (B + 40) → (∀ r j, (r = 2 ∨ r = 10 ∨ 36 ≤ r ∧ r ≤ 40 ∨ 49 ≤ r) → z_I w' r j = z_I w r j) → st_C w' m (pf_S w m S a) → Q (some (z_i (pf_z w m S a))) w') : z_G (d + 20) u 159 0 [z_r 2, z_i a, z_x, z_x, z_x] [] w Q := by
  have h34 := z_IC_34 hI
  refine z_G_both (P1 := fun _ w' => z_fr z_SK z_FK w w' ∧ z_IC w' (B + 40)) (P2 := fun r w' => r = some (z_i (pf_z w m S a)) ∧ (∀ r j, (r = 2 ∨ r = 10 ∨ 36 ≤ r ∧ r ≤ 40 ∨ 49 ≤ r) → z_I w' r j = z_I w r j) ∧ st_C w' m (pf_S w m S a)) (c_performC hl hI hB hIS _ (fun _ _ h q => ⟨h, q⟩)) (ex_performC hl hI.1 hIM hIS hR hS hk (by omega) _ (fun q w' h1 h2 => ?_) (fun q => ?_)) (fun r w' p1 p2 => ?_)
  · unfold pf_z pf_S
    rw [if_pos q, if_pos q]
    exact ⟨rfl, h1, h2⟩
  · unfold pf_z pf_S
    rw [if_neg q, if_neg q]
    exact ⟨rfl, fun _ _ _ => rfl, hS⟩
  · obtain ⟨e, h1, h2⟩ := p2
    subst e
    exact k w' p1.1 p1.2 h1 h2
/-! the reference: contracts joined -/
theorem x_add {d u w} {Q : z_P} {m : Int} {S : pu_S} (hl : z_lay w) (hI : z_IM w) (hS : st_M w m S) (hk : st_ok m S) (a b c e f : Int) (k : ∀ w', z_fr z_S58 z_F58 w w' → z_IM w' → st_M w' m (ac_S m S 0 a b c e f) → (∀ j, 0 ≤ j → z_I w' 58 j = ac_t (z_I w 58) (ac_y m S 0 a b c e f) j) → Q (some (z_i (ac_z m S 0 a b c e f))) w') : z_G (d + 9) u 238 0 [z_r 49, z_i a, z_i b, z_i c, z_i e, z_i f] [] w Q :=
  z_G_both (P1 := fun _ w' => z_IM w') (P2 := fun r w' => r = some (z_i (ac_z m S 0 a b c e f)) ∧ z_fr z_S58 z_F58 w w' ∧ st_M w' m (ac_S m S 0 a b c e f) ∧ ∀ j, 0 ≤ j → z_I w' 58 j = ac_t (z_I w 58) (ac_y m S 0 a b c e f) j) (c_add hl hI _ _ _ _ _ (fun _ _ _ q => q)) (ex_add hl hS hk _ _ _ _ _ (fun w' h1 h2 h3 => ⟨rfl, h1, h2, h3⟩)) (fun r w' p1 p2 => by
    obtain ⟨e, h1, h2, h3⟩ := p2
    subst e
    exact k w' h1 p1 h2 h3)
theorem x_drop {d u w} {Q : z_P} {m : Int} {S : pu_S} (hl : z_lay w) (hI : z_IM w) (hS : st_M w m S) (hk : st_ok m S) (a : Int) (k : ∀ w', z_fr z_S58 z_F58 w w' → z_IM w' → st_M w' m (ac_S m S 1 a 0 0 0 0) → (∀ j, 0 ≤ j → z_I w' 58 j = ac_t (z_I w 58) (ac_y m S 1 a 0 0 0 0) j) → Q (some (z_i (ac_z m S 1 a 0 0 0 0))) w') : z_G (d + 9) u 239 0 [z_r 49, z_i a] [] w Q :=
  z_G_both (P1 := fun _ w' => z_IM w') (P2 := fun r w' => r = some (z_i (ac_z m S 1 a 0 0 0 0)) ∧ z_fr z_S58 z_F58 w w' ∧ st_M w' m (ac_S m S 1 a 0 0 0 0) ∧ ∀ j, 0 ≤ j → z_I w' 58 j = ac_t (z_I w 58) (ac_y m S 1 a 0 0 0 0) j) (c_drop hl hI _ (fun _ _ _ q => q)) (ex_drop hl hS hk _ (fun w' h1 h2 h3 => ⟨rfl, h1, h2, h3⟩)) (fun r w' p1 p2 => by
    obtain ⟨e, h1, h2, h3⟩ := p2
    subst e
    exact k w' h1 p1 h2 h3)
theorem x_tell {d u w} {Q : z_P} {m : Int} {S : pu_S} (hl : z_lay w) (hI : z_IM w) (hS : st_M w m S) (hk : st_ok m S) (a b : Int) (k : ∀ w', z_fr z_S58 z_F58 w w' → z_IM w' → st_M w' m (ac_S m S 2 a b 0 0 0) → (∀ j, 0 ≤ j → z_I w' 58 j = ac_t (z_I w 58) (ac_y m S 2 a b 0 0 0) j) → Q (some (z_i (ac_z m S 2 a b 0 0 0))) w') : z_G (d + 9) u 240 0 [z_r 49, z_i a, z_i b] [] w Q :=
  z_G_both (P1 := fun _ w' => z_IM w') (P2 := fun r w' => r = some (z_i (ac_z m S 2 a b 0 0 0)) ∧ z_fr z_S58 z_F58 w w' ∧ st_M w' m (ac_S m S 2 a b 0 0 0) ∧ ∀ j, 0 ≤ j → z_I w' 58 j = ac_t (z_I w 58) (ac_y m S 2 a b 0 0 0) j) (c_tell hl hI _ _ (fun _ _ _ q => q)) (ex_tell hl hS hk _ _ (fun w' h1 h2 h3 => ⟨rfl, h1, h2, h3⟩)) (fun r w' p1 p2 => by
    obtain ⟨e, h1, h2, h3⟩ := p2
    subst e
    exact k w' h1 p1 h2 h3)
theorem x_move {d u w} {Q : z_P} {m : Int} {S : pu_S} (hl : z_lay w) (hI : z_IM w) (hS : st_M w m S) (hk : st_ok m S) (a b : Int) (k : ∀ w', z_fr z_S58 z_F58 w w' → z_IM w' → st_M w' m (ac_S m S 3 a b 0 0 0) → (∀ j, 0 ≤ j → z_I w' 58 j = ac_t (z_I w 58) (ac_y m S 3 a b 0 0 0) j) → Q (some (z_i (ac_z m S 3 a b 0 0 0))) w') : z_G (d + 9) u 241 0 [z_r 49, z_i a, z_i b] [] w Q :=
  z_G_both (P1 := fun _ w' => z_IM w') (P2 := fun r w' => r = some (z_i (ac_z m S 3 a b 0 0 0)) ∧ z_fr z_S58 z_F58 w w' ∧ st_M w' m (ac_S m S 3 a b 0 0 0) ∧ ∀ j, 0 ≤ j → z_I w' 58 j = ac_t (z_I w 58) (ac_y m S 3 a b 0 0 0) j) (c_move hl hI _ _ (fun _ _ _ q => q)) (ex_move hl hS hk _ _ (fun w' h1 h2 h3 => ⟨rfl, h1, h2, h3⟩)) (fun r w' p1 p2 => by
    obtain ⟨e, h1, h2, h3⟩ := p2
    subst e
    exact k w' h1 p1 h2 h3)
theorem x_undo {d u w} {Q : z_P} {m : Int} {S : pu_S} (hl : z_lay w) (hI : z_IM w) (hS : st_M w m S) (hk : st_ok m S) (k : ∀ w', z_fr [56] [(49, 30)] w w' → z_IM w' → st_M w' m (bk_S S) → Q (some (z_i (bk_z S))) w') : z_G d u 248 0 [z_r 49, z_x] [] w Q := by
  refine z_G_both (P1 := fun _ w' => z_IM w') (P2 := fun r w' => r = some (z_i (bk_z S)) ∧ z_fr [56] [(49, 30)] w w' ∧ st_M w' m (bk_S S)) (c_undo hl hI (fun _ _ _ q => q)) (ex_undo hl hS hk (fun q => ?_) (fun q w' h1 h2 => ?_)) (fun r w' p1 p2 => ?_)
  · unfold bk_z bk_S
    rw [if_pos q, if_pos q]
    exact ⟨rfl, z_fr_rf, hS⟩
  · unfold bk_z bk_S
    rw [if_neg q, if_neg q]
    exact ⟨rfl, h1, h2⟩
  · obtain ⟨e, h1, h2⟩ := p2
    subst e
    exact k w' h1 p1 h2
theorem x_ways {d u w} {Q : z_P} {m : Int} {S : pu_S} (hl : z_lay w) (hI : z_IM w) (hS : st_M w m S) (hk : st_ok m S) (n x : Int) (k : ∀ w', z_fr z_SW z_FW w w' → z_IM w' → st_M w' m (wy_S m S n x) → Q (some (z_i (wy_z m S n x))) w') : z_G (d + 11) u 246 0 [z_r 49, z_i n, z_l x, z_x, z_x] [] w Q :=
  z_G_both (P1 := fun _ w' => z_IM w') (P2 := fun r w' => r = some (z_i (wy_z m S n x)) ∧ z_fr z_SW z_FW w w' ∧ st_M w' m (wy_S m S n x)) (c_ways hl hI _ _ (fun _ _ _ q => q)) (ex_ways hl hS hk _ _ (fun w' z h1 h2 hz => by subst hz; exact ⟨rfl, h1, h2⟩)) (fun r w' p1 p2 => by
    obtain ⟨e, h1, h2⟩ := p2
    subst e
    exact k w' h1 p1 h2)
theorem x_image {d u w} {Q : z_P} {m : Int} {S : pu_S} (hl : z_lay w) (hI : z_IM w) (hS : st_M w m S) (hk : st_ok m S) (k : ∀ w', z_fr [57, 61, 62, 63, 75] [(49, 21), (49, 22), (49, 38)] w w' → z_IM w' → (m = 0 → w' = w) → (m ≠ 0 → im_M w' 1 (S.2.1 0) (S.2.2.1 0) (S.2.2.2 0)) → Q (some (z_i (im_z m (S.2.1 0)))) w') : z_G (d + 6) u 291 0 [z_r 49, z_x] [] w Q :=
  z_G_both (P1 := fun _ w' => z_IM w') (P2 := fun r w' => r = some (z_i (im_z m (S.2.1 0))) ∧ z_fr [57, 61, 62, 63, 75] [(49, 21), (49, 22), (49, 38)] w w' ∧ (m = 0 → w' = w) ∧ (m ≠ 0 → im_M w' 1 (S.2.1 0) (S.2.2.1 0) (S.2.2.2 0))) (c_image hl hI (fun _ _ _ q => q)) (ex_image hl hS hk (fun q => ⟨by unfold im_z; rw [if_pos q], z_fr_rf, fun _ => rfl, fun x => absurd q x⟩) (fun q w' h1 h2 => ⟨by unfold im_z; rw [if_neg q], h1, fun x => absurd x q, fun _ => h2⟩)) (fun r w' p1 p2 => by
    obtain ⟨e, h1, h2, h3⟩ := p2
    subst e
    exact k w' h1 p1 h2 h3)
theorem x_back {d u w} {Q : z_P} {m h : Int} {S : pu_S} {V : pu_V} {N : Int} {L : Int → Int → Int} (hl : z_lay w) (hI : z_IM w) (hS : st_M w m S) (hi : im_M w h V N L) (hk : im_ok m h V N) (k : ∀ w', z_fr [56, 57, 61, 62, 63] [(49, 21), (49, 22), (49, 30)] w w' → z_IM w' → (h = 0 → w' = w) → (h ≠ 0 → st_M w' m (im_S V N L)) → Q (some (z_i (im_z h V))) w') : z_G (d + 6) u 292 0 [z_r 49, z_x] [] w Q :=
  z_G_both (P1 := fun _ w' => z_IM w') (P2 := fun r w' => r = some (z_i (im_z h V)) ∧ z_fr [56, 57, 61, 62, 63] [(49, 21), (49, 22), (49, 30)] w w' ∧ (h = 0 → w' = w) ∧ (h ≠ 0 → st_M w' m (im_S V N L))) (c_back hl hI (fun _ _ _ q => q)) (ex_back hl hS hi hk (fun q => ⟨by unfold im_z; rw [if_pos q], z_fr_rf, fun _ => rfl, fun x => absurd q x⟩) (fun q w' h1 h2 => ⟨by unfold im_z; rw [if_neg q], h1, fun x => absurd x q, fun _ => h2⟩)) (fun r w' p1 p2 => by
    obtain ⟨e, h1, h2, h3⟩ := p2
    subst e
    exact k w' h1 p1 h2 h3)
theorem x_perform {d u w} {Q : z_P} {m : Int} {S : pu_S} (hl : z_lay w) (hI : z_IM w) (hS : st_M w m S) (hk : st_ok m S) (a : Int) (k : ∀ w', z_fr z_SW z_FW w w' → z_IM w' → st_M w' m (pf_S w m S a) → Q (some (z_i (pf_z w m S a))) w') : z_G (d + 9) u 282 0 [z_r 49, z_i a] [] w Q := by
  refine z_G_both (P1 := fun _ w' => z_IM w') (P2 := fun r w' => r = some (z_i (pf_z w m S a)) ∧ z_fr z_SW z_FW w w' ∧ st_M w' m (pf_S w m S a)) (c_perform hl hI _ (fun _ _ _ q => q)) (ex_perform hl hI hS hk _ (fun q w' h1 h2 => ?_) (fun q => ?_)) (fun r w' p1 p2 => ?_)
  · unfold pf_z pf_S
    rw [if_pos q, if_pos q]
    exact ⟨rfl, h1, h2⟩
  · unfold pf_z pf_S
    rw [if_neg q, if_neg q]
    exact ⟨rfl, z_fr_rf, hS⟩
  · obtain ⟨e, h1, h2⟩ := p2
    subst e
    exact k w' h1 p1 h2
theorem x_run {d u w} {Q : z_P} {m : Int} {S : pu_S} (hl : z_lay w) (hI : z_IM w) (hS : st_M w m S) (hk : st_ok m S) (a b : Int) (k : ∀ w', z_fr (56 :: z_SC) z_FC w w' → z_IM w' → (∀ j, 0 ≤ j → z_I w' 56 j = z_I w 56 j) → Q (some (z_i (run_z w m (S.2.1 0) a b))) w') : z_G (d + 7) u 281 0 [z_r 49, z_i a, z_i b, z_x, z_x] [] w Q :=
  z_G_both (P1 := fun _ w' => z_IM w') (P2 := fun r w' => r = some (z_i (run_z w m (S.2.1 0) a b)) ∧ z_fr (56 :: z_SC) z_FC w w' ∧ ∀ j, 0 ≤ j → z_I w' 56 j = z_I w 56 j) (c_run hl hI _ _ (fun _ _ _ q => q)) (ex_runK hl hI hS hk _ _ (fun w' h1 h2 => ⟨rfl, h1, h2⟩)) (fun r w' p1 p2 => by
    obtain ⟨e, h1, h2⟩ := p2
    subst e
    exact k w' h1 p1 h2)
theorem x_runC {d u w} {Q : z_P} {B m : Int} {S : pu_S} (hl : z_lay w) (hI : z_IC w B) (hIM : z_IM w) (hIS : z_IS w) (hR : sc_R w) (hS : st_C w m S) (hk : st_ok m S) (a b : Int) (k : ∀ w', z_fr z_SQ z_FQ w w' → z_IC w' B → Q (some (z_i (run_z w m (S.2.1 0) a b))) w') : z_G (d + 20) u 158 0 [z_r 2, z_i a, z_i b, z_x, z_x] [] w Q :=
  z_G_both (P1 := fun _ w' => z_fr z_SQ z_FQ w w' ∧ z_IC w' B) (P2 := fun r _ => r = some (z_i (run_z w m (S.2.1 0) a b))) (c_runC hl hI hIS _ _ (fun _ _ h q => ⟨h, q⟩)) (ex_runC hl hI.1 hIM hIS hR hS hk _ _ (fun _ => rfl)) (fun r w' p1 p2 => by
    subst p2
    exact k w' p1.1 p1.2)
theorem x_would {d u w} {Q : z_P} {m : Int} {S : pu_S} (hl : z_lay w) (hI : z_IM w) (hS : st_M w m S) (hk : st_ok m S) (a b c e f g : Int) (k : ∀ w' z, z_fr (56 :: z_SC) z_FC w w' → z_IM w' → (∀ j, 0 ≤ j → z_I w' 56 j = z_I w 56 j) → Q (some (z_i z)) w') : z_G (d + 6) u 274 0 [z_r 49, z_i a, z_i b, z_i c, z_i e, z_i f, z_i g, z_x] [] w Q :=
  z_G_both (P1 := fun _ w' => z_IM w') (P2 := fun r w' => (∃ z, r = some (z_i z)) ∧ z_fr (56 :: z_SC) z_FC w w' ∧ ∀ j, 0 ≤ j → z_I w' 56 j = z_I w 56 j) (c_would hl hI _ _ _ _ _ _ (fun _ _ _ q => q)) (ex_wouldK hl (fun hm => pu_ok_eq (hS.2.2.1 (by rw [← hS.1]; exact hm)) (hk.2.2.1 0 (by omega) hk.2.1.1).1) _ _ _ _ _ _ (fun w' z h1 h2 => ⟨⟨z, rfl⟩, h1, h2⟩)) (fun r w' p1 p2 => by
    obtain ⟨⟨z, e⟩, h1, h2⟩ := p2
    subst e
    exact k w' z h1 p1 h2)
