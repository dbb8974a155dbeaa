/-! the invariant behind each call -/
theorem x_A_act {w w1 w2 : z_W} {m : Int} {S S' : pu_S} {h : Int} {V : pu_V} {N : Int} {L : Int → Int → Int} (y : Int) (X : x_A w m S h V N L) (c1 : ∀ p j, (p = 10 ∨ (p = 2 ∧ j = 12) ∨ (p = 36 ∧ j = 1) ∨ p = 37 ∨ (p = 38 ∧ j = 1) ∨ p = 39) → z_I w1 p j = z_I w p j) (c2 : ∀ p j, xc_k p j → z_I w2 p j = z_I w1 p j) (m1 : ∀ p j, 0 ≤ j → xm_k p j → z_I w1 p j = z_I w p j) (m2 : ∀ p j, 0 ≤ j → (p = 60 ∨ p = 75 ∨ (p = 49 ∧ j = 38)) → z_I w2 p j = z_I w1 p j) (s1 : st_C w1 m S') (s2 : st_M w2 m S') (k' : st_ok m S') (t1 : ∀ j, 0 ≤ j → z_I w1 40 j = ac_t (z_I w 40) y j) (t2 : ∀ j, 0 ≤ j → z_I w2 58 j = ac_t (z_I w1 58) y j) : x_A w2 m S' h V N L := by
  obtain ⟨⟨_, xi⟩, ⟨_, xj⟩, ⟨_, xo⟩, ⟨xn, xt⟩⟩ := X
  refine ⟨⟨st_C_e c2 s1, im_C_e c2 ?_⟩, ⟨s2, ?_⟩, ⟨k', xo⟩, fun r r0 r1 => ?_, fun a a0 a1 => ?_⟩
  · have e37 : z_I w1 37 = z_I w 37 := funext fun j => c1 37 j (by omega)
    have e39 : ∀ j, z_I w1 39 j = z_I w 39 j := fun j => c1 39 j (by omega)
    unfold im_C at xi ⊢
    simp only [e37, e39, c1 2 12 (by omega), c1 36 1 (by omega), c1 38 1 (by omega)]
    exact xi
  · obtain ⟨h1, h2⟩ := xj
    refine ⟨(m2 49 38 (by omega) (by omega)).trans ((m1 49 38 (by omega) (by omega)).trans h1), fun q => ?_⟩
    obtain ⟨g1, g2, g3⟩ := h2 q
    have e75 : ∀ j, 0 ≤ j → z_I w2 75 j = z_I w 75 j := fun j j0 => (m2 75 j j0 (by omega)).trans (m1 75 j j0 (by omega))
    exact ⟨pu_eq_tr (pu_vM_cg (fun j j0 _ => e75 j j0)) g1, (e75 120 (by omega)).trans g2, fun i x i0 i1 x0 x1 => (e75 _ (by omega)).trans (g3 i x i0 i1 x0 x1)⟩
  · rw [c2 10 _ (by omega), c1 10 _ (by omega), m2 60 r r0 (by omega), m1 60 r r0 (by omega)]
    exact xn r r0 r1
  · rw [c2 40 a (by omega), t1 a a0, t2 a a0]
    unfold ac_t
    rw [m1 58 a a0 (by omega), xt a a0 a1]
theorem ac_t_m (g : Int → Int) {j : Int} (h : 0 ≤ j) : ac_t g (-1) j = g j := ac_t_n (by omega)
theorem x_A_hand {w w1 w2 : z_W} {m : Int} {S S' : pu_S} {h : Int} {V : pu_V} {N : Int} {L : Int → Int → Int} (y : Int) (X : x_A w m S h V N L) (h1 : z_fr z_S41 z_F41 w w1) (h2 : z_fr z_S58 z_F58 w1 w2) (s1 : st_C w1 m S') (s2 : st_M w2 m S') (k' : st_ok m S') (t1 : ∀ j, 0 ≤ j → z_I w1 40 j = ac_t (z_I w 40) y j) (t2 : ∀ j, 0 ≤ j → z_I w2 58 j = ac_t (z_I w1 58) y j) : x_A w2 m S' h V N L :=
  x_A_act y X (fun p j hk => h1.2 p j (by simp only [List.mem_cons, List.not_mem_nil, or_false]; omega) (by simp only [List.mem_cons, List.not_mem_nil, or_false, Prod.mk.injEq]; omega)) (xc_m h2 (by decide) (by decide)) (xm_c h1 (by decide) (by decide)) (fun p j _ hk => h2.2 p j (by simp only [List.mem_cons, List.not_mem_nil, or_false]; omega) (by simp only [List.mem_cons, List.not_mem_nil, or_false, Prod.mk.injEq]; omega)) s1 s2 k' t1 t2
theorem x_A_undo {w w1 w2 : z_W} {m : Int} {S : pu_S} {h : Int} {V : pu_V} {N : Int} {L : Int → Int → Int} (X : x_A w m S h V N L) (h1 : z_fr [13] [(12, 1), (14, 0), (32, 0), (32, 2), (34, 1)] w w1) (h2 : z_fr [56] [(49, 30)] w1 w2) (s1 : st_C w1 m (bk_S S)) (s2 : st_M w2 m (bk_S S)) : x_A w2 m (bk_S S) h V N L :=
  x_A_hand (-1) X (z_fr_mo h1 (by decide) (by decide)) (z_fr_mo h2 (by decide) (by decide)) s1 s2 (st_ok_bk X.2.2.1.1) (fun j j0 => by rw [ac_t_m _ j0]; exact h1.2 40 j (by decide) (by simp)) (fun j j0 => by rw [ac_t_m _ j0]; exact h2.2 58 j (by decide) (by simp))
theorem x_A_ways {w w1 w2 : z_W} {m : Int} {S S' : pu_S} {h : Int} {V : pu_V} {N : Int} {L : Int → Int → Int} (X : x_A w m S h V N L) (c1 : ∀ r j, (r = 2 ∨ r = 10 ∨ (36 ≤ r ∧ r ≤ 40)) → z_I w1 r j = z_I w r j) (m1 : ∀ p j, 0 ≤ j → xm_k p j → z_I w1 p j = z_I w p j) (h2 : z_fr z_SW z_FW w1 w2) (s1 : st_C w1 m S') (s2 : st_M w2 m S') (k' : st_ok m S') : x_A w2 m S' h V N L :=
  x_A_act (-1) X (fun p j hk => c1 p j (by omega)) (xc_m h2 (by decide) (by decide)) m1 (fun p j _ hk => h2.2 p j (by simp only [List.mem_cons, List.not_mem_nil, or_false]; omega) (by simp only [List.mem_cons, List.not_mem_nil, or_false, Prod.mk.injEq]; omega)) s1 s2 k' (fun j j0 => by rw [ac_t_m _ j0]; exact c1 40 j (by omega)) (fun j j0 => by rw [ac_t_m _ j0]; exact h2.2 58 j (by decide) (by simp))
theorem x_A_image {w w1 w2 : z_W} {m : Int} {S : pu_S} {h : Int} {V : pu_V} {N : Int} {L : Int → Int → Int} (X : x_A w m S h V N L) (h1 : z_fr [37, 39] [(2, 12), (36, 1), (38, 1)] w w1) (e0 : m = 0 → w1 = w) (e1 : m ≠ 0 → im_C w1 1 (S.2.1 0) (S.2.2.1 0) (S.2.2.2 0)) (h2 : z_fr [57, 61, 62, 63, 75] [(49, 21), (49, 22), (49, 38)] w1 w2) (g0 : m = 0 → w2 = w1) (g1 : m ≠ 0 → im_M w2 1 (S.2.1 0) (S.2.2.1 0) (S.2.2.2 0)) : ∃ h' V' N' L', x_A w2 m S h' V' N' L' := by
  by_cases hm : m = 0
  · refine ⟨h, V, N, L, ?_⟩
    rw [g0 hm, e0 hm]
    exact X
  · obtain ⟨⟨xs, _⟩, ⟨xM, _⟩, ⟨xk, _⟩, ⟨xn, xt⟩⟩ := X
    have c2 := xc_m h2 (by decide) (by decide)
    have q := xk.2.2.1 0 (by omega) xk.2.1.1
    refine ⟨1, S.2.1 0, S.2.2.1 0, S.2.2.2 0, ⟨st_C_e c2 (st_C_fr h1 (by decide) (by decide) xs), im_C_e c2 (e1 hm)⟩, ⟨st_M_fr h2 (by decide) (by decide) (st_M_e (xm_c h1 (by decide) (by decide)) xk.2.1.1 xM), g1 hm⟩, ⟨xk, Or.inr rfl, fun _ => ⟨hm, q.1, q.2⟩⟩, fun r r0 r1 => ?_, fun a a0 a1 => ?_⟩
    · rw [h2.2 10 _ (by decide) (by simp), h1.2 10 _ (by decide) (by simp), h2.2 60 _ (by decide) (by simp), h1.2 60 _ (by decide) (by simp)]
      exact xn r r0 r1
    · rw [h2.2 40 _ (by decide) (by simp), h1.2 40 _ (by decide) (by simp), h2.2 58 _ (by decide) (by simp), h1.2 58 _ (by decide) (by simp)]
      exact xt a a0 a1
theorem x_A_back {w w1 w2 : z_W} {m : Int} {S : pu_S} {h : Int} {V : pu_V} {N : Int} {L : Int → Int → Int} (X : x_A w m S h V N L) (h1 : z_fr [13, 35] [(12, 1), (14, 0), (32, 0), (34, 1)] w w1) (e0 : h = 0 → w1 = w) (e1 : h ≠ 0 → st_C w1 m (im_S V N L)) (h2 : z_fr [56, 57, 61, 62, 63] [(49, 21), (49, 22), (49, 30)] w1 w2) (g0 : h = 0 → w2 = w1) (g1 : h ≠ 0 → st_M w2 m (im_S V N L)) : ∃ S', x_A w2 m S' h V N L := by
  by_cases hh : h = 0
  · refine ⟨S, ?_⟩
    rw [g0 hh, e0 hh]
    exact X
  · exact ⟨im_S V N L, x_A_hand (-1) X (z_fr_mo h1 (by decide) (by decide)) (z_fr_mo h2 (by decide) (by decide)) (e1 hh) (g1 hh) (st_ok_im L X.2.2.1.2 hh X.2.2.1.1.1) (fun j j0 => by rw [ac_t_m _ j0]; exact h1.2 40 j (by decide) (by simp)) (fun j j0 => by rw [ac_t_m _ j0]; exact h2.2 58 j (by decide) (by simp))⟩
theorem x_A_map {w w1 w2 : z_W} {m : Int} {S : pu_S} {h : Int} {V : pu_V} {N : Int} {L : Int → Int → Int} {W : pu_V} {nm : Int → Int} (X : x_A w m S h V N L) (hW : pu_ok W) (hW2 : pu_nc W) (s1 : st_C w1 1 (mp_S W)) (i1 : z_I w1 2 12 = 0) (n1 : ∀ r, 0 ≤ r → r < 10 → z_I w1 10 (5 * r) = nm r) (t1 : ∀ j, z_I w1 40 j = z_I w 40 j) (m1 : ∀ p j, 0 ≤ j → xm_k p j → z_I w1 p j = z_I w p j) (c2 : ∀ p j, xc_k p j → z_I w2 p j = z_I w1 p j) (s2 : st_M w2 1 (mp_S W)) (i2 : z_I w2 49 38 = 0) (n2 : ∀ r, 0 ≤ r → r < 10 → z_I w2 60 r = nm r) (t2 : ∀ j, z_I w2 58 j = z_I w1 58 j) : x_A w2 1 (mp_S W) 0 V N L := by
  refine ⟨⟨st_C_e c2 s1, im_C_e c2 ⟨i1, fun q => absurd rfl q⟩⟩, ⟨s2, i2, fun q => absurd rfl q⟩, ⟨st_ok_mp hW hW2, Or.inl rfl, fun q => absurd rfl q⟩, fun r r0 r1 => ?_, fun a a0 a1 => ?_⟩
  · rw [c2 10 _ (by omega), n1 r r0 r1, n2 r r0 r1]
  · rw [c2 40 a (by omega), t1, t2, m1 58 a a0 (by omega)]
    exact X.2.2.2.2 a a0 a1
/-! texts, joined -/
theorem xc_y {w w' : z_W} (hl : z_lay w) (h : z_gw z_SY z_FY w w') : ∀ p j, xc_k p j → z_I w' p j = z_I w p j := by
  intro p j hk
  have hN := hl.2.2.2
  refine h.2.2.2 p j (by omega) ?_ ?_
  · simp only [List.mem_cons, List.not_mem_nil, or_false]; omega
  · simp only [List.mem_cons, List.not_mem_nil, or_false, Prod.mk.injEq]; omega
abbrev z_ma (T : Int → Int) (n : Int) : Prop := z_mp T n (n.toNat + 1) 0 (fun _ => 0) 0
def mp_W (T : Int → Int) (n : Int) : pu_V := mp_b (mp_r T n (n.toNat + 1) 0 (fun _ => 0) 0) mp_e
def mp_N (T : Int → Int) (n : Int) : Int → Int := mp_n T n (n.toNat + 1) 0 (fun _ => 0) 0
theorem mp_W_ok (T : Int → Int) (n : Int) : pu_ok (mp_W T n) := mp_b_ok mp_e_ok
theorem mp_W_nc (T : Int → Int) (n : Int) : pu_nc (mp_W T n) := mp_b_nc mp_e_nc
theorem x_textC {d w} {Q : z_P} {B n : Int} {T : Int → Int} (hl : z_lay w) (hI : z_IC w B) (hS : z_IS w) (ht : z_tc w T n) (a : Int) (k : ∀ w' z, z_gw z_SX z_FX w w' → z_IC w' B → z_IS w' → (a = 0 ∧ z_ma T n → z_I w' 3 1 = 0 ∧ z_I w' 2 4 = z_I w 2 4) → (a = 1 ∧ z_I w 2 4 < 4 ∧ z_sc2 T n 12 0 → z_I w' 3 1 = 0 ∧ z_I w' 2 4 = z_I w 2 4 + 1 ∧ sc_T w' (z_I w 2 4) T n) → (¬ (a = 0 ∧ z_ma T n) → ¬ (a = 1 ∧ z_I w 2 4 < 4 ∧ z_sc2 T n 12 0) → z_I w' 3 1 = n ∧ z_I w' 2 4 = z_I w 2 4) → (a = 0 ∧ z_ma T n → z = pu_cnt (mp_W T n) ∧ st_C w' 1 (mp_S (mp_W T n)) ∧ z_I w' 2 12 = 0 ∧ (∀ r, 0 ≤ r → r < 10 → z_I w' 10 (5 * r) = mp_N T n r) ∧ ∀ j, z_I w' 40 j = z_I w 40 j) → (¬ (a = 0 ∧ z_ma T n) → (∀ p j, xc_k p j → z_I w' p j = z_I w p j) ∧ (a = 1 ∧ z_I w 2 4 < 4 ∧ z_sc2 T n 12 0 → z = z_I w 2 4) ∧ (¬ (a = 1 ∧ z_I w 2 4 < 4 ∧ z_sc2 T n 12 0) → z = -1)) → Q (some (z_i z)) w') : z_G (d + 20) (2, 74) 123 0 [z_r 2, z_i a] [] w Q :=
  z_G_both (P1 := fun _ w' => z_gw z_SX z_FX w w' ∧ z_IC w' B ∧ z_IS w' ∧ (a = 0 ∧ z_ma T n → z_I w' 3 1 = 0 ∧ z_I w' 2 4 = z_I w 2 4) ∧ (a = 1 ∧ z_I w 2 4 < 4 ∧ z_sc2 T n 12 0 → z_I w' 3 1 = 0 ∧ z_I w' 2 4 = z_I w 2 4 + 1 ∧ sc_T w' (z_I w 2 4) T n) ∧ (¬ (a = 0 ∧ z_ma T n) → ¬ (a = 1 ∧ z_I w 2 4 < 4 ∧ z_sc2 T n 12 0) → z_I w' 3 1 = n ∧ z_I w' 2 4 = z_I w 2 4)) (P2 := fun r w' => ∃ z, r = some (z_i z) ∧ (a = 0 ∧ z_ma T n → z = pu_cnt (mp_W T n) ∧ st_C w' 1 (mp_S (mp_W T n)) ∧ z_I w' 2 12 = 0 ∧ (∀ r, 0 ≤ r → r < 10 → z_I w' 10 (5 * r) = mp_N T n r) ∧ ∀ j, z_I w' 40 j = z_I w 40 j) ∧ (¬ (a = 0 ∧ z_ma T n) → (∀ p j, xc_k p j → z_I w' p j = z_I w p j) ∧ (a = 1 ∧ z_I w 2 4 < 4 ∧ z_sc2 T n 12 0 → z = z_I w 2 4) ∧ (¬ (a = 1 ∧ z_I w 2 4 < 4 ∧ z_sc2 T n 12 0) → z = -1))) (c_textCV hl hI hS ht a (fun w' _ h1 h2 h3 h4 h5 h6 => ⟨h1, h2, h3, h4, h5, h6⟩)) (ex_textC hl hI.1 hS hI.2.2.2.2.1.2.1 ht a (fun q1 q2 w' h1 h2 h3 h4 => ⟨_, rfl, fun _ => ⟨rfl, h2, h3, h4, fun j => h1.2 40 j (by decide) (by simp)⟩, fun q => absurd ⟨q1, q2⟩ q⟩) (fun q w' z h1 h2 h3 => ⟨z, rfl, fun x => absurd x q, fun _ => ⟨xc_y hl h1, h2, h3⟩⟩)) (fun r w' p1 p2 => by
    obtain ⟨h1, h2, h3, h4, h5, h6⟩ := p1
    obtain ⟨z, e, g1, g2⟩ := p2
    subst e
    exact k w' z h1 h2 h3 h4 h5 h6 g1 g2)
theorem x_text0 {d u w} {Q : z_P} (hl : z_lay w) (hI : z_IM w) (hT : z_IT w) (k : ∀ w' z, z_fr z_SU z_FT w w' → z_IM w' → z_I w' 49 11 = z_I w 49 11 → (z_ma (z_I w 50) (z_I w 49 2) → z_I w' 49 2 = 0) → (¬ z_ma (z_I w 50) (z_I w 49 2) → z_I w' 49 2 = z_I w 49 2) → (z_ma (z_I w 50) (z_I w 49 2) → z = pu_cnt (mp_W (z_I w 50) (z_I w 49 2)) ∧ st_M w' 1 (mp_S (mp_W (z_I w 50) (z_I w 49 2))) ∧ z_I w' 49 38 = 0 ∧ ∀ r, 0 ≤ r → r < 10 → z_I w' 60 r = mp_N (z_I w 50) (z_I w 49 2) r) → (¬ z_ma (z_I w 50) (z_I w 49 2) → (∀ p j, 0 ≤ j → xm_k p j → z_I w' p j = z_I w p j) ∧ z = -1) → Q (some (z_i z)) w') : z_G (d + 6) u 226 0 [z_r 49, z_i 0] [] w Q :=
  z_G_both (P1 := fun _ w' => z_fr z_SU z_FT w w' ∧ z_IM w' ∧ z_I w' 49 11 = z_I w 49 11 ∧ (z_ma (z_I w 50) (z_I w 49 2) → z_I w' 49 2 = 0) ∧ (¬ z_ma (z_I w 50) (z_I w 49 2) → z_I w' 49 2 = z_I w 49 2)) (P2 := fun r w' => ∃ z, r = some (z_i z) ∧ (z_ma (z_I w 50) (z_I w 49 2) → z = pu_cnt (mp_W (z_I w 50) (z_I w 49 2)) ∧ st_M w' 1 (mp_S (mp_W (z_I w 50) (z_I w 49 2))) ∧ z_I w' 49 38 = 0 ∧ ∀ r, 0 ≤ r → r < 10 → z_I w' 60 r = mp_N (z_I w 50) (z_I w 49 2) r) ∧ (¬ z_ma (z_I w 50) (z_I w 49 2) → (∀ p j, 0 ≤ j → xm_k p j → z_I w' p j = z_I w p j) ∧ z = -1)) (c_text0V hl hI hT (fun w' _ h1 h2 h3 h4 h5 => ⟨h1, h2, h3, h4, h5⟩)) (ex_text0 hl hI hT (fun q w' h1 h2 h3 h4 => ⟨_, rfl, fun _ => ⟨rfl, h2, h3, h4⟩, fun x => absurd q x⟩) (fun q w' h1 => ⟨_, rfl, fun x => absurd x q, fun _ => ⟨fun p j _ hk => h1.2 p j (by simp only [List.mem_cons, List.not_mem_nil, or_false]; omega) (by simp only [List.mem_cons, List.not_mem_nil, or_false, Prod.mk.injEq]; omega), rfl⟩⟩)) (fun r w' p1 p2 => by
    obtain ⟨h1, h2, h3, h4, h5⟩ := p1
    obtain ⟨z, e, g1, g2⟩ := p2
    subst e
    exact k w' z h1 h2 h3 h4 h5 g1 g2)
theorem x_text1 {d u w} {Q : z_P} (hl : z_lay w) (hI : z_IM w) (hT : z_IT w) (k : ∀ w' z, z_fr z_ST z_FT w w' → z_IM w' → ((z_I w 49 11 < 4 ∧ z_sc2 (z_I w 50) (z_I w 49 2) 12 0) → z_I w' 49 2 = 0 ∧ z_I w' 49 11 = z_I w 49 11 + 1) → (¬ (z_I w 49 11 < 4 ∧ z_sc2 (z_I w 50) (z_I w 49 2) 12 0) → z_I w' 49 2 = z_I w 49 2 ∧ z_I w' 49 11 = z_I w 49 11) → (∀ t, t < z_I w 49 11 → z_I w' 55 t = z_I w 55 t) → (∀ j, j < 72 * z_I w 49 11 → z_I w' 54 j = z_I w 54 j) → ((z_I w 49 11 < 4 ∧ z_sc2 (z_I w 50) (z_I w 49 2) 12 0) → z_rows (fun j => z_I w' 54 (72 * z_I w 49 11 + j)) (z_sv (z_I w 50) (z_I w 49 2) 12 0) 0 ∧ z_I w' 55 (z_I w 49 11) = (z_sv (z_I w 50) (z_I w 49 2) 12 0).length) → (∀ p j, 0 ≤ j → xm_k p j → z_I w' p j = z_I w p j) → ((z_I w 49 11 < 4 ∧ z_sc2 (z_I w 50) (z_I w 49 2) 12 0) → z = z_I w 49 11) → (¬ (z_I w 49 11 < 4 ∧ z_sc2 (z_I w 50) (z_I w 49 2) 12 0) → z = -1) → Q (some (z_i z)) w') : z_G (d + 6) u 226 0 [z_r 49, z_i 1] [] w Q :=
  z_G_both (P1 := fun _ w' => z_fr z_ST z_FT w w' ∧ z_IM w' ∧ ((z_I w 49 11 < 4 ∧ z_sc2 (z_I w 50) (z_I w 49 2) 12 0) → z_I w' 49 2 = 0 ∧ z_I w' 49 11 = z_I w 49 11 + 1) ∧ (¬ (z_I w 49 11 < 4 ∧ z_sc2 (z_I w 50) (z_I w 49 2) 12 0) → z_I w' 49 2 = z_I w 49 2 ∧ z_I w' 49 11 = z_I w 49 11) ∧ (∀ t, t < z_I w 49 11 → z_I w' 55 t = z_I w 55 t) ∧ (∀ j, j < 72 * z_I w 49 11 → z_I w' 54 j = z_I w 54 j) ∧ ((z_I w 49 11 < 4 ∧ z_sc2 (z_I w 50) (z_I w 49 2) 12 0) → z_rows (fun j => z_I w' 54 (72 * z_I w 49 11 + j)) (z_sv (z_I w 50) (z_I w 49 2) 12 0) 0 ∧ z_I w' 55 (z_I w 49 11) = (z_sv (z_I w 50) (z_I w 49 2) 12 0).length)) (P2 := fun r w' => ∃ z, r = some (z_i z) ∧ (∀ p j, 0 ≤ j → xm_k p j → z_I w' p j = z_I w p j) ∧ ((z_I w 49 11 < 4 ∧ z_sc2 (z_I w 50) (z_I w 49 2) 12 0) → z = z_I w 49 11) ∧ (¬ (z_I w 49 11 < 4 ∧ z_sc2 (z_I w 50) (z_I w 49 2) 12 0) → z = -1)) (c_text1V hl hI hT (fun w' _ h1 h2 h3 h4 h5 h6 h7 => ⟨h1, h2, h3, h4, h5, h6, h7⟩)) (ex_text1 hl hI hT (fun w' z h1 h2 h3 => ⟨z, rfl, fun p j _ hk => h1.2 p j (by simp only [List.mem_cons, List.not_mem_nil, or_false]; omega) (by simp only [List.mem_cons, List.not_mem_nil, or_false, Prod.mk.injEq]; omega), h2, h3⟩)) (fun r w' p1 p2 => by
    obtain ⟨h1, h2, h3, h4, h5, h6, h7⟩ := p1
    obtain ⟨z, e, g1, g2, g3⟩ := p2
    subst e
    exact k w' z h1 h2 h3 h4 h5 h6 h7 g1 g2 g3)
theorem x_statusC {d u w} {Q : z_P} (hl : z_lay w) (hR : x_R w) (a : Int) (k : Q (some (z_i (if 0 ≤ a ∧ a ≤ 3 then z_I w 58 a else -1))) w) : z_G (d + 20) u 146 0 [z_r 2, z_i a] [] w Q := by
  refine ex_statusC hl a ?_
  have e : (if 0 ≤ a ∧ a ≤ 3 then z_I w 40 a else -1) = (if 0 ≤ a ∧ a ≤ 3 then z_I w 58 a else -1) := by
    split
    · rename_i q
      exact hR.2 a q.1 q.2
    · rfl
  rw [e]
  exact k
theorem x_countC {d u w} {Q : z_P} {m : Int} {S : pu_S} (hl : z_lay w) (hS : st_C w m S) (hk : st_ok m S) (e1 : z_I w 49 11 = z_I w 2 4) (e2 : z_I w 3 1 = z_I w 49 2) (a : Int) (k : Q (some (z_i (ct_z m S (z_I w 49 11) (z_I w 49 2) a))) w) : z_G (d + 20) u 165 0 [z_r 2, z_i a] [] w Q := by
  refine ex_countC hl hS hk a ?_
  rw [← e1, e2]
  exact k
