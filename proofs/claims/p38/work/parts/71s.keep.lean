/-! the scripts stay alike -/
theorem z_st_fr2 {w w' : z_W} {p q : Nat} {S : List Nat} {F : List (Nat × Int)} (h : z_fr S F w w') : z_st w' p q ↔ z_st w p q := by
  unfold z_st z_k z_R z_len; rw [h.1]
theorem sc_R_ge {S : List Nat} {F : List (Nat × Int)} {w w' : z_W} (h : z_gw S F w w') (hl : z_lay w) (hS : z_IS w) (hlow : z_low S F) (e24 : z_I w' 2 4 = z_I w 2 4) (e11 : z_I w' 49 11 = z_I w 49 11) (e55 : ∀ t, 0 ≤ t → t < z_I w 2 4 → z_I w' 55 t = z_I w 55 t) (e54 : ∀ t j, 0 ≤ t → t < z_I w 2 4 → 0 ≤ j → j < 6 * z_I w 55 t → z_I w' 54 (72 * t + j) = z_I w 54 (72 * t + j)) (hR : sc_R w) : sc_R w' := by
  have h4 := hl.2.2.2
  refine ⟨by rw [e24, e11]; exact hR.1, fun t p q t0 t1 hp hst => ?_⟩
  rw [e24] at t1
  rw [h.2.2.1 11 t (by omega) (fun _ => by omega)] at hp
  obtain ⟨p', q', g1, g2, g3, g4, g5⟩ := hS.2 t t0 t1
  have e1 : p = p' := by rw [g1] at hp; exact (Option.some.inj hp).symm
  subst e1
  have e2 : q = q' := by
    have x := hst.2.1
    rw [h.2.2.1 p 0 g4.2 (fun e => by omega), g2.2.1] at x
    exact (Option.some.inj x).symm
  subst e2
  obtain ⟨r1, r2⟩ := hR.2 t p q t0 t1 hp g2
  have ep : z_I w' p 1 = z_I w p 1 := h.2.2.2 p 1 g4.2 (fun x => by have := hlow.1 _ x; omega) (fun x => by have := hlow.2 _ x; simp only at this; omega)
  have eq : ∀ j, z_I w' q j = z_I w q j := fun j => h.2.2.2 q j g5.2 (fun x => by have := hlow.1 _ x; omega) (fun x => by have := hlow.2 _ x; simp only at this; omega)
  rw [e55 t t0 t1, ep]
  exact ⟨r1, fun j j0 j1 => by rw [eq, e54 t j t0 t1 j0 j1]; exact r2 j j0 j1⟩
theorem sc_R_gw {S : List Nat} {F : List (Nat × Int)} {w w' : z_W} (h : z_gw S F w w') (hl : z_lay w) (hS : z_IS w) (hlow : z_low S F) (s : 54 ∉ S ∧ 55 ∉ S) (f : ∀ q ∈ F, q.1 ≠ 54 ∧ q.1 ≠ 55) (e24 : z_I w' 2 4 = z_I w 2 4) (e11 : z_I w' 49 11 = z_I w 49 11) (hR : sc_R w) : sc_R w' :=
  sc_R_ge h hl hS hlow e24 e11 (fun t _ _ => h.2.2.2 55 t (by have := hl.2.2.2; omega) s.2 (fun x => (f _ x).2 rfl)) (fun t j _ _ _ _ => h.2.2.2 54 _ (by have := hl.2.2.2; omega) s.1 (fun x => (f _ x).1 rfl)) hR
theorem sc_R_flt {w w' : z_W} (h : z_fr [51, 52, 53, 54, 55] [(49, 3), (49, 4), (49, 8)] w w') (hl : z_lay w) (hS : z_IS w) (h12 : ∀ n, 0 ≤ n → n ≤ 4 → 0 ≤ z_I w 55 n ∧ z_I w 55 n ≤ 12) (v55 : ∀ t, t < 4 → z_I w' 55 t = z_I w 55 t) (v54 : ∀ j, j < 288 → z_I w' 54 j = z_I w 54 j) (hR : sc_R w) : sc_R w' := by
  have h4 := hS.1
  refine sc_R_ge (z_gw_of h) hl hS (by decide) (h.2 2 4 (by decide) (by decide)) (h.2 49 11 (by decide) (by decide)) (fun t t0 t1 => v55 t (by omega)) (fun t j t0 t1 j0 j1 => v54 _ ?_) hR
  have := h12 t t0 (by omega)
  omega
theorem sc_R_new {w w1 w2 : z_W} {T : Int → Int} {n : Int} (hl : z_lay w) (hS : z_IS w) (hR : sc_R w) (h1 : z_gw z_SX z_FX w w1) (hS1 : z_IS w1) (h2 : z_fr z_ST z_FT w1 w2) (e24 : z_I w1 2 4 = z_I w 2 4 + 1) (e11 : z_I w2 49 11 = z_I w 49 11 + 1) (hT : sc_T w1 (z_I w 2 4) T n) (o55 : ∀ t, t < z_I w 49 11 → z_I w2 55 t = z_I w1 55 t) (o54 : ∀ j, j < 72 * z_I w 49 11 → z_I w2 54 j = z_I w1 54 j) (hv : z_rows (fun j => z_I w2 54 (72 * z_I w 49 11 + j)) (z_sv T n 12 0) 0 ∧ z_I w2 55 (z_I w 49 11) = (z_sv T n 12 0).length) (h12 : ∀ t, 0 ≤ t → t ≤ 4 → z_I w 55 t ≤ 12) : sc_R w2 := by
  have h4 := hl.2.2.2
  have lowS : ∀ p ∈ z_SX, p < 49 := by decide
  have lowF : ∀ q ∈ z_FX, q.1 < 49 := by decide
  have lowS2 : ∀ p ∈ z_ST, 49 ≤ p ∧ p < 77 := by decide
  have lowF2 : ∀ q ∈ z_FT, 49 ≤ q.1 ∧ q.1 < 77 := by decide
  have f24 : z_I w2 2 4 = z_I w1 2 4 := h2.2 2 4 (by decide) (by decide)
  have hR2 : ∀ p j, z_R w2 p j = z_R w1 p j := fun p j => by unfold z_R; rw [h2.1]
  have hs4 := hS.1
  refine ⟨by rw [f24, e24, e11, hR.1], fun t p q t0 t1 hp hst => ?_⟩
  rw [f24, e24] at t1
  rw [hR2] at hp
  rw [z_st_fr2 h2] at hst
  have hq2 : ∀ r j, 77 ≤ r → z_I w2 r j = z_I w1 r j := fun r j hr => h2.2 r j (fun x => by have := lowS2 _ x; omega) (fun x => by have := lowF2 _ x; simp only at this; omega)
  by_cases c : t = z_I w 2 4
  · rw [c] at hp ⊢
    obtain ⟨v1, v2⟩ := hv
    rw [hR.1] at v1 v2
    obtain ⟨u1, u2⟩ := hT p q hp hst
    obtain ⟨p', q', g1, g2, g3, g4, g5⟩ := hS1.2 (z_I w 2 4) (by omega) (by omega)
    have e1 : p = p' := by rw [g1] at hp; exact (Option.some.inj hp).symm
    subst e1
    have e2 : q = q' := by
      have x := hst.2.1
      rw [g2.2.1] at x
      exact (Option.some.inj x).symm
    subst e2
    rw [hq2 p 1 g4.1, v2]
    refine ⟨u1, fun j j0 j1 => ?_⟩
    rw [hq2 q j g5.1]
    exact z_rows_un u2 v1 j (by omega) (by omega)
  · obtain ⟨p', q', g1, g2, g3, g4, g5⟩ := hS.2 t t0 (by omega)
    rw [h1.2.2.1 11 t (by omega) (fun _ => c)] at hp
    have e1 : p = p' := by rw [g1] at hp; exact (Option.some.inj hp).symm
    subst e1
    have e2 : q = q' := by
      have x := hst.2.1
      rw [h1.2.2.1 p 0 g4.2 (fun e => by omega), g2.2.1] at x
      exact (Option.some.inj x).symm
    subst e2
    obtain ⟨r1, r2⟩ := hR.2 t p q t0 (by omega) g1 g2
    have k55 : z_I w2 55 t = z_I w 55 t := (o55 t (by rw [hR.1]; omega)).trans (h1.2.2.2 55 t (by omega) (by decide) (by simp))
    have hb := h12 t t0 (by omega)
    rw [k55, hq2 p 1 g4.1, h1.2.2.2 p 1 g4.2 (fun x => by have := lowS _ x; omega) (fun x => by have := lowF _ x; simp only at this; omega)]
    refine ⟨r1, fun j j0 j1 => ?_⟩
    rw [hq2 q j g5.1, h1.2.2.2 q j g5.2 (fun x => by have := lowS _ x; omega) (fun x => by have := lowF _ x; simp only at this; omega), o54 _ (by rw [hR.1]; omega), h1.2.2.2 54 _ (by omega) (by decide) (by simp)]
    exact r2 j j0 j1
