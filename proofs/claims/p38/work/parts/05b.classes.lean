/-! fields, arrays, what is made -/
theorem z_clf : ∀ (ci : Nat) (C : String) (T : u_T) (N : Nat), z_cls[ci]? = some (C, T, N) → (∀ w ∈ u_ws C T N, w ∈ z_TB) ∧ (∀ k, k < N → parseFieldDescriptor (T k).2.2.1 = some (z_ty ci k)) ∧ (∀ a, a < N → ∀ b, b < N → a ≠ b → (T a).2.1 ≠ (T b).2.1) ∧ z_nf ci = N ∧ ci < 13 ∧ (∀ k, k < N → (T k).1 = C) := by
  intro ci C T N h
  match ci, h with
  | 0, h => cases h; exact ⟨by decide +kernel, tyX0_ok, nmX0, rfl, by decide, by decide⟩
  | 1, h => cases h; exact ⟨by decide +kernel, tyX1_ok, nmX1, rfl, by decide, by decide⟩
  | 2, h => cases h; exact ⟨by decide +kernel, tyX2_ok, nmX2, rfl, by decide, by decide⟩
  | 3, h => cases h; exact ⟨by decide +kernel, tyX3_ok, nmX3, rfl, by decide, by decide⟩
  | 4, h => cases h; exact ⟨by decide +kernel, tyX4_ok, nmX4, rfl, by decide, by decide⟩
  | 5, h => cases h; exact ⟨by decide +kernel, tyX5_ok, nmX5, rfl, by decide, by decide⟩
  | 6, h => cases h; exact ⟨by decide +kernel, tyX6_ok, nmX6, rfl, by decide, by decide⟩
  | 7, h => cases h; exact ⟨by decide +kernel, tyX7_ok, nmX7, rfl, by decide, by decide⟩
  | 8, h => cases h; exact ⟨by decide +kernel, tyX8_ok, nmX8, rfl, by decide, by decide⟩
  | 9, h => cases h; exact ⟨by decide +kernel, tyX9_ok, nmX9, rfl, by decide, by decide⟩
  | 10, h => cases h; exact ⟨by decide +kernel, tyX10_ok, nmX10, rfl, by decide, by decide⟩
  | 11, h => cases h; exact ⟨by decide +kernel, tyX11_ok, nmX11, rfl, by decide, by decide⟩
  | 12, h => cases h; exact ⟨by decide +kernel, tyX12_ok, nmX12, rfl, by decide, by decide⟩
  | n + 13, h => simp [z_cls] at h
theorem z_tyk : ∀ ci, ci < 13 → ∀ j, j < z_nf ci → z_ty ci j = .int ∨ z_ty ci j = .boolean ∨ z_ty ci j = .long ∨ ((∃ n, z_ty ci j = .object n) ∨ ∃ u, z_ty ci j = .array u) := by
  have h : ∀ ci, ci < 13 → ∀ j, j < z_nf ci → (match z_ty ci j with | .int | .boolean | .long | .object _ | .array _ => true | _ => false) = true := by decide +kernel
  intro ci hci j hj
  have := h ci hci j hj
  cases hq : z_ty ci j <;> rw [hq] at this <;> simp_all
