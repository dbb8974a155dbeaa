/-! the entry: what the tables say, the world before the law -/
theorem z_inst : ∀ (ci : Nat) (C : String) (T : u_T) (N : Nat), z_cls[ci]? = some (C, T, N) → ∃ n, Cond.instantiable C n ∈ z_TB := by
  intro ci C T N h
  match ci, h with
  | 0, h => cases h; exact ⟨7, by decide +kernel⟩
  | 1, h => cases h; exact ⟨2, by decide +kernel⟩
  | 2, h => cases h; exact ⟨1, by decide +kernel⟩
  | 3, h => cases h; exact ⟨2, by decide +kernel⟩
  | 4, h => cases h; exact ⟨5, by decide +kernel⟩
  | 5, h => cases h; exact ⟨3, by decide +kernel⟩
  | 6, h => cases h; exact ⟨2, by decide +kernel⟩
  | 7, h => cases h; exact ⟨7, by decide +kernel⟩
  | 8, h => cases h; exact ⟨11, by decide +kernel⟩
  | 9, h => cases h; exact ⟨2, by decide +kernel⟩
  | 10, h => cases h; exact ⟨2, by decide +kernel⟩
  | 11, h => cases h; exact ⟨19, by decide +kernel⟩
  | 12, h => cases h; exact ⟨39, by decide +kernel⟩
  | k + 13, h => simp [z_cls] at h
theorem z_K_of {s : State} {args : Array Value} (hts : ∀ w ∈ lw_tbl, w.before args s = true) : ∃ (D : va_G) (C : z_C3), va_K D z_cls [(C.1, .int), (C.2.1, .long), (C.2.2, .object "SlabMap$Steps")] s := by
  have hTB : ∀ w ∈ z_TB, w.before args s = true := fun w hw => hts w (List.mem_filter.mp hw).1
  have H : ∀ k : Nat, ∃ d : ClassId × (Nat → Nat), ∀ q : vw_C, z_cls[k]? = some q → u_Kn s q.1 q.2.1 q.2.2 d.1 d.2 := by
    intro k
    cases hq : z_cls[k]? with
    | none => exact ⟨(0, fun _ => 0), fun q h => by cases h⟩
    | some q =>
      obtain ⟨C, T, N⟩ := q
      obtain ⟨n, hn⟩ := z_inst k C T N hq
      obtain ⟨c, i, h⟩ := u_known hTB (z_clf k C T N hq).1 (hTB _ hn)
      exact ⟨(c, i), fun q h2 => by cases h2; exact h⟩
  have hI : (Cond.arrayClass .int).before args s = true := hts _ (by decide +kernel)
  have hJ : (Cond.arrayClass .long).before args s = true := hts _ (by decide +kernel)
  have hS : (Cond.arrayOver (.object "SlabMap$Steps")).before args s = true := hts _ (by decide +kernel)
  obtain ⟨cI, kI, pI, i1, i2, i3⟩ := Cond.arrayClass_spec hI
  obtain ⟨cJ, kJ, pJ, j1, j2, j3⟩ := Cond.arrayClass_spec hJ
  obtain ⟨pS, cS, kS, s1, s2, s3, s4, s5⟩ := Cond.arrayOver_spec hS
  refine ⟨(fun k => (Classical.choose (H k)).1, fun k => (Classical.choose (H k)).2), (cI, cJ, cS), fun k q hq => Classical.choose_spec (H k) q hq, fun k q hq => ?_⟩
  match k, hq with
  | 0, hq => cases hq; exact ⟨fun n z => ⟨fun k h => (by cases h), kI, i2, pI, i3⟩, i1⟩
  | 1, hq => cases hq; exact ⟨fun n z => ⟨fun k h => (by cases h), kJ, j2, pJ, j3⟩, j1⟩
  | 2, hq => cases hq; exact ⟨fun n z => ⟨fun k h => (by cases h), kS, s3, pS, s4⟩, kS, pS, s3, s4, s1, s5⟩
  | k + 3, hq => simp at hq
def z_s0 (xs : Nat → Int32) : Int → Int := fun j => (xs j.toNat).toInt
def z_W0 (L : Nat) (xs : Nat → Int32) : z_W := (z_g0 (z_s0 xs), fun _ _ => none, fun p => if p = 0 then (103, (L : Int)) else (103, 4), 2)
theorem z_at_W0 (L : Nat) (xs : Nat → Int32) : z_at (z_W0 L xs) 2 [(1, 103, 4), (0, 103, (L : Int))] [] [] [] (z_s0 xs) := by
  refine ⟨rfl, Nat.le_refl _, fun e he => ?_, fun e he => absurd he List.not_mem_nil, fun e he => absurd he List.not_mem_nil, fun p hp => absurd hp List.not_mem_nil, fun p j _ _ => rfl⟩
  simp only [List.mem_cons, List.not_mem_nil, or_false] at he
  rcases he with rfl | rfl
  · exact ⟨by decide, rfl, rfl⟩
  · exact ⟨Nat.zero_lt_two, rfl, rfl⟩
theorem z_rg_rl {z : Int} (h : z_rg z) : z_rl z := by unfold z_rl; unfold z_rg at h; omega
theorem z_rg_xs (x : Int32) : z_rg x.toInt := by
  have h1 := Int32.le_toInt x
  have h2 := Int32.toInt_lt x
  unfold z_rg
  omega
theorem z_vals_W0 {L : Nat} {xs : Nat → Int32} (hL : L ≤ 3584) : z_vals (z_W0 L xs) := by
  have h : ∀ p j, z_rg (z_I (z_W0 L xs) p j) := by
    intro p j
    show z_rg (z_g0 (z_s0 xs) p j)
    unfold z_g0
    split
    · exact z_rg_xs _
    · split
      · split
        · (unfold z_rg; decide)
        · split
          · (unfold z_rg; decide)
          · split
            · (unfold z_rg; decide)
            · split <;> (unfold z_rg; decide)
      · (unfold z_rg; decide)
  refine ⟨fun p j => ⟨z_rg_rl (h p j), fun _ => h p j⟩, fun p j q e => (by cases e), fun p hp => ?_, Nat.le_refl _, fun p h2 hp => absurd hp (Nat.not_lt.mpr h2)⟩
  show 0 ≤ ((if p = 0 then (103, (L : Int)) else (103, 4) : Nat × Int)).2 ∧ ((if p = 0 then (103, (L : Int)) else (103, 4) : Nat × Int)).2 ≤ 2147483647
  split
  · simp only; omega
  · decide
