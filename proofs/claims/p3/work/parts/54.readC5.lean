/-- what a reading leaves: the place alone -/
def z_ace (w w' : z_W) (n : Int) (o : Option Int) : Prop := 0 ≤ z_I w' 5 5 ∧ z_I w' 5 5 ≤ n ∧ (z_I w 5 6 ≠ -1 → z_I w' 5 6 ≠ -1) ∧ (z_I w 5 6 = -1 → (∀ q, o = some q → z_I w' 5 5 = q ∧ z_I w' 5 6 = -1) ∧ (o = none → z_I w' 5 6 ≠ -1))
theorem z_rec_acc {w w' : z_W} {n z : Int} {o : Option (Int × Int)} (h : z_rec w w' n z o) : z_ace w w' n (o.map Prod.snd) := by
  refine ⟨h.1, h.2.1, h.2.2.1, fun c => ⟨fun q e => ?_, fun e => ?_⟩⟩
  · cases o with
    | none => exact absurd e (by simp)
    | some p =>
      obtain ⟨v, q'⟩ := p
      simp only [Option.map_some, Option.some.injEq] at e
      have := (h.2.2.2 c).1 v q' rfl
      exact ⟨this.2.1.trans e, this.2.2⟩
  · cases o with
    | none => exact (h.2.2.2 c).2 rfl
    | some p => exact absurd e (by simp)
theorem z_ace_bind {w w1 w2 : z_W} {n : Int} {o : Option Int} {o2 : Int → Option Int} (h : z_ace w w1 n o) (h2 : z_ace w1 w2 n (o2 (z_I w1 5 5))) : z_ace w w2 n (o.bind o2) := by
  refine ⟨h2.1, h2.2.1, fun c => h2.2.2.1 (h.2.2.1 c), fun c => ?_⟩
  cases o with
  | none => exact ⟨fun q e => absurd e (by simp), fun _ => h2.2.2.1 ((h.2.2.2 c).2 rfl)⟩
  | some q =>
    have r := (h.2.2.2 c).1 q rfl
    have s := h2.2.2.2 r.2
    rw [r.1] at s
    exact s
/-- the place alone in place of the state -/
theorem z_ace_mv {w w1 w1' w2 : z_W} {n : Int} {o : Option Int} (e3 : z_I w1' 5 5 = z_I w1 5 5) (e4 : z_I w1' 5 6 = z_I w1 5 6) (h : z_ace w w1 n o) : z_ace w w1' n o := by
  unfold z_ace at h ⊢
  rw [e3, e4]; exact h
theorem z_ace_mv0 {w w' w1 : z_W} {n : Int} {o : Option Int} (e4 : z_I w' 5 6 = z_I w 5 6) (h : z_ace w w1 n o) : z_ace w' w1 n o := by
  unfold z_ace at h ⊢
  rw [e4]; exact h
theorem z_ace_rf {w : z_W} {n : Int} (h0 : 0 ≤ z_I w 5 5) (h1 : z_I w 5 5 ≤ n) : z_ace w w n (some (z_I w 5 5)) :=
  ⟨h0, h1, fun c => c, fun c => ⟨fun q e => ⟨by simpa using e, c⟩, fun e => absurd e (by simp)⟩⟩
theorem c_readNumberP {d u w} {Q : z_P} {T : Int → Int} {n : Int} (hl : z_lay w) (ht : z_tc w T n) (h0 : 0 ≤ z_I w 5 5) (h1 : z_I w 5 5 ≤ n) (hi : Int) (hh : hi ≠ -1) (k : ∀ w' z, z_fr [] [(5, 5), (5, 6)] w w' → z_lay w' → z_tc w' T n → z_ace w w' n (z_p1 T n hi (z_I w 5 5)) → Q (some (z_i z)) w') : z_G (d + 1) u 84 0 [z_r 5, z_i hi, z_x] [] w Q :=
  c_readNumber hl ht h0 h1 hi (fun w' z hf hr => k w' z hf (z_fr_lay hf hl) (z_tc_fr hf (by decide) (by decide) ht) (by rw [z_p1_nu hh]; exact z_rec_acc hr))
theorem c_readSignedP {d u w} {Q : z_P} {T : Int → Int} {n : Int} (hl : z_lay w) (ht : z_tc w T n) (h0 : 0 ≤ z_I w 5 5) (h1 : z_I w 5 5 ≤ n) (k : ∀ w' z, z_fr [] [(5, 5), (5, 6)] w w' → z_lay w' → z_tc w' T n → z_ace w w' n (z_p1 T n (-1) (z_I w 5 5)) → Q (some (z_i z)) w') : z_G (d + 2) u 83 0 [z_r 5] [] w Q :=
  c_readSigned hl ht h0 h1 (fun w' z hf hr => k w' z hf (z_fr_lay hf hl) (z_tc_fr hf (by decide) (by decide) ht) (by rw [z_p1_sn]; exact z_rec_acc hr))
theorem c_readCommaP {d u w} {Q : z_P} {T : Int → Int} {n : Int} (hl : z_lay w) (ht : z_tc w T n) (h0 : 0 ≤ z_I w 5 5) (h1 : z_I w 5 5 ≤ n) (k : ∀ w', z_fr [] [(5, 5), (5, 6)] w w' → z_lay w' → z_tc w' T n → z_ace w w' n (z_co T n (z_I w 5 5)) → Q none w') : z_G (d + 1) u 82 0 [z_r 5] [] w Q :=
  c_readComma hl ht h0 h1 (fun w' hf hr => k w' hf (z_fr_lay hf hl) (z_tc_fr hf (by decide) (by decide) ht) (by have := z_rec_acc hr; rw [z_co_snd] at this; exact this))
