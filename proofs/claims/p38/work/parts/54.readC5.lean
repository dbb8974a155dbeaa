/-- what a reading leaves: the place alone -/
def z_ace (w w' : z_W) (n : Int) (o : Int ⊕ Int) : Prop := 0 ≤ z_I w' 5 5 ∧ z_I w' 5 5 ≤ n ∧ (z_I w 5 6 ≠ -1 → z_I w' 5 6 = z_I w 5 6) ∧ (z_I w 5 6 = -1 → (∀ q, o = .inr q → z_I w' 5 5 = q ∧ z_I w' 5 6 = -1) ∧ ∀ e, o = .inl e → z_I w' 5 6 = e ∧ 0 ≤ e)
theorem z_rec_acc {w w' : z_W} {n z : Int} {o : Int ⊕ (Int × Int)} (h : z_rec w w' n z o) : z_ace w w' n (z_sd o) := by
  refine ⟨h.1, h.2.1, h.2.2.1, fun c => ⟨fun q e => ?_, fun e h' => ?_⟩⟩
  · cases o with
    | inl e' => exact z_qlr e
    | inr p =>
      obtain ⟨v, q'⟩ := p
      have e : (Sum.inr q' : Int ⊕ Int) = .inr q := e
      cases e
      have := (h.2.2.2 c).1 v _ rfl
      exact ⟨this.2.1, this.2.2⟩
  · cases o with
    | inl e' => cases h'; exact (h.2.2.2 c).2 _ rfl
    | inr p => exact z_qrl h'
theorem z_ace_bind {w w1 w2 : z_W} {n : Int} {o : Int ⊕ Int} {o2 : Int → Int ⊕ Int} (h : z_ace w w1 n o) (h2 : z_ace w1 w2 n (o2 (z_I w1 5 5))) : z_ace w w2 n (z_bn o o2) := by
  refine ⟨h2.1, h2.2.1, fun c => ?_, fun c => ?_⟩
  · have e := h.2.2.1 c
    exact (h2.2.2.1 (by rw [e]; exact c)).trans e
  · cases o with
    | inl e' =>
      have r := (h.2.2.2 c).2 _ rfl
      exact ⟨fun q e => z_qlr e, fun e h' => by cases h'; exact ⟨(h2.2.2.1 (by omega)).trans r.1, r.2⟩⟩
    | inr q =>
      have r := (h.2.2.2 c).1 q rfl
      have s := h2.2.2.2 r.2
      rw [r.1] at s
      exact s
/-- the place alone in place of the state -/
theorem z_ace_mv {w w1 w1' w2 : z_W} {n : Int} {o : Int ⊕ Int} (e3 : z_I w1' 5 5 = z_I w1 5 5) (e4 : z_I w1' 5 6 = z_I w1 5 6) (h : z_ace w w1 n o) : z_ace w w1' n o := by
  unfold z_ace at h ⊢
  rw [e3, e4]; exact h
theorem z_ace_mv0 {w w' w1 : z_W} {n : Int} {o : Int ⊕ Int} (e4 : z_I w' 5 6 = z_I w 5 6) (h : z_ace w w1 n o) : z_ace w' w1 n o := by
  unfold z_ace at h ⊢
  rw [e4]; exact h
theorem z_ace_rf {w : z_W} {n : Int} (h0 : 0 ≤ z_I w 5 5) (h1 : z_I w 5 5 ≤ n) : z_ace w w n (.inr (z_I w 5 5)) :=
  ⟨h0, h1, fun _ => rfl, fun c => ⟨fun q e => by cases e; exact ⟨rfl, c⟩, fun e h => z_qrl h⟩⟩
theorem c_readNumberP {d u w} {Q : z_P} {T : Int → Int} {n : Int} (hl : z_lay w) (ht : z_tc w T n) (h0 : 0 ≤ z_I w 5 5) (h1 : z_I w 5 5 ≤ n) (hi : Int) (hh : hi ≠ -1) (k : ∀ w' z, z_fr [] [(5, 5), (5, 6)] w w' → z_lay w' → z_tc w' T n → z_ace w w' n (z_p1 T n hi (z_I w 5 5)) → Q (some (z_i z)) w') : z_G (d + 1) u 84 0 [z_r 5, z_i hi, z_x] [] w Q :=
  c_readNumber hl ht h0 h1 hi (fun w' z hf hr => k w' z hf (z_fr_lay hf hl) (z_tc_fr hf (by decide) (by decide) ht) (by rw [z_p1_nu hh]; exact z_rec_acc hr))
theorem c_readSignedP {d u w} {Q : z_P} {T : Int → Int} {n : Int} (hl : z_lay w) (ht : z_tc w T n) (h0 : 0 ≤ z_I w 5 5) (h1 : z_I w 5 5 ≤ n) (k : ∀ w' z, z_fr [] [(5, 5), (5, 6)] w w' → z_lay w' → z_tc w' T n → z_ace w w' n (z_p1 T n (-1) (z_I w 5 5)) → Q (some (z_i z)) w') : z_G (d + 2) u 83 0 [z_r 5] [] w Q :=
  c_readSigned hl ht h0 h1 (fun w' z hf hr => k w' z hf (z_fr_lay hf hl) (z_tc_fr hf (by decide) (by decide) ht) (by rw [z_p1_sn]; exact z_rec_acc hr))
theorem c_readCommaP {d u w} {Q : z_P} {T : Int → Int} {n : Int} (hl : z_lay w) (ht : z_tc w T n) (h0 : 0 ≤ z_I w 5 5) (h1 : z_I w 5 5 ≤ n) (k : ∀ w', z_fr [] [(5, 5), (5, 6)] w w' → z_lay w' → z_tc w' T n → z_ace w w' n (z_co T n (z_I w 5 5)) → Q none w') : z_G (d + 1) u 82 0 [z_r 5] [] w Q :=
  c_readComma hl ht h0 h1 (fun w' hf hr => k w' hf (z_fr_lay hf hl) (z_tc_fr hf (by decide) (by decide) ht) (by have := z_rec_acc hr; rw [z_co_snd] at this; exact this))
