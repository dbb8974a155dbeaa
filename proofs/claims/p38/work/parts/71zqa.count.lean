/-! counting in two parts, from another start -/
theorem pu_ct_app {P : Int → Bool} : ∀ (a b : Nat) (s : Int), pu_ct P (a + b) s = pu_ct P a s + pu_ct P b (s + a) := by
  intro a
  induction a with
  | zero =>
    intro b s
    rw [Nat.zero_add, show s + ((0 : Nat) : Int) = s by omega, pu_ct]
    omega
  | succ a ih =>
    intro b s
    rw [show a + 1 + b = (a + b) + 1 by omega, pu_ct, pu_ct, ih b (s + 1), show s + 1 + (a : Int) = s + ((a + 1 : Nat) : Int) by omega]
    omega
theorem pu_ct_sh {P : Int → Bool} (a : Int) : ∀ (n : Nat) (s : Int), pu_ct P n (a + s) = pu_ct (fun y => P (a + y)) n s := by
  intro n
  induction n with
  | zero => intro s; rfl
  | succ n ih =>
    intro s
    rw [pu_ct, pu_ct, show a + s + 1 = a + (s + 1) by omega, ih (s + 1)]
