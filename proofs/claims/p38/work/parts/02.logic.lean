/-! The abstract machine: values, worlds, ops, the judgement z_G (a least fixed point). No JVM here. -/
abbrev z_V : Type := Int ⊕ (Int ⊕ Option (Option Nat))
def z_i (z : Int) : z_V := .inl z
def z_l (z : Int) : z_V := .inr (.inl z)
def z_r (k : Nat) : z_V := .inr (.inr (some (some k)))
def z_n : z_V := .inr (.inr (some none))
def z_x : z_V := .inr (.inr none)
def z_vr (o : Option Nat) : z_V := .inr (.inr (some o))
theorem z_vr_some (k : Nat) : z_vr (some k) = z_r k := rfl
theorem z_vr_none : z_vr none = z_n := rfl
abbrev z_W : Type := (Nat → Int → Int) × (Nat → Int → Option Nat) × (Nat → Nat × Int) × Nat
def z_I (w : z_W) (p : Nat) (k : Int) : Int := w.1 p k
def z_R (w : z_W) (p : Nat) (k : Int) : Option Nat := w.2.1 p k
def z_k (w : z_W) (p : Nat) : Nat := (w.2.2.1 p).1
def z_len (w : z_W) (p : Nat) : Int := (w.2.2.1 p).2
def z_N (w : z_W) : Nat := w.2.2.2
def z_sI (w : z_W) (p : Nat) (k z : Int) : z_W := (fun q j => if q = p ∧ j = k then z else w.1 q j, w.2)
def z_sR (w : z_W) (p : Nat) (k : Int) (o : Option Nat) : z_W := (w.1, fun q j => if q = p ∧ j = k then o else w.2.1 q j, w.2.2)
def z_nw (w : z_W) (kd : Nat) (len : Int) : z_W := (fun q j => if q = w.2.2.2 then 0 else w.1 q j, fun q j => if q = w.2.2.2 then none else w.2.1 q j, fun q => if q = w.2.2.2 then (kd, len) else w.2.2.1 q, w.2.2.2 + 1)
def z_cp (w : z_W) (src : Nat) (sp : Int) (dst : Nat) (dp n : Int) : z_W := (fun q j => if q = dst ∧ dp ≤ j ∧ j < dp + n then w.1 src (sp + (j - dp)) else w.1 q j, w.2)
theorem z_I_sI (w : z_W) (p : Nat) (k z : Int) (q : Nat) (j : Int) : z_I (z_sI w p k z) q j = if q = p ∧ j = k then z else z_I w q j := rfl
theorem z_R_sI (w : z_W) (p : Nat) (k z : Int) (q : Nat) (j : Int) : z_R (z_sI w p k z) q j = z_R w q j := rfl
theorem z_k_sI (w : z_W) (p : Nat) (k z : Int) (q : Nat) : z_k (z_sI w p k z) q = z_k w q := rfl
theorem z_len_sI (w : z_W) (p : Nat) (k z : Int) (q : Nat) : z_len (z_sI w p k z) q = z_len w q := rfl
theorem z_N_sI (w : z_W) (p : Nat) (k z : Int) : z_N (z_sI w p k z) = z_N w := rfl
theorem z_I_sR (w : z_W) (p : Nat) (k : Int) (o : Option Nat) (q : Nat) (j : Int) : z_I (z_sR w p k o) q j = z_I w q j := rfl
theorem z_R_sR (w : z_W) (p : Nat) (k : Int) (o : Option Nat) (q : Nat) (j : Int) : z_R (z_sR w p k o) q j = if q = p ∧ j = k then o else z_R w q j := rfl
theorem z_k_sR (w : z_W) (p : Nat) (k : Int) (o : Option Nat) (q : Nat) : z_k (z_sR w p k o) q = z_k w q := rfl
theorem z_len_sR (w : z_W) (p : Nat) (k : Int) (o : Option Nat) (q : Nat) : z_len (z_sR w p k o) q = z_len w q := rfl
theorem z_N_sR (w : z_W) (p : Nat) (k : Int) (o : Option Nat) : z_N (z_sR w p k o) = z_N w := rfl
theorem z_I_nw (w : z_W) (kd : Nat) (n : Int) (q : Nat) (j : Int) : z_I (z_nw w kd n) q j = if q = z_N w then 0 else z_I w q j := rfl
theorem z_R_nw (w : z_W) (kd : Nat) (n : Int) (q : Nat) (j : Int) : z_R (z_nw w kd n) q j = if q = z_N w then none else z_R w q j := rfl
theorem z_k_nw (w : z_W) (kd : Nat) (n : Int) (q : Nat) : z_k (z_nw w kd n) q = if q = z_N w then kd else z_k w q := by
  unfold z_k z_nw z_N; dsimp only; split <;> rfl
theorem z_len_nw (w : z_W) (kd : Nat) (n : Int) (q : Nat) : z_len (z_nw w kd n) q = if q = z_N w then n else z_len w q := by
  unfold z_len z_nw z_N; dsimp only; split <;> rfl
theorem z_N_nw (w : z_W) (kd : Nat) (n : Int) : z_N (z_nw w kd n) = z_N w + 1 := rfl
theorem z_I_cp (w : z_W) (src : Nat) (sp : Int) (dst : Nat) (dp n : Int) (q : Nat) (j : Int) : z_I (z_cp w src sp dst dp n) q j = if q = dst ∧ dp ≤ j ∧ j < dp + n then z_I w src (sp + (j - dp)) else z_I w q j := rfl
theorem z_R_cp (w : z_W) (src : Nat) (sp : Int) (dst : Nat) (dp n : Int) (q : Nat) (j : Int) : z_R (z_cp w src sp dst dp n) q j = z_R w q j := rfl
theorem z_k_cp (w : z_W) (src : Nat) (sp : Int) (dst : Nat) (dp n : Int) (q : Nat) : z_k (z_cp w src sp dst dp n) q = z_k w q := rfl
theorem z_len_cp (w : z_W) (src : Nat) (sp : Int) (dst : Nat) (dp n : Int) (q : Nat) : z_len (z_cp w src sp dst dp n) q = z_len w q := rfl
theorem z_N_cp (w : z_W) (src : Nat) (sp : Int) (dst : Nat) (dp n : Int) : z_N (z_cp w src sp dst dp n) = z_N w := rfl
/-- an int, a long -/
def z_rg (z : Int) : Prop := -2147483648 ≤ z ∧ z ≤ 2147483647
def z_rl (z : Int) : Prop := -9223372036854775808 ≤ z ∧ z ≤ 9223372036854775807
/-! arithmetic -/
def z_add (a b : Int) : Int := (Int32.ofInt a + Int32.ofInt b).toInt
def z_sub (a b : Int) : Int := (Int32.ofInt a - Int32.ofInt b).toInt
def z_mul (a b : Int) : Int := (Int32.ofInt a * Int32.ofInt b).toInt
def z_div (a b : Int) : Int := (Int32.ofInt a / Int32.ofInt b).toInt
def z_rem (a b : Int) : Int := (Int32.ofInt a - Int32.ofInt a / Int32.ofInt b * Int32.ofInt b).toInt
def z_neg (a : Int) : Int := (-Int32.ofInt a).toInt
def z_and (a b : Int) : Int := (Int32.ofInt a &&& Int32.ofInt b).toInt
def z_or (a b : Int) : Int := (Int32.ofInt a ||| Int32.ofInt b).toInt
def z_xor (a b : Int) : Int := (Int32.ofInt a ^^^ Int32.ofInt b).toInt
def z_shl (a b : Int) : Int := (Int32.ofInt a <<< (Int32.ofInt b &&& 31)).toInt
def z_shr (a b : Int) : Int := (Int32.ofInt a >>> (Int32.ofInt b &&& 31)).toInt
def z_ush (a b : Int) : Int := ((Int32.ofInt a).toUInt32 >>> ((Int32.ofInt b).toUInt32 &&& Int32.toUInt32 31)).toInt32.toInt
def z_ladd (a b : Int) : Int := (Int64.ofInt a + Int64.ofInt b).toInt
def z_lsub (a b : Int) : Int := (Int64.ofInt a - Int64.ofInt b).toInt
def z_lmul (a b : Int) : Int := (Int64.ofInt a * Int64.ofInt b).toInt
def z_land (a b : Int) : Int := (Int64.ofInt a &&& Int64.ofInt b).toInt
def z_lor (a b : Int) : Int := (Int64.ofInt a ||| Int64.ofInt b).toInt
def z_lrem (a b : Int) : Int := (Int64.ofInt a - Int64.ofInt a / Int64.ofInt b * Int64.ofInt b).toInt
def z_lshl (a b : Int) : Int := (Int64.ofInt a <<< ((Int32.ofInt b).toInt64 &&& 63)).toInt
def z_lush (a b : Int) : Int := ((Int64.ofInt a).toUInt64 >>> ((Int32.ofInt b).toInt64.toUInt64 &&& Int64.toUInt64 63)).toInt64.toInt
def z_i2l (a : Int) : Int := (Int32.ofInt a).toInt64.toInt
def z_l2i (a : Int) : Int := (Int64.ofInt a).toInt32.toInt
def z_lcmp (a b : Int) : Int := if a < b then -1 else if a = b then 0 else 1
/-! locals -/
def z_kl (a : z_V) : z_V := match a with
  | .inr (.inl _) => z_x
  | a => a
def z_set : List z_V → Nat → z_V → List z_V
  | [], _, _ => []
  | _ :: l, 0, v => v :: l
  | a :: l, i + 1, v => (if i = 0 then z_kl a else a) :: z_set l i v
theorem z_set_0 (a : z_V) (l : List z_V) (v : z_V) : z_set (a :: l) 0 v = v :: l := rfl
theorem z_set_1 (a : z_V) (l : List z_V) (v : z_V) : z_set (a :: l) 1 v = z_kl a :: z_set l 0 v := rfl
theorem z_set_s (a b : z_V) (l : List z_V) (i : Nat) (v : z_V) : z_set (a :: b :: l) (i + 2) v = a :: z_set (b :: l) (i + 1) v := rfl
theorem z_kl_i (z : Int) : z_kl (z_i z) = z_i z := rfl
theorem z_kl_l (z : Int) : z_kl (z_l z) = z_x := rfl
theorem z_kl_r (k : Nat) : z_kl (z_r k) = z_r k := rfl
theorem z_kl_n : z_kl z_n = z_n := rfl
theorem z_kl_x : z_kl z_x = z_x := rfl
theorem z_kl_vr (o : Option Nat) : z_kl (z_vr o) = z_vr o := rfl
def z_cargs : List z_V → List z_V
  | [] => []
  | .inr (.inl z) :: l => z_l z :: z_x :: z_cargs l
  | a :: l => a :: z_cargs l
theorem z_cargs_0 : z_cargs [] = [] := rfl
theorem z_cargs_i (z : Int) (l : List z_V) : z_cargs (z_i z :: l) = z_i z :: z_cargs l := rfl
theorem z_cargs_l (z : Int) (l : List z_V) : z_cargs (z_l z :: l) = z_l z :: z_x :: z_cargs l := rfl
theorem z_cargs_r (k : Nat) (l : List z_V) : z_cargs (z_r k :: l) = z_r k :: z_cargs l := rfl
theorem z_cargs_n (l : List z_V) : z_cargs (z_n :: l) = z_n :: z_cargs l := rfl
theorem z_cargs_vr (o : Option Nat) (l : List z_V) : z_cargs (z_vr o :: l) = z_vr o :: z_cargs l := rfl
def z_xs : Nat → List z_V
  | 0 => []
  | n + 1 => z_x :: z_xs n
def z_padl : List z_V → Nat → List z_V
  | [], n => z_xs n
  | a :: l, n => a :: z_padl l (n - 1)
def z_pad (vs : List z_V) (n : Nat) : List z_V := z_padl (z_cargs vs) n
/-! ops -/
abbrev z_P : Type := Option z_V → z_W → Prop
abbrev z_X : Type := Nat → Nat × Nat → Nat → Nat → List z_V → List z_V → z_W → z_P → Prop
abbrev z_O : Type := z_X → Nat → Nat × Nat → Nat → List z_V → List z_V → z_W → z_P → Prop
/-- locals and stack alone -/
def z_p (f : List z_V → List z_V → Option (List z_V × List z_V)) (nx : Nat) : z_O := fun X d u m ls st w Q =>
  match f ls st with
  | some (ls', st') => X d u m nx ls' st' w Q
  | none => False
abbrev z_F : Type := List z_V → List z_V → Option (List z_V × List z_V)
def f_go : z_F := fun ls st => some (ls, st)
def f_ic (z : Int) : z_F := fun ls st => some (ls, z_i z :: st)
def f_lc (z : Int) : z_F := fun ls st => some (ls, z_l z :: st)
def f_nc : z_F := fun ls st => some (ls, z_n :: st)
def f_rc (k : Nat) : z_F := fun ls st => some (ls, z_r k :: st)
def f_ild (i : Nat) : z_F := fun ls st => match ls[i]? with
  | some (.inl z) => some (ls, z_i z :: st)
  | _ => none
def f_lld (i : Nat) : z_F := fun ls st => match ls[i]? with
  | some (.inr (.inl z)) => some (ls, z_l z :: st)
  | _ => none
def f_ald (i : Nat) : z_F := fun ls st => match ls[i]? with
  | some (.inr (.inr (some o))) => some (ls, z_vr o :: st)
  | _ => none
def f_ist (i : Nat) : z_F := fun ls st => match st with
  | .inl z :: st' => some (z_set ls i (z_i z), st')
  | _ => none
def f_lst (i : Nat) : z_F := fun ls st => match st with
  | .inr (.inl z) :: st' => some ((z_set ls i (z_l z)).set (i + 1) z_x, st')
  | _ => none
def f_ast (i : Nat) : z_F := fun ls st => match st with
  | .inr (.inr (some o)) :: st' => some (z_set ls i (z_vr o), st')
  | _ => none
def f_inc (i : Nat) (c : Int) : z_F := fun ls st => match ls[i]? with
  | some (.inl z) => some (z_set ls i (z_i (z_add z c)), st)
  | _ => none
def f_bin (F : Int → Int → Int) : z_F := fun ls st => match st with
  | .inl y :: .inl x :: st' => some (ls, z_i (F x y) :: st')
  | _ => none
def f_un (F : Int → Int) : z_F := fun ls st => match st with
  | .inl x :: st' => some (ls, z_i (F x) :: st')
  | _ => none
def f_lbin (F : Int → Int → Int) : z_F := fun ls st => match st with
  | .inr (.inl y) :: .inr (.inl x) :: st' => some (ls, z_l (F x y) :: st')
  | _ => none
def f_lsh (F : Int → Int → Int) : z_F := fun ls st => match st with
  | .inl y :: .inr (.inl x) :: st' => some (ls, z_l (F x y) :: st')
  | _ => none
def f_lcmp : z_F := fun ls st => match st with
  | .inr (.inl y) :: .inr (.inl x) :: st' => some (ls, z_i (z_lcmp x y) :: st')
  | _ => none
def f_i2l : z_F := fun ls st => match st with
  | .inl x :: st' => some (ls, z_l (z_i2l x) :: st')
  | _ => none
def f_l2i : z_F := fun ls st => match st with
  | .inr (.inl x) :: st' => some (ls, z_i (z_l2i x) :: st')
  | _ => none
def z_c1 (v : z_V) : Bool := match v with
  | .inr (.inl _) => false
  | .inr (.inr none) => false
  | _ => true
def f_dup : z_F := fun ls st => match st with
  | v :: st' => if z_c1 v = true then some (ls, v :: v :: st') else none
  | _ => none
def f_pop : z_F := fun ls st => match st with
  | v :: st' => if z_c1 v = true then some (ls, st') else none
  | _ => none
def f_dup2 : z_F := fun ls st => match st with
  | v :: v2 :: st' => if z_c1 v = true ∧ z_c1 v2 = true then some (ls, v :: v2 :: v :: v2 :: st') else none
  | _ => none
/-- at most n words -/
def z_c8 : List z_V → Nat → Bool
  | [], _ => true
  | .inl _ :: l, n + 1 => z_c8 l n
  | .inr (.inl _) :: l, n + 2 => z_c8 l n
  | .inr (.inr (some _)) :: l, n + 1 => z_c8 l n
  | _, _ => false
theorem z_c8_0 (n : Nat) : z_c8 [] n = true := rfl
theorem z_c8_i (z : Int) (l : List z_V) (n : Nat) : z_c8 (z_i z :: l) (n + 1) = z_c8 l n := rfl
theorem z_c8_l (z : Int) (l : List z_V) (n : Nat) : z_c8 (z_l z :: l) (n + 2) = z_c8 l n := rfl
theorem z_c8_r (k : Nat) (l : List z_V) (n : Nat) : z_c8 (z_r k :: l) (n + 1) = z_c8 l n := rfl
theorem z_c8_vr (o : Option Nat) (l : List z_V) (n : Nat) : z_c8 (z_vr o :: l) (n + 1) = z_c8 l n := rfl
theorem z_c8_n (l : List z_V) (n : Nat) : z_c8 (z_n :: l) (n + 1) = z_c8 l n := rfl
/-- Object's own constructor: nothing -/
def z_io (nx : Nat) : z_O := fun X d u m ls st w Q => match st with
  | .inr (.inr (some (some _))) :: st' => 1 ≤ d ∧ z_c8 st' 8 = true ∧ X d u m nx ls st' w Q
  | _ => False
/-- division -/
def z_dv (F : Int → Int → Int) (nx : Nat) : z_O := fun X d u m ls st w Q => match st with
  | .inl y :: .inl x :: st' => y ≠ 0 ∧ X d u m nx ls (z_i (F x y) :: st') w Q
  | _ => False
def z_lrm (nx : Nat) : z_O := fun X d u m ls st w Q => match st with
  | .inr (.inl y) :: .inr (.inl x) :: st' => y ≠ 0 ∧ X d u m nx ls (z_l (z_lrem x y) :: st') w Q
  | _ => False
/-- a branch on one int, on two -/
def z_if (c : Int → Prop) (tgt nx : Nat) : z_O := fun X d u m ls st w Q => match st with
  | .inl x :: st' => (c x → X d u m tgt ls st' w Q) ∧ (¬ c x → X d u m nx ls st' w Q)
  | _ => False
def z_cm (c : Int → Int → Prop) (tgt nx : Nat) : z_O := fun X d u m ls st w Q => match st with
  | .inl y :: .inl x :: st' => (c x y → X d u m tgt ls st' w Q) ∧ (¬ c x y → X d u m nx ls st' w Q)
  | _ => False
def z_nl (tgt nx : Nat) : z_O := fun X d u m ls st w Q => match st with
  | .inr (.inr (some none)) :: st' => X d u m tgt ls st' w Q
  | .inr (.inr (some (some _))) :: st' => X d u m nx ls st' w Q
  | _ => False
def z_tsl (x : Int) (lo : Int) : List Nat → (Nat → Prop) → Prop
  | [], _ => True
  | t :: ts, K => (x = lo → K t) ∧ z_tsl x (lo + 1) ts K
def z_ts (lo hi : Int) (ts : List Nat) (df : Nat) : z_O := fun X d u m ls st w Q => match st with
  | .inl x :: st' => z_tsl x lo ts (fun t => X d u m t ls st' w Q) ∧ (x < lo ∨ hi < x → X d u m df ls st' w Q)
  | _ => False
def z_lsl (x : Int) : List (Int × Nat) → (Nat → Prop) → Nat → Prop
  | [], K, df => K df
  | (a, t) :: ts, K, df => (x = a → K t) ∧ (x ≠ a → z_lsl x ts K df)
def z_ls (ts : List (Int × Nat)) (df : Nat) : z_O := fun X d u m ls st w Q => match st with
  | .inl x :: st' => z_lsl x ts (fun t => X d u m t ls st' w Q) df
  | _ => False
/-! fields, arrays -/
def z_gI (ci : Nat) (k : Int) (nx : Nat) : z_O := fun X d u m ls st w Q => match st with
  | .inr (.inr (some (some p))) :: st' => z_k w p = ci ∧ (z_rg (z_I w p k) → X d u m nx ls (z_i (z_I w p k) :: st') w Q)
  | _ => False
def z_gL (ci : Nat) (k : Int) (nx : Nat) : z_O := fun X d u m ls st w Q => match st with
  | .inr (.inr (some (some p))) :: st' => z_k w p = ci ∧ X d u m nx ls (z_l (z_I w p k) :: st') w Q
  | _ => False
def z_gR (ci : Nat) (k : Int) (nx : Nat) : z_O := fun X d u m ls st w Q => match st with
  | .inr (.inr (some (some p))) :: st' => z_k w p = ci ∧ X d u m nx ls (z_vr (z_R w p k) :: st') w Q
  | _ => False
def z_pI (ci : Nat) (k : Int) (nx : Nat) : z_O := fun X d u m ls st w Q => match st with
  | .inl z :: .inr (.inr (some (some p))) :: st' => z_k w p = ci ∧ X d u m nx ls st' (z_sI w p k z) Q
  | _ => False
/-- a boolean field -/
def z_pZ (ci : Nat) (k : Int) (nx : Nat) : z_O := fun X d u m ls st w Q => match st with
  | .inl z :: .inr (.inr (some (some p))) :: st' => z_k w p = ci ∧ (z = 0 ∨ z = 1) ∧ X d u m nx ls st' (z_sI w p k z) Q
  | _ => False
def z_pL (ci : Nat) (k : Int) (nx : Nat) : z_O := fun X d u m ls st w Q => match st with
  | .inr (.inl z) :: .inr (.inr (some (some p))) :: st' => z_k w p = ci ∧ X d u m nx ls st' (z_sI w p k z) Q
  | _ => False
def z_pR (ci : Nat) (k : Int) (nx : Nat) : z_O := fun X d u m ls st w Q => match st with
  | .inr (.inr (some o)) :: .inr (.inr (some (some p))) :: st' => z_k w p = ci ∧ X d u m nx ls st' (z_sR w p k o) Q
  | _ => False
def z_al (nx : Nat) : z_O := fun X d u m ls st w Q => match st with
  | .inr (.inr (some (some p))) :: st' => (100 ≤ z_k w p ∧ z_k w p ≤ 103) ∧ (0 ≤ z_len w p → X d u m nx ls (z_i (z_len w p) :: st') w Q)
  | _ => False
def z_ia (nx : Nat) : z_O := fun X d u m ls st w Q => match st with
  | .inl i :: .inr (.inr (some (some p))) :: st' => (z_k w p = 100 ∨ z_k w p = 103) ∧ 0 ≤ i ∧ i < z_len w p ∧ (z_rg (z_I w p i) → X d u m nx ls (z_i (z_I w p i) :: st') w Q)
  | _ => False
def z_is (nx : Nat) : z_O := fun X d u m ls st w Q => match st with
  | .inl z :: .inl i :: .inr (.inr (some (some p))) :: st' => z_k w p = 100 ∧ 0 ≤ i ∧ i < z_len w p ∧ X d u m nx ls st' (z_sI w p i z) Q
  | _ => False
def z_Ls (nx : Nat) : z_O := fun X d u m ls st w Q => match st with
  | .inr (.inl z) :: .inl i :: .inr (.inr (some (some p))) :: st' => z_k w p = 101 ∧ 0 ≤ i ∧ i < z_len w p ∧ X d u m nx ls st' (z_sI w p i z) Q
  | _ => False
def z_ra (nx : Nat) : z_O := fun X d u m ls st w Q => match st with
  | .inl i :: .inr (.inr (some (some p))) :: st' => z_k w p = 102 ∧ 0 ≤ i ∧ i < z_len w p ∧ X d u m nx ls (z_vr (z_R w p i) :: st') w Q
  | _ => False
def z_rs (ci : Nat) (nx : Nat) : z_O := fun X d u m ls st w Q => match st with
  | .inr (.inr (some (some q))) :: .inl i :: .inr (.inr (some (some p))) :: st' => z_k w p = 102 ∧ 0 ≤ i ∧ i < z_len w p ∧ z_k w q = ci ∧ X d u m nx ls st' (z_sR w p i (some q)) Q
  | _ => False
/-- System.arraycopy of ints -/
def z_ac (nx : Nat) : z_O := fun X d u m ls st w Q => match st with
  | .inl n :: .inl dp :: .inr (.inr (some (some q))) :: .inl sp :: .inr (.inr (some (some p))) :: st' => 1 ≤ d ∧ z_c8 st' 8 = true ∧ (z_k w p = 100 ∧ z_k w q = 100) ∧ (0 ≤ n ∧ 0 ≤ sp ∧ 0 ≤ dp) ∧ sp + n ≤ z_len w p ∧ dp + n ≤ z_len w q ∧ X d u m nx ls st' (z_cp w p sp q dp n) Q
  | _ => False
/-- what is made -/
def z_na (kd : Nat) (nx : Nat) : z_O := fun X d u m ls st w Q => match st with
  | .inl n :: st' => 0 ≤ n ∧ n ≤ 65536 ∧ 1 ≤ u.1 ∧ n ≤ (u.2 : Int) ∧ X d (u.1 - 1, u.2 - n.toNat) m nx ls (z_r (z_N w) :: st') (z_nw w kd n) Q
  | _ => False
def z_no (ci nf : Nat) (nx : Nat) : z_O := fun X d u m ls st w Q =>
  1 ≤ u.1 ∧ nf ≤ u.2 ∧ X d (u.1 - 1, u.2 - nf) m nx ls (z_r (z_N w) :: st) (z_nw w ci nf) Q
/-! calls: of a method that makes nothing; of one that makes -/
def z_rv (ci : Option Nat) (k : Nat) (st : List z_V) (w : z_W) : Prop := match ci with
  | none => True
  | some c => ∃ p, (st.take k).reverse.head? = some (z_r p) ∧ z_k w p = c
def z_ca (m' k nL : Nat) (ci : Option Nat) (nx : Nat) : z_O := fun X d u m ls st w Q => match d with
  | 0 => False
  | d' + 1 => k ≤ st.length ∧ z_rv ci k st w ∧ z_c8 (st.drop k) 8 = true ∧ z_c8 (st.take k).reverse nL = true ∧ ∃ P : z_P, X d' (0, 0) m' 0 (z_pad (st.take k).reverse nL) [] w P ∧ ∀ r w', P r w' → X (d' + 1) u m nx ls (r.toList ++ st.drop k) w' Q
def z_cb (m' k nL : Nat) (ci : Option Nat) (b : Nat × Nat) (nx : Nat) : z_O := fun X d u m ls st w Q => match d with
  | 0 => False
  | d' + 1 => k ≤ st.length ∧ z_rv ci k st w ∧ z_c8 (st.drop k) 8 = true ∧ z_c8 (st.take k).reverse nL = true ∧ b.1 ≤ u.1 ∧ b.2 ≤ u.2 ∧ ∃ P : z_P, X d' b m' 0 (z_pad (st.take k).reverse nL) [] w P ∧ ∀ r w', P r w' → X (d' + 1) (u.1 - b.1, u.2 - b.2) m nx ls (r.toList ++ st.drop k) w' Q
/-! ends -/
def z_rtv : z_O := fun _ _ _ _ _ st w Q => st = [] ∧ Q none w
def z_rti : z_O := fun _ _ _ _ _ st w Q => match st with
  | [.inl z] => Q (some (z_i z)) w
  | _ => False
def z_rtz : z_O := fun _ _ _ _ _ st w Q => match st with
  | [.inl z] => (z = 0 ∨ z = 1) ∧ Q (some (z_i z)) w
  | _ => False
def z_rtl : z_O := fun _ _ _ _ _ st w Q => match st with
  | [.inr (.inl z)] => Q (some (z_l z)) w
  | _ => False
def z_rta : z_O := fun _ _ _ _ _ st w Q => match st with
  | [.inr (.inr (some o))] => Q (some (z_vr o)) w
  | _ => False
def z_bad : z_O := fun _ _ _ _ _ _ _ _ => False
/-! the judgement -/
def z_mm (o : z_O) : Prop := ∀ (X Y : z_X) (P Q : z_P), (∀ d u m pc ls st w, X d u m pc ls st w P → Y d u m pc ls st w Q) → (∀ d u m pc ls st w S, X d u m pc ls st w S → Y d u m pc ls st w S) → (∀ r w, P r w → Q r w) → ∀ d u m ls st w, o X d u m ls st w P → o Y d u m ls st w Q
theorem z_mm_p (f : z_F) (nx : Nat) : z_mm (z_p f nx) := by
  intro X Y P Q h1 h2 h3 d u m ls st w h
  unfold z_p at h ⊢
  split at h
  · exact h1 _ _ _ _ _ _ _ h
  · exact h.elim
theorem z_mm_dv (F : Int → Int → Int) (nx : Nat) : z_mm (z_dv F nx) := by
  intro X Y P Q h1 h2 h3 d u m ls st w h
  unfold z_dv at h ⊢
  split at h
  · exact ⟨h.1, h1 _ _ _ _ _ _ _ h.2⟩
  · exact h.elim
theorem z_mm_lrm (nx : Nat) : z_mm (z_lrm nx) := by
  intro X Y P Q h1 h2 h3 d u m ls st w h
  unfold z_lrm at h ⊢
  split at h
  · exact ⟨h.1, h1 _ _ _ _ _ _ _ h.2⟩
  · exact h.elim
theorem z_mm_io (nx : Nat) : z_mm (z_io nx) := by
  intro X Y P Q h1 h2 h3 d u m ls st w h
  unfold z_io at h ⊢
  split at h
  · exact ⟨h.1, h.2.1, h1 _ _ _ _ _ _ _ h.2.2⟩
  · exact h.elim
theorem z_mm_if (c : Int → Prop) (tgt nx : Nat) : z_mm (z_if c tgt nx) := by
  intro X Y P Q h1 h2 h3 d u m ls st w h
  unfold z_if at h ⊢
  split at h
  · exact ⟨fun q => h1 _ _ _ _ _ _ _ (h.1 q), fun q => h1 _ _ _ _ _ _ _ (h.2 q)⟩
  · exact h.elim
theorem z_mm_cm (c : Int → Int → Prop) (tgt nx : Nat) : z_mm (z_cm c tgt nx) := by
  intro X Y P Q h1 h2 h3 d u m ls st w h
  unfold z_cm at h ⊢
  split at h
  · exact ⟨fun q => h1 _ _ _ _ _ _ _ (h.1 q), fun q => h1 _ _ _ _ _ _ _ (h.2 q)⟩
  · exact h.elim
theorem z_mm_nl (tgt nx : Nat) : z_mm (z_nl tgt nx) := by
  intro X Y P Q h1 h2 h3 d u m ls st w h
  unfold z_nl at h ⊢
  split at h
  · exact h1 _ _ _ _ _ _ _ h
  · exact h1 _ _ _ _ _ _ _ h
  · exact h.elim
theorem z_tsl_mo {K L : Nat → Prop} (hk : ∀ t, K t → L t) (x : Int) : ∀ (ts : List Nat) (lo : Int), z_tsl x lo ts K → z_tsl x lo ts L
  | [], _, _ => trivial
  | _ :: ts, lo, h => ⟨fun q => hk _ (h.1 q), z_tsl_mo hk x ts (lo + 1) h.2⟩
theorem z_mm_ts (lo hi : Int) (ts : List Nat) (df : Nat) : z_mm (z_ts lo hi ts df) := by
  intro X Y P Q h1 h2 h3 d u m ls st w h
  unfold z_ts at h ⊢
  split at h
  · exact ⟨z_tsl_mo (fun t ht => h1 _ _ _ _ _ _ _ ht) _ _ _ h.1, fun q => h1 _ _ _ _ _ _ _ (h.2 q)⟩
  · exact h.elim
theorem z_lsl_mo {K L : Nat → Prop} (hk : ∀ t, K t → L t) (x : Int) (df : Nat) : ∀ (ts : List (Int × Nat)), z_lsl x ts K df → z_lsl x ts L df
  | [], h => hk _ h
  | (_, _) :: ts, h => ⟨fun q => hk _ (h.1 q), fun q => z_lsl_mo hk x df ts (h.2 q)⟩
theorem z_mm_ls (ts : List (Int × Nat)) (df : Nat) : z_mm (z_ls ts df) := by
  intro X Y P Q h1 h2 h3 d u m ls st w h
  unfold z_ls at h ⊢
  split at h
  · exact z_lsl_mo (fun t ht => h1 _ _ _ _ _ _ _ ht) _ _ _ h
  · exact h.elim
theorem z_mm_gI (ci : Nat) (k : Int) (nx : Nat) : z_mm (z_gI ci k nx) := by
  intro X Y P Q h1 h2 h3 d u m ls st w h
  unfold z_gI at h ⊢
  split at h
  · exact ⟨h.1, fun q => h1 _ _ _ _ _ _ _ (h.2 q)⟩
  · exact h.elim
theorem z_mm_gL (ci : Nat) (k : Int) (nx : Nat) : z_mm (z_gL ci k nx) := by
  intro X Y P Q h1 h2 h3 d u m ls st w h
  unfold z_gL at h ⊢
  split at h
  · exact ⟨h.1, h1 _ _ _ _ _ _ _ h.2⟩
  · exact h.elim
theorem z_mm_gR (ci : Nat) (k : Int) (nx : Nat) : z_mm (z_gR ci k nx) := by
  intro X Y P Q h1 h2 h3 d u m ls st w h
  unfold z_gR at h ⊢
  split at h
  · exact ⟨h.1, h1 _ _ _ _ _ _ _ h.2⟩
  · exact h.elim
theorem z_mm_pI (ci : Nat) (k : Int) (nx : Nat) : z_mm (z_pI ci k nx) := by
  intro X Y P Q h1 h2 h3 d u m ls st w h
  unfold z_pI at h ⊢
  split at h
  · exact ⟨h.1, h1 _ _ _ _ _ _ _ h.2⟩
  · exact h.elim
theorem z_mm_pZ (ci : Nat) (k : Int) (nx : Nat) : z_mm (z_pZ ci k nx) := by
  intro X Y P Q h1 h2 h3 d u m ls st w h
  unfold z_pZ at h ⊢
  split at h
  · exact ⟨h.1, h.2.1, h1 _ _ _ _ _ _ _ h.2.2⟩
  · exact h.elim
theorem z_mm_pL (ci : Nat) (k : Int) (nx : Nat) : z_mm (z_pL ci k nx) := by
  intro X Y P Q h1 h2 h3 d u m ls st w h
  unfold z_pL at h ⊢
  split at h
  · exact ⟨h.1, h1 _ _ _ _ _ _ _ h.2⟩
  · exact h.elim
theorem z_mm_pR (ci : Nat) (k : Int) (nx : Nat) : z_mm (z_pR ci k nx) := by
  intro X Y P Q h1 h2 h3 d u m ls st w h
  unfold z_pR at h ⊢
  split at h
  · exact ⟨h.1, h1 _ _ _ _ _ _ _ h.2⟩
  · exact h.elim
theorem z_mm_al (nx : Nat) : z_mm (z_al nx) := by
  intro X Y P Q h1 h2 h3 d u m ls st w h
  unfold z_al at h ⊢
  split at h
  · exact ⟨h.1, fun q => h1 _ _ _ _ _ _ _ (h.2 q)⟩
  · exact h.elim
theorem z_mm_ia (nx : Nat) : z_mm (z_ia nx) := by
  intro X Y P Q h1 h2 h3 d u m ls st w h
  unfold z_ia at h ⊢
  split at h
  · exact ⟨h.1, h.2.1, h.2.2.1, fun q => h1 _ _ _ _ _ _ _ (h.2.2.2 q)⟩
  · exact h.elim
theorem z_mm_is (nx : Nat) : z_mm (z_is nx) := by
  intro X Y P Q h1 h2 h3 d u m ls st w h
  unfold z_is at h ⊢
  split at h
  · exact ⟨h.1, h.2.1, h.2.2.1, h1 _ _ _ _ _ _ _ h.2.2.2⟩
  · exact h.elim
theorem z_mm_Ls (nx : Nat) : z_mm (z_Ls nx) := by
  intro X Y P Q h1 h2 h3 d u m ls st w h
  unfold z_Ls at h ⊢
  split at h
  · exact ⟨h.1, h.2.1, h.2.2.1, h1 _ _ _ _ _ _ _ h.2.2.2⟩
  · exact h.elim
theorem z_mm_ra (nx : Nat) : z_mm (z_ra nx) := by
  intro X Y P Q h1 h2 h3 d u m ls st w h
  unfold z_ra at h ⊢
  split at h
  · exact ⟨h.1, h.2.1, h.2.2.1, h1 _ _ _ _ _ _ _ h.2.2.2⟩
  · exact h.elim
theorem z_mm_rs (ci nx : Nat) : z_mm (z_rs ci nx) := by
  intro X Y P Q h1 h2 h3 d u m ls st w h
  unfold z_rs at h ⊢
  split at h
  · exact ⟨h.1, h.2.1, h.2.2.1, h.2.2.2.1, h1 _ _ _ _ _ _ _ h.2.2.2.2⟩
  · exact h.elim
theorem z_mm_ac (nx : Nat) : z_mm (z_ac nx) := by
  intro X Y P Q h1 h2 h3 d u m ls st w h
  unfold z_ac at h ⊢
  split at h
  · exact ⟨h.1, h.2.1, h.2.2.1, h.2.2.2.1, h.2.2.2.2.1, h.2.2.2.2.2.1, h1 _ _ _ _ _ _ _ h.2.2.2.2.2.2⟩
  · exact h.elim
theorem z_mm_na (kd nx : Nat) : z_mm (z_na kd nx) := by
  intro X Y P Q h1 h2 h3 d u m ls st w h
  unfold z_na at h ⊢
  split at h
  · exact ⟨h.1, h.2.1, h.2.2.1, h.2.2.2.1, h1 _ _ _ _ _ _ _ h.2.2.2.2⟩
  · exact h.elim
theorem z_mm_no (ci nf nx : Nat) : z_mm (z_no ci nf nx) := by
  intro X Y P Q h1 h2 h3 d u m ls st w h
  exact ⟨h.1, h.2.1, h1 _ _ _ _ _ _ _ h.2.2⟩
theorem z_mm_ca (m' k nL : Nat) (ci : Option Nat) (nx : Nat) : z_mm (z_ca m' k nL ci nx) := by
  intro X Y P Q h1 h2 h3 d u m ls st w h
  unfold z_ca at h ⊢
  split at h
  · exact h.elim
  · obtain ⟨a1, a2, a5, a6, S, a3, a4⟩ := h
    exact ⟨a1, a2, a5, a6, S, h2 _ _ _ _ _ _ _ _ a3, fun r w' q => h1 _ _ _ _ _ _ _ (a4 r w' q)⟩
theorem z_mm_cb (m' k nL : Nat) (ci : Option Nat) (b : Nat × Nat) (nx : Nat) : z_mm (z_cb m' k nL ci b nx) := by
  intro X Y P Q h1 h2 h3 d u m ls st w h
  unfold z_cb at h ⊢
  split at h
  · exact h.elim
  · obtain ⟨a1, a2, a5, a6, b1, b2, S, a3, a4⟩ := h
    exact ⟨a1, a2, a5, a6, b1, b2, S, h2 _ _ _ _ _ _ _ _ a3, fun r w' q => h1 _ _ _ _ _ _ _ (a4 r w' q)⟩
theorem z_mm_rtv : z_mm z_rtv := fun _ _ _ _ _ _ h3 _ _ _ _ _ _ h => ⟨h.1, h3 _ _ h.2⟩
theorem z_mm_rti : z_mm z_rti := by
  intro X Y P Q h1 h2 h3 d u m ls st w h
  unfold z_rti at h ⊢
  split at h
  · exact h3 _ _ h
  · exact h.elim
theorem z_mm_rtz : z_mm z_rtz := by
  intro X Y P Q h1 h2 h3 d u m ls st w h
  unfold z_rtz at h ⊢
  split at h
  · exact ⟨h.1, h3 _ _ h.2⟩
  · exact h.elim
theorem z_mm_rtl : z_mm z_rtl := by
  intro X Y P Q h1 h2 h3 d u m ls st w h
  unfold z_rtl at h ⊢
  split at h
  · exact h3 _ _ h
  · exact h.elim
theorem z_mm_rta : z_mm z_rta := by
  intro X Y P Q h1 h2 h3 d u m ls st w h
  unfold z_rta at h ⊢
  split at h
  · exact h3 _ _ h
  · exact h.elim
theorem z_mm_bad : z_mm z_bad := fun _ _ _ _ _ _ _ _ _ _ _ _ _ h => h.elim
/-- two ends of one run -/
def z_cj (o : z_O) : Prop := ∀ (X Y Z : z_X) (P Q : z_P), (∀ d u m pc ls st w S S', X d u m pc ls st w S → Y d u m pc ls st w S' → Z d u m pc ls st w (fun r w => S r w ∧ S' r w)) → ∀ d u m ls st w, o X d u m ls st w P → o Y d u m ls st w Q → o Z d u m ls st w (fun r w => P r w ∧ Q r w)
theorem z_cj_p (f : z_F) (nx : Nat) : z_cj (z_p f nx) := by
  intro X Y Z P Q h d u m ls st w a b
  unfold z_p at a b ⊢
  cases e : f ls st with
  | none => rw [e] at a; exact a.elim
  | some q => rw [e] at a b; exact h _ _ _ _ _ _ _ _ _ a b
theorem z_tsl_cj {K L M : Nat → Prop} (hk : ∀ t, K t → L t → M t) (x : Int) : ∀ (ts : List Nat) (lo : Int), z_tsl x lo ts K → z_tsl x lo ts L → z_tsl x lo ts M
  | [], _, _, _ => trivial
  | _ :: ts, lo, a, b => ⟨fun q => hk _ (a.1 q) (b.1 q), z_tsl_cj hk x ts (lo + 1) a.2 b.2⟩
theorem z_lsl_cj {K L M : Nat → Prop} (hk : ∀ t, K t → L t → M t) (x : Int) (df : Nat) : ∀ (ts : List (Int × Nat)), z_lsl x ts K df → z_lsl x ts L df → z_lsl x ts M df
  | [], a, b => hk _ a b
  | (_, _) :: ts, a, b => ⟨fun q => hk _ (a.1 q) (b.1 q), fun q => z_lsl_cj hk x df ts (a.2 q) (b.2 q)⟩
theorem z_cj_dv (F : Int → Int → Int) (nx : Nat) : z_cj (z_dv F nx) := by
  intro X Y Z P Q h d u m ls st w a b
  unfold z_dv at a b ⊢
  split at a
  · exact ⟨a.1, h _ _ _ _ _ _ _ _ _ a.2 b.2⟩
  · exact a.elim
theorem z_cj_lrm (nx : Nat) : z_cj (z_lrm nx) := by
  intro X Y Z P Q h d u m ls st w a b
  unfold z_lrm at a b ⊢
  split at a
  · exact ⟨a.1, h _ _ _ _ _ _ _ _ _ a.2 b.2⟩
  · exact a.elim
theorem z_cj_io (nx : Nat) : z_cj (z_io nx) := by
  intro X Y Z P Q h d u m ls st w a b
  unfold z_io at a b ⊢
  split at a
  · exact ⟨a.1, a.2.1, h _ _ _ _ _ _ _ _ _ a.2.2 b.2.2⟩
  · exact a.elim
theorem z_cj_if (c : Int → Prop) (tgt nx : Nat) : z_cj (z_if c tgt nx) := by
  intro X Y Z P Q h d u m ls st w a b
  unfold z_if at a b ⊢
  split at a
  · exact ⟨fun q => h _ _ _ _ _ _ _ _ _ (a.1 q) (b.1 q), fun q => h _ _ _ _ _ _ _ _ _ (a.2 q) (b.2 q)⟩
  · exact a.elim
theorem z_cj_cm (c : Int → Int → Prop) (tgt nx : Nat) : z_cj (z_cm c tgt nx) := by
  intro X Y Z P Q h d u m ls st w a b
  unfold z_cm at a b ⊢
  split at a
  · exact ⟨fun q => h _ _ _ _ _ _ _ _ _ (a.1 q) (b.1 q), fun q => h _ _ _ _ _ _ _ _ _ (a.2 q) (b.2 q)⟩
  · exact a.elim
theorem z_cj_nl (tgt nx : Nat) : z_cj (z_nl tgt nx) := by
  intro X Y Z P Q h d u m ls st w a b
  unfold z_nl at a b ⊢
  split at a
  · exact h _ _ _ _ _ _ _ _ _ a b
  · exact h _ _ _ _ _ _ _ _ _ a b
  · exact a.elim
theorem z_cj_ts (lo hi : Int) (ts : List Nat) (df : Nat) : z_cj (z_ts lo hi ts df) := by
  intro X Y Z P Q h d u m ls st w a b
  unfold z_ts at a b ⊢
  split at a
  · exact ⟨z_tsl_cj (fun t x y => h _ _ _ _ _ _ _ _ _ x y) _ _ _ a.1 b.1, fun q => h _ _ _ _ _ _ _ _ _ (a.2 q) (b.2 q)⟩
  · exact a.elim
theorem z_cj_gI (ci : Nat) (k : Int) (nx : Nat) : z_cj (z_gI ci k nx) := by
  intro X Y Z P Q h d u m ls st w a b
  unfold z_gI at a b ⊢
  split at a
  · exact ⟨a.1, fun q => h _ _ _ _ _ _ _ _ _ (a.2 q) (b.2 q)⟩
  · exact a.elim
theorem z_cj_gL (ci : Nat) (k : Int) (nx : Nat) : z_cj (z_gL ci k nx) := by
  intro X Y Z P Q h d u m ls st w a b
  unfold z_gL at a b ⊢
  split at a
  · exact ⟨a.1, h _ _ _ _ _ _ _ _ _ a.2 b.2⟩
  · exact a.elim
theorem z_cj_gR (ci : Nat) (k : Int) (nx : Nat) : z_cj (z_gR ci k nx) := by
  intro X Y Z P Q h d u m ls st w a b
  unfold z_gR at a b ⊢
  split at a
  · exact ⟨a.1, h _ _ _ _ _ _ _ _ _ a.2 b.2⟩
  · exact a.elim
theorem z_cj_pI (ci : Nat) (k : Int) (nx : Nat) : z_cj (z_pI ci k nx) := by
  intro X Y Z P Q h d u m ls st w a b
  unfold z_pI at a b ⊢
  split at a
  · exact ⟨a.1, h _ _ _ _ _ _ _ _ _ a.2 b.2⟩
  · exact a.elim
theorem z_cj_pZ (ci : Nat) (k : Int) (nx : Nat) : z_cj (z_pZ ci k nx) := by
  intro X Y Z P Q h d u m ls st w a b
  unfold z_pZ at a b ⊢
  split at a
  · exact ⟨a.1, a.2.1, h _ _ _ _ _ _ _ _ _ a.2.2 b.2.2⟩
  · exact a.elim
theorem z_cj_pL (ci : Nat) (k : Int) (nx : Nat) : z_cj (z_pL ci k nx) := by
  intro X Y Z P Q h d u m ls st w a b
  unfold z_pL at a b ⊢
  split at a
  · exact ⟨a.1, h _ _ _ _ _ _ _ _ _ a.2 b.2⟩
  · exact a.elim
theorem z_cj_pR (ci : Nat) (k : Int) (nx : Nat) : z_cj (z_pR ci k nx) := by
  intro X Y Z P Q h d u m ls st w a b
  unfold z_pR at a b ⊢
  split at a
  · exact ⟨a.1, h _ _ _ _ _ _ _ _ _ a.2 b.2⟩
  · exact a.elim
theorem z_cj_al (nx : Nat) : z_cj (z_al nx) := by
  intro X Y Z P Q h d u m ls st w a b
  unfold z_al at a b ⊢
  split at a
  · exact ⟨a.1, fun q => h _ _ _ _ _ _ _ _ _ (a.2 q) (b.2 q)⟩
  · exact a.elim
theorem z_cj_ia (nx : Nat) : z_cj (z_ia nx) := by
  intro X Y Z P Q h d u m ls st w a b
  unfold z_ia at a b ⊢
  split at a
  · exact ⟨a.1, a.2.1, a.2.2.1, fun q => h _ _ _ _ _ _ _ _ _ (a.2.2.2 q) (b.2.2.2 q)⟩
  · exact a.elim
theorem z_cj_is (nx : Nat) : z_cj (z_is nx) := by
  intro X Y Z P Q h d u m ls st w a b
  unfold z_is at a b ⊢
  split at a
  · exact ⟨a.1, a.2.1, a.2.2.1, h _ _ _ _ _ _ _ _ _ a.2.2.2 b.2.2.2⟩
  · exact a.elim
theorem z_cj_Ls (nx : Nat) : z_cj (z_Ls nx) := by
  intro X Y Z P Q h d u m ls st w a b
  unfold z_Ls at a b ⊢
  split at a
  · exact ⟨a.1, a.2.1, a.2.2.1, h _ _ _ _ _ _ _ _ _ a.2.2.2 b.2.2.2⟩
  · exact a.elim
theorem z_cj_ra (nx : Nat) : z_cj (z_ra nx) := by
  intro X Y Z P Q h d u m ls st w a b
  unfold z_ra at a b ⊢
  split at a
  · exact ⟨a.1, a.2.1, a.2.2.1, h _ _ _ _ _ _ _ _ _ a.2.2.2 b.2.2.2⟩
  · exact a.elim
theorem z_cj_rs (ci nx : Nat) : z_cj (z_rs ci nx) := by
  intro X Y Z P Q h d u m ls st w a b
  unfold z_rs at a b ⊢
  split at a
  · exact ⟨a.1, a.2.1, a.2.2.1, a.2.2.2.1, h _ _ _ _ _ _ _ _ _ a.2.2.2.2 b.2.2.2.2⟩
  · exact a.elim
theorem z_cj_ac (nx : Nat) : z_cj (z_ac nx) := by
  intro X Y Z P Q h d u m ls st w a b
  unfold z_ac at a b ⊢
  split at a
  · exact ⟨a.1, a.2.1, a.2.2.1, a.2.2.2.1, a.2.2.2.2.1, a.2.2.2.2.2.1, h _ _ _ _ _ _ _ _ _ a.2.2.2.2.2.2 b.2.2.2.2.2.2⟩
  · exact a.elim
theorem z_cj_na (kd nx : Nat) : z_cj (z_na kd nx) := by
  intro X Y Z P Q h d u m ls st w a b
  unfold z_na at a b ⊢
  split at a
  · exact ⟨a.1, a.2.1, a.2.2.1, a.2.2.2.1, h _ _ _ _ _ _ _ _ _ a.2.2.2.2 b.2.2.2.2⟩
  · exact a.elim
theorem z_cj_rti : z_cj z_rti := by
  intro X Y Z P Q h d u m ls st w a b
  unfold z_rti at a b ⊢
  split at a
  · exact ⟨a, b⟩
  · exact a.elim
theorem z_cj_rtz : z_cj z_rtz := by
  intro X Y Z P Q h d u m ls st w a b
  unfold z_rtz at a b ⊢
  split at a
  · exact ⟨a.1, a.2, b.2⟩
  · exact a.elim
theorem z_cj_rtl : z_cj z_rtl := by
  intro X Y Z P Q h d u m ls st w a b
  unfold z_rtl at a b ⊢
  split at a
  · exact ⟨a, b⟩
  · exact a.elim
theorem z_cj_rta : z_cj z_rta := by
  intro X Y Z P Q h d u m ls st w a b
  unfold z_rta at a b ⊢
  split at a
  · exact ⟨a, b⟩
  · exact a.elim
theorem z_cj_no (ci nf nx : Nat) : z_cj (z_no ci nf nx) := fun _ _ _ _ _ h _ _ _ _ _ _ a b => ⟨a.1, a.2.1, h _ _ _ _ _ _ _ _ _ a.2.2 b.2.2⟩
theorem z_cj_ca (m' k nL : Nat) (ci : Option Nat) (nx : Nat) : z_cj (z_ca m' k nL ci nx) := by
  intro X Y Z P Q h d u m ls st w a b
  unfold z_ca at a b ⊢
  split at a
  · exact a.elim
  · obtain ⟨a1, a2, a5, a6, S, a3, a4⟩ := a
    obtain ⟨-, -, -, -, S', b3, b4⟩ := b
    exact ⟨a1, a2, a5, a6, fun r w => S r w ∧ S' r w, h _ _ _ _ _ _ _ _ _ a3 b3, fun r w' q => h _ _ _ _ _ _ _ _ _ (a4 r w' q.1) (b4 r w' q.2)⟩
theorem z_cj_cb (m' k nL : Nat) (ci : Option Nat) (b : Nat × Nat) (nx : Nat) : z_cj (z_cb m' k nL ci b nx) := by
  intro X Y Z P Q h d u m ls st w a b
  unfold z_cb at a b ⊢
  split at a
  · exact a.elim
  · obtain ⟨a1, a2, a5, a6, a7, a8, S, a3, a4⟩ := a
    obtain ⟨-, -, -, -, -, -, S', b3, b4⟩ := b
    exact ⟨a1, a2, a5, a6, a7, a8, fun r w => S r w ∧ S' r w, h _ _ _ _ _ _ _ _ _ a3 b3, fun r w' q => h _ _ _ _ _ _ _ _ _ (a4 r w' q.1) (b4 r w' q.2)⟩
theorem z_cj_rtv : z_cj z_rtv := fun _ _ _ _ _ _ _ _ _ _ _ _ a b => ⟨a.1, a.2, b.2⟩
theorem z_cj_bad : z_cj z_bad := fun _ _ _ _ _ _ _ _ _ _ _ _ a _ => a.elim
theorem z_cj_ls (ts : List (Int × Nat)) (df : Nat) : z_cj (z_ls ts df) := by
  intro X Y Z P Q h d u m ls st w a b
  unfold z_ls at a b ⊢
  split at a
  · exact z_lsl_cj (fun t x y => h _ _ _ _ _ _ _ _ _ x y) _ _ _ a b
  · exact a.elim
def z_mo (o : z_O) : Prop := z_mm o ∧ z_cj o
theorem z_mo_Ls (nx : Nat) : z_mo (z_Ls nx) := ⟨z_mm_Ls nx, z_cj_Ls nx⟩
theorem z_mo_ac (nx : Nat) : z_mo (z_ac nx) := ⟨z_mm_ac nx, z_cj_ac nx⟩
theorem z_mo_al (nx : Nat) : z_mo (z_al nx) := ⟨z_mm_al nx, z_cj_al nx⟩
theorem z_mo_bad : z_mo z_bad := ⟨z_mm_bad, z_cj_bad⟩
theorem z_mo_ca (m' k nL : Nat) (ci : Option Nat) (nx : Nat) : z_mo (z_ca m' k nL ci nx) := ⟨z_mm_ca m' k nL ci nx, z_cj_ca m' k nL ci nx⟩
theorem z_mo_cb (m' k nL : Nat) (ci : Option Nat) (b : Nat × Nat) (nx : Nat) : z_mo (z_cb m' k nL ci b nx) := ⟨z_mm_cb m' k nL ci b nx, z_cj_cb m' k nL ci b nx⟩
theorem z_mo_cm (c : Int → Int → Prop) (tgt nx : Nat) : z_mo (z_cm c tgt nx) := ⟨z_mm_cm c tgt nx, z_cj_cm c tgt nx⟩
theorem z_mo_dv (F : Int → Int → Int) (nx : Nat) : z_mo (z_dv F nx) := ⟨z_mm_dv F nx, z_cj_dv F nx⟩
theorem z_mo_gI (ci : Nat) (k : Int) (nx : Nat) : z_mo (z_gI ci k nx) := ⟨z_mm_gI ci k nx, z_cj_gI ci k nx⟩
theorem z_mo_gL (ci : Nat) (k : Int) (nx : Nat) : z_mo (z_gL ci k nx) := ⟨z_mm_gL ci k nx, z_cj_gL ci k nx⟩
theorem z_mo_gR (ci : Nat) (k : Int) (nx : Nat) : z_mo (z_gR ci k nx) := ⟨z_mm_gR ci k nx, z_cj_gR ci k nx⟩
theorem z_mo_ia (nx : Nat) : z_mo (z_ia nx) := ⟨z_mm_ia nx, z_cj_ia nx⟩
theorem z_mo_if (c : Int → Prop) (tgt nx : Nat) : z_mo (z_if c tgt nx) := ⟨z_mm_if c tgt nx, z_cj_if c tgt nx⟩
theorem z_mo_io (nx : Nat) : z_mo (z_io nx) := ⟨z_mm_io nx, z_cj_io nx⟩
theorem z_mo_is (nx : Nat) : z_mo (z_is nx) := ⟨z_mm_is nx, z_cj_is nx⟩
theorem z_mo_lrm (nx : Nat) : z_mo (z_lrm nx) := ⟨z_mm_lrm nx, z_cj_lrm nx⟩
theorem z_mo_ls (ts : List (Int × Nat)) (df : Nat) : z_mo (z_ls ts df) := ⟨z_mm_ls ts df, z_cj_ls ts df⟩
theorem z_mo_na (kd nx : Nat) : z_mo (z_na kd nx) := ⟨z_mm_na kd nx, z_cj_na kd nx⟩
theorem z_mo_nl (tgt nx : Nat) : z_mo (z_nl tgt nx) := ⟨z_mm_nl tgt nx, z_cj_nl tgt nx⟩
theorem z_mo_no (ci nf nx : Nat) : z_mo (z_no ci nf nx) := ⟨z_mm_no ci nf nx, z_cj_no ci nf nx⟩
theorem z_mo_p (f : z_F) (nx : Nat) : z_mo (z_p f nx) := ⟨z_mm_p f nx, z_cj_p f nx⟩
theorem z_mo_pI (ci : Nat) (k : Int) (nx : Nat) : z_mo (z_pI ci k nx) := ⟨z_mm_pI ci k nx, z_cj_pI ci k nx⟩
theorem z_mo_pL (ci : Nat) (k : Int) (nx : Nat) : z_mo (z_pL ci k nx) := ⟨z_mm_pL ci k nx, z_cj_pL ci k nx⟩
theorem z_mo_pR (ci : Nat) (k : Int) (nx : Nat) : z_mo (z_pR ci k nx) := ⟨z_mm_pR ci k nx, z_cj_pR ci k nx⟩
theorem z_mo_pZ (ci : Nat) (k : Int) (nx : Nat) : z_mo (z_pZ ci k nx) := ⟨z_mm_pZ ci k nx, z_cj_pZ ci k nx⟩
theorem z_mo_ra (nx : Nat) : z_mo (z_ra nx) := ⟨z_mm_ra nx, z_cj_ra nx⟩
theorem z_mo_rs (ci nx : Nat) : z_mo (z_rs ci nx) := ⟨z_mm_rs ci nx, z_cj_rs ci nx⟩
theorem z_mo_rta : z_mo z_rta := ⟨z_mm_rta, z_cj_rta⟩
theorem z_mo_rti : z_mo z_rti := ⟨z_mm_rti, z_cj_rti⟩
theorem z_mo_rtl : z_mo z_rtl := ⟨z_mm_rtl, z_cj_rtl⟩
theorem z_mo_rtv : z_mo z_rtv := ⟨z_mm_rtv, z_cj_rtv⟩
theorem z_mo_rtz : z_mo z_rtz := ⟨z_mm_rtz, z_cj_rtz⟩
theorem z_mo_ts (lo hi : Int) (ts : List Nat) (df : Nat) : z_mo (z_ts lo hi ts df) := ⟨z_mm_ts lo hi ts df, z_cj_ts lo hi ts df⟩
/-- the least fixed point over a table of ops -/
def z_clo (T : Nat → Nat → z_O) (X : z_X) : Prop := ∀ d u m pc ls st w Q, T m pc X d u m ls st w Q → X d u m pc ls st w Q
def z_lf (T : Nat → Nat → z_O) : z_X := fun d u m pc ls st w Q => ∀ X, z_clo T X → X d u m pc ls st w Q
theorem z_lf_clo {T : Nat → Nat → z_O} (hT : ∀ m pc, z_mo (T m pc)) : z_clo T (z_lf T) := by
  intro d u m pc ls st w Q h X hX
  exact hX _ _ _ _ _ _ _ _ ((hT m pc).1 (z_lf T) X Q Q (fun _ _ _ _ _ _ _ q => q X hX) (fun _ _ _ _ _ _ _ _ q => q X hX) (fun _ _ q => q) _ _ _ _ _ _ h)
theorem z_lf_un {T : Nat → Nat → z_O} (hT : ∀ m pc, z_mo (T m pc)) (d u m pc ls st w Q) : z_lf T d u m pc ls st w Q ↔ T m pc (z_lf T) d u m ls st w Q := by
  constructor
  · intro h
    refine h (fun d u m pc ls st w Q => T m pc (z_lf T) d u m ls st w Q) ?_
    intro d u m pc ls st w Q h2
    exact (hT m pc).1 _ _ Q Q (fun _ _ _ _ _ _ _ q => z_lf_clo hT _ _ _ _ _ _ _ _ q) (fun _ _ _ _ _ _ _ _ q => z_lf_clo hT _ _ _ _ _ _ _ _ q) (fun _ _ q => q) _ _ _ _ _ _ h2
  · exact z_lf_clo hT _ _ _ _ _ _ _ _
theorem z_lf_q {T : Nat → Nat → z_O} (hT : ∀ m pc, z_mo (T m pc)) {d u m pc ls st w} {P Q : z_P} (h : z_lf T d u m pc ls st w P) (hPQ : ∀ r w, P r w → Q r w) : z_lf T d u m pc ls st w Q := by
  refine h (fun d u m pc ls st w P => ∀ Q : z_P, (∀ r w, P r w → Q r w) → z_lf T d u m pc ls st w Q) ?_ Q hPQ
  intro d u m pc ls st w P h2 Q hPQ
  refine z_lf_clo hT _ _ _ _ _ _ _ _ ((hT m pc).1 _ _ P Q (fun _ _ _ _ _ _ _ q => q Q hPQ) (fun _ _ _ _ _ _ _ S q => q S (fun _ _ z => z)) hPQ _ _ _ _ _ _ h2)

theorem z_lf_and {T : Nat → Nat → z_O} (hT : ∀ m pc, z_mo (T m pc)) {d u m pc ls st w} {P Q : z_P} (hp : z_lf T d u m pc ls st w P) (hq : z_lf T d u m pc ls st w Q) : z_lf T d u m pc ls st w (fun r w => P r w ∧ Q r w) := by
  refine hp (fun d u m pc ls st w P => ∀ Q : z_P, z_lf T d u m pc ls st w Q → z_lf T d u m pc ls st w (fun r w => P r w ∧ Q r w)) ?_ Q hq
  intro d u m pc ls st w P h2 Q hq
  exact z_lf_clo hT _ _ _ _ _ _ _ _ ((hT m pc).2 _ _ _ P Q (fun d u m pc ls st w S S' x y => x S' y) _ _ _ _ _ _ h2 ((z_lf_un hT _ _ _ _ _ _ _ _).1 hq))
