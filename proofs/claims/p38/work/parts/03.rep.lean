/-! What the machine's state is to the abstract one: values, locals, cells. -/
theorem z_of {z : Int} (h : z_rg z) : (Int32.ofInt z).toInt = z := by
  unfold z_rg at h
  rw [Int32.toInt_ofInt, show Int32.size = 4294967296 from rfl]
  have := h.1
  have := h.2
  rw [Int.bmod_eq_of_le (by omega) (by omega)]
theorem z_ofl {z : Int} (h : z_rl z) : (Int64.ofInt z).toInt = z := by
  unfold z_rl at h
  rw [Int64.toInt_ofInt, show Int64.size = 18446744073709551616 from rfl]
  have := h.1
  have := h.2
  rw [Int.bmod_eq_of_le (by omega) (by omega)]
theorem z_to (x : Int32) : Int32.ofInt x.toInt = x := Int32.ofInt_toInt x
theorem z_tol (x : Int64) : Int64.ofInt x.toInt = x := Int64.ofInt_toInt x
theorem z_rgT (x : Int32) : z_rg x.toInt := by
  have h1 := Int32.le_toInt x
  have h2 := Int32.toInt_lt x
  unfold z_rg
  omega
theorem z_rlT (x : Int64) : z_rl x.toInt := by
  have h1 := Int64.le_toInt x
  have h2 := Int64.toInt_lt x
  unfold z_rl
  omega
theorem z_lt {a b : Int} (ha : z_rg a) (hb : z_rg b) : Int32.ofInt a < Int32.ofInt b ↔ a < b := by
  rw [Int32.lt_iff_toInt_lt, z_of ha, z_of hb]
theorem z_le {a b : Int} (ha : z_rg a) (hb : z_rg b) : Int32.ofInt a ≤ Int32.ofInt b ↔ a ≤ b := by
  rw [Int32.le_iff_toInt_le, z_of ha, z_of hb]
theorem z_eq {a b : Int} (ha : z_rg a) (hb : z_rg b) : Int32.ofInt a = Int32.ofInt b ↔ a = b := by
  rw [← Int32.toInt_inj, z_of ha, z_of hb]
theorem z_rg0 : z_rg 0 := by unfold z_rg; omega
theorem z_cn {z : Int} (h0 : 0 ≤ z) (h : z_rg z) : (Int32.ofInt z).toNatClampNeg = z.toNat := by
  show ((Int32.ofInt z).toInt).toNat = z.toNat
  rw [z_of h]
theorem z_vin {z len : Int} (h0 : 0 ≤ z) (h : z < len) (hr : z_rg z) : vp_in (Int32.ofInt z) len.toNat := by
  rw [vp_in_iff, z_of hr]
  omega
def z_tv (ad : Nat → Nat) (v : z_V) : Value := match v with
  | .inl z => .int (Int32.ofInt z)
  | .inr (.inl z) => .long (Int64.ofInt z)
  | .inr (.inr (some o)) => va_rf (o.map ad)
  | .inr (.inr none) => .null
def z_ok (n : Nat) (v : z_V) : Prop := match v with
  | .inl z => z_rg z
  | .inr (.inl z) => z_rl z
  | .inr (.inr (some (some k))) => k < n
  | .inr (.inr (some none)) => True
  | .inr (.inr none) => False
theorem z_ok_mono {n n' : Nat} (h : n ≤ n') {v : z_V} (hv : z_ok n v) : z_ok n' v := by
  rcases v with z | z | (_ | (_ | k))
  · exact hv
  · exact hv
  · exact hv
  · exact hv
  · exact Nat.lt_of_lt_of_le hv h
theorem z_tv_ext {n : Nat} {ad ad' : Nat → Nat} (h : ∀ k, k < n → ad' k = ad k) {v : z_V} (hv : z_ok n v) : z_tv ad' v = z_tv ad v := by
  rcases v with z | z | (_ | (_ | k))
  · rfl
  · rfl
  · rfl
  · rfl
  · show va_rf (some (ad' k)) = va_rf (some (ad k))
    rw [h k hv]
theorem z_ok_vr {n : Nat} {o : Option Nat} (h : ∀ k, o = some k → k < n) : z_ok n (z_vr o) := by
  cases o with
  | none => trivial
  | some k => exact h k rfl
/-- locals -/
def z_lo (ad : Nat → Nat) (n nL : Nat) (ls : List z_V) (la : Array Slot) : Prop := la.size = nL ∧ lv_wf la ∧ ls.length = nL ∧ ∀ (i : Nat) (v : z_V), ls[i]? = some v → v = z_x ∨ (z_ok n v ∧ la[i]? = some (.val (z_tv ad v)))
theorem z_lo_ext {n n' nL : Nat} (hn : n ≤ n') {ad ad' : Nat → Nat} (h : ∀ k, k < n → ad' k = ad k) {ls : List z_V} {la : Array Slot} (hl : z_lo ad n nL ls la) : z_lo ad' n' nL ls la := by
  refine ⟨hl.1, hl.2.1, hl.2.2.1, fun i v hi => ?_⟩
  rcases hl.2.2.2 i v hi with q | ⟨q1, q2⟩
  · exact Or.inl q
  · exact Or.inr ⟨z_ok_mono hn q1, by rw [z_tv_ext h q1]; exact q2⟩
/-- the listed locals -/
def z_lv (ad : Nat → Nat) : List z_V → Nat → List (Nat × Value)
  | [], _ => []
  | .inr (.inr none) :: l, i => z_lv ad l (i + 1)
  | v :: l, i => (i, z_tv ad v) :: z_lv ad l (i + 1)
theorem z_lv_mem (ad : Nat → Nat) : ∀ (l : List z_V) (k : Nat) (q : Nat × Value), q ∈ z_lv ad l k ↔ ∃ (i : Nat) (v : z_V), l[i]? = some v ∧ v ≠ z_x ∧ q = (k + i, z_tv ad v) := by
  intro l
  induction l with
  | nil => intro k q; simp [z_lv]
  | cons a l ih =>
    intro k q
    have tail : (∃ (i : Nat) (v : z_V), l[i]? = some v ∧ v ≠ z_x ∧ q = (k + 1 + i, z_tv ad v)) ↔ ∃ (i : Nat) (v : z_V), (a :: l)[i + 1]? = some v ∧ v ≠ z_x ∧ q = (k + (i + 1), z_tv ad v) := by
      constructor
      · rintro ⟨i, v, h1, h2, h3⟩
        exact ⟨i, v, by simpa using h1, h2, by rw [h3]; congr 1; omega⟩
      · rintro ⟨i, v, h1, h2, h3⟩
        exact ⟨i, v, by simpa using h1, h2, by rw [h3]; congr 1; omega⟩
    by_cases ha : a = z_x
    · subst ha
      show q ∈ z_lv ad l (k + 1) ↔ _
      rw [ih, tail]
      constructor
      · rintro ⟨i, v, h1, h2, h3⟩
        exact ⟨i + 1, v, h1, h2, h3⟩
      · rintro ⟨i, v, h1, h2, h3⟩
        cases i with
        | zero => simp at h1; exact absurd h1.symm h2
        | succ i => exact ⟨i, v, h1, h2, h3⟩
    · have e : z_lv ad (a :: l) k = (k, z_tv ad a) :: z_lv ad l (k + 1) := by
        rcases a with z | z | (_ | (_ | o))
        · rfl
        · rfl
        · exact absurd rfl ha
        · rfl
        · rfl
      rw [e, List.mem_cons, ih, tail]
      constructor
      · rintro (h | ⟨i, v, h1, h2, h3⟩)
        · exact ⟨0, a, rfl, ha, by rw [h]; rfl⟩
        · exact ⟨i + 1, v, h1, h2, h3⟩
      · rintro ⟨i, v, h1, h2, h3⟩
        cases i with
        | zero =>
          simp at h1
          subst h1
          exact Or.inl h3
        | succ i => exact Or.inr ⟨i, v, h1, h2, h3⟩
theorem z_lo_has {ad : Nat → Nat} {n nL : Nat} {ls : List z_V} {la : Array Slot} (h : z_lo ad n nL ls la) : lv_has la nL (z_lv ad ls 0) := by
  refine ⟨h.1, h.2.1, fun q hq => ?_⟩
  obtain ⟨i, v, h1, h2, h3⟩ := (z_lv_mem ad ls 0 q).mp hq
  subst h3
  rcases h.2.2.2 i v h1 with e | e
  · exact absurd e h2
  · simpa using e.2
theorem z_cat {ad : Nat → Nat} {v : z_V} (h : v.isLeft = true ∨ ∃ o, v = .inr (.inr o)) : (z_tv ad v).category = 1 := by
  rcases v with z | z | (_ | (_ | k))
  · rfl
  · rcases h with h | ⟨o, h⟩ <;> cases h
  · rfl
  · rfl
  · rfl
theorem z_set_len (v : z_V) : ∀ (l : List z_V) (i : Nat), (z_set l i v).length = l.length
  | [], _ => rfl
  | _ :: _, 0 => rfl
  | a :: l, i + 1 => by show ((if i = 0 then z_kl a else a) :: z_set l i v).length = _; rw [List.length_cons, z_set_len v l i, List.length_cons]
/-- what stands in a list that was set: the new value; or an old one, elsewhere, that is no long just ahead -/
theorem z_set_get (v : z_V) : ∀ (l : List z_V) (i j : Nat) (u : z_V), (z_set l i v)[j]? = some u → (j = i ∧ u = v) ∨ (j ≠ i ∧ (u = z_x ∨ (l[j]? = some u ∧ (j + 1 = i → ∀ z, u ≠ z_l z))))
  | [], i, j, u, h => by simp [z_set] at h
  | a :: l, 0, j, u, h => by
    cases j with
    | zero => simp [z_set] at h; exact Or.inl ⟨rfl, h.symm⟩
    | succ j => simp [z_set] at h; exact Or.inr ⟨by omega, Or.inr ⟨by simpa using h, fun q => by omega⟩⟩
  | a :: l, i + 1, j, u, h => by
    cases j with
    | zero =>
      simp only [z_set, List.getElem?_cons_zero, Option.some.injEq] at h
      refine Or.inr ⟨by omega, ?_⟩
      by_cases hi : i = 0
      · rw [if_pos hi] at h
        rcases a with z | z | o
        · exact Or.inr ⟨by rw [← h]; rfl, fun _ z' q => by rw [q] at h; cases h⟩
        · exact Or.inl h.symm
        · exact Or.inr ⟨by rw [← h]; rfl, fun _ z' q => by rw [q] at h; cases h⟩
      · rw [if_neg hi] at h
        exact Or.inr ⟨by rw [← h]; rfl, fun q => by omega⟩
    | succ j =>
      simp only [z_set, List.getElem?_cons_succ] at h
      rcases z_set_get v l i j u h with ⟨e1, e2⟩ | ⟨e1, e2⟩
      · exact Or.inl ⟨by omega, e2⟩
      · refine Or.inr ⟨by omega, ?_⟩
        rcases e2 with e2 | ⟨e2, e3⟩
        · exact Or.inl e2
        · exact Or.inr ⟨by simpa using e2, fun q => e3 (by omega)⟩
/-- a store of one word -/
theorem z_lo_set {ad : Nat → Nat} {n nL : Nat} {ls : List z_V} {la la' : Array Slot} {i : Nat} {v : z_V} (h : z_lo ad n nL ls la) (hv : z_ok n v)
    (h' : lv_has la' nL ((i, z_tv ad v) :: (z_lv ad ls 0).filter (fun q => !(q.1 == i) && !(q.1 + 1 == i && q.2.category == 2)))) : z_lo ad n nL (z_set ls i v) la' := by
  refine ⟨h'.1, h'.2.1, by rw [z_set_len]; exact h.2.2.1, fun j u hj => ?_⟩
  rcases z_set_get v ls i j u hj with ⟨rfl, rfl⟩ | ⟨h1, h2 | ⟨h2, h3⟩⟩
  · exact Or.inr ⟨hv, h'.2.2 (j, _) List.mem_cons_self⟩
  · exact Or.inl h2
  · by_cases hx : u = z_x
    · exact Or.inl hx
    · refine Or.inr ⟨?_, h'.2.2 (j, z_tv ad u) (List.mem_cons_of_mem _ (List.mem_filter.mpr ⟨(z_lv_mem ad ls 0 _).mpr ⟨j, u, h2, hx, by rw [Nat.zero_add]⟩, ?_⟩))⟩
      · rcases h.2.2.2 j u h2 with q | q
        · exact absurd q hx
        · exact q.1
      · have c1 : ¬ (j + 1 = i ∧ (z_tv ad u).category = 2) := by
          rintro ⟨q1, q2⟩
          rcases u with z | z | (_ | (_ | k))
          · cases q2
          · exact h3 q1 z rfl
          · cases q2
          · cases q2
          · cases q2
        simp only [Bool.and_eq_true, Bool.not_eq_true', beq_eq_false_iff_ne, ne_eq, Bool.and_eq_false_iff]
        refine ⟨h1, ?_⟩
        by_cases q1 : j + 1 = i
        · exact Or.inr (fun q2 => c1 ⟨q1, q2⟩)
        · exact Or.inl q1
/-- a store of a long -/
theorem z_lo_set2 {ad : Nat → Nat} {n nL : Nat} {ls : List z_V} {la la' : Array Slot} {i : Nat} {z : Int} (h : z_lo ad n nL ls la) (hv : z_rl z)
    (h' : lv_has la' nL ((i, .long (Int64.ofInt z)) :: (z_lv ad ls 0).filter (fun q => !(q.1 == i) && (!(q.1 == i + 1) && !(q.1 + 1 == i && q.2.category == 2))))) : z_lo ad n nL ((z_set ls i (z_l z)).set (i + 1) z_x) la' := by
  refine ⟨h'.1, h'.2.1, by rw [List.length_set, z_set_len]; exact h.2.2.1, fun j u hj => ?_⟩
  by_cases hj1 : j = i + 1
  · subst hj1
    rw [List.getElem?_set] at hj
    simp only [if_true] at hj
    split at hj
    · exact Or.inl (Option.some.inj hj).symm
    · cases hj
  · rw [List.getElem?_set_ne (fun q => hj1 q.symm)] at hj
    rcases z_set_get (z_l z) ls i j u hj with ⟨rfl, rfl⟩ | ⟨h1, h2 | ⟨h2, h3⟩⟩
    · exact Or.inr ⟨hv, h'.2.2 (j, _) List.mem_cons_self⟩
    · exact Or.inl h2
    · by_cases hx : u = z_x
      · exact Or.inl hx
      · refine Or.inr ⟨?_, h'.2.2 (j, z_tv ad u) (List.mem_cons_of_mem _ (List.mem_filter.mpr ⟨(z_lv_mem ad ls 0 _).mpr ⟨j, u, h2, hx, by rw [Nat.zero_add]⟩, ?_⟩))⟩
        · rcases h.2.2.2 j u h2 with q | q
          · exact absurd q hx
          · exact q.1
        · have c1 : ¬ (j + 1 = i ∧ (z_tv ad u).category = 2) := by
            rintro ⟨q1, q2⟩
            rcases u with z | z | (_ | (_ | k))
            · cases q2
            · exact h3 q1 z rfl
            · cases q2
            · cases q2
            · cases q2
          simp only [Bool.and_eq_true, Bool.not_eq_true', beq_eq_false_iff_ne, ne_eq, Bool.and_eq_false_iff]
          refine ⟨h1, hj1, ?_⟩
          by_cases q1 : j + 1 = i
          · exact Or.inr (fun q2 => c1 ⟨q1, q2⟩)
          · exact Or.inl q1
/-- cells -/
def z_fv (ad : Nat → Nat) (w : z_W) (p : Nat) (j : Nat) (t : FieldType) : Value := match t with
  | .long => .long (Int64.ofInt (z_I w p j))
  | .object _ => va_rf ((z_R w p j).map ad)
  | .array _ => va_rf ((z_R w p j).map ad)
  | _ => .int (Int32.ofInt (z_I w p j))
abbrev z_C3 : Type := ClassId × ClassId × ClassId
def z_cell (C : z_C3) (ad : Nat → Nat) (w : z_W) (p : Nat) : va_E :=
  if z_k w p < 13 then .inr (z_k w p, (List.range (z_nf (z_k w p))).map (fun j => z_fv ad w p j (z_ty (z_k w p) j)))
  else if z_k w p = 101 then .inl (C.2.1, (z_len w p).toNat, .inr (.inl (fun j => Int64.ofInt (z_I w p j))))
  else if z_k w p = 102 then .inl (C.2.2, (z_len w p).toNat, .inr (.inr (.inr (.inr (fun j => (z_R w p j).map ad)))))
  else .inl (C.1, (z_len w p).toNat, .inl (fun j => Int32.ofInt (z_I w p j)))
def z_ws (C : z_C3) (ad : Nat → Nat) (w : z_W) : va_W := (List.range (z_N w - 2)).map (fun k => (ad (k + 2), z_cell C ad w (k + 2)))
theorem z_ws_get {C : z_C3} {ad : Nat → Nat} {w : z_W} {p : Nat} (h2 : 2 ≤ p) (hp : p < z_N w) : (z_ws C ad w)[p - 2]? = some (ad p, z_cell C ad w p) := by
  unfold z_ws
  rw [List.getElem?_map, List.getElem?_range (by omega)]
  show some (ad (p - 2 + 2), z_cell C ad w (p - 2 + 2)) = _
  rw [show p - 2 + 2 = p by omega]
theorem z_ws_len (C : z_C3) (ad : Nat → Nat) (w : z_W) : (z_ws C ad w).length = z_N w - 2 := by
  unfold z_ws; simp
theorem z_ws_set {C : z_C3} {ad : Nat → Nat} {w w' : z_W} {p : Nat} (h2 : 2 ≤ p) (hp : p < z_N w) (hN : z_N w' = z_N w) (ho : ∀ q, q ≠ p → z_cell C ad w' q = z_cell C ad w q) : (z_ws C ad w).set (p - 2) (ad p, z_cell C ad w' p) = z_ws C ad w' := by
  apply List.ext_getElem?
  intro j
  by_cases hj : j = p - 2
  · subst hj
    rw [List.getElem?_set_self (by rw [z_ws_len]; omega), z_ws_get h2 (by omega)]
  · rw [List.getElem?_set_ne (Ne.symm hj)]
    by_cases hl : j < z_N w - 2
    · have e1 := z_ws_get (C := C) (ad := ad) (w := w) (p := j + 2) (by omega) (by omega)
      have e2 := z_ws_get (C := C) (ad := ad) (w := w') (p := j + 2) (by omega) (by omega)
      rw [show j + 2 - 2 = j by omega] at e1 e2
      rw [e1, e2, ho _ (by omega)]
    · rw [List.getElem?_eq_none (by rw [z_ws_len]; omega), List.getElem?_eq_none (by rw [z_ws_len]; omega)]
