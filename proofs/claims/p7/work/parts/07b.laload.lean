/-! a long out of an array -/
def z_La (nx : Nat) : z_O := fun X d u m ls st w Q => match st with
  | .inl i :: .inr (.inr (some (some p))) :: st' => z_k w p = 101 ∧ 0 ≤ i ∧ i < z_len w p ∧ (z_rl (z_I w p i) → X d u m nx ls (z_l (z_I w p i) :: st') w Q)
  | _ => False
theorem z_mm_La (nx : Nat) : z_mm (z_La nx) := by
  intro X Y P Q h1 h2 h3 d u m ls st w h
  unfold z_La at h ⊢
  split at h
  · exact ⟨h.1, h.2.1, h.2.2.1, fun q => h1 _ _ _ _ _ _ _ (h.2.2.2 q)⟩
  · exact h.elim
theorem z_cj_La (nx : Nat) : z_cj (z_La nx) := by
  intro X Y Z P Q h d u m ls st w a b
  unfold z_La at a b ⊢
  split at a
  · exact ⟨a.1, a.2.1, a.2.2.1, fun q => h _ _ _ _ _ _ _ _ _ (a.2.2.2 q) (b.2.2.2 q)⟩
  · exact a.elim
theorem z_mo_La (nx : Nat) : z_mo (z_La nx) := ⟨z_mm_La nx, z_cj_La nx⟩
theorem z_s_laload {m pc : Nat} (hd : decode (z_mC m) pc = .ok (.laload, 1)) : z_so m pc (z_La (pc + 1)) := by
  intro d u ls st w Q ho p l e R s mi args below meth cd D C A n0 ad0 mc ms Z H locs cells slots la ad hE h1 h2 hcc hs hmc hms hQ hr hl hst
  obtain ⟨hx, hb, -, hml, hown, hts, -, -, hK, hA, hnm, hnf, hao⟩ := id hE
  unfold z_La at ho
  split at ho
  · rename_i i a st2
    have hi : z_rg i := hst _ List.mem_cons_self
    have ha : a < z_N w := hst _ (List.mem_cons_of_mem _ List.mem_cons_self)
    obtain ⟨o1, o2, o3, o4⟩ := ho
    have hrg : z_rl (z_I w a i) := (hr.2.2.2.1.1 a i).1
    have a2 := z_two hr (p := a) (by omega)
    have k := o4 hrg p l e R s mi args below meth cd D C A n0 ad0 mc ms Z H locs cells slots la ad hE h1 h2 hcc hs hmc hms hQ hr hl (z_all (v := z_l (z_I w a i)) hrg (fun v hv => hst v (List.mem_cons_of_mem _ (List.mem_cons_of_mem _ hv))))
    have e1 : z_tv ad (z_l (z_I w a i)) = .long ((fun j : Nat => Int64.ofInt (z_I w a j)) (Int32.ofInt i).toNatClampNeg) := by
      show Value.long _ = Value.long (Int64.ofInt (z_I w a ((Int32.ofInt i).toNatClampNeg : Int)))
      rw [z_ix (w := w) (p := a) hi o2]
    have he := z_ws_get (C := C) (ad := ad) a2 ha
    rw [z_arL o1] at he
    refine va_lald hx hb hK hr.1 (a - 2) 1 he rfl (z_vin o2 o3 hi) hd ?_
    unfold z_JW at k
    rw [List.map_cons, e1] at k
    exact k
  · exact ho.elim
