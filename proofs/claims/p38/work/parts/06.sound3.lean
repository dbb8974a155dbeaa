theorem z_obj {D : va_G} {C : z_C3} {A : Nat → Prop} {s : State} {n0 : Nat} {ad0 : Nat → Nat} {H : Heap} {locs : List Loc} {ad : Nat → Nat} {w : z_W} {p ci : Nat} (hr : z_rep D C A s n0 ad0 H locs ad w) (hp : p < z_N w) (hk : z_k w p = ci) (hci : ci < 13) : 2 ≤ p ∧ (z_ws C ad w)[p - 2]? = some (ad p, .inr (ci, (List.range (z_nf ci)).map (fun j => z_fv ad w p j (z_ty ci j)))) := by
  obtain ⟨hP, hD, hS, hv, ho, -⟩ := hr
  have h2 : 2 ≤ p := by
    rcases Nat.lt_or_ge p 2 with q | q
    · have := (ho.1 p q).1
      omega
    · exact q
  refine ⟨h2, ?_⟩
  rw [z_ws_get h2 hp]
  unfold z_cell
  rw [hk, if_pos hci]
theorem z_rd {N k : Nat} {f : Nat → Value} (h : k < N) : ((List.range N).map f)[k]? = some (f k) := by
  rw [List.getElem?_map, List.getElem?_range h]; rfl
theorem z_s_getI {m pc idx ci N k : Nat} {Cn : String} {T : u_T} {kz : Int} (hc : z_cls[ci]? = some (Cn, T, N)) (hk : k < N) (hkz : kz = (k : Int)) (hty : z_ty ci k = .int ∨ z_ty ci k = .boolean) (hw : (Cond.fieldLink (z_mY m).cls idx Cn (T k).2.1 (T k).2.2.1) ∈ z_TB) (hd : decode (z_mC m) pc = .ok (.getfield idx, 3)) : z_so m pc (z_gI ci kz (pc + 3)) := by
  subst hkz
  intro d u ls st w Q ho p l e R s mi args below meth cd D C A n0 ad0 mc ms Z H locs cells slots la ad hE h1 h2 hcc hs hmc hms hQ hr hl hst
  obtain ⟨hx, hb, -, -, hown, hts, -, -, hK, -⟩ := id hE
  obtain ⟨f1, f2, f3, f4, f5, f6⟩ := z_clf _ _ _ _ hc
  unfold z_gI at ho
  split at ho
  · rename_i a st2
    have ha : a < z_N w := hst _ List.mem_cons_self
    obtain ⟨a2, he⟩ := z_obj hr ha ho.1 f5
    have hrg : z_rg (z_I w a k) := by
      refine (hr.2.2.2.1.1 a k).2 ?_
      rintro (q | ⟨-, q⟩)
      · omega
      · rw [ho.1, Int.toNat_natCast] at q
        rcases hty with z | z <;> rw [z] at q <;> cases q
    refine va_get hx hb hts f1 hown hK hr.1 (a - 2) he hc k hk (hts _ hw) (fun x hx => by rw [f6 k hk] at hx; exact hx) (z_rd (by rw [f4]; exact hk)) hd ?_
    have e1 : z_fv ad w a k (z_ty ci k) = z_tv ad (z_i (z_I w a k)) := by
      rcases hty with z | z <;> rw [z] <;> rfl
    rw [e1]
    exact ho.2 hrg p l e R s mi args below meth cd D C A n0 ad0 mc ms Z H locs cells slots la ad hE h1 h2 hcc hs hmc hms hQ hr hl (z_all hrg (fun v hv => hst v (List.mem_cons_of_mem _ hv)))
  · exact ho.elim
theorem z_s_getL {m pc idx ci N k : Nat} {Cn : String} {T : u_T} {kz : Int} (hc : z_cls[ci]? = some (Cn, T, N)) (hk : k < N) (hkz : kz = (k : Int)) (hty : z_ty ci k = .long) (hw : (Cond.fieldLink (z_mY m).cls idx Cn (T k).2.1 (T k).2.2.1) ∈ z_TB) (hd : decode (z_mC m) pc = .ok (.getfield idx, 3)) : z_so m pc (z_gL ci kz (pc + 3)) := by
  subst hkz
  intro d u ls st w Q ho p l e R s mi args below meth cd D C A n0 ad0 mc ms Z H locs cells slots la ad hE h1 h2 hcc hs hmc hms hQ hr hl hst
  obtain ⟨hx, hb, -, -, hown, hts, -, -, hK, -⟩ := id hE
  obtain ⟨f1, f2, f3, f4, f5, f6⟩ := z_clf _ _ _ _ hc
  unfold z_gL at ho
  split at ho
  · rename_i a st2
    have ha : a < z_N w := hst _ List.mem_cons_self
    obtain ⟨a2, he⟩ := z_obj hr ha ho.1 f5
    refine va_get hx hb hts f1 hown hK hr.1 (a - 2) he hc k hk (hts _ hw) (fun x hx => by rw [f6 k hk] at hx; exact hx) (z_rd (by rw [f4]; exact hk)) hd ?_
    have e1 : z_fv ad w a k (z_ty ci k) = z_tv ad (z_l (z_I w a k)) := by rw [hty]; rfl
    rw [e1]
    exact ho.2 p l e R s mi args below meth cd D C A n0 ad0 mc ms Z H locs cells slots la ad hE h1 h2 hcc hs hmc hms hQ hr hl (z_all (v := z_l (z_I w a k)) (hr.2.2.2.1.1 a k).1 (fun v hv => hst v (List.mem_cons_of_mem _ hv)))
  · exact ho.elim
def z_rt (t : FieldType) : Prop := (∃ n, t = .object n) ∨ ∃ u, t = .array u
theorem z_s_getR {m pc idx ci N k : Nat} {Cn : String} {T : u_T} {kz : Int} (hc : z_cls[ci]? = some (Cn, T, N)) (hk : k < N) (hkz : kz = (k : Int)) (hty : z_rt (z_ty ci k)) (hw : (Cond.fieldLink (z_mY m).cls idx Cn (T k).2.1 (T k).2.2.1) ∈ z_TB) (hd : decode (z_mC m) pc = .ok (.getfield idx, 3)) : z_so m pc (z_gR ci kz (pc + 3)) := by
  subst hkz
  intro d u ls st w Q ho p l e R s mi args below meth cd D C A n0 ad0 mc ms Z H locs cells slots la ad hE h1 h2 hcc hs hmc hms hQ hr hl hst
  obtain ⟨hx, hb, -, -, hown, hts, -, -, hK, -⟩ := id hE
  obtain ⟨f1, f2, f3, f4, f5, f6⟩ := z_clf _ _ _ _ hc
  unfold z_gR at ho
  split at ho
  · rename_i a st2
    have ha : a < z_N w := hst _ List.mem_cons_self
    obtain ⟨a2, he⟩ := z_obj hr ha ho.1 f5
    refine va_get hx hb hts f1 hown hK hr.1 (a - 2) he hc k hk (hts _ hw) (fun x hx => by rw [f6 k hk] at hx; exact hx) (z_rd (by rw [f4]; exact hk)) hd ?_
    have e1 : z_fv ad w a k (z_ty ci k) = z_tv ad (z_vr (z_R w a k)) := by
      rcases hty with ⟨n, z⟩ | ⟨n, z⟩ <;> rw [z] <;> rfl
    rw [e1]
    exact ho.2 p l e R s mi args below meth cd D C A n0 ad0 mc ms Z H locs cells slots la ad hE h1 h2 hcc hs hmc hms hQ hr hl (z_all (z_ok_vr (fun q hq => hr.2.2.2.1.2.1 a k q hq)) (fun v hv => hst v (List.mem_cons_of_mem _ hv)))
  · exact ho.elim
/-- a write of a number -/
theorem z_rep_sI {D : va_G} {C : z_C3} {A : Nat → Prop} {s : State} {n0 : Nat} {ad0 : Nat → Nat} {H H1 : Heap} {locs locs1 : List Loc} {ad : Nat → Nat} {w : z_W} {p : Nat} {k z : Int} (hr : z_rep D C A s n0 ad0 H locs ad w) (h2 : 2 ≤ p) (hp : p < z_N w) (hz : z_rl z ∧ (¬ z_lg w p k → z_rg z)) {e : va_E} (he : z_cell C ad (z_sI w p k z) p = e)
    (hP : va_P D z_cls ((z_ws C ad w).set (p - 2) (ad p, e)) H1) (hD : va_D A ((z_ws C ad w).set (p - 2) (ad p, e))) (hS : va_S A s.heap H1 locs1) : z_rep D C A s n0 ad0 H1 locs1 ad (z_sI w p k z) := by
  obtain ⟨-, -, -, hv, ho, hn, hn2⟩ := hr
  have e1 : (z_ws C ad w).set (p - 2) (ad p, e) = z_ws C ad (z_sI w p k z) := by
    rw [← he]
    exact z_ws_set h2 hp rfl (fun q hq => z_cell_eq rfl rfl (fun j => by rw [z_I_sI, if_neg (fun x => hq x.1)]) (fun j => rfl))
  rw [e1] at hP hD
  refine ⟨hP, hD, hS, ⟨fun q j => ?_, fun q j x hx => hv.2.1 q j x hx, fun q hq => hv.2.2.1 q hq, hv.2.2.2.1, fun q h hq => hv.2.2.2.2 q h hq⟩, ⟨fun q hq => ?_, ho.2⟩, hn, hn2⟩
  · rw [z_I_sI]
    split
    · rename_i hq
      obtain ⟨rfl, rfl⟩ := hq
      exact hz
    · exact hv.1 q j
  · obtain ⟨g1, g2, g3⟩ := ho.1 q hq
    refine ⟨g1, ?_, g3⟩
    have : (fun j : Nat => Int32.ofInt (z_I (z_sI w p k z) q j)) = fun j : Nat => Int32.ofInt (z_I w q j) := by
      funext j
      rw [z_I_sI, if_neg (by omega)]
    rw [this]
    exact g2
theorem z_range_set {N k : Nat} {f g : Nat → Value} (hk : k < N) (hg : ∀ j, j ≠ k → g j = f j) : ((List.range N).map f).set k (g k) = (List.range N).map g := by
  apply List.ext_getElem?
  intro j
  by_cases hj : j = k
  · subst hj
    rw [List.getElem?_set_self (by simpa using hk), z_rd hk]
  · rw [List.getElem?_set_ne (Ne.symm hj), List.getElem?_map, List.getElem?_map]
    cases hq : (List.range N)[j]? with
    | none => rfl
    | some a =>
      have : a = j := by
        have := List.getElem?_eq_some_iff.mp hq
        obtain ⟨h1, h2⟩ := this
        simpa using h2.symm
      subst this
      exact congrArg some (hg a hj).symm
theorem z_obj_set {C : z_C3} {ad : Nat → Nat} {w w' : z_W} {p ci N k : Nat} (hk : z_k w p = ci) (hk' : z_k w' p = ci) (hci : ci < 13) (hN : z_nf ci = N) (hkN : k < N) (ho : ∀ j, j ≠ k → z_fv ad w' p j (z_ty ci j) = z_fv ad w p j (z_ty ci j)) {v : Value} (hv : z_fv ad w' p k (z_ty ci k) = v) : z_cell C ad w' p = .inr (ci, ((List.range (z_nf ci)).map (fun j => z_fv ad w p j (z_ty ci j))).set k v) := by
  unfold z_cell
  rw [hk', if_pos hci, ← hv]
  rw [z_range_set (g := fun j => z_fv ad w' p j (z_ty ci j)) (by rw [hN]; exact hkN) ho]
theorem z_fv_sI {ad : Nat → Nat} {w : z_W} {p k j : Nat} {z : Int} {t : FieldType} (h : j ≠ k) : z_fv ad (z_sI w p k z) p j t = z_fv ad w p j t := by
  unfold z_fv
  rw [z_I_sI, if_neg (by omega)]
  rfl
theorem z_fv_I {ad : Nat → Nat} {w : z_W} {p k : Nat} {z : Int} {t : FieldType} (h : t = .int ∨ t = .boolean) : z_fv ad (z_sI w p k z) p k t = .int (Int32.ofInt z) := by
  have e : z_I (z_sI w p k z) p k = z := by rw [z_I_sI, if_pos ⟨rfl, rfl⟩]
  rcases h with rfl | rfl
  · show Value.int (Int32.ofInt (z_I (z_sI w p k z) p k)) = _
    rw [e]
  · show Value.int (Int32.ofInt (z_I (z_sI w p k z) p k)) = _
    rw [e]
theorem z_fv_L {ad : Nat → Nat} {w : z_W} {p k : Nat} {z : Int} {t : FieldType} (h : t = .long) : z_fv ad (z_sI w p k z) p k t = .long (Int64.ofInt z) := by
  have e : z_I (z_sI w p k z) p k = z := by rw [z_I_sI, if_pos ⟨rfl, rfl⟩]
  subst h
  show Value.long (Int64.ofInt (z_I (z_sI w p k z) p k)) = _
  rw [e]
theorem z_fv_R {ad : Nat → Nat} {w : z_W} {p k : Nat} {o : Option Nat} {t : FieldType} (h : z_rt t) : z_fv ad (z_sR w p k o) p k t = va_rf (o.map ad) := by
  have e : z_R (z_sR w p k o) p k = o := by rw [z_R_sR, if_pos ⟨rfl, rfl⟩]
  rcases h with ⟨n, rfl⟩ | ⟨n, rfl⟩
  · show va_rf ((z_R (z_sR w p k o) p k).map ad) = _
    rw [e]
  · show va_rf ((z_R (z_sR w p k o) p k).map ad) = _
    rw [e]
theorem z_s_putI {m pc idx ci N k : Nat} {Cn : String} {T : u_T} {kz : Int} (hc : z_cls[ci]? = some (Cn, T, N)) (hk : k < N) (hkz : kz = (k : Int)) (hfin : (T k).2.2.2 = false) (hty : z_ty ci k = .int) (hw : (Cond.fieldLink (z_mY m).cls idx Cn (T k).2.1 (T k).2.2.1) ∈ z_TB) (hd : decode (z_mC m) pc = .ok (.putfield idx, 3)) : z_so m pc (z_pI ci kz (pc + 3)) := by
  subst hkz
  intro d u ls st w Q ho p l e R s mi args below meth cd D C A n0 ad0 mc ms Z H locs cells slots la ad hE h1 h2 hcc hs hmc hms hQ hr hl hst
  obtain ⟨hx, hb, -, -, hown, hts, -, -, hK, -⟩ := id hE
  obtain ⟨f1, f2, f3, f4, f5, f6⟩ := z_clf _ _ _ _ hc
  unfold z_pI at ho
  split at ho
  · rename_i z a st2
    have hz : z_rg z := hst _ List.mem_cons_self
    have ha : a < z_N w := hst _ (List.mem_cons_of_mem _ List.mem_cons_self)
    obtain ⟨a2, he⟩ := z_obj hr ha ho.1 f5
    refine va_put hx hb hts f1 (z_ty ci) f2 f3 hown hK hr.1 hr.2.1 hr.2.2.1 (a - 2) he hc k hk (hts _ hw) (fun x hx => by rw [f6 k hk] at hx; exact hx) hfin (ty := .int) (v := .int (Int32.ofInt z)) (by rw [f2 k hk, hty]) rfl rfl (by simp [f4]; exact hk) hd (fun H1 locs1 hP hD hS => ?_)
    have hr2 := z_rep_sI (k := k) (z := z) hr a2 ha ⟨by unfold z_rl; unfold z_rg at hz; omega, fun _ => hz⟩ (z_obj_set (ad := ad) (w := w) (w' := z_sI w a k z) ho.1 ho.1 f5 f4 hk (fun j hj => z_fv_sI hj) (z_fv_I (Or.inl hty))) hP hD hS
    exact ho.2 p l e R s mi args below meth cd D C A n0 ad0 mc ms Z H1 locs1 cells slots la ad hE h1 h2 hcc hs hmc hms hQ hr2 hl (fun v hv => hst v (List.mem_cons_of_mem _ (List.mem_cons_of_mem _ hv)))
  · exact ho.elim
theorem z_s_putZ {m pc idx ci N k : Nat} {Cn : String} {T : u_T} {kz : Int} (hc : z_cls[ci]? = some (Cn, T, N)) (hk : k < N) (hkz : kz = (k : Int)) (hfin : (T k).2.2.2 = false) (hty : z_ty ci k = .boolean) (hw : (Cond.fieldLink (z_mY m).cls idx Cn (T k).2.1 (T k).2.2.1) ∈ z_TB) (hd : decode (z_mC m) pc = .ok (.putfield idx, 3)) : z_so m pc (z_pZ ci kz (pc + 3)) := by
  subst hkz
  intro d u ls st w Q ho p l e R s mi args below meth cd D C A n0 ad0 mc ms Z H locs cells slots la ad hE h1 h2 hcc hs hmc hms hQ hr hl hst
  obtain ⟨hx, hb, -, -, hown, hts, -, -, hK, -⟩ := id hE
  obtain ⟨f1, f2, f3, f4, f5, f6⟩ := z_clf _ _ _ _ hc
  unfold z_pZ at ho
  split at ho
  · rename_i z a st2
    have hz : z_rg z := hst _ List.mem_cons_self
    have ha : a < z_N w := hst _ (List.mem_cons_of_mem _ List.mem_cons_self)
    obtain ⟨a2, he⟩ := z_obj hr ha ho.1 f5
    refine va_put hx hb hts f1 (z_ty ci) f2 f3 hown hK hr.1 hr.2.1 hr.2.2.1 (a - 2) he hc k hk (hts _ hw) (fun x hx => by rw [f6 k hk] at hx; exact hx) hfin (ty := .boolean) (v := .int (Int32.ofInt z)) (by rw [f2 k hk, hty]) (by rcases ho.2.1 with q | q <;> subst q <;> rfl) (by rcases ho.2.1 with q | q <;> subst q <;> rfl) (by simp [f4]; exact hk) hd (fun H1 locs1 hP hD hS => ?_)
    have hr2 := z_rep_sI (k := k) (z := z) hr a2 ha ⟨by unfold z_rl; unfold z_rg at hz; omega, fun _ => hz⟩ (z_obj_set (ad := ad) (w := w) (w' := z_sI w a k z) ho.1 ho.1 f5 f4 hk (fun j hj => z_fv_sI hj) (z_fv_I (Or.inr hty))) hP hD hS
    exact ho.2.2 p l e R s mi args below meth cd D C A n0 ad0 mc ms Z H1 locs1 cells slots la ad hE h1 h2 hcc hs hmc hms hQ hr2 hl (fun v hv => hst v (List.mem_cons_of_mem _ (List.mem_cons_of_mem _ hv)))
  · exact ho.elim
theorem z_s_putL {m pc idx ci N k : Nat} {Cn : String} {T : u_T} {kz : Int} (hc : z_cls[ci]? = some (Cn, T, N)) (hk : k < N) (hkz : kz = (k : Int)) (hfin : (T k).2.2.2 = false) (hty : z_ty ci k = .long) (hw : (Cond.fieldLink (z_mY m).cls idx Cn (T k).2.1 (T k).2.2.1) ∈ z_TB) (hd : decode (z_mC m) pc = .ok (.putfield idx, 3)) : z_so m pc (z_pL ci kz (pc + 3)) := by
  subst hkz
  intro d u ls st w Q ho p l e R s mi args below meth cd D C A n0 ad0 mc ms Z H locs cells slots la ad hE h1 h2 hcc hs hmc hms hQ hr hl hst
  obtain ⟨hx, hb, -, -, hown, hts, -, -, hK, -⟩ := id hE
  obtain ⟨f1, f2, f3, f4, f5, f6⟩ := z_clf _ _ _ _ hc
  unfold z_pL at ho
  split at ho
  · rename_i z a st2
    have hz : z_rl z := hst _ List.mem_cons_self
    have ha : a < z_N w := hst _ (List.mem_cons_of_mem _ List.mem_cons_self)
    obtain ⟨a2, he⟩ := z_obj hr ha ho.1 f5
    refine va_put hx hb hts f1 (z_ty ci) f2 f3 hown hK hr.1 hr.2.1 hr.2.2.1 (a - 2) he hc k hk (hts _ hw) (fun x hx => by rw [f6 k hk] at hx; exact hx) hfin (ty := .long) (v := .long (Int64.ofInt z)) (by rw [f2 k hk, hty]) rfl rfl (by simp [f4]; exact hk) hd (fun H1 locs1 hP hD hS => ?_)
    have hr2 := z_rep_sI (k := k) (z := z) hr a2 ha ⟨hz, fun q => absurd (Or.inr ⟨by rw [ho.1]; exact f5, by rw [ho.1, Int.toNat_natCast]; exact hty⟩) q⟩ (z_obj_set (ad := ad) (w := w) (w' := z_sI w a k z) ho.1 ho.1 f5 f4 hk (fun j hj => z_fv_sI hj) (z_fv_L hty)) hP hD hS
    exact ho.2 p l e R s mi args below meth cd D C A n0 ad0 mc ms Z H1 locs1 cells slots la ad hE h1 h2 hcc hs hmc hms hQ hr2 hl (fun v hv => hst v (List.mem_cons_of_mem _ (List.mem_cons_of_mem _ hv)))
  · exact ho.elim
theorem z_rep_sR {D : va_G} {C : z_C3} {A : Nat → Prop} {s : State} {n0 : Nat} {ad0 : Nat → Nat} {H H1 : Heap} {locs locs1 : List Loc} {ad : Nat → Nat} {w : z_W} {p : Nat} {k : Int} {o : Option Nat} (hr : z_rep D C A s n0 ad0 H locs ad w) (h2 : 2 ≤ p) (hp : p < z_N w) (hz : ∀ q, o = some q → q < z_N w) {e : va_E} (he : z_cell C ad (z_sR w p k o) p = e)
    (hP : va_P D z_cls ((z_ws C ad w).set (p - 2) (ad p, e)) H1) (hD : va_D A ((z_ws C ad w).set (p - 2) (ad p, e))) (hS : va_S A s.heap H1 locs1) : z_rep D C A s n0 ad0 H1 locs1 ad (z_sR w p k o) := by
  obtain ⟨-, -, -, hv, ho, hn, hn2⟩ := hr
  have e1 : (z_ws C ad w).set (p - 2) (ad p, e) = z_ws C ad (z_sR w p k o) := by
    rw [← he]
    exact z_ws_set h2 hp rfl (fun q hq => z_cell_eq rfl rfl (fun j => rfl) (fun j => by rw [z_R_sR, if_neg (fun x => hq x.1)]))
  rw [e1] at hP hD
  refine ⟨hP, hD, hS, ⟨fun q j => hv.1 q j, fun q j x hx => ?_, fun q hq => hv.2.2.1 q hq, hv.2.2.2.1, fun q h hq => hv.2.2.2.2 q h hq⟩, ⟨fun q hq => ho.1 q hq, ho.2⟩, hn, hn2⟩
  rw [z_R_sR] at hx
  split at hx
  · exact hz x hx
  · exact hv.2.1 q j x hx
theorem z_fv_sR {ad : Nat → Nat} {w : z_W} {p k j : Nat} {o : Option Nat} {t : FieldType} (h : j ≠ k) : z_fv ad (z_sR w p k o) p j t = z_fv ad w p j t := by
  unfold z_fv
  rw [z_R_sR, if_neg (by omega)]
  rfl
/-- a final field of references, in its constructor -/
theorem z_s_putR {m pc idx ci N k : Nat} {Cn : String} {T : u_T} {kz : Int} (hc : z_cls[ci]? = some (Cn, T, N)) (hk : k < N) (hkz : kz = (k : Int)) (hfin : (T k).2.2.2 = true) (hin : (z_mY m).name = "<init>") (hcl : (z_mY m).cls = Cn) (hty : z_rt (z_ty ci k)) (hw : (Cond.fieldLink (z_mY m).cls idx Cn (T k).2.1 (T k).2.2.1) ∈ z_TB) (hd : decode (z_mC m) pc = .ok (.putfield idx, 3)) : z_so m pc (z_pR ci kz (pc + 3)) := by
  subst hkz
  intro d u ls st w Q ho p l e R s mi args below meth cd D C A n0 ad0 mc ms Z H locs cells slots la ad hE h1 h2 hcc hs hmc hms hQ hr hl hst
  obtain ⟨hx, hb, -, -, hown, hts, -, hnm, hK, -⟩ := id hE
  obtain ⟨f1, f2, f3, f4, f5, f6⟩ := z_clf _ _ _ _ hc
  unfold z_pR at ho
  split at ho
  · rename_i o a st2
    have hz : ∀ q, o = some q → q < z_N w := fun q hq => by
      have := hst _ List.mem_cons_self
      rw [hq] at this
      exact this
    have ha : a < z_N w := hst _ (List.mem_cons_of_mem _ List.mem_cons_self)
    obtain ⟨a2, he⟩ := z_obj hr ha ho.1 f5
    refine va_putF hx hb hts f1 (z_ty ci) f2 f3 hown hK hr.1 hr.2.1 hr.2.2.1 (a - 2) he hc k hk (hts _ hw) (fun x hx => by rw [f6 k hk] at hx; exact hx) hfin (hnm.trans hin) (by rw [f6 k hk, hcl]) (ty := z_ty ci k) (v := va_rf (o.map ad)) (f2 k hk) (by rcases hty with ⟨n, q⟩ | ⟨n, q⟩ <;> rw [q] <;> cases o <;> rfl) (by rcases hty with ⟨n, q⟩ | ⟨n, q⟩ <;> rw [q] <;> cases o <;> rfl) (by simp [f4]; exact hk) hd (fun H1 locs1 hP hD hS => ?_)
    have hr2 := z_rep_sR (k := k) (o := o) hr a2 ha hz (z_obj_set (ad := ad) (w := w) (w' := z_sR w a k o) ho.1 ho.1 f5 f4 hk (fun j hj => z_fv_sR hj) (z_fv_R hty)) hP hD hS
    exact ho.2 p l e R s mi args below meth cd D C A n0 ad0 mc ms Z H1 locs1 cells slots la ad hE h1 h2 hcc hs hmc hms hQ hr2 hl (fun v hv => hst v (List.mem_cons_of_mem _ (List.mem_cons_of_mem _ hv)))
  · exact ho.elim
