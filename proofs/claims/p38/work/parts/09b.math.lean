/-! Math.max, Math.min -/
def z_mx (F : Int → Int → Int) (nx : Nat) : z_O := fun X d u m ls st w Q => match st with
  | .inl y :: .inl x :: st' => 1 ≤ d ∧ z_c8 st' 8 = true ∧ X d u m nx ls (z_i (F x y) :: st') w Q
  | _ => False
theorem z_mm_mx (F : Int → Int → Int) (nx : Nat) : z_mm (z_mx F nx) := by
  intro X Y P Q h1 h2 h3 d u m ls st w h
  unfold z_mx at h ⊢
  split at h
  · exact ⟨h.1, h.2.1, h1 _ _ _ _ _ _ _ h.2.2⟩
  · exact h.elim
theorem z_cj_mx (F : Int → Int → Int) (nx : Nat) : z_cj (z_mx F nx) := by
  intro X Y Z P Q h d u m ls st w a b
  unfold z_mx at a b ⊢
  split at a
  · exact ⟨a.1, a.2.1, h _ _ _ _ _ _ _ _ _ a.2.2 b.2.2⟩
  · exact a.elim
theorem z_mo_mx (F : Int → Int → Int) (nx : Nat) : z_mo (z_mx F nx) := ⟨z_mm_mx F nx, z_cj_mx F nx⟩
def z_max (x y : Int) : Int := if x < y then y else x
def z_min (x y : Int) : Int := if y < x then y else x
theorem z_s_max {m pc idx : Nat} (hw : (Cond.methodLink (z_mY m).cls idx Lib.Math.max.name) ∈ z_TB) (hw2 : (Cond.static Lib.Math.max.name) ∈ z_TB) (hw3 : (Cond.initialized "java/lang/Math") ∈ z_TB) (hw4 : (Cond.code Lib.Math.max.name Lib.Math.max.code 2 (some .int)) ∈ z_TB) (hd : decode (z_mC m) pc = .ok (.invokestatic idx, 3)) : z_so m pc (z_mx z_max (pc + 3)) := by
  intro d u ls st w Q ho p l e R s mi args below meth cd D C A n0 ad0 mc ms Z H locs cells slots la ad hE h1 h2 hcc hs hmc hms hQ hr hl hst
  obtain ⟨hx, hb, -, hml, hown, hts, -⟩ := id hE
  unfold z_mx at ho
  split at ho
  · rename_i y x st2
    have hy : z_rg y := hst _ List.mem_cons_self
    have hx2 : z_rg x := hst _ (List.mem_cons_of_mem _ List.mem_cons_self)
    obtain ⟨o1, o2, o3⟩ := ho
    have h8 := z_c8_sum ad st2 8 o2
    have hm : z_rg (z_max x y) := by unfold z_max; split <;> assumption
    refine va_mmax hx hb (hml.trans hl.1.symm) hown (hts _ hw) (hts _ hw2) (hts _ hw3) (hts _ hw4) (by omega) (by
      have h9 : (List.map (fun v => v.category) (List.map (z_tv ad) st2)).sum ≤ 8 := h8
      omega) (by omega) (by omega) hd ?_
    have k := o3 p l e R s mi args below meth cd D C A n0 ad0 mc ms Z H locs cells slots la ad hE h1 h2 hcc hs hmc hms hQ hr hl (z_all (v := z_i (z_max x y)) hm (fun v hv => hst v (List.mem_cons_of_mem _ (List.mem_cons_of_mem _ hv))))
    have e1 : z_tv ad (z_i (z_max x y)) = .int (if Int32.ofInt x < Int32.ofInt y then Int32.ofInt y else Int32.ofInt x) := by
      show Value.int (Int32.ofInt (z_max x y)) = _
      unfold z_max
      by_cases q : x < y
      · rw [if_pos q, if_pos ((z_lt hx2 hy).mpr q)]
      · rw [if_neg q, if_neg (fun z => q ((z_lt hx2 hy).mp z))]
    unfold z_JW at k
    rw [List.map_cons, e1] at k
    exact k
  · exact ho.elim
theorem z_s_min {m pc idx : Nat} (hw : (Cond.methodLink (z_mY m).cls idx Lib.Math.min.name) ∈ z_TB) (hw2 : (Cond.static Lib.Math.min.name) ∈ z_TB) (hw3 : (Cond.initialized "java/lang/Math") ∈ z_TB) (hw4 : (Cond.code Lib.Math.min.name Lib.Math.min.code 2 (some .int)) ∈ z_TB) (hd : decode (z_mC m) pc = .ok (.invokestatic idx, 3)) : z_so m pc (z_mx z_min (pc + 3)) := by
  intro d u ls st w Q ho p l e R s mi args below meth cd D C A n0 ad0 mc ms Z H locs cells slots la ad hE h1 h2 hcc hs hmc hms hQ hr hl hst
  obtain ⟨hx, hb, -, hml, hown, hts, -⟩ := id hE
  unfold z_mx at ho
  split at ho
  · rename_i y x st2
    have hy : z_rg y := hst _ List.mem_cons_self
    have hx2 : z_rg x := hst _ (List.mem_cons_of_mem _ List.mem_cons_self)
    obtain ⟨o1, o2, o3⟩ := ho
    have h8 := z_c8_sum ad st2 8 o2
    have hm : z_rg (z_min x y) := by unfold z_min; split <;> assumption
    refine va_mmin hx hb (hml.trans hl.1.symm) hown (hts _ hw) (hts _ hw2) (hts _ hw3) (hts _ hw4) (by omega) (by
      have h9 : (List.map (fun v => v.category) (List.map (z_tv ad) st2)).sum ≤ 8 := h8
      omega) (by omega) (by omega) hd ?_
    have k := o3 p l e R s mi args below meth cd D C A n0 ad0 mc ms Z H locs cells slots la ad hE h1 h2 hcc hs hmc hms hQ hr hl (z_all (v := z_i (z_min x y)) hm (fun v hv => hst v (List.mem_cons_of_mem _ (List.mem_cons_of_mem _ hv))))
    have e1 : z_tv ad (z_i (z_min x y)) = .int (if Int32.ofInt y < Int32.ofInt x then Int32.ofInt y else Int32.ofInt x) := by
      show Value.int (Int32.ofInt (z_min x y)) = _
      unfold z_min
      by_cases q : y < x
      · rw [if_pos q, if_pos ((z_lt hy hx2).mpr q)]
      · rw [if_neg q, if_neg (fun z => q ((z_lt hy hx2).mp z))]
    unfold z_JW at k
    rw [List.map_cons, e1] at k
    exact k
  · exact ho.elim
theorem z_inT {i : Nat} {w : Cond} (h : lw_tbl[i]? = some w) (hg : goodWord w = true) : w ∈ z_TB := List.mem_filter.mpr ⟨List.mem_of_getElem? h, hg⟩
