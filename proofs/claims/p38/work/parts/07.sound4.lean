/-! arrays -/
theorem z_arI {C : z_C3} {ad : Nat → Nat} {w : z_W} {p : Nat} (hk : z_k w p = 100 ∨ z_k w p = 103) : z_cell C ad w p = .inl (C.1, (z_len w p).toNat, .inl (fun j => Int32.ofInt (z_I w p j))) := by
  unfold z_cell
  rw [if_neg (by omega), if_neg (by omega), if_neg (by omega)]
theorem z_arL {C : z_C3} {ad : Nat → Nat} {w : z_W} {p : Nat} (hk : z_k w p = 101) : z_cell C ad w p = .inl (C.2.1, (z_len w p).toNat, .inr (.inl (fun j => Int64.ofInt (z_I w p j)))) := by
  unfold z_cell
  rw [if_neg (by omega), if_pos hk]
theorem z_arR {C : z_C3} {ad : Nat → Nat} {w : z_W} {p : Nat} (hk : z_k w p = 102) : z_cell C ad w p = .inl (C.2.2, (z_len w p).toNat, .inr (.inr (.inr (.inr (fun j => (z_R w p j).map ad))))) := by
  unfold z_cell
  rw [if_neg (by omega), if_neg (by omega), if_pos hk]
theorem z_two {D : va_G} {C : z_C3} {A : Nat → Prop} {s : State} {n0 : Nat} {ad0 : Nat → Nat} {H : Heap} {locs : List Loc} {ad : Nat → Nat} {w : z_W} {p : Nat} (hr : z_rep D C A s n0 ad0 H locs ad w) (hk : z_k w p ≠ 103) : 2 ≤ p := by
  rcases Nat.lt_or_ge p 2 with q | q
  · exact absurd (hr.2.2.2.2.1.1 p q).1 hk
  · exact q
theorem z_ix {w : z_W} {p : Nat} {i : Int} (hi : z_rg i) (h0 : 0 ≤ i) : ((Int32.ofInt i).toNatClampNeg : Int) = i := by
  rw [z_cn h0 hi]
  omega
theorem z_nn {z : Int} (h0 : 0 ≤ z) (h : z_rg z) : ¬ Int32.ofInt z < 0 := fun q => absurd ((z_lt h z_rg0).mp q) (by omega)
theorem z_s_iaload {m pc : Nat} (hd : decode (z_mC m) pc = .ok (.iaload, 1)) : z_so m pc (z_ia (pc + 1)) := by
  intro d u ls st w Q ho p l e R s mi args below meth cd D C A n0 ad0 mc ms Z H locs cells slots la ad hE h1 h2 hcc hs hmc hms hQ hr hl hst
  obtain ⟨hx, hb, -, hml, hown, hts, -, -, hK, hA, hnm, hnf, hao⟩ := id hE
  unfold z_ia at ho
  split at ho
  · rename_i i a st2
    have hi : z_rg i := hst _ List.mem_cons_self
    have ha : a < z_N w := hst _ (List.mem_cons_of_mem _ List.mem_cons_self)
    obtain ⟨o1, o2, o3, o4⟩ := ho
    have hrg : z_rg (z_I w a i) := by
      refine (hr.2.2.2.1.1 a i).2 ?_
      rintro (q | ⟨q, -⟩) <;> omega
    have k := o4 hrg p l e R s mi args below meth cd D C A n0 ad0 mc ms Z H locs cells slots la ad hE h1 h2 hcc hs hmc hms hQ hr hl (z_all (v := z_i (z_I w a i)) hrg (fun v hv => hst v (List.mem_cons_of_mem _ (List.mem_cons_of_mem _ hv))))
    have e1 : z_tv ad (z_i (z_I w a i)) = .int ((fun j : Nat => Int32.ofInt (z_I w a j)) (Int32.ofInt i).toNatClampNeg) := by
      show Value.int _ = Value.int (Int32.ofInt (z_I w a ((Int32.ofInt i).toNatClampNeg : Int)))
      rw [z_ix (w := w) (p := a) hi o2]
    rcases Nat.lt_or_ge a 2 with q | q
    · obtain ⟨g1, g2, g3, g4⟩ := hr.2.2.2.2.1.1 a q
      refine va_ti hx hb (g2.T g4) hr.2.2.1 (z_vin o2 o3 hi) rfl hd ?_
      unfold z_JW at k
      rw [List.map_cons, e1] at k
      exact k
    · have he := z_ws_get (C := C) (ad := ad) q ha
      rw [z_arI o1] at he
      refine va_iald hx hb hK hr.1 (a - 2) 0 he rfl (z_vin o2 o3 hi) hd ?_
      unfold z_JW at k
      rw [List.map_cons, e1] at k
      exact k
  · exact ho.elim
theorem z_s_iastore {m pc : Nat} (hd : decode (z_mC m) pc = .ok (.iastore, 1)) : z_so m pc (z_is (pc + 1)) := by
  intro d u ls st w Q ho p l e R s mi args below meth cd D C A n0 ad0 mc ms Z H locs cells slots la ad hE h1 h2 hcc hs hmc hms hQ hr hl hst
  obtain ⟨hx, hb, -, hml, hown, hts, -, -, hK, hA, hnm, hnf, hao⟩ := id hE
  unfold z_is at ho
  split at ho
  · rename_i z i a st2
    have hz : z_rg z := hst _ List.mem_cons_self
    have hi : z_rg i := hst _ (List.mem_cons_of_mem _ List.mem_cons_self)
    have ha : a < z_N w := hst _ (List.mem_cons_of_mem _ (List.mem_cons_of_mem _ List.mem_cons_self))
    obtain ⟨o1, o2, o3, o4⟩ := ho
    have a2 := z_two hr (p := a) (by omega)
    have he := z_ws_get (C := C) (ad := ad) a2 ha
    rw [z_arI (Or.inl o1)] at he
    refine va_iast hx hb hK hr.1 hr.2.1 hr.2.2.1 (a - 2) 0 he rfl (z_vin o2 o3 hi) hd (fun H1 locs1 hP hD hS => ?_)
    have hr2 := z_rep_sI (k := i) (z := z) hr a2 ha ⟨by unfold z_rl; unfold z_rg at hz; omega, fun _ => hz⟩ (by
      rw [z_arI (w := z_sI w a i z) (p := a) (Or.inl o1)]
      have e2 : (fun j : Nat => Int32.ofInt (z_I (z_sI w a i z) a j)) = upd (fun j : Nat => Int32.ofInt (z_I w a j)) (Int32.ofInt i).toNatClampNeg (Int32.ofInt z) := by
        funext j
        rw [z_I_sI, z_cn o2 hi]
        unfold upd
        by_cases q : j = i.toNat
        · rw [if_pos ⟨rfl, by omega⟩, if_pos q]
        · rw [if_neg (by omega), if_neg q]
      rw [e2]
      rfl) hP hD hS
    exact o4 p l e R s mi args below meth cd D C A n0 ad0 mc ms Z H1 locs1 cells slots la ad hE h1 h2 hcc hs hmc hms hQ hr2 hl (fun v hv => hst v (List.mem_cons_of_mem _ (List.mem_cons_of_mem _ (List.mem_cons_of_mem _ hv))))
  · exact ho.elim
theorem z_s_lastore {m pc : Nat} (hd : decode (z_mC m) pc = .ok (.lastore, 1)) : z_so m pc (z_Ls (pc + 1)) := by
  intro d u ls st w Q ho p l e R s mi args below meth cd D C A n0 ad0 mc ms Z H locs cells slots la ad hE h1 h2 hcc hs hmc hms hQ hr hl hst
  obtain ⟨hx, hb, -, hml, hown, hts, -, -, hK, hA, hnm, hnf, hao⟩ := id hE
  unfold z_Ls at ho
  split at ho
  · rename_i z i a st2
    have hz : z_rl z := hst _ List.mem_cons_self
    have hi : z_rg i := hst _ (List.mem_cons_of_mem _ List.mem_cons_self)
    have ha : a < z_N w := hst _ (List.mem_cons_of_mem _ (List.mem_cons_of_mem _ List.mem_cons_self))
    obtain ⟨o1, o2, o3, o4⟩ := ho
    have a2 := z_two hr (p := a) (by omega)
    have he := z_ws_get (C := C) (ad := ad) a2 ha
    rw [z_arL o1] at he
    refine va_last hx hb hK hr.1 hr.2.1 hr.2.2.1 (a - 2) 1 he rfl (z_vin o2 o3 hi) hd (fun H1 locs1 hP hD hS => ?_)
    have hr2 := z_rep_sI (k := i) (z := z) hr a2 ha ⟨hz, fun q => absurd (Or.inl o1) q⟩ (by
      rw [z_arL (w := z_sI w a i z) (p := a) o1]
      have e2 : (fun j : Nat => Int64.ofInt (z_I (z_sI w a i z) a j)) = vp_updL (fun j : Nat => Int64.ofInt (z_I w a j)) (Int32.ofInt i).toNatClampNeg (Int64.ofInt z) := by
        funext j
        rw [z_I_sI, z_cn o2 hi]
        unfold vp_updL
        by_cases q : j = i.toNat
        · rw [if_pos ⟨rfl, by omega⟩, if_pos q]
        · rw [if_neg (by omega), if_neg q]
      rw [e2]
      rfl) hP hD hS
    exact o4 p l e R s mi args below meth cd D C A n0 ad0 mc ms Z H1 locs1 cells slots la ad hE h1 h2 hcc hs hmc hms hQ hr2 hl (fun v hv => hst v (List.mem_cons_of_mem _ (List.mem_cons_of_mem _ (List.mem_cons_of_mem _ hv))))
  · exact ho.elim
theorem z_s_aaload {m pc : Nat} (hd : decode (z_mC m) pc = .ok (.aaload, 1)) : z_so m pc (z_ra (pc + 1)) := by
  intro d u ls st w Q ho p l e R s mi args below meth cd D C A n0 ad0 mc ms Z H locs cells slots la ad hE h1 h2 hcc hs hmc hms hQ hr hl hst
  obtain ⟨hx, hb, -, hml, hown, hts, -, -, hK, hA, hnm, hnf, hao⟩ := id hE
  unfold z_ra at ho
  split at ho
  · rename_i i a st2
    have hi : z_rg i := hst _ List.mem_cons_self
    have ha : a < z_N w := hst _ (List.mem_cons_of_mem _ List.mem_cons_self)
    obtain ⟨o1, o2, o3, o4⟩ := ho
    have a2 := z_two hr (p := a) (by omega)
    have he := z_ws_get (C := C) (ad := ad) a2 ha
    rw [z_arR o1] at he
    refine va_aldq hx hb hK hr.1 (a - 2) 2 he rfl (z_vin o2 o3 hi) hd ?_
    have k := o4 p l e R s mi args below meth cd D C A n0 ad0 mc ms Z H locs cells slots la ad hE h1 h2 hcc hs hmc hms hQ hr hl (z_all (v := z_vr (z_R w a i)) (z_ok_vr (fun q hq => hr.2.2.2.1.2.1 a i q hq)) (fun v hv => hst v (List.mem_cons_of_mem _ (List.mem_cons_of_mem _ hv))))
    have e1 : z_tv ad (z_vr (z_R w a i)) = va_rf ((fun j : Nat => (z_R w a j).map ad) (Int32.ofInt i).toNatClampNeg) := by
      show va_rf _ = va_rf ((z_R w a ((Int32.ofInt i).toNatClampNeg : Int)).map ad)
      rw [z_ix (w := w) (p := a) hi o2]
    unfold z_JW at k
    rw [List.map_cons, e1] at k
    exact k
  · exact ho.elim
theorem z_s_aastore {m pc : Nat} (hd : decode (z_mC m) pc = .ok (.aastore, 1)) : z_so m pc (z_rs 9 (pc + 1)) := by
  intro d u ls st w Q ho p l e R s mi args below meth cd D C A n0 ad0 mc ms Z H locs cells slots la ad hE h1 h2 hcc hs hmc hms hQ hr hl hst
  obtain ⟨hx, hb, -, hml, hown, hts, -, -, hK, hA, hnm, hnf, hao⟩ := id hE
  unfold z_rs at ho
  split at ho
  · rename_i b i a st2
    have hbN : b < z_N w := hst _ List.mem_cons_self
    have hi : z_rg i := hst _ (List.mem_cons_of_mem _ List.mem_cons_self)
    have ha : a < z_N w := hst _ (List.mem_cons_of_mem _ (List.mem_cons_of_mem _ List.mem_cons_self))
    obtain ⟨o1, o2, o3, o5, o4⟩ := ho
    have a2 := z_two hr (p := a) (by omega)
    have he := z_ws_get (C := C) (ad := ad) a2 ha
    obtain ⟨b2, heb⟩ := z_obj hr hbN o5 (by omega)
    rw [z_arR o1] at he
    refine va_astq (r := (RX9, TX9, 2)) hx hb hK hr.1 hr.2.1 hr.2.2.1 (a - 2) 2 (b - 2) 9 he rfl heb rfl (z_vin o2 o3 hi) hd (fun H1 locs1 hP hD hS => ?_)
    have hr2 := z_rep_sR (k := i) (o := some b) hr a2 ha (fun q hq => by cases hq; exact hbN) (by
      rw [z_arR (w := z_sR w a i (some b)) (p := a) o1]
      have e2 : (fun j : Nat => (z_R (z_sR w a i (some b)) a j).map ad) = va_up (fun j : Nat => (z_R w a j).map ad) (Int32.ofInt i).toNatClampNeg (some (ad b)) := by
        funext j
        rw [z_R_sR, z_cn o2 hi]
        unfold va_up
        by_cases q : j = i.toNat
        · rw [if_pos ⟨rfl, by omega⟩, if_pos q]; rfl
        · rw [if_neg (by omega), if_neg q]
      rw [e2]
      rfl) hP hD hS
    exact o4 p l e R s mi args below meth cd D C A n0 ad0 mc ms Z H1 locs1 cells slots la ad hE h1 h2 hcc hs hmc hms hQ hr2 hl (fun v hv => hst v (List.mem_cons_of_mem _ (List.mem_cons_of_mem _ (List.mem_cons_of_mem _ hv))))
  · exact ho.elim
theorem z_s_alen {m pc : Nat} (hd : decode (z_mC m) pc = .ok (.arraylength, 1)) : z_so m pc (z_al (pc + 1)) := by
  intro d u ls st w Q ho p l e R s mi args below meth cd D C A n0 ad0 mc ms Z H locs cells slots la ad hE h1 h2 hcc hs hmc hms hQ hr hl hst
  obtain ⟨hx, hb, -, hml, hown, hts, -, -, hK, hA, hnm, hnf, hao⟩ := id hE
  unfold z_al at ho
  split at ho
  · rename_i a st2
    have ha : a < z_N w := hst _ List.mem_cons_self
    obtain ⟨o1, o2⟩ := ho
    have hlen := hr.2.2.2.1.2.2.1 a ha
    have hrg : z_rg (z_len w a) := by unfold z_rg; omega
    have k := o2 hlen.1 p l e R s mi args below meth cd D C A n0 ad0 mc ms Z H locs cells slots la ad hE h1 h2 hcc hs hmc hms hQ hr hl (z_all (v := z_i (z_len w a)) hrg (fun v hv => hst v (List.mem_cons_of_mem _ hv)))
    have e1 : Int32.ofNat (z_len w a).toNat = Int32.ofInt (z_len w a) := by
      have : z_len w a = ((z_len w a).toNat : Int) := by omega
      conv => rhs; rw [this]
      rfl
    rcases Nat.lt_or_ge a 2 with q | q
    · obtain ⟨g1, g2, g3, g4⟩ := hr.2.2.2.2.1.1 a q
      exact va_tlen hx hb (g2.T g4) hr.2.2.1 e1 hd k
    · have he := z_ws_get (C := C) (ad := ad) q ha
      rcases (by omega : (z_k w a = 100 ∨ z_k w a = 103) ∨ z_k w a = 101 ∨ z_k w a = 102) with z | z | z
      · rw [z_arI z] at he
        exact va_alen hx hb hK hr.1 (a - 2) 0 he rfl e1 hd k
      · rw [z_arL z] at he
        exact va_alen hx hb hK hr.1 (a - 2) 1 he rfl e1 hd k
      · rw [z_arR z] at he
        exact va_alen hx hb hK hr.1 (a - 2) 2 he rfl e1 hd k
  · exact ho.elim
/-- the static row of numbers -/
theorem z_s_gets {m pc idx : Nat} (hw : (Cond.fieldLink (z_mY m).cls idx "SlabMap" "NUMBERS_OF_SORT" "[I") ∈ z_TB) (hd : decode (z_mC m) pc = .ok (.getstatic idx, 3)) : z_so m pc (z_p (f_rc 1) (pc + 3)) := by
  intro d u ls st w Q ho p l e R s mi args below meth cd D C A n0 ad0 mc ms Z H locs cells slots la ad hE h1 h2 hcc hs hmc hms hQ hr hl hst
  obtain ⟨hx, hb, -, hml, hown, hts, -, -, hK, hA, hnm, hnf, hao⟩ := id hE
  have h1N : 1 < z_N w := hr.2.2.2.1.2.2.2.1
  have hZ := hr.2.2.2.2.1.2
  have k := ho p l e R s mi args below meth cd D C A n0 ad0 mc ms Z H locs cells slots la ad hE h1 h2 hcc hs hmc hms hQ hr hl (z_all (v := z_r 1) h1N hst)
  exact va_gets hx hb hZ hr.2.2.1 hown (hts _ hw) (fun x hx => hx) hd k
theorem z_s_getsN {m pc idx : Nat} (hw : ((z_mY m).cls, idx, "SlabMap", "NUMBERS_OF_SORT", "[I", "SlabMap") ∈ z_nbf) (hd : decode (z_mC m) pc = .ok (.getstatic idx, 3)) : z_so m pc (z_p (f_rc 1) (pc + 3)) := by
  intro d u ls st w Q ho p l e R s mi args below meth cd D C A n0 ad0 mc ms Z H locs cells slots la ad hE h1 h2 hcc hs hmc hms hQ hr hl hst
  obtain ⟨hx, hb, -, hml, hown, hts, -, -, hK, hA, hnm, hnf, hao⟩ := id hE
  have h1N : 1 < z_N w := hr.2.2.2.1.2.2.2.1
  have hZ := hr.2.2.2.2.1.2
  have k := ho p l e R s mi args below meth cd D C A n0 ad0 mc ms Z H locs cells slots la ad hE h1 h2 hcc hs hmc hms hQ hr hl (z_all (v := z_r 1) h1N hst)
  have h3 := hnf _ hw
  exact va_getsN hx hb hZ hr.2.2.1 hown (va_Nw.use rfl h3) (fun x hx => hx) hd k
theorem z_s_acopy {m pc idx : Nat} (hw : (Cond.methodLink (z_mY m).cls idx arraycopyName) ∈ z_TB) (hw2 : (Cond.native arraycopyName) ∈ z_TB) (hw3 : (Cond.static arraycopyName) ∈ z_TB) (hw4 : (Cond.initialized "java/lang/System") ∈ z_TB) (hd : decode (z_mC m) pc = .ok (.invokestatic idx, 3)) : z_so m pc (z_ac (pc + 3)) := by
  intro d u ls st w Q ho p l e R s mi args below meth cd D C A n0 ad0 mc ms Z H locs cells slots la ad hE h1 h2 hcc hs hmc hms hQ hr hl hst
  obtain ⟨hx, hb, -, hml, hown, hts, -, -, hK, hA, hnm, hnf, hao⟩ := id hE
  unfold z_ac at ho
  split at ho
  · rename_i n dp b sp a st2
    have hn : z_rg n := hst _ List.mem_cons_self
    have hdp : z_rg dp := hst _ (List.mem_cons_of_mem _ List.mem_cons_self)
    have hbN : b < z_N w := hst _ (List.mem_cons_of_mem _ (List.mem_cons_of_mem _ List.mem_cons_self))
    have hsp : z_rg sp := hst _ (List.mem_cons_of_mem _ (List.mem_cons_of_mem _ (List.mem_cons_of_mem _ List.mem_cons_self)))
    have haN : a < z_N w := hst _ (List.mem_cons_of_mem _ (List.mem_cons_of_mem _ (List.mem_cons_of_mem _ (List.mem_cons_of_mem _ List.mem_cons_self))))
    obtain ⟨o1, o2, ⟨o3, o4⟩, ⟨o5, o6, o7⟩, o8, o9, o10⟩ := ho
    have a2 := z_two hr (p := a) (by omega)
    have b2 := z_two hr (p := b) (by omega)
    have hea := z_ws_get (C := C) (ad := ad) a2 haN
    have heb := z_ws_get (C := C) (ad := ad) b2 hbN
    rw [z_arI (Or.inl o3)] at hea
    rw [z_arI (Or.inl o4)] at heb
    have h8 := z_c8_sum ad st2 8 o2
    refine va_copyi hx hb (hml.trans hl.1.symm) hown (hts _ hw) (hts _ hw2) (hts _ hw3) (hts _ hw4) hK hr.1 hr.2.1 hr.2.2.1 (a - 2) (b - 2) 0 0 hea heb rfl rfl rfl
      (z_nn o6 hsp) (z_nn o7 hdp) (z_nn o5 hn) (by rw [z_cn o6 hsp, z_cn o5 hn]; omega) (by rw [z_cn o7 hdp, z_cn o5 hn]; omega) (fun i _ => rfl) (by omega) (by
        have : nativeFrameWords "java/lang/System" "arraycopy" 5 = 7 := by decide
        rw [this]
        have h9 : (List.map (fun v => v.category) (List.map (z_tv ad) st2)).sum ≤ 8 := h8
        omega) hd (fun H1 locs1 hP hD hS => ?_)
    have hr2 : z_rep D C A s n0 ad0 H1 locs1 ad (z_cp w a sp b dp n) := by
      obtain ⟨-, -, -, hv, ho, hn1, hn2⟩ := hr
      have ec : z_cell C ad (z_cp w a sp b dp n) b = .inl (C.1, (z_len w b).toNat, .inl (va_cpy (fun j : Nat => Int32.ofInt (z_I w a j)) (fun j : Nat => Int32.ofInt (z_I w b j)) (Int32.ofInt sp).toNatClampNeg (Int32.ofInt dp).toNatClampNeg (Int32.ofInt n).toNatClampNeg)) := by
        rw [z_arI (w := z_cp w a sp b dp n) (p := b) (Or.inl o4)]
        have e2 : (fun j : Nat => Int32.ofInt (z_I (z_cp w a sp b dp n) b j)) = va_cpy (fun j : Nat => Int32.ofInt (z_I w a j)) (fun j : Nat => Int32.ofInt (z_I w b j)) (Int32.ofInt sp).toNatClampNeg (Int32.ofInt dp).toNatClampNeg (Int32.ofInt n).toNatClampNeg := by
          funext j
          rw [z_I_cp, z_cn o6 hsp, z_cn o7 hdp, z_cn o5 hn]
          unfold va_cpy
          by_cases q : dp.toNat ≤ j ∧ j < dp.toNat + n.toNat
          · rw [if_pos ⟨rfl, by omega, by omega⟩, if_pos q]
            show Int32.ofInt (z_I w a _) = Int32.ofInt (z_I w a _)
            congr 2
            omega
          · rw [if_neg (by omega), if_neg q]
        rw [e2]
        rfl
      have e1 : (z_ws C ad w).set (b - 2) (ad b, z_cell C ad (z_cp w a sp b dp n) b) = z_ws C ad (z_cp w a sp b dp n) :=
        z_ws_set b2 hbN rfl (fun q hq => z_cell_eq rfl rfl (fun j => by rw [z_I_cp, if_neg (fun x => hq x.1)]) (fun j => rfl))
      rw [ec] at e1
      rw [e1] at hP hD
      refine ⟨hP, hD, hS, ⟨fun q j => ?_, fun q j x hx => hv.2.1 q j x hx, fun q hq => hv.2.2.1 q hq, hv.2.2.2.1, fun q h hq => hv.2.2.2.2 q h hq⟩, ⟨fun q hq => ?_, ho.2⟩, hn1, hn2⟩
      · rw [z_I_cp]
        split
        · rename_i hq
          refine ⟨(hv.1 a _).1, fun _ => (hv.1 a _).2 ?_⟩
          rintro (q1 | ⟨q1, -⟩) <;> omega
        · exact hv.1 q j
      · obtain ⟨g1, g2, g3⟩ := ho.1 q hq
        refine ⟨g1, ?_, g3⟩
        have : (fun j : Nat => Int32.ofInt (z_I (z_cp w a sp b dp n) q j)) = fun j : Nat => Int32.ofInt (z_I w q j) := by
          funext j
          rw [z_I_cp, if_neg (by omega)]
        rw [this]
        exact g2
    exact o10 p l e R s mi args below meth cd D C A n0 ad0 mc ms Z H1 locs1 cells slots la ad hE h1 h2 hcc hs hmc hms hQ hr2 hl (fun v hv => hst v (List.mem_cons_of_mem _ (List.mem_cons_of_mem _ (List.mem_cons_of_mem _ (List.mem_cons_of_mem _ (List.mem_cons_of_mem _ hv))))))
  · exact ho.elim
/-! what is made -/
theorem z_ws_nw {C : z_C3} {ad : Nat → Nat} {w : z_W} {q kd : Nat} {len : Int} (hv : z_vals w) : z_ws C (va_up ad (z_N w) q) (z_nw w kd len) = z_ws C ad w ++ [(q, z_cell C (va_up ad (z_N w) q) (z_nw w kd len) (z_N w))] := by
  have hN := hv.2.2.2.1
  have old : ∀ k, k < z_N w → z_cell C (va_up ad (z_N w) q) (z_nw w kd len) k = z_cell C ad w k := fun k hk => by
    refine z_cell_eq (by rw [z_k_nw, if_neg (by omega)]) (by rw [z_len_nw, if_neg (by omega)]) (fun j => by rw [z_I_nw, if_neg (by omega)]) (fun j => ?_)
    rw [z_R_nw, if_neg (by omega)]
    cases hq : z_R w k j with
    | none => rfl
    | some x =>
      have := hv.2.1 k j x hq
      show some (va_up ad (z_N w) q x) = some (ad x)
      rw [va_up_ne _ _ (by omega)]
  apply List.ext_getElem?
  intro j
  rcases Nat.lt_trichotomy j (z_N w - 2) with h | h | h
  · have e1 := z_ws_get (C := C) (ad := va_up ad (z_N w) q) (w := z_nw w kd len) (p := j + 2) (by omega) (by rw [z_N_nw]; omega)
    have e2 := z_ws_get (C := C) (ad := ad) (w := w) (p := j + 2) (by omega) (by omega)
    rw [show j + 2 - 2 = j by omega] at e1 e2
    rw [List.getElem?_append_left (by rw [z_ws_len]; omega), e1, e2, old _ (by omega), va_up_ne _ _ (by omega)]
  · have e1 := z_ws_get (C := C) (ad := va_up ad (z_N w) q) (w := z_nw w kd len) (p := j + 2) (by omega) (by rw [z_N_nw]; omega)
    rw [show j + 2 - 2 = j by omega] at e1
    rw [List.getElem?_append_right (by rw [z_ws_len]; omega), e1, z_ws_len, show j - (z_N w - 2) = 0 by omega, show j + 2 = z_N w by omega, va_up_self]
    rfl
  · rw [List.getElem?_eq_none (by rw [z_ws_len, z_N_nw]; omega), List.getElem?_eq_none (by rw [List.length_append, z_ws_len]; simp; omega)]
theorem z_rep_nw {D : va_G} {C : z_C3} {A : Nat → Prop} {s : State} {n0 : Nat} {ad0 : Nat → Nat} {H H1 : Heap} {locs locs1 : List Loc} {ad : Nat → Nat} {w : z_W} {q kd : Nat} {len : Int} (hr : z_rep D C A s n0 ad0 H locs ad w) (hkd : kd < 13 ∨ kd = 100 ∨ kd = 101 ∨ kd = 102) (hlen : 0 ≤ len ∧ len ≤ 2147483647) {e : va_E} (he : z_cell C (va_up ad (z_N w) q) (z_nw w kd len) (z_N w) = e)
    (hP : va_P D z_cls (z_ws C ad w ++ [(q, e)]) H1) (hD : va_D A (z_ws C ad w ++ [(q, e)])) (hS : va_S A s.heap H1 locs1) : z_rep D C A s n0 ad0 H1 locs1 (va_up ad (z_N w) q) (z_nw w kd len) := by
  obtain ⟨-, -, -, hv, ho, hn, hn2⟩ := hr
  have hN := hv.2.2.2.1
  rw [← he, ← z_ws_nw hv] at hP hD
  refine ⟨hP, hD, hS, ⟨fun x j => ?_, fun x j y hy => ?_, fun x hx => ?_, by rw [z_N_nw]; omega, fun x h hx => ?_⟩, ⟨fun x hx => ?_, ?_⟩, by rw [z_N_nw]; omega, fun k hk => by rw [va_up_ne _ _ (by omega)]; exact hn2 k hk⟩
  · rw [z_I_nw]
    split
    · exact ⟨by unfold z_rl; omega, fun _ => z_rg0⟩
    · rename_i hx
      refine ⟨(hv.1 x j).1, fun z => (hv.1 x j).2 (fun z2 => z ?_)⟩
      unfold z_lg at z2 ⊢
      rw [z_k_nw, if_neg hx]
      exact z2
  · rw [z_R_nw] at hy
    split at hy
    · cases hy
    · have := hv.2.1 x j y hy
      rw [z_N_nw]
      omega
  · rw [z_len_nw]
    split
    · exact hlen
    · exact hv.2.2.1 x (by rw [z_N_nw] at hx; omega)
  · rw [z_k_nw]
    split
    · exact hkd
    · exact hv.2.2.2.2 x h (by rw [z_N_nw] at hx; omega)
  · obtain ⟨g1, g2, g3⟩ := ho.1 x hx
    have e1 : va_up ad (z_N w) q x = ad x := va_up_ne _ _ (by omega)
    have e2 : (fun j : Nat => Int32.ofInt (z_I (z_nw w kd len) x j)) = fun j : Nat => Int32.ofInt (z_I w x j) := by
      funext j
      rw [z_I_nw, if_neg (by omega)]
    rw [z_k_nw, if_neg (by omega), z_len_nw, if_neg (by omega), e1, e2]
    exact ⟨g1, g2, g3⟩
  · rw [va_up_ne _ _ (by omega)]
    exact ho.2
theorem z_up_ext {ad : Nat → Nat} {n q : Nat} : ∀ k, k < n → va_up ad n q k = ad k := fun k hk => va_up_ne _ _ (by omega)
theorem z_s_newI {m pc : Nat} (hw : (Cond.arrayClass .int) ∈ z_TB) (hd : decode (z_mC m) pc = .ok (.newarray .int, 2)) : z_so m pc (z_na 100 (pc + 2)) := by
  intro d u ls st w Q ho p l e R s mi args below meth cd D C A n0 ad0 mc ms Z H locs cells slots la ad hE h1 h2 hcc hs hmc hms hQ hr hl hst
  obtain ⟨hx, hb, -, hml, hown, hts, -, -, hK, hA, hnm, hnf, hao⟩ := id hE
  unfold z_na at ho
  split at ho
  · rename_i n st2
    have hn : z_rg n := hst _ List.mem_cons_self
    obtain ⟨o1, o2, o3, o4, o5⟩ := ho
    refine va_newa (atype := .int) hx hb (hts _ hw) (ty := .int) rfl hK hr.1 hr.2.1 hr.2.2.1 hA (N' := n.toNat) (a0 := (n.toNat, .inl (fun _ => 0))) (fun cA => rfl) (z_nn o1 hn) (z_cn o1 hn) (by show n.toNat * 4 ≤ _; omega) (by omega) (by omega) hd (fun q cA H1 hK1 hP hD hS => ?_)
    have hcA : cA = C.1 := by
      have g1 := (hK1.2 3 (cA, .int) rfl).2
      have g2 := (hK.2 0 (C.1, .int) rfl).2
      exact Option.some.inj (g1.symm.trans g2)
    subst hcA
    have hr2 := z_rep_nw (q := q) (kd := 100) (len := n) hr (Or.inr (Or.inl rfl)) ⟨o1, by unfold z_rg at hn; omega⟩ (by
      rw [z_arI (Or.inl (by rw [z_k_nw, if_pos rfl])), z_len_nw, if_pos rfl]
      have e2 : (fun j : Nat => Int32.ofInt (z_I (z_nw w 100 n) (z_N w) j)) = fun _ => 0 := by
        funext j
        rw [z_I_nw, if_pos rfl]
        rfl
      rw [e2]) hP hD hS
    have k := o5 p l e R s mi args below meth cd D C A n0 ad0 mc ms Z H1 locs (cells + 1) (slots + n.toNat) la (va_up ad (z_N w) q) hE h1 h2 (by show cells + 1 + (u.1 - 1) ≤ mc; omega) (by show slots + n.toNat + (u.2 - n.toNat) ≤ ms; omega) hmc hms hQ hr2 (z_lo_ext (by rw [z_N_nw]; omega) z_up_ext hl) (z_all (v := z_r (z_N w)) (by show z_N w < z_N w + 1; omega) (fun v hv => z_ok_mono (by rw [z_N_nw]; omega) (hst v (List.mem_cons_of_mem _ hv))))
    have e3 : (z_r (z_N w) :: st2).map (z_tv (va_up ad (z_N w) q)) = .ref q :: st2.map (z_tv ad) := by
      rw [List.map_cons]
      congr 1
      · show Value.ref _ = _
        rw [va_up_self]
      · exact List.map_congr_left (fun v hv => z_tv_ext z_up_ext (hst v (List.mem_cons_of_mem _ hv)))
    unfold z_JW at k
    rw [e3] at k
    exact k
  · exact ho.elim
theorem z_s_newL {m pc : Nat} (hw : (Cond.arrayClass .long) ∈ z_TB) (hd : decode (z_mC m) pc = .ok (.newarray .long, 2)) : z_so m pc (z_na 101 (pc + 2)) := by
  intro d u ls st w Q ho p l e R s mi args below meth cd D C A n0 ad0 mc ms Z H locs cells slots la ad hE h1 h2 hcc hs hmc hms hQ hr hl hst
  obtain ⟨hx, hb, -, hml, hown, hts, -, -, hK, hA, hnm, hnf, hao⟩ := id hE
  unfold z_na at ho
  split at ho
  · rename_i n st2
    have hn : z_rg n := hst _ List.mem_cons_self
    obtain ⟨o1, o2, o3, o4, o5⟩ := ho
    refine va_newa (atype := .long) hx hb (hts _ hw) (ty := .long) rfl hK hr.1 hr.2.1 hr.2.2.1 hA (N' := n.toNat) (a0 := (n.toNat, .inr (.inl (fun _ => 0)))) (fun cA => rfl) (z_nn o1 hn) (z_cn o1 hn) (by show n.toNat * 8 ≤ _; omega) (by omega) (by omega) hd (fun q cA H1 hK1 hP hD hS => ?_)
    have hcA : cA = C.2.1 := by
      have g1 := (hK1.2 3 (cA, .long) rfl).2
      have g2 := (hK.2 1 (C.2.1, .long) rfl).2
      exact Option.some.inj (g1.symm.trans g2)
    subst hcA
    have hr2 := z_rep_nw (q := q) (kd := 101) (len := n) hr (Or.inr (Or.inr (Or.inl rfl))) ⟨o1, by unfold z_rg at hn; omega⟩ (by
      rw [z_arL (by rw [z_k_nw, if_pos rfl]), z_len_nw, if_pos rfl]
      have e2 : (fun j : Nat => Int64.ofInt (z_I (z_nw w 101 n) (z_N w) j)) = fun _ => 0 := by
        funext j
        rw [z_I_nw, if_pos rfl]
        rfl
      rw [e2]) hP hD hS
    have k := o5 p l e R s mi args below meth cd D C A n0 ad0 mc ms Z H1 locs (cells + 1) (slots + n.toNat) la (va_up ad (z_N w) q) hE h1 h2 (by show cells + 1 + (u.1 - 1) ≤ mc; omega) (by show slots + n.toNat + (u.2 - n.toNat) ≤ ms; omega) hmc hms hQ hr2 (z_lo_ext (by rw [z_N_nw]; omega) z_up_ext hl) (z_all (v := z_r (z_N w)) (by show z_N w < z_N w + 1; omega) (fun v hv => z_ok_mono (by rw [z_N_nw]; omega) (hst v (List.mem_cons_of_mem _ hv))))
    have e3 : (z_r (z_N w) :: st2).map (z_tv (va_up ad (z_N w) q)) = .ref q :: st2.map (z_tv ad) := by
      rw [List.map_cons]
      congr 1
      · show Value.ref _ = _
        rw [va_up_self]
      · exact List.map_congr_left (fun v hv => z_tv_ext z_up_ext (hst v (List.mem_cons_of_mem _ hv)))
    unfold z_JW at k
    rw [e3] at k
    exact k
  · exact ho.elim
theorem z_s_newQ {m pc idx : Nat} (hw : (Cond.classLink (z_mY m).cls idx "SlabMap$Steps") ∈ z_TB) (hd : decode (z_mC m) pc = .ok (.anewarray idx, 3)) : z_so m pc (z_na 102 (pc + 3)) := by
  intro d u ls st w Q ho p l e R s mi args below meth cd D C A n0 ad0 mc ms Z H locs cells slots la ad hE h1 h2 hcc hs hmc hms hQ hr hl hst
  obtain ⟨hx, hb, -, hml, hown, hts, -, -, hK, hA, hnm, hnf, hao⟩ := id hE
  unfold z_na at ho
  split at ho
  · rename_i n st2
    have hn : z_rg n := hst _ List.mem_cons_self
    obtain ⟨o1, o2, o3, o4, o5⟩ := ho
    refine va_newq hx hb hown (hts _ hw) hao.1 hK hr.1 hr.2.1 hr.2.2.1 hA (N' := n.toNat) (z_nn o1 hn) (z_cn o1 hn) (by omega) (by omega) (by omega) hd (fun q cA H1 hK1 hP hD hS => ?_)
    have hcA : cA = C.2.2 := by
      obtain ⟨_, _, -, -, -, g1⟩ := (hK1.2 3 (cA, .object "SlabMap$Steps") rfl).2
      obtain ⟨_, _, -, -, -, g2⟩ := (hK.2 2 (C.2.2, .object "SlabMap$Steps") rfl).2
      exact Option.some.inj (g1.symm.trans g2)
    subst hcA
    have hr2 := z_rep_nw (q := q) (kd := 102) (len := n) hr (Or.inr (Or.inr (Or.inr rfl))) ⟨o1, by unfold z_rg at hn; omega⟩ (by
      rw [z_arR (by rw [z_k_nw, if_pos rfl]), z_len_nw, if_pos rfl]
      have e2 : (fun j : Nat => (z_R (z_nw w 102 n) (z_N w) j).map (va_up ad (z_N w) q)) = fun _ => none := by
        funext j
        rw [z_R_nw, if_pos rfl]
        rfl
      rw [e2]) hP hD hS
    have k := o5 p l e R s mi args below meth cd D C A n0 ad0 mc ms Z H1 locs (cells + 1) (slots + n.toNat) la (va_up ad (z_N w) q) hE h1 h2 (by show cells + 1 + (u.1 - 1) ≤ mc; omega) (by show slots + n.toNat + (u.2 - n.toNat) ≤ ms; omega) hmc hms hQ hr2 (z_lo_ext (by rw [z_N_nw]; omega) z_up_ext hl) (z_all (v := z_r (z_N w)) (by show z_N w < z_N w + 1; omega) (fun v hv => z_ok_mono (by rw [z_N_nw]; omega) (hst v (List.mem_cons_of_mem _ hv))))
    have e3 : (z_r (z_N w) :: st2).map (z_tv (va_up ad (z_N w) q)) = .ref q :: st2.map (z_tv ad) := by
      rw [List.map_cons]
      congr 1
      · show Value.ref _ = _
        rw [va_up_self]
      · exact List.map_congr_left (fun v hv => z_tv_ext z_up_ext (hst v (List.mem_cons_of_mem _ hv)))
    unfold z_JW at k
    rw [e3] at k
    exact k
  · exact ho.elim
theorem z_s_newO {m pc idx ci N : Nat} {Cn : String} {T : u_T} (hc : z_cls[ci]? = some (Cn, T, N)) (hN : N ≤ 65536) (hw : (Cond.classLink (z_mY m).cls idx Cn) ∈ z_TB) (hw2 : (Cond.instantiable Cn N) ∈ z_TB) (hw3 : (Cond.initialized Cn) ∈ z_TB) (hd : decode (z_mC m) pc = .ok (.new idx, 3)) : z_so m pc (z_no ci N (pc + 3)) := by
  intro d u ls st w Q ho p l e R s mi args below meth cd D C A n0 ad0 mc ms Z H locs cells slots la ad hE h1 h2 hcc hs hmc hms hQ hr hl hst
  obtain ⟨hx, hb, -, hml, hown, hts, -, -, hK, hA, hnm, hnf, hao⟩ := id hE
  obtain ⟨f1, f2, f3, f4, f5, f6⟩ := z_clf _ _ _ _ hc
  obtain ⟨o3, o4, o5⟩ := ho
  refine va_new hx hb hts f1 (z_ty ci) f2 hown (hts _ hw) (hts _ hw2) (hts _ hw3) hK hr.1 hr.2.1 hr.2.2.1 hA hc (fs := (List.range (z_nf ci)).map (fun j => defaultValue (z_ty ci j))) (fun j hj => ?_) (by omega) (by omega) hd (fun q H1 hP hD hS => ?_)
  · unfold vp_V
    rw [List.getD_eq_getElem?_getD, z_rd (by rw [f4]; exact hj)]
    rfl
  · have hr2 := z_rep_nw (q := q) (kd := ci) (len := N) hr (Or.inl f5) ⟨by omega, by omega⟩ (by
      have e0 : z_k (z_nw w ci N) (z_N w) = ci := by rw [z_k_nw, if_pos rfl]
      unfold z_cell
      rw [e0, if_pos f5]
      have e2 : ∀ (j : Nat) (t : FieldType), t = .int ∨ t = .boolean ∨ t = .long ∨ z_rt t → z_fv (va_up ad (z_N w) q) (z_nw w ci N) (z_N w) j t = defaultValue t := by
        intro j t ht
        have e3 : z_I (z_nw w ci N) (z_N w) j = 0 := by rw [z_I_nw, if_pos rfl]
        have e4 : z_R (z_nw w ci N) (z_N w) j = none := by rw [z_R_nw, if_pos rfl]
        unfold z_fv
        rw [e3, e4]
        rcases ht with rfl | rfl | rfl | ⟨n, rfl⟩ | ⟨n, rfl⟩ <;> rfl
      have e5 : (List.range (z_nf ci)).map (fun j => z_fv (va_up ad (z_N w) q) (z_nw w ci N) (z_N w) j (z_ty ci j)) = (List.range (z_nf ci)).map (fun j => defaultValue (z_ty ci j)) := List.map_congr_left (fun j hj => e2 j _ (z_tyk ci f5 j (by simpa using hj)))
      rw [e5]) hP hD hS
    have k := o5 p l e R s mi args below meth cd D C A n0 ad0 mc ms Z H1 locs (cells + 1) (slots + N) la (va_up ad (z_N w) q) hE h1 h2 (by show cells + 1 + (u.1 - 1) ≤ mc; omega) (by show slots + N + (u.2 - N) ≤ ms; omega) hmc hms hQ hr2 (z_lo_ext (by rw [z_N_nw]; omega) z_up_ext hl) (z_all (v := z_r (z_N w)) (by show z_N w < z_N w + 1; omega) (fun v hv => z_ok_mono (by rw [z_N_nw]; omega) (hst v hv)))
    have e3 : (z_r (z_N w) :: st).map (z_tv (va_up ad (z_N w) q)) = .ref q :: st.map (z_tv ad) := by
      rw [List.map_cons]
      congr 1
      · show Value.ref _ = _
        rw [va_up_self]
      · exact List.map_congr_left (fun v hv => z_tv_ext z_up_ext (hst v hv))
    unfold z_JW at k
    rw [e3] at k
    exact k
