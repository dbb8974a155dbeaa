/-! ends -/
theorem z_end {m pc : Nat} {i : Instr} {d : Nat} {u : Nat × Nat} {ls st : List z_V} {w : z_W} {Q : z_P} {r : Option z_V} (hd : decode (z_mC m) pc = .ok (i, 1)) (hi : z_ri i r (z_mR m)) (hst : st = r.toList) (hq : Q r w) : z_J d u m pc ls st w Q := by
  intro p l e R s mi args below meth cd D C A n0 ad0 mc ms Z H locs cells slots la ad hE h1 h2 hcc hs hmc hms hQ hr hl hok
  subst hst
  exact W.widen (k := mc) (n := ms) (by omega) (by omega) (hQ.1 H locs ad w r pc la i hr hq (fun v hv => hok v (by rw [hv]; exact List.mem_cons_self)) hd hi)
theorem z_s_return {m pc : Nat} (hR : z_mR m = none) (hd : decode (z_mC m) pc = .ok (.return_, 1)) : z_so m pc z_rtv :=
  fun d u ls st w Q ho => z_end (r := none) hd (Or.inr (Or.inl ⟨rfl, rfl, hR⟩)) ho.1 ho.2
theorem z_s_ireturn {m pc : Nat} (hR : z_mR m = some .int) (hd : decode (z_mC m) pc = .ok (.ireturn, 1)) : z_so m pc z_rti := by
  intro d u ls st w Q ho
  unfold z_rti at ho
  split at ho
  · rename_i z
    exact z_end (r := some (z_i z)) hd (Or.inl ⟨rfl, z, rfl, Or.inl hR⟩) rfl ho
  · exact ho.elim
theorem z_s_zreturn {m pc : Nat} (hR : z_mR m = some .boolean) (hd : decode (z_mC m) pc = .ok (.ireturn, 1)) : z_so m pc z_rtz := by
  intro d u ls st w Q ho
  unfold z_rtz at ho
  split at ho
  · rename_i z
    exact z_end (r := some (z_i z)) hd (Or.inl ⟨rfl, z, rfl, Or.inr ⟨hR, ho.1⟩⟩) rfl ho.2
  · exact ho.elim
theorem z_s_lreturn {m pc : Nat} (hR : z_mR m = some .long) (hd : decode (z_mC m) pc = .ok (.lreturn, 1)) : z_so m pc z_rtl := by
  intro d u ls st w Q ho
  unfold z_rtl at ho
  split at ho
  · rename_i z
    exact z_end (r := some (z_l z)) hd (Or.inr (Or.inr (Or.inl ⟨rfl, ⟨z, rfl⟩, hR⟩))) rfl ho
  · exact ho.elim
theorem z_s_areturn {m pc : Nat} {rt : FieldType} (hR : z_mR m = some rt) (hrt : (∃ n, rt = .object n) ∨ ∃ t, rt = .array t) (hd : decode (z_mC m) pc = .ok (.areturn, 1)) : z_so m pc z_rta := by
  intro d u ls st w Q ho
  unfold z_rta at ho
  split at ho
  · rename_i o
    exact z_end (r := some (z_vr o)) hd (Or.inr (Or.inr (Or.inr ⟨rfl, ⟨o, rfl⟩, rt, hR, hrt⟩))) rfl ho
  · exact ho.elim
/-! switches -/
theorem z_s_tsw {m pc len df : Nat} {lo hi : Int} {dflt : Int} {offs : Array Int} {ts : List Nat} (hd : decode (z_mC m) pc = .ok (.tableswitch dflt lo hi offs, len)) (hdf : (pc : Int) + dflt = (df : Int)) (hn : (hi : Int) = lo + ts.length - 1) (hoffs : ts.map (fun t : Nat => (t : Int) - pc) = offs.toList) : z_so m pc (z_ts lo hi ts df) := by
  intro d u ls st w Q ho p l e R s mi args below meth cd D C A n0 ad0 mc ms Z H locs cells slots la ad hE h1 h2 hcc hs hmc hms hQ hr hl hst
  obtain ⟨hx, hb, hret, hml, hown, hts, hlk, hmn, hK, hA, hnm, hnf, hao⟩ := id hE
  unfold z_ts at ho
  split at ho
  · rename_i x st2
    have hx2 : z_rg x := hst _ List.mem_cons_self
    have hst2 : ∀ v ∈ st2, z_ok (z_N w) v := fun v hv => hst v (List.mem_cons_of_mem _ hv)
    by_cases hin : x < lo ∨ hi < x
    · exact lv_tableOut hx hb hd (by rw [z_of hx2]; exact hin) hdf (ho.2 hin p l e R s mi args below meth cd D C A n0 ad0 mc ms Z H locs cells slots la ad hE h1 h2 hcc hs hmc hms hQ hr hl hst2)
    · have key : ∀ (ts : List Nat) (lo : Int) (K : Nat → Prop), z_tsl x lo ts K → lo ≤ x → ∀ t, ts[(x - lo).toNat]? = some t → K t := by
        intro ts
        induction ts with
        | nil => intro lo K _ _ t h; simp at h
        | cons a ts ih =>
          intro lo K hK hlo t h
          by_cases e : x = lo
          · subst e
            simp at h
            subst h
            exact hK.1 rfl
          · have e2 : (x - lo).toNat = (x - (lo + 1)).toNat + 1 := by omega
            rw [e2, List.getElem?_cons_succ] at h
            exact ih (lo + 1) K hK.2 (by omega) t h
      have hlt : (x - lo).toNat < ts.length := by omega
      have ht := List.getElem?_eq_getElem hlt
      have k := key ts lo _ ho.1 (by omega) _ ht
      refine lv_tableIn (off := (ts[(x - lo).toNat] : Int) - pc) (tgt := ts[(x - lo).toNat]) hx hb hd (by rw [z_of hx2]; omega) (by rw [z_of hx2]; omega) ?_ (by omega) (k p l e R s mi args below meth cd D C A n0 ad0 mc ms Z H locs cells slots la ad hE h1 h2 hcc hs hmc hms hQ hr hl hst2)
      rw [z_of hx2, ← Array.getElem?_toList, ← hoffs, List.getElem?_map, ht]
      rfl
  · exact ho.elim
theorem z_s_lsw {m pc len df : Nat} {dflt : Int} {ps : Array (Int × Int)} {ts : List (Int × Nat)} (hd : decode (z_mC m) pc = .ok (.lookupswitch dflt ps, len)) (hp : (ps.toList.zip (ps.toList.drop 1)).all (fun (a, next) => a.1 < next.1) = true) (hdf : (pc : Int) + dflt = (df : Int)) (hoffs : ts.map (fun t : Int × Nat => (t.1, (t.2 : Int) - pc)) = ps.toList) : z_so m pc (z_ls ts df) := by
  intro d u ls st w Q ho p l e R s mi args below meth cd D C A n0 ad0 mc ms Z H locs cells slots la ad hE h1 h2 hcc hs hmc hms hQ hr hl hst
  obtain ⟨hx, hb, hret, hml, hown, hts, hlk, hmn, hK, hA, hnm, hnf, hao⟩ := id hE
  unfold z_ls at ho
  split at ho
  · rename_i x st2
    have hx2 : z_rg x := hst _ List.mem_cons_self
    have hst2 : ∀ v ∈ st2, z_ok (z_N w) v := fun v hv => hst v (List.mem_cons_of_mem _ hv)
    have key : ∀ (ts : List (Int × Nat)) (K : Nat → Prop), z_lsl x ts K df → ∃ tgt : Nat, K tgt ∧ Op.lookupswitch.offset (ts.map (fun t => (t.1, (t.2 : Int) - pc))) dflt x = (tgt : Int) - pc := by
      intro ts
      induction ts with
      | nil => intro K h; exact ⟨df, h, by show dflt = _; omega⟩
      | cons a ts ih =>
        obtain ⟨a, t⟩ := a
        intro K h
        by_cases e : x = a
        · exact ⟨t, h.1 e, by simp [Op.lookupswitch.offset, e]⟩
        · obtain ⟨tgt, q1, q2⟩ := ih K (h.2 e)
          refine ⟨tgt, q1, ?_⟩
          rw [← q2]
          have e2 : ¬ a = x := fun z => e z.symm
          simp [Op.lookupswitch.offset, e2]
    obtain ⟨tgt, k, hk⟩ := key ts _ ho
    exact lv_lookup (off := (tgt : Int) - pc) hx hb hd hp (by rw [z_of hx2, ← hoffs]; exact hk) (by omega) (k p l e R s mi args below meth cd D C A n0 ad0 mc ms Z H locs cells slots la ad hE h1 h2 hcc hs hmc hms hQ hr hl hst2)
  · exact ho.elim
theorem z_s_div {m pc : Nat} (hd : decode (z_mC m) pc = .ok (.idiv, 1)) : z_so m pc (z_dv z_div (pc + 1)) := by
  intro d u ls st w Q ho p l e R s mi args below meth cd D C A n0 ad0 mc ms Z H locs cells slots la ad hE h1 h2 hcc hs hmc hms hQ hr hl hst
  obtain ⟨hx, hb, hret, hml, hown, hts, hlk, hmn, hK, hA, hnm, hnf, hao⟩ := id hE
  unfold z_dv at ho
  split at ho
  · rename_i y x st2
    have hy : z_rg y := hst _ List.mem_cons_self
    refine lv_idiv hx hb hd (fun q => ho.1 ((z_eq hy z_rg0).mp q)) ?_
    have k := ho.2 p l e R s mi args below meth cd D C A n0 ad0 mc ms Z H locs cells slots la ad hE h1 h2 hcc hs hmc hms hQ hr hl (z_all (v := z_i (z_div x y)) (z_rgT _) (fun v hv => hst v (List.mem_cons_of_mem _ (List.mem_cons_of_mem _ hv))))
    have e1 : z_tv ad (z_i (z_div x y)) = .int (Int32.ofInt x / Int32.ofInt y) := by show Value.int _ = _; rw [z_div, z_to]
    unfold z_JW at k
    rw [List.map_cons, e1] at k
    exact k
  · exact ho.elim
theorem z_s_rem {m pc : Nat} (hd : decode (z_mC m) pc = .ok (.irem, 1)) : z_so m pc (z_dv z_rem (pc + 1)) := by
  intro d u ls st w Q ho p l e R s mi args below meth cd D C A n0 ad0 mc ms Z H locs cells slots la ad hE h1 h2 hcc hs hmc hms hQ hr hl hst
  obtain ⟨hx, hb, hret, hml, hown, hts, hlk, hmn, hK, hA, hnm, hnf, hao⟩ := id hE
  unfold z_dv at ho
  split at ho
  · rename_i y x st2
    have hy : z_rg y := hst _ List.mem_cons_self
    refine lv_irem hx hb hd (fun q => ho.1 ((z_eq hy z_rg0).mp q)) ?_
    have k := ho.2 p l e R s mi args below meth cd D C A n0 ad0 mc ms Z H locs cells slots la ad hE h1 h2 hcc hs hmc hms hQ hr hl (z_all (v := z_i (z_rem x y)) (z_rgT _) (fun v hv => hst v (List.mem_cons_of_mem _ (List.mem_cons_of_mem _ hv))))
    have e1 : z_tv ad (z_i (z_rem x y)) = .int (Int32.ofInt x - Int32.ofInt x / Int32.ofInt y * Int32.ofInt y) := by show Value.int _ = _; rw [z_rem, z_to]
    unfold z_JW at k
    rw [List.map_cons, e1] at k
    exact k
  · exact ho.elim
theorem z_s_lrem {m pc : Nat} (hd : decode (z_mC m) pc = .ok (.lrem, 1)) : z_so m pc (z_lrm (pc + 1)) := by
  intro d u ls st w Q ho p l e R s mi args below meth cd D C A n0 ad0 mc ms Z H locs cells slots la ad hE h1 h2 hcc hs hmc hms hQ hr hl hst
  obtain ⟨hx, hb, hret, hml, hown, hts, hlk, hmn, hK, hA, hnm, hnf, hao⟩ := id hE
  unfold z_lrm at ho
  split at ho
  · rename_i y x st2
    have hy : z_rl y := hst _ List.mem_cons_self
    refine lv_lrem hx hb hd (fun q => ho.1 (by rw [← z_ofl hy, q]; rfl)) ?_
    have k := ho.2 p l e R s mi args below meth cd D C A n0 ad0 mc ms Z H locs cells slots la ad hE h1 h2 hcc hs hmc hms hQ hr hl (z_all (v := z_l (z_lrem x y)) (z_rlT _) (fun v hv => hst v (List.mem_cons_of_mem _ (List.mem_cons_of_mem _ hv))))
    have e1 : z_tv ad (z_l (z_lrem x y)) = .long (Int64.ofInt x - Int64.ofInt x / Int64.ofInt y * Int64.ofInt y) := by show Value.long _ = _; rw [z_lrem, z_tol]
    unfold z_JW at k
    rw [List.map_cons, e1] at k
    exact k
  · exact ho.elim
/-! calls -/
def z_wm (m : Nat) : List Cond := Cond.code (z_mY m) (z_mC m) (z_mL m) (z_mR m) :: z_TB
def z_rm (d mc ms : Nat) : Room := { frames := d, cells := mc, slots := ms, locals := 60 * d }
def z_Ar (ad : Nat → Nat) (n sz : Nat) : Nat → Prop := fun q => (∃ k, 2 ≤ k ∧ k < n ∧ ad k = q) ∨ sz ≤ q
/-- what a caller gives -/
def z_pc (D : va_G) (C : z_C3) (ad : Nat → Nat) (w : z_W) (sz : Nat) (as : List z_V) : Array Value → State → Prop := fun v U => v = (as.map (z_tv ad)).toArray ∧ (U.heap.size = sz ∧ va_P D z_cls (z_ws C ad w) U.heap ∧ va_D (z_Ar ad (z_N w) sz) (z_ws C ad w) ∧ z_old ad w (z_Ar ad (z_N w) sz) U) ∧
  va_K D z_cls [(C.1, .int), (C.2.1, .long), (C.2.2, .object "SlabMap$Steps")] U ∧ (∀ q ∈ z_nbm, va_Nw (.methodLinkNest q.1 q.2.1 q.2.2.1 q.2.2.2) U) ∧ (∀ q ∈ z_nbf, va_Nw (.fieldLinkNest q.1 q.2.1 q.2.2.1 q.2.2.2.1 q.2.2.2.2.1 q.2.2.2.2.2) U) ∧ (va_AO "SlabMap$Steps" U ∧ z_th (z_Ar ad (z_N w) sz) U)
/-- what it gets back -/
def z_qc (D : va_G) (C : z_C3) (ad0 : Nat → Nat) (n0 : Nat) (A : Nat → Prop) (Q : z_P) : Array Value → State → Outcome → State → Prop := fun _ st o t =>
  (∃ (ad : Nat → Nat) (w : z_W) (r : Option z_V), o = .returned (r.map (z_tv ad)) ∧ Q r w ∧ (∀ v, r = some v → z_ok (z_N w) v) ∧ va_P D z_cls (z_ws C ad w) t.heap ∧ va_D A (z_ws C ad w) ∧ z_vals w ∧ (∀ k, k < 2 → z_k w k = 103 ∧ z_aX (ad k) (z_len w k).toNat (fun j => Int32.ofInt (z_I w k j)) t t.heap) ∧ n0 ≤ z_N w ∧ (∀ k, k < n0 → ad k = ad0 k)) ∧ va_F A st t
theorem z_RO_MQ {m : Nat} {p : Program} {l : Launch} {e : Env} {R : Room} {s : State} {mi : MethodId} {args : Array Value} {below : List Frame} {meth : Method} {c : Code} {D : va_G} {C : z_C3} {A : Nat → Prop} {n0 : Nat} {ad0 : Nat → Nat} {mc ms : Nat} {Q : z_P} (hE : z_env m l p s mi args meth c D C A) : z_RO0 m p l e R s mi args below meth c D C A n0 ad0 mc ms (MQ below (z_qc D C ad0 n0 A Q) args s mc ms A) Q := by
  obtain ⟨hx, hb, hret, -, -, -, hlk, -⟩ := hE
  intro H locs ad w r pc la i hr hq hok hd hi
  have hend : ∀ t : State, t.heap = H → s.WarmedH t.vm → z_qc D C ad0 n0 A Q args s (.returned (r.map (z_tv ad))) t := by
    intro t ht hW
    obtain ⟨hP, hD, hS, hv, ho, hn, hn2⟩ := hr
    subst ht
    refine ⟨⟨ad, w, r, rfl, hq, hok, hP, hD, hv, fun k hk => ?_, hn, hn2⟩, hS.F rfl⟩
    obtain ⟨g1, g2, g3, g4⟩ := ho.1 k hk
    exact ⟨g1, (g2.moved hW.alike).kept (hS.2.1 _ g3 g4)⟩
  have hf := hr.2.2.1.2.2
  rcases hi with ⟨rfl, z, rfl, hR⟩ | ⟨rfl, rfl, hR⟩ | ⟨rfl, ⟨z, rfl⟩, hR⟩ | ⟨rfl, ⟨o, rfl⟩, rt, hR, hrt⟩
  · rcases hR with hR | ⟨hR, hz⟩
    · exact W.iret hx hb (hret.trans hR) hend hf hd hlk
    · exact W.zret hx hb (hret.trans hR) (by rcases hz with q | q <;> subst q <;> rfl) hend hf hd hlk
  · exact W.vret hx hb (hret.trans hR) hend hf hd hlk
  · exact W.lret hx hb (hret.trans hR) hend hf hd hlk
  · exact W.aret hx hb (hret.trans hR) hrt (by cases o with | none => exact Or.inl rfl | some a => exact Or.inr ⟨_, rfl⟩) hend hf hd hlk
theorem z_padl_len : ∀ (l : List z_V) (n : Nat), l.length ≤ n → (z_padl l n).length = n
  | [], n, _ => by
    show (z_xs n).length = n
    induction n with
    | zero => rfl
    | succ n ih => show (z_xs n).length + 1 = _; rw [ih (Nat.zero_le _)]
  | a :: l, n, h => by
    simp only [List.length_cons] at h
    show (z_padl l (n - 1)).length + 1 = n
    rw [z_padl_len l (n - 1) (by omega)]
    omega
theorem z_padl_get : ∀ (l : List z_V) (n i : Nat) (v : z_V), (z_padl l n)[i]? = some v → v = z_x ∨ l[i]? = some v
  | [], n, i, v, h => by
    refine Or.inl ?_
    have : ∀ (n i : Nat), (z_xs n)[i]? = some v → v = z_x := by
      intro n
      induction n with
      | zero => intro i h; simp [z_xs] at h
      | succ n ih =>
        intro i h
        cases i with
        | zero => simp [z_xs] at h; exact h.symm
        | succ i => exact ih i (by simpa [z_xs] using h)
    exact this n i h
  | a :: l, n, i, v, h => by
    cases i with
    | zero => simp [z_padl] at h; subst h; exact Or.inr rfl
    | succ i =>
      rcases z_padl_get l (n - 1) i v (by simpa [z_padl] using h) with q | q
      · exact Or.inl q
      · exact Or.inr (by simpa using q)
theorem z_cargs_get (ad : Nat → Nat) : ∀ (l : List z_V) (j i : Nat) (v : z_V), (∀ v ∈ l, v ≠ z_x) → (z_cargs l)[i]? = some v → v = z_x ∨ (v ∈ l ∧ (j + i, z_tv ad v) ∈ lv_args j (l.map (z_tv ad)))
  | [], j, i, v, _, h => by simp [z_cargs] at h
  | .inl z :: l, j, i, v, hx, h => by
    cases i with
    | zero => simp [z_cargs] at h; subst h; exact Or.inr ⟨List.mem_cons_self, List.mem_cons_self⟩
    | succ i =>
      rcases z_cargs_get ad l (j + 1) i v (fun v hv => hx v (List.mem_cons_of_mem _ hv)) (by simpa [z_cargs] using h) with q | ⟨q1, q2⟩
      · exact Or.inl q
      · refine Or.inr ⟨List.mem_cons_of_mem _ q1, List.mem_cons_of_mem _ ?_⟩
        rw [show j + (i + 1) = j + 1 + i by omega]
        exact q2
  | .inr (.inl z) :: l, j, i, v, hx, h => by
    cases i with
    | zero => simp [z_cargs] at h; subst h; exact Or.inr ⟨List.mem_cons_self, List.mem_cons_self⟩
    | succ i =>
      cases i with
      | zero => simp [z_cargs] at h; exact Or.inl h.symm
      | succ i =>
        rcases z_cargs_get ad l (j + 2) i v (fun v hv => hx v (List.mem_cons_of_mem _ hv)) (by simpa [z_cargs] using h) with q | ⟨q1, q2⟩
        · exact Or.inl q
        · refine Or.inr ⟨List.mem_cons_of_mem _ q1, List.mem_cons_of_mem _ ?_⟩
          rw [show j + (i + 1 + 1) = j + 2 + i by omega]
          exact q2
  | .inr (.inr none) :: l, j, i, v, hx, h => absurd rfl (hx _ List.mem_cons_self)
  | .inr (.inr (some o)) :: l, j, i, v, hx, h => by
    have hc : (z_tv ad (.inr (.inr (some o)))).category = 1 := by cases o <;> rfl
    cases i with
    | zero => simp [z_cargs] at h; subst h; exact Or.inr ⟨List.mem_cons_self, List.mem_cons_self⟩
    | succ i =>
      rcases z_cargs_get ad l (j + 1) i v (fun v hv => hx v (List.mem_cons_of_mem _ hv)) (by simpa [z_cargs] using h) with q | ⟨q1, q2⟩
      · exact Or.inl q
      · refine Or.inr ⟨List.mem_cons_of_mem _ q1, ?_⟩
        rw [List.map_cons]
        unfold lv_args
        rw [if_neg (by rw [hc]; decide)]
        refine List.mem_cons_of_mem _ ?_
        rw [show j + (i + 1) = j + 1 + i by omega]
        exact q2
theorem z_c8_len (ad : Nat → Nat) : ∀ (l : List z_V) (n : Nat), z_c8 l n = true → (z_cargs l).length ≤ n ∧ (lg_sl (l.map (z_tv ad))).length ≤ n
  | [], n, _ => ⟨Nat.zero_le _, Nat.zero_le _⟩
  | .inl z :: l, n + 1, h => by
    obtain ⟨a, b⟩ := z_c8_len ad l n h
    refine ⟨by show (z_cargs l).length + 1 ≤ _; omega, ?_⟩
    have : lg_sl ((Sum.inl z :: l : List z_V).map (z_tv ad)) = Slot.val (z_tv ad (.inl z)) :: lg_sl (l.map (z_tv ad)) := rfl
    rw [this, List.length_cons]
    omega
  | .inr (.inl z) :: l, n + 2, h => by
    obtain ⟨a, b⟩ := z_c8_len ad l n h
    refine ⟨by show (z_cargs l).length + 1 + 1 ≤ _; omega, ?_⟩
    have : lg_sl ((Sum.inr (Sum.inl z) :: l : List z_V).map (z_tv ad)) = Slot.val (z_tv ad (.inr (.inl z))) :: Slot.second :: lg_sl (l.map (z_tv ad)) := rfl
    rw [this, List.length_cons, List.length_cons]
    omega
  | .inr (.inr (some o)) :: l, n + 1, h => by
    obtain ⟨a, b⟩ := z_c8_len ad l n h
    refine ⟨by show (z_cargs l).length + 1 ≤ _; omega, ?_⟩
    have : lg_sl ((Sum.inr (Sum.inr (some o)) :: l : List z_V).map (z_tv ad)) = Slot.val (z_tv ad (.inr (.inr (some o)))) :: lg_sl (l.map (z_tv ad)) := by cases o <;> rfl
    rw [this, List.length_cons]
    omega
theorem z_lo_entry {ad : Nat → Nat} {n nL : Nat} {as : List z_V} (hok : ∀ v ∈ as, z_ok n v) (h8 : z_c8 as nL = true) : z_lo ad n nL (z_pad as nL) ((lg_sl (as.map (z_tv ad)) ++ List.replicate (nL - (lg_sl (as.map (z_tv ad))).length) Slot.unset).toArray) := by
  obtain ⟨a, b⟩ := z_c8_len ad as nL h8
  obtain ⟨e1, e2, e3⟩ := lv_entry (as.map (z_tv ad)) b
  have hx : ∀ v ∈ as, v ≠ z_x := fun v hv q => by have := hok v hv; rw [q] at this; exact this
  refine ⟨e1, e2, z_padl_len _ _ a, fun i v hi => ?_⟩
  rcases z_padl_get _ _ _ _ hi with q | q
  · exact Or.inl q
  · rcases z_cargs_get ad as 0 i v hx q with q | ⟨q1, q2⟩
    · exact Or.inl q
    · refine Or.inr ⟨hok v q1, ?_⟩
      have := e3 _ q2
      simpa using this
/-- the contract of a method, from what z_J says of it -/
theorem z_met {l : Launch} {m d : Nat} {b : Nat × Nat} {as : List z_V} {w : z_W} {Q : z_P} {D : va_G} {C : z_C3} {ad : Nat → Nat} {sz : Nat} (hJ : z_J d b m 0 (z_pad as (z_mL m)) [] w Q) (hst : l.stackTraces = false) (hm : m ≠ 128 ∧ m ≠ 299) (hy : plainName (z_mY m).cls = true) (h8 : z_c8 as (z_mL m) = true) (hok : ∀ v ∈ as, z_ok (z_N w) v) (hv : z_vals w) :
    Met l (z_mY m) (z_wm m) (z_rm d b.1 b.2) (z_pc D C ad w sz as) (z_qc D C ad (z_N w) (z_Ar ad (z_N w) sz) Q) b.1 b.2 (z_Ar ad (z_N w) sz) := by
  refine Met.ofW (cc := z_mC m) (maxL := z_mL m) (ret := z_mR m) hy rfl ?_
  intro p e s mi args below meth c s₁ B hml hpc
  obtain ⟨rfl, ⟨hsz, hP, hD, ho⟩, hK, hnm, hnf, hao⟩ := hpc
  have hts := atoms_spec (ws := z_wm m) B.pre
  subst hsz
  have hE : z_env m l p s mi (as.map (z_tv ad)).toArray meth c D C (z_Ar ad (z_N w) s.heap.size) := ⟨B.exec, B.bytes, B.returns, hml, findClass_of_methodNamed B.named, fun x hx => hts x (List.mem_cons_of_mem _ hx), B.notSynchronized, (name_of_methodNamed B.named B.method).1, hK, fun q hq => Or.inr hq, hnm, hnf, hao.1, hao.2, ⟨fun q => absurd q hm.1, fun q => absurd q hm.2⟩, hst⟩
  rw [lg_entry_eq]
  exact hJ p l e _ s mi _ below meth c D C _ (z_N w) ad b.1 b.2 _ s.heap [] 0 0 _ ad hE (Nat.le_refl _) (Nat.le_refl _) (by omega) (by omega) (Nat.le_refl _) (Nat.le_refl _) ⟨z_RO_MQ hE, fun q => absurd q hm.1⟩ ⟨hP, hD, va_S.rf, hv, ho, Nat.le_refl _, fun _ _ => rfl⟩ (z_lo_entry hok h8) (fun v hv => by cases hv)
