/-! calls: the caller's side -/
theorem z_Ar_A {D : va_G} {C : z_C3} {A : Nat → Prop} {s : State} {n0 : Nat} {ad0 : Nat → Nat} {H : Heap} {locs : List Loc} {ad : Nat → Nat} {w : z_W} (hr : z_rep D C A s n0 ad0 H locs ad w) (hA : ∀ q, s.heap.size ≤ q → A q) : ∀ q, z_Ar ad (z_N w) H.size q → A q := by
  rintro q (⟨k, h1, h2, rfl⟩ | h)
  · exact hr.2.1.2 _ _ (z_ws_get h1 h2)
  · exact hA q (Nat.le_trans hr.2.2.1.1 h)
theorem z_pc_of {m : Nat} {l : Launch} {p : Program} {s : State} {mi : MethodId} {args : Array Value} {meth : Method} {c : Code} {D : va_G} {C : z_C3} {A : Nat → Prop} {n0 : Nat} {ad0 : Nat → Nat} {H : Heap} {locs : List Loc} {ad : Nat → Nat} {w : z_W} (hE : z_env m l p s mi args meth c D C A) (hr : z_rep D C A s n0 ad0 H locs ad w) (as : List z_V) (U : State) (hU : U.heap = H) (hW : s.WarmedH U.vm) : z_pc D C ad w H.size as (as.map (z_tv ad)).toArray U := by
  obtain ⟨-, -, -, -, -, -, -, -, hK, hA, hnm, hnf, hao⟩ := hE
  have hAr := z_Ar_A hr hA
  obtain ⟨hP, hD, hS, hv, ho, hn, hn2⟩ := hr
  refine ⟨rfl, ⟨by rw [hU], by rw [hU]; exact hP, ⟨hD.1, fun k q hk => ?_⟩, ⟨fun k hk => ?_, ?_⟩⟩, va_K.moved hW.alike hK, fun q hq => va_Nw.warmM hW (hnm q hq), fun q hq => va_Nw.warmF hW (hnf q hq), va_AO.moved hW.alike hao.1, ?_, ?_, z_nbt_warm hW hao.2.1.2.2⟩
  · have hl : k < z_N w - 2 := by
      rw [← z_ws_len C ad w]
      exact (List.getElem?_eq_some_iff.mp hk).1
    have e := z_ws_get (C := C) (ad := ad) (w := w) (p := k + 2) (by omega) (by omega)
    rw [show k + 2 - 2 = k by omega, hk] at e
    cases e
    exact Or.inl ⟨k + 2, by omega, by omega, rfl⟩
  · obtain ⟨g1, g2, g3, g4⟩ := ho.1 k hk
    refine ⟨g1, ?_, ?_, fun z => g4 (hAr _ z)⟩
    · rw [hU]
      exact (g2.moved hW.alike).kept (hS.2.1 _ g3 g4)
    · rw [hU]
      exact Nat.lt_of_lt_of_le g3 hS.1
  · rw [hU]
    exact ((ho.2.moved hW.alike).kept hS.2.1).narrow hAr
  · rw [hU]
    exact ((hao.2.1.1.moved hW.alike).kept hS.2.1).narrow hAr
  · rw [hU]
    exact ((hao.2.1.2.1.moved hW.alike).kept hS.2.1).narrow hAr
theorem z_pc_blind {D : va_G} {C : z_C3} {ad : Nat → Nat} {w : z_W} {sz : Nat} {as : List z_V} : FrameBlind (z_pc D C ad w sz as) := by
  intro a U g mk h
  obtain ⟨rfl, ⟨h1, h2, h3, h4, h5⟩, h6, h7, h8, h9⟩ := h
  refine ⟨rfl, ⟨h1, h2, h3, fun k hk => ?_, ?_⟩, va_K.moved (u := U) (U := U.calling g mk _) (Vm.Alike.refl U.vm) h6, fun q hq => va_Nw.same rfl rfl (h7 q hq), fun q hq => va_Nw.same rfl rfl (h8 q hq), va_AO.moved (u := U) (U := U.calling g mk _) (Vm.Alike.refl U.vm) h9.1, vx_Zq.moved (u := U) (U := U.calling g mk _) (Vm.Alike.refl U.vm) h9.2.1, vx_Zq.moved (u := U) (U := U.calling g mk _) (Vm.Alike.refl U.vm) h9.2.2.1, z_nbt_same (s := U) (U := U.calling g mk _) rfl h9.2.2.2⟩
  · obtain ⟨g1, g2, g3, g4⟩ := h4 k hk
    exact ⟨g1, z_aX.moved (u := U) (U := U.calling g mk _) (Vm.Alike.refl U.vm) g2, g3, g4⟩
  · exact va_Z.moved (u := U) (U := U.calling g mk _) (Vm.Alike.refl U.vm) h5
theorem z_TB_good : ∀ w ∈ z_TB, goodWord w = true := fun w h => (List.mem_filter.mp h).2
theorem z_wm_good {m : Nat} (hc : Cond.code (z_mY m) (z_mC m) (z_mL m) (z_mR m) ∈ z_TB) : GoodIn z_TB (z_wm m) := by
  intro w h
  rcases List.mem_cons.mp h with rfl | h
  · exact ⟨hc, good_of_word (z_TB_good _ hc)⟩
  · exact ⟨h, good_of_word (z_TB_good _ h)⟩
/-- a call's instruction: from the callee's contract to the run of the call -/
def z_cr (m pc m' k : Nat) (ci : Option Nat) : Prop := ∀ (p : Program) (l : Launch) (e : Env) (R : Room) (s : State) (mi : MethodId) (args : Array Value) (below : List Frame) (meth : Method) (c : Code) (D : va_G) (C : z_C3) (A : Nat → Prop) (n0 : Nat) (ad0 : Nat → Nat) (H : Heap) (locs : List Loc) (cells slots d : Nat) (b : Nat × Nat) (la : Array Slot) (ad : Nat → Nat) (w : z_W) (st : List z_V) (Qc : Array Value → State → Outcome → State → Prop) (free : Addr → Prop),
  z_env m l p s mi args meth c D C A → z_rep D C A s n0 ad0 H locs ad w → d + 1 ≤ R.frames → 60 * (d + 1) ≤ R.locals → cells + b.1 ≤ R.cells → slots + b.2 ≤ R.slots → la.size = z_mL m → k ≤ st.length → (∀ v ∈ st, z_ok (z_N w) v) → z_rv ci k st w → z_c8 (st.drop k) 8 = true →
  Met l (z_mY m') (z_wm m') (z_rm d b.1 b.2) (z_pc D C ad w H.size (st.take k).reverse) Qc b.1 b.2 free →
  va_Run p l e R s mi args below meth c H locs cells slots b.1 b.2 (F0 mi pc la (st.map (z_tv ad))) ((st.drop k).map (z_tv ad)) (Qc (((st.take k).reverse).map (z_tv ad)).toArray) free
/-- what a program decides of a callee -/
def z_ce (m m' n : Nat) : Prop := Cond.code (z_mY m') (z_mC m') (z_mL m') (z_mR m') ∈ z_TB ∧ z_mL m' ≤ 41 ∧ ((z_mY m').cls ≠ "java/lang/invoke/MethodHandle" ∧ (z_mY m').cls ≠ "java/lang/invoke/VarHandle" ∧ (parseMethodDescriptor (z_mY m').desc).map (fun d => d.parameters.length) = some n)
theorem z_split (st : List z_V) (k : Nat) (ad : Nat → Nat) : st.map (z_tv ad) = (((st.take k).reverse).map (z_tv ad)).reverse ++ (st.drop k).map (z_tv ad) := by
  rw [← List.map_reverse, List.reverse_reverse, ← List.map_append, List.take_append_drop]
theorem z_cr_S {m pc m' idx k : Nat} (hc : z_ce m m' k) (hw : Cond.methodLink (z_mY m).cls idx (z_mY m') ∈ z_TB) (hw2 : Cond.static (z_mY m') ∈ z_TB) (hw3 : Cond.initialized (z_mY m').cls ∈ z_TB) (hd : decode (z_mC m) pc = .ok (.invokestatic idx, 3)) : z_cr m pc m' k none := by
  intro p l e R s mi args below meth c D C A n0 ad0 H locs cells slots d b la ad w st Qc free hE hr hf hlo hce hsl hla hk hok hrv h8 hM
  obtain ⟨hx, hb, -, hml, hown, hts, -⟩ := id hE
  obtain ⟨c1, c2, c3⟩ := hc
  refine va_runS (Ts := z_TB) (n := k) ⟨hx, hb, hml, hown, hts⟩ hM ⟨callB_of k hts (z_wm_good c1) rfl rfl rfl (hts _ hw3) (hts _ hw) c3 ⟨hf, ?_⟩, hts _ hw2⟩ ⟨z_pc_blind, fun U hU hW => z_pc_of hE hr _ U hU hW⟩ rfl (by simp; omega) hla (z_split st k ad) (lv_room (z_c8_sum ad _ _ h8)) hd ⟨hce, hsl⟩
  show 8 + (z_mL m' + 11) + 60 * d ≤ R.locals
  omega
theorem z_cr_SN {m pc m' idx k : Nat} {host : String} (hc : z_ce m m' k) (hw : ((z_mY m).cls, idx, z_mY m', host) ∈ z_nbm) (hw2 : Cond.static (z_mY m') ∈ z_TB) (hw3 : Cond.initialized (z_mY m').cls ∈ z_TB) (hd : decode (z_mC m) pc = .ok (.invokestatic idx, 3)) : z_cr m pc m' k none := by
  intro p l e R s mi args below meth c D C A n0 ad0 H locs cells slots d b la ad w st Qc free hE hr hf hlo hce hsl hla hk hok hrv h8 hM
  obtain ⟨hx, hb, -, hml, hown, hts, -, -, -, -, hnm, -⟩ := id hE
  obtain ⟨c1, c2, c3⟩ := hc
  have hnw := hnm _ hw
  refine va_runSN (Ts := z_TB) (n := k) ⟨hx, hb, hml, hown, hts⟩ hM ⟨va_cnB k hts (z_wm_good c1) rfl rfl rfl hnw (hts _ hw3) c3 ⟨hf, ?_⟩, hts _ hw2, trivial⟩ ⟨z_pc_blind, fun U hU hW => z_pc_of hE hr _ U hU hW⟩ rfl (by simp; omega) hla (z_split st k ad) (lv_room (z_c8_sum ad _ _ h8)) hd ⟨hce, hsl⟩
  show 8 + (z_mL m' + 11) + 60 * d ≤ R.locals
  omega
theorem z_recv {st : List z_V} {k : Nat} {w : z_W} {ci : Nat} (h : z_rv (some ci) k st w) (hok : ∀ v ∈ st, z_ok (z_N w) v) : ∃ (q : Nat) (as : List z_V), (st.take k).reverse = z_r q :: as ∧ z_k w q = ci ∧ q < z_N w := by
  obtain ⟨q, h1, h2⟩ := h
  cases e : (st.take k).reverse with
  | nil => rw [e] at h1; cases h1
  | cons a as =>
    rw [e] at h1
    cases h1
    refine ⟨q, as, rfl, h2, ?_⟩
    have : z_r q ∈ (st.take k).reverse := by rw [e]; exact List.mem_cons_self
    exact hok _ (List.mem_of_mem_take (List.mem_reverse.mp this))
theorem z_cr_V {m pc m' idx n ci N : Nat} {T : u_T} (hc : z_ce m m' n) (hcl : z_cls[ci]? = some ((z_mY m').cls, T, N)) (hw : Cond.methodLink (z_mY m).cls idx (z_mY m') ∈ z_TB) (hw2 : Cond.instanceMethod (z_mY m') ∈ z_TB) (hw4 : Cond.selects (z_mY m').cls (z_mY m') (z_mY m') ∈ z_TB) (hw3 : Cond.initialized (z_mY m').cls ∈ z_TB) (hd : decode (z_mC m) pc = .ok (.invokevirtual idx, 3)) : z_cr m pc m' (n + 1) (some ci) := by
  intro p l e R s mi args below meth c D C A n0 ad0 H locs cells slots d b la ad w st Qc free hE hr hf hlo hce hsl hla hk hok hrv h8 hM
  obtain ⟨hx, hb, -, hml, hown, hts, -, -, hK, -⟩ := id hE
  obtain ⟨c1, c2, c3⟩ := hc
  obtain ⟨q, as, e1, e2, e3⟩ := z_recv hrv hok
  obtain ⟨q2, he⟩ := z_obj hr e3 e2 (z_clf _ _ _ _ hcl).2.2.2.2.1
  have hlen : as.length = n := by
    have := congrArg List.length e1
    simp at this
    omega
  have hs := z_split st (n + 1) ad
  rw [e1] at hs hM ⊢
  refine va_runV (Ts := z_TB) (n := n) (As := as.map (z_tv ad)) (b := ad q) (C := (z_mY m').cls) ⟨hx, hb, hml, hown, hts⟩ hM ⟨callB_of n hts (z_wm_good c1) rfl rfl rfl (hts _ hw3) (hts _ hw) c3 ⟨hf, ?_⟩, hts _ hw2, hts _ hw4⟩ ⟨z_pc_blind, va_recv hK hr.1 hcl he, fun U hU hW => z_pc_of hE hr _ U hU hW⟩ rfl (by simp [hlen]) hla ?_ (lv_room (z_c8_sum ad _ _ h8)) hd ⟨hce, hsl⟩
  · show 8 + (z_mL m' + 11) + 60 * d ≤ R.locals
    omega
  · show st.map (z_tv ad) = _
    rw [hs, List.map_cons, List.reverse_cons, List.append_assoc]
    rfl
theorem z_cr_VN {m pc m' idx n ci N : Nat} {T : u_T} {host : String} (hc : z_ce m m' n) (hcl : z_cls[ci]? = some ((z_mY m').cls, T, N)) (hw : ((z_mY m).cls, idx, z_mY m', host) ∈ z_nbm) (hw2 : Cond.instanceMethod (z_mY m') ∈ z_TB) (hw4 : Cond.selects (z_mY m').cls (z_mY m') (z_mY m') ∈ z_TB) (hw3 : Cond.initialized (z_mY m').cls ∈ z_TB) (hd : decode (z_mC m) pc = .ok (.invokevirtual idx, 3)) : z_cr m pc m' (n + 1) (some ci) := by
  intro p l e R s mi args below meth c D C A n0 ad0 H locs cells slots d b la ad w st Qc free hE hr hf hlo hce hsl hla hk hok hrv h8 hM
  obtain ⟨hx, hb, -, hml, hown, hts, -, -, hK, -, hnm, -⟩ := id hE
  obtain ⟨c1, c2, c3⟩ := hc
  obtain ⟨q, as, e1, e2, e3⟩ := z_recv hrv hok
  obtain ⟨q2, he⟩ := z_obj hr e3 e2 (z_clf _ _ _ _ hcl).2.2.2.2.1
  have hlen : as.length = n := by
    have := congrArg List.length e1
    simp at this
    omega
  have hs := z_split st (n + 1) ad
  rw [e1] at hs hM ⊢
  have hnw := hnm _ hw
  refine va_runVN (Ts := z_TB) (n := n) (As := as.map (z_tv ad)) (b := ad q) (C := (z_mY m').cls) ⟨hx, hb, hml, hown, hts⟩ hM ⟨va_cnB n hts (z_wm_good c1) rfl rfl rfl hnw (hts _ hw3) c3 ⟨hf, ?_⟩, hts _ hw2, hts _ hw4⟩ ⟨z_pc_blind, va_recv hK hr.1 hcl he, fun U hU hW => z_pc_of hE hr _ U hU hW⟩ rfl (by simp [hlen]) hla ?_ (lv_room (z_c8_sum ad _ _ h8)) hd ⟨hce, hsl⟩
  · show 8 + (z_mL m' + 11) + 60 * d ≤ R.locals
    omega
  · show st.map (z_tv ad) = _
    rw [hs, List.map_cons, List.reverse_cons, List.append_assoc]
    rfl
theorem z_cr_I {m pc m' idx n ci N : Nat} {T : u_T} (hc : z_ce m m' n) (hcl : z_cls[ci]? = some ((z_mY m').cls, T, N)) (hw : Cond.methodLink (z_mY m).cls idx (z_mY m') ∈ z_TB) (hw2 : Cond.instanceMethod (z_mY m') ∈ z_TB) (hnm1 : (z_mY m').name = "<init>") (hR0 : z_mR m' = none) (hw3 : Cond.initialized (z_mY m').cls ∈ z_TB) (hd : decode (z_mC m) pc = .ok (.invokespecial idx, 3)) : z_cr m pc m' (n + 1) (some ci) := by
  intro p l e R s mi args below meth c D C A n0 ad0 H locs cells slots d b la ad w st Qc free hE hr hf hlo hce hsl hla hk hok hrv h8 hM
  obtain ⟨hx, hb, -, hml, hown, hts, -, -, hK, -⟩ := id hE
  obtain ⟨c1, c2, c3⟩ := hc
  obtain ⟨q, as, e1, e2, e3⟩ := z_recv hrv hok
  have hlen : as.length = n := by
    have := congrArg List.length e1
    simp at this
    omega
  have hs := z_split st (n + 1) ad
  rw [e1] at hs hM ⊢
  refine va_runI (Ts := z_TB) (n := n) (As := as.map (z_tv ad)) (b := ad q) ⟨hx, hb, hml, hown, hts⟩ hM ⟨callB_of n hts (z_wm_good c1) (by unfold z_wm; rw [hR0]) rfl rfl (hts _ hw3) (hts _ hw) c3 ⟨hf, ?_⟩, hnm1, hts _ hw2⟩ ⟨z_pc_blind, fun U hU hW => z_pc_of hE hr _ U hU hW⟩ rfl (by simp [hlen]) hla ?_ (lv_room (z_c8_sum ad _ _ h8)) hd ⟨hce, hsl⟩
  · show 8 + (z_mL m' + 11) + 60 * d ≤ R.locals
    omega
  · show st.map (z_tv ad) = _
    rw [hs, List.map_cons, List.reverse_cons, List.append_assoc]
    rfl
theorem z_cr_IN {m pc m' idx n ci N : Nat} {T : u_T} {host : String} (hc : z_ce m m' n) (hcl : z_cls[ci]? = some ((z_mY m').cls, T, N)) (hw : ((z_mY m).cls, idx, z_mY m', host) ∈ z_nbm) (hw2 : Cond.instanceMethod (z_mY m') ∈ z_TB) (hnm1 : (z_mY m').name = "<init>") (hR0 : z_mR m' = none) (hw3 : Cond.initialized (z_mY m').cls ∈ z_TB) (hd : decode (z_mC m) pc = .ok (.invokespecial idx, 3)) : z_cr m pc m' (n + 1) (some ci) := by
  intro p l e R s mi args below meth c D C A n0 ad0 H locs cells slots d b la ad w st Qc free hE hr hf hlo hce hsl hla hk hok hrv h8 hM
  obtain ⟨hx, hb, -, hml, hown, hts, -, -, hK, -, hnm, -⟩ := id hE
  obtain ⟨c1, c2, c3⟩ := hc
  obtain ⟨q, as, e1, e2, e3⟩ := z_recv hrv hok
  have hlen : as.length = n := by
    have := congrArg List.length e1
    simp at this
    omega
  have hs := z_split st (n + 1) ad
  rw [e1] at hs hM ⊢
  have hnw := hnm _ hw
  refine va_runIN (Ts := z_TB) (n := n) (As := as.map (z_tv ad)) (b := ad q) ⟨hx, hb, hml, hown, hts⟩ hM ⟨va_cnB n hts (z_wm_good c1) (by unfold z_wm; rw [hR0]) rfl rfl hnw (hts _ hw3) c3 ⟨hf, ?_⟩, hnm1, hts _ hw2⟩ ⟨z_pc_blind, fun U hU hW => z_pc_of hE hr _ U hU hW⟩ rfl (by simp [hlen]) hla ?_ (lv_room (z_c8_sum ad _ _ h8)) hd ⟨hce, hsl⟩
  · show 8 + (z_mL m' + 11) + 60 * d ≤ R.locals
    omega
  · show st.map (z_tv ad) = _
    rw [hs, List.map_cons, List.reverse_cons, List.append_assoc]
    rfl
/-- behind a call -/
theorem z_back {m pc nx k : Nat} {d : Nat} {u b : Nat × Nat} {ls st : List z_V} {Q P : z_P} {p : Program} {l : Launch} {e : Env} {R : Room} {s : State} {mi : MethodId} {args : Array Value} {below : List Frame} {meth : Method} {c : Code} {D : va_G} {C : z_C3} {A : Nat → Prop} {n0 : Nat} {ad0 : Nat → Nat} {mc ms : Nat} {Z : State → Prop} {H : Heap} {locs : List Loc} {cells slots : Nat} {la : Array Slot} {ad : Nat → Nat} {w : z_W} {a : Array Value}
    (hnx : nx = pc + 3) (hE : z_env m l p s mi args meth c D C A) (h1 : d ≤ R.frames) (h2 : 60 * d ≤ R.locals) (hcc : cells + u.1 ≤ mc) (hs : slots + u.2 ≤ ms) (hb1 : b.1 ≤ u.1) (hb2 : b.2 ≤ u.2) (hmc : mc ≤ R.cells) (hms : ms ≤ R.slots) (hQ : z_RO m p l e R s mi args below meth c D C A n0 ad0 mc ms Z Q) (hr : z_rep D C A s n0 ad0 H locs ad w) (hl : z_lo ad (z_N w) (z_mL m) ls la) (hst : ∀ v ∈ st, z_ok (z_N w) v)
    (hrun : va_Run p l e R s mi args below meth c H locs cells slots b.1 b.2 (F0 mi pc la (st.map (z_tv ad))) ((st.drop k).map (z_tv ad)) (z_qc D C ad (z_N w) (z_Ar ad (z_N w) H.size) P a) (z_Ar ad (z_N w) H.size))
    (hk : ∀ r w', P r w' → z_J d (u.1 - b.1, u.2 - b.2) m nx ls (r.toList ++ st.drop k) w' Q) : W p l e R s mi args below meth c H locs cells slots Z (F0 mi pc la (st.map (z_tv ad))) := by
  subst hnx
  have hAr := z_Ar_A hr hE.2.2.2.2.2.2.2.2.2.1
  intro T hT X
  obtain ⟨v, st₀, t, T', L, e0, X', hL, e1, e2, ⟨⟨ad', w', r, hv, hq, hok', hP', hD', hv', ho', hn', hn2'⟩, hz, hkk⟩, hst2⟩ := hrun T hT X
  cases hv
  rw [e0] at hz hkk
  have hS := hr.2.2.1
  have hAl : s.vm.Alike t.vm := by rw [← e2]; exact X'.warmed.alike
  have hS' : va_S A s.heap T'.heap (locs ++ L) := ⟨Nat.le_trans hS.1 (by rw [e1]; exact hz), fun q g1 g2 => by rw [e1, hkk q (Nat.lt_of_lt_of_le g1 hS.1) (fun z => g2 (hAr q z))]; exact hS.2.1 q g1 g2, fun q hq => by
    rcases List.mem_append.mp hq with h | h
    · exact hS.2.2 q h
    · exact hAr _ (hL q h)⟩
  have hr' : z_rep D C A s n0 ad0 T'.heap (locs ++ L) ad' w' := by
    obtain ⟨hP, hD, hS0, hv0, ho, hn, hn2⟩ := hr
    have h2N := hv0.2.2.2.1
    refine ⟨by rw [e1]; exact hP', ⟨hD'.1, fun i q hq => hAr _ (hD'.2 i q hq)⟩, hS', hv', ⟨fun i hi => ?_, ?_⟩, Nat.le_trans hn hn', fun i hi => by rw [hn2' i (Nat.lt_of_lt_of_le hi hn)]; exact hn2 i hi⟩
    · obtain ⟨g1, g2, g3, g4⟩ := ho.1 i hi
      obtain ⟨f1, f2⟩ := ho' i hi
      have ea : ad' i = ad i := hn2' i (by omega)
      rw [ea] at f2 ⊢
      refine ⟨f1, (f2.moved hAl.symm).kept ?_, g3, g4⟩
      rw [hkk _ (Nat.lt_of_lt_of_le g3 hS0.1) (fun z => g4 (hAr _ z))]
      exact (hS0.2.1 _ g3 g4).symm
    · rw [hn2' 1 (by omega)]
      exact ho.2
  have hst' : ∀ v ∈ st.drop k, z_ok (z_N w) v := fun v hv => hst v (List.mem_of_mem_drop hv)
  have k1 := hk r w' hq p l e R s mi args below meth c D C A n0 ad0 mc ms Z T'.heap (locs ++ L) (cells + b.1) (slots + b.2) la ad' hE h1 h2 (by show cells + b.1 + (u.1 - b.1) ≤ mc; omega) (by show slots + b.2 + (u.2 - b.2) ≤ ms; omega) hmc hms hQ hr' (z_lo_ext hn' hn2' hl) (fun v hv => by
    rcases List.mem_append.mp hv with h | h
    · cases r with
      | none => cases h
      | some x =>
        have : v = x := by simpa using h
        subst this
        exact hok' v rfl
    · exact z_ok_mono hn' (hst' v h))
  obtain ⟨t2, a1, b1⟩ := k1 T' rfl X'
  refine ⟨t2, hst2 t2 ?_, b1⟩
  have es : (r.toList ++ st.drop k).map (z_tv ad') = (r.map (z_tv ad')).toList ++ (st.drop k).map (z_tv ad) := by
    rw [List.map_append]
    congr 1
    · cases r <;> rfl
    · exact List.map_congr_left (fun v hv => z_tv_ext hn2' (hst' v hv))
  rw [es] at a1
  exact a1
theorem z_s_ca {m pc m' k nL nx : Nat} {ci : Option Nat} (hcr : z_cr m pc m' k ci) (hnL : nL = z_mL m') (hy : plainName (z_mY m').cls = true ∧ m' ≠ 128 ∧ m' ≠ 299) (hnx : nx = pc + 3) : z_so m pc (z_ca m' k nL ci nx) := by
  intro d u ls st w Q ho p l e R s mi args below meth cd D C A n0 ad0 mc ms Z H locs cells slots la ad hE h1 h2 hcc hs hmc hms hQ hr hl hst
  subst hnL
  unfold z_ca at ho
  split at ho
  · exact ho.elim
  · rename_i d'
    obtain ⟨o1, o2, o3, o4, P, o5, o6⟩ := ho
    have hM := z_met (l := l) (D := D) (C := C) (ad := ad) (sz := H.size) o5 hE.2.2.2.2.2.2.2.2.2.2.2.2.2.2.2 hy.2 hy.1 o4 (fun v hv => hst v (List.mem_of_mem_take (List.mem_reverse.mp hv))) hr.2.2.2.1
    have hrun := hcr p l e R s mi args below meth cd D C A n0 ad0 H locs cells slots d' (0, 0) la ad w st _ _ hE hr h1 h2 (by show cells + 0 ≤ _; omega) (by show slots + 0 ≤ _; omega) hl.1 o1 hst o2 o3 hM
    exact z_back (b := (0, 0)) hnx hE h1 h2 hcc hs (Nat.zero_le _) (Nat.zero_le _) hmc hms hQ hr hl hst hrun o6
theorem z_s_cb {m pc m' k nL nx : Nat} {ci : Option Nat} {b : Nat × Nat} (hcr : z_cr m pc m' k ci) (hnL : nL = z_mL m') (hy : plainName (z_mY m').cls = true ∧ m' ≠ 128 ∧ m' ≠ 299) (hnx : nx = pc + 3) : z_so m pc (z_cb m' k nL ci b nx) := by
  intro d u ls st w Q ho p l e R s mi args below meth cd D C A n0 ad0 mc ms Z H locs cells slots la ad hE h1 h2 hcc hs hmc hms hQ hr hl hst
  subst hnL
  unfold z_cb at ho
  split at ho
  · exact ho.elim
  · rename_i d'
    obtain ⟨o1, o2, o3, o4, ob1, ob2, P, o5, o6⟩ := ho
    have hM := z_met (l := l) (D := D) (C := C) (ad := ad) (sz := H.size) o5 hE.2.2.2.2.2.2.2.2.2.2.2.2.2.2.2 hy.2 hy.1 o4 (fun v hv => hst v (List.mem_of_mem_take (List.mem_reverse.mp hv))) hr.2.2.2.1
    have hrun := hcr p l e R s mi args below meth cd D C A n0 ad0 H locs cells slots d' b la ad w st _ _ hE hr h1 h2 (by omega) (by omega) hl.1 o1 hst o2 o3 hM
    exact z_back (b := b) hnx hE h1 h2 hcc hs ob1 ob2 hmc hms hQ hr hl hst hrun o6
