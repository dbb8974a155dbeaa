/-! the one throw (SlabMap.edge, at 21), its catch (SlabMapLaw.edge, at 5), the law's call of what catches -/
def z_rtx : z_O := fun _ d u m _ st w Q => m = 128 ∧ st = [] ∧ 6 ≤ d ∧ 1 ≤ u.1 ∧ 6 ≤ u.2 ∧ Q (some z_x) w
theorem z_mm_rtx : z_mm z_rtx := fun _ _ _ _ _ _ h3 _ _ _ _ _ _ h => ⟨h.1, h.2.1, h.2.2.1, h.2.2.2.1, h.2.2.2.2.1, h3 _ _ h.2.2.2.2.2⟩
theorem z_cj_rtx : z_cj z_rtx := fun _ _ _ _ _ _ _ _ _ _ _ _ a b => ⟨a.1, a.2.1, a.2.2.1, a.2.2.2.1, a.2.2.2.2.1, a.2.2.2.2.2, b.2.2.2.2.2⟩
theorem z_mo_rtx : z_mo z_rtx := ⟨z_mm_rtx, z_cj_rtx⟩
theorem z_s_rtx : z_so 128 21 z_rtx := by
  intro d u ls st w Q ho p l e R s mi args below meth cd D C A n0 ad0 mc ms Z H locs cells slots la ad hE h1 h2 hcc hs hmc hms hQ hr hl hst
  obtain ⟨-, rfl, o1, o2, o3, o4⟩ := ho
  exact hQ.2 rfl H locs ad w la cells slots hr o4 hl.1 (by omega) (by omega) (by omega) (by omega) hmc hms
/-- a call that may throw: caught, it goes on at 15, what was caught put into local 4, which is not read -/
def z_cx : z_O := fun X d u m ls st w Q => match d, st with
  | d' + 1, .inl y :: .inl x :: .inr (.inr (some (some q))) :: st' => z_k w q = 11 ∧ z_c8 st' 8 = true ∧ 1 ≤ u.1 ∧ 6 ≤ u.2 ∧ (ls[4]? = some z_x ∧ ∃ k, ls[3]? = some (z_r k)) ∧ ∃ P : z_P, X d' (1, 6) 128 0 [z_r q, z_i x, z_i y] [] w P ∧ (∀ r w', P r w' → r ≠ some z_x → X (d' + 1) (u.1 - 1, u.2 - 6) m 8 ls (r.toList ++ st') w' Q) ∧ (∀ w', P (some z_x) w' → X (d' + 1) (u.1 - 1, u.2 - 6) m 15 ls [] w' Q)
  | _, _ => False
theorem z_mm_cx : z_mm z_cx := by
  intro X Y P Q h1 h2 h3 d u m ls st w h
  unfold z_cx at h ⊢
  split at h
  · obtain ⟨a, b, c, e, f, P', g, i, j⟩ := h
    exact ⟨a, b, c, e, f, P', h2 _ _ _ _ _ _ _ _ g, fun r w' q q2 => h1 _ _ _ _ _ _ _ (i r w' q q2), fun w' q => h1 _ _ _ _ _ _ _ (j w' q)⟩
  · exact h.elim
theorem z_cj_cx : z_cj z_cx := by
  intro X Y Z P Q h d u m ls st w a b
  unfold z_cx at a b ⊢
  split at a
  · obtain ⟨a1, a2, a3, a4, a5, S, a6, a7, a8⟩ := a
    obtain ⟨-, -, -, -, -, S', b6, b7, b8⟩ := b
    exact ⟨a1, a2, a3, a4, a5, fun r w => S r w ∧ S' r w, h _ _ _ _ _ _ _ _ _ a6 b6, fun r w' q q2 => h _ _ _ _ _ _ _ _ _ (a7 r w' q.1 q2) (b7 r w' q.2 q2), fun w' q => h _ _ _ _ _ _ _ _ _ (a8 w' q.1) (b8 w' q.2)⟩
  · exact a.elim
theorem z_mo_cx : z_mo z_cx := ⟨z_mm_cx, z_cj_cx⟩
theorem z_lo_any {ad : Nat → Nat} {n nL : Nat} {ls : List z_V} {la la' : Array Slot} {i : Nat} {x : Value} (h : z_lo ad n nL ls la) (hi : ls[i]? = some z_x) (hp : ∀ z j, j + 1 = i → ls[j]? ≠ some (z_l z))
    (h' : lv_has la' nL ((i, x) :: (z_lv ad ls 0).filter (fun q => !(q.1 == i) && !(q.1 + 1 == i && q.2.category == 2)))) : z_lo ad n nL ls la' := by
  refine ⟨h'.1, h'.2.1, h.2.2.1, fun j u hj => ?_⟩
  by_cases hx : u = z_x
  · exact Or.inl hx
  · rcases h.2.2.2 j u hj with q | q
    · exact absurd q hx
    · refine Or.inr ⟨q.1, h'.2.2 (j, z_tv ad u) (List.mem_cons_of_mem _ (List.mem_filter.mpr ⟨(z_lv_mem ad ls 0 _).mpr ⟨j, u, hj, hx, by rw [Nat.zero_add]⟩, ?_⟩))⟩
      have c0 : j ≠ i := fun e => by rw [e, hi] at hj; exact hx (Option.some.inj hj).symm
      have c1 : ¬ (j + 1 = i ∧ (z_tv ad u).category = 2) := by
        rintro ⟨q1, q2⟩
        rcases u with z | z | (_ | (_ | k))
        · cases q2
        · exact hp z j q1 hj
        · cases q2
        · cases q2
        · cases q2
      simp only [Bool.and_eq_true, Bool.not_eq_true', beq_eq_false_iff_ne, ne_eq, Bool.and_eq_false_iff]
      refine ⟨c0, ?_⟩
      by_cases q1 : j + 1 = i
      · exact Or.inr (fun q2 => c1 ⟨q1, q2⟩)
      · exact Or.inl q1
/-! words -/
abbrev zx_E : String := "java/util/NoSuchElementException"
abbrev zx_N : List String := ["java/lang/RuntimeException", "java/lang/Exception"]
theorem zx_at : (vx_at0 "SlabMap" 203 zx_E zx_N).filter goodWord = [134, 1161, 1170, 1172, 1175, 1177, 1162, 1163, 145, 146, 1164, 1169, 1173, 1189, 1151, 1190, 1153, 1191, 1155, 1165, 1167, 1157, 1179, 1180, 1181, 1182, 1182, 1183, 1184, 1185, 1185, 1186, 1187, 1162, 1178, 1140, 1148, 1149, 1150, 1152, 1154, 1156, 1160, 1159, 1158].filterMap (fun i => lw_tbl[i]?) := by decide +kernel
theorem zx_at_in : ∀ w ∈ (vx_at0 "SlabMap" 203 zx_E zx_N).filter goodWord, w ∈ z_TB := by
  intro w hw
  have hg := (List.mem_filter.mp hw).2
  rw [zx_at] at hw
  obtain ⟨i, -, hi⟩ := List.mem_filterMap.mp hw
  exact z_inT hi hg
theorem zx_bad : ∀ w ∈ (vx_at0 "SlabMap" 203 zx_E zx_N).filter (fun w => !goodWord w), w ∈ z_nbt := by decide +kernel
theorem zx_good : ∀ w ∈ Cond.classLink "SlabMap" 201 zx_E :: Cond.initialized zx_E :: vx_at0 "SlabMap" 203 zx_E zx_N, vx_ot w = true := by decide +kernel
theorem zx_nbt {s : State} {args : Array Value} (h : ∀ q ∈ z_nbt, va_Nw q s) : ∀ w ∈ z_nbt, w.before args s = true := by
  intro q hq
  have hz := h q hq
  simp only [z_nbt, List.mem_cons, List.not_mem_nil, or_false] at hq
  rcases hq with rfl | rfl | rfl | rfl
  · exact va_Nw.use rfl hz
  · exact va_Nw.use rfl hz
  · exact va_Nw.use rfl hz
  · exact va_Nw.use rfl hz
theorem zx_link : Cond.classLink "SlabMap" 201 zx_E ∈ z_TB := z_inT (i := 1139) (by decide +kernel) (by decide +kernel)
theorem zx_linkL : Cond.classLink (z_mY 299).cls 13 zx_E ∈ z_TB := z_inT (i := 1134) (by decide +kernel) (by decide +kernel)
theorem zx_ini : Cond.initialized zx_E ∈ z_TB := z_inT (i := 137) (by decide +kernel) (by decide +kernel)
theorem zx_code : Cond.code (z_mY 128) (z_mC 128) (z_mL 128) (z_mR 128) ∈ z_TB := z_inT (i := 1138) (by decide +kernel) (by decide +kernel)
theorem zx_ml : Cond.methodLink (z_mY 299).cls 7 (z_mY 128) ∈ z_TB := z_inT (i := 1135) (by decide +kernel) (by decide +kernel)
theorem zx_im : Cond.instanceMethod (z_mY 128) ∈ z_TB := z_inT (i := 1136) (by decide +kernel) (by decide +kernel)
theorem zx_sel : Cond.selects (z_mY 128).cls (z_mY 128) (z_mY 128) ∈ z_TB := z_inT (i := 1137) (by decide +kernel) (by decide +kernel)
theorem zx_inS : Cond.initialized (z_mY 128).cls ∈ z_TB := z_inT (i := 117) (by decide +kernel) (by decide +kernel)
theorem zx_inL : Cond.initialized (z_mY 299).cls ∈ z_TB := z_inT (i := 116) (by decide +kernel) (by decide +kernel)
theorem zx_mlL : Cond.methodLink (z_mY 300).cls 42 (z_mY 299) ∈ z_TB := z_inT (i := 1131) (by decide +kernel) (by decide +kernel)
theorem zx_stL : Cond.static (z_mY 299) ∈ z_TB := z_inT (i := 1132) (by decide +kernel) (by decide +kernel)
theorem zx_cw : Cond.codeWith (z_mY 299) (z_mC 299) (z_mL 299) (z_mR 299) [(0, 10, 13, 13)] ∈ z_TB := z_inT (i := 1133) (by decide +kernel) (by decide +kernel)
/-! the contract of SlabMap.edge: it returns, or it throws -/
def z_xc (D : va_G) (C : z_C3) (ad0 : Nat → Nat) (n0 : Nat) (A : Nat → Prop) (Q : z_P) : String → State → State → Prop := fun E st t =>
  E = zx_E ∧ (∃ (ad : Nat → Nat) (w : z_W), Q (some z_x) w ∧ va_P D z_cls (z_ws C ad w) t.heap ∧ va_D A (z_ws C ad w) ∧ z_vals w ∧ (∀ k, k < 2 → z_k w k = 103 ∧ z_aX (ad k) (z_len w k).toNat (fun j => Int32.ofInt (z_I w k j)) t t.heap) ∧ n0 ≤ z_N w ∧ (∀ k, k < n0 → ad k = ad0 k)) ∧ va_F A st t
theorem z_metX {l : Launch} {d : Nat} {b : Nat × Nat} {as : List z_V} {w : z_W} {Q : z_P} {D : va_G} {C : z_C3} {ad : Nat → Nat} {sz : Nat} (hst : l.stackTraces = false) (hJ : z_J d b 128 0 (z_pad as (z_mL 128)) [] w Q) (h8 : z_c8 as (z_mL 128) = true) (hok : ∀ v ∈ as, z_ok (z_N w) v) (hv : z_vals w) :
    vx_Met l (z_mY 128) (z_wm 128) (z_rm d b.1 b.2) (z_pc D C ad w sz as) (z_qc D C ad (z_N w) (z_Ar ad (z_N w) sz) Q) (z_xc D C ad (z_N w) (z_Ar ad (z_N w) sz) Q) b.1 b.2 (z_Ar ad (z_N w) sz) := by
  refine vx_ofW (cc := z_mC 128) (maxL := z_mL 128) (ret := z_mR 128) (by decide +kernel) rfl ?_
  intro p e s mi args below meth c s₁ B hml htb hpc
  obtain ⟨rfl, ⟨hsz, hP, hD, ho⟩, hK, hnm, hnf, hao⟩ := hpc
  have hts := atoms_spec (ws := z_wm 128) B.pre
  subst hsz
  have hE : z_env 128 l p s mi (as.map (z_tv ad)).toArray meth c D C (z_Ar ad (z_N w) s.heap.size) := ⟨B.exec, B.bytes, B.returns, hml, findClass_of_methodNamed B.named, fun x hx => hts x (List.mem_cons_of_mem _ hx), B.notSynchronized, (name_of_methodNamed B.named B.method).1, hK, fun q hq => Or.inr hq, hnm, hnf, hao.1, hao.2, ⟨fun _ => htb, fun h => absurd h (by decide)⟩, hst⟩
  rw [lg_entry_eq]
  refine hJ p l e _ s mi _ below meth c D C _ (z_N w) ad b.1 b.2 _ s.heap [] 0 0 _ ad hE (Nat.le_refl _) (Nat.le_refl _) (by omega) (by omega) (Nat.le_refl _) (Nat.le_refl _) ⟨?_, ?_⟩ ⟨hP, hD, va_S.rf, hv, ho, Nat.le_refl _, fun _ _ => rfl⟩ (z_lo_entry hok h8) (fun v hv => by cases hv)
  · intro H locs ad' w' r pc la i h1 h2 h3 h4 h5
    exact vx_ret (z_RO_MQ hE H locs ad' w' r pc la i h1 h2 h3 h4 h5)
  · intro _ H locs ad' w' la cells slots hr hq hla hc hs hf hlo hmc hms
    obtain ⟨hx, hb, -, hml', hown, hts', hlk, -, -, -, -, -, -, hth, -, -⟩ := id hE
    obtain ⟨hP', hD', hS', hv', ho', hn', hn2'⟩ := id hr
    refine vx_throw0 (cc := z_mC 128) (own := "SlabMap") (cls := zx_E) (names := zx_N) (ik := 201) (ic := 203) (A := z_Ar ad (z_N w) s.heap.size) hx hb hst hown (by decide +kernel) (by decide +kernel) (hts' _ zx_link) (hts' _ zx_ini) (vx_hat (fun w hw => hts' _ (zx_at_in w hw)) zx_bad (zx_nbt hth.2.2)) zx_good hth.1 hth.2.1 hS' (hla.trans hml'.symm) (by decide +kernel) (by decide +kernel) (by decide +kernel) (by decide +kernel) (fun x hx => (htb x hx).elim) (by show 2 + 3 < _; omega) (by show 0 + (13 * (2 + 1) + 42) ≤ _; omega) (by omega) (by omega) hlk ?_ hS'.2.2 hc hs
    intro t hal hz hk
    refine ⟨rfl, ⟨ad', w', hq, hP'.kept (fun k q hk' => hk _ (vx_lt hP' hk')), hD', hv', fun k hk' => ?_, hn', hn2'⟩, Nat.le_trans hS'.1 hz, fun q h1 h2 => by rw [hk q (Nat.lt_of_lt_of_le h1 hS'.1)]; exact hS'.2.1 q h1 h2⟩
    obtain ⟨g1, g2, g3, g4⟩ := ho'.1 k hk'
    refine ⟨g1, (g2.moved hal).kept ?_⟩
    rw [hk _ (Nat.lt_of_lt_of_le g3 hS'.1)]
    exact hS'.2.1 _ g3 g4
/-- the world behind a callee -/
theorem z_rep_back {D : va_G} {C : z_C3} {A : Nat → Prop} {s : State} {n0 : Nat} {ad0 : Nat → Nat} {H : Heap} {locs : List Loc} {ad : Nat → Nat} {w : z_W} {t T' : State} {L : List Loc} {ad' : Nat → Nat} {w' : z_W} (hr : z_rep D C A s n0 ad0 H locs ad w) (hA : ∀ q, s.heap.size ≤ q → A q)
    (hz : H.size ≤ t.heap.size) (hkk : ∀ q : Nat, q < H.size → ¬ z_Ar ad (z_N w) H.size q → t.heap[q]? = H[q]?) (e1 : T'.heap = t.heap) (hAl : s.vm.Alike t.vm) (hL : ∀ q ∈ L, z_Ar ad (z_N w) H.size q.base)
    (hP' : va_P D z_cls (z_ws C ad' w') t.heap) (hD' : va_D (z_Ar ad (z_N w) H.size) (z_ws C ad' w')) (hv' : z_vals w') (ho' : ∀ k, k < 2 → z_k w' k = 103 ∧ z_aX (ad' k) (z_len w' k).toNat (fun j => Int32.ofInt (z_I w' k j)) t t.heap) (hn' : z_N w ≤ z_N w') (hn2' : ∀ k, k < z_N w → ad' k = ad k) : z_rep D C A s n0 ad0 T'.heap (locs ++ L) ad' w' := by
  have hAr := z_Ar_A hr hA
  have hS := hr.2.2.1
  have hS' : va_S A s.heap T'.heap (locs ++ L) := ⟨Nat.le_trans hS.1 (by rw [e1]; exact hz), fun q g1 g2 => by rw [e1, hkk q (Nat.lt_of_lt_of_le g1 hS.1) (fun z => g2 (hAr q z))]; exact hS.2.1 q g1 g2, fun q hq => by
    rcases List.mem_append.mp hq with h | h
    · exact hS.2.2 q h
    · exact hAr _ (hL q h)⟩
  obtain ⟨hP, hD, hS0, hv0, ho, hn, hn2⟩ := hr
  have h2N := hv0.2.2.2.1
  refine ⟨by rw [e1]; exact hP', ⟨hD'.1, fun i q hq => hAr _ (hD'.2 i q hq)⟩, hS', hv', ⟨fun i hi => ?_, ?_⟩, Nat.le_trans hn hn', fun i hi => by rw [hn2' i (Nat.lt_of_lt_of_le hi hn)]; exact hn2 i hi⟩
  · obtain ⟨g1, g2, g3, g4⟩ := ho.1 i hi
    obtain ⟨f1, f2⟩ := ho' i hi
    have ea : ad' i = ad i := hn2' i (by omega)
    rw [ea] at f2 ⊢
    refine ⟨f1, (f2.moved hAl.symm).kept ?_, g3, g4⟩
    rw [hkk _ (Nat.lt_of_lt_of_le g3 hS0.1) (fun z => g4 (hAr _ z))]
    exact (hS0.2.1 _ g3 g4).symm
  · rw [hn2' 1 (by omega)]
    exact ho.2
theorem z_s_cx : z_so 299 5 z_cx := by
  intro d u ls st w Q ho p l e R s mi args below meth cd D C A n0 ad0 mc ms Z H locs cells slots la ad hE h1 h2 hcc hs hmc hms hQ hr hl hst
  unfold z_cx at ho
  split at ho
  · rename_i d' y x q st2
    obtain ⟨o1, o8, ou1, ou2, ⟨ol4, kr, ol3⟩, P, oj, okn, okx⟩ := ho
    have hst0 : l.stackTraces = false := hE.2.2.2.2.2.2.2.2.2.2.2.2.2.2.2
    obtain ⟨hx, hb, -, hml, hown, hts, -, -, hK, hA, -, -, -, hth, htb, -⟩ := id hE
    have hq : q < z_N w := hst (z_r q) (List.mem_cons_of_mem _ (List.mem_cons_of_mem _ List.mem_cons_self))
    have hok : ∀ v ∈ ([z_r q, z_i x, z_i y] : List z_V), z_ok (z_N w) v := by
      intro v hv
      simp only [List.mem_cons, List.not_mem_nil, or_false] at hv
      rcases hv with rfl | rfl | rfl
      · exact hq
      · exact hst _ (List.mem_cons_of_mem _ List.mem_cons_self)
      · exact hst _ List.mem_cons_self
    have hM := z_metX (l := l) (D := D) (C := C) (ad := ad) (sz := H.size) (as := [z_r q, z_i x, z_i y]) (b := (1, 6)) hst0 oj (by rw [show z_mL 128 = 3 by decide +kernel]; rfl) hok hr.2.2.2.1
    obtain ⟨q2, he⟩ := z_obj hr hq o1 (z_clf 11 _ _ _ (rfl : z_cls[11]? = some ((z_mY 128).cls, TX11, 19))).2.2.2.2.1
    have hd5 : decode (z_mC 299) 5 = .ok (.invokevirtual 7, 3) := by decide +kernel
    have hrun := vx_runV (p := p) (l := l) (e := e) (meth := meth) (below := below) (Ts := z_TB) (n := 2) (g := F0 mi 5 la ((z_i y :: z_i x :: z_r q :: st2 : List z_V).map (z_tv ad))) (rest := st2.map (z_tv ad)) (As := [z_tv ad (z_i x), z_tv ad (z_i y)]) (b := ad q) (C := (z_mY 128).cls) (H := H) (cells := cells) (slots := slots) (locs := locs) ⟨hx, hb, hml, hown, hts⟩ hM ⟨callB_of 2 hts (z_wm_good zx_code) rfl rfl rfl (hts _ zx_inS) (hts _ zx_ml) (by decide +kernel) ⟨by show d' + 1 ≤ R.frames; exact h1, by show 8 + (3 + 11) + 60 * d' ≤ R.locals; omega⟩, hts _ zx_im, hts _ zx_sel⟩ ⟨z_pc_blind, va_recv hK hr.1 (rfl : z_cls[11]? = some ((z_mY 128).cls, TX11, 19)) he, fun U hU hW => z_pc_of hE hr [z_r q, z_i x, z_i y] U hU hW⟩ rfl rfl hl.1 rfl (lv_room (z_c8_sum ad _ _ o8)) hd5 ⟨by show cells + 1 ≤ _; omega, by show slots + 6 ≤ _; omega⟩
    intro T hT X
    rcases hrun T hT X with ⟨v, st₀, t, T', L, e0, X', hL, e1, e2, ⟨⟨ad', w', r, hv, hp, hok', hP', hD', hv', ho', hn', hn2'⟩, hz, hkk⟩, hst2⟩ | ⟨q9, st₀, t, T', L, E, ce, e0, X', hL, e1, e2, ⟨rfl, ⟨ad', w', hp, hP', hD', hv', ho', hn', hn2'⟩, hz, hkk⟩, hce, hcv, hcl, hst2⟩
    · cases hv
      rw [e0] at hz hkk
      have hAl : s.vm.Alike t.vm := by rw [← e2]; exact X'.warmed.alike
      have hr' := z_rep_back hr hA hz hkk e1 hAl hL hP' hD' hv' ho' hn' hn2'
      have hst' : ∀ v ∈ st2, z_ok (z_N w) v := fun v hv => hst v (List.mem_cons_of_mem _ (List.mem_cons_of_mem _ (List.mem_cons_of_mem _ hv)))
      have hrx : r ≠ some z_x := fun q => hok' z_x q
      have k1 := okn r w' hp hrx p l e R s mi args below meth cd D C A n0 ad0 mc ms Z T'.heap (locs ++ L) (cells + 1) (slots + 6) la ad' hE h1 h2 (by show cells + 1 + (u.1 - 1) ≤ mc; omega) (by show slots + 6 + (u.2 - 6) ≤ ms; omega) hmc hms hQ hr' (z_lo_ext hn' hn2' hl) (fun v hv => by
        rcases List.mem_append.mp hv with h | h
        · cases r with
          | none => cases h
          | some x =>
            have : v = x := by simpa using h
            subst this
            exact hok' v rfl
        · exact z_ok_mono hn' (hst' v h))
      obtain ⟨t2, a1, b1⟩ := k1 T' rfl X'
      refine ⟨t2, hst2 t2 ?_, b1⟩
      have es : (r.toList ++ st2).map (z_tv ad') = (r.map (z_tv ad')).toList ++ st2.map (z_tv ad) := by
        rw [List.map_append]
        congr 1
        · cases r <;> rfl
        · exact List.map_congr_left (fun v hv => z_tv_ext hn2' (hst' v hv))
      rw [es] at a1
      exact a1
    · rw [e0] at hz hkk
      have hAl : s.vm.Alike t.vm := by rw [← e2]; exact X'.warmed.alike
      have hr' := z_rep_back hr hA hz hkk e1 hAl hL hP' hD' hv' ho' hn' hn2'
      have hl' := z_lo_ext hn' hn2' hl
      have kx : vx_W p l e R s mi args below meth cd T'.heap (locs ++ L) (cells + 1) (slots + 6) Z (F0 mi 5 la (st2.map (z_tv ad))) q9 := by
        refine vx_catch (own := (z_mY 299).cls) (name := zx_E) (E := zx_E) (ce := ce) hown [] ⟨0, 10, 13, 13⟩ [] (by rw [htb.2 rfl]; rfl) (fun z hz => by cases hz) (by decide) (by decide) (hts _ zx_linkL) (zx_nbt hth.2.2 _ (by decide)) (by rw [e1]; exact hce) hcv hcl ?_
        refine lv_astore (i := 4) (pc := 13) hx hb (by decide +kernel) (z_lo_has hl') (by decide +kernel) rfl (fun la' h' => ?_)
        exact okx w' hp p l e R s mi args below meth cd D C A n0 ad0 mc ms Z T'.heap (locs ++ L) (cells + 1) (slots + 6) la' ad' hE h1 h2 (by show cells + 1 + (u.1 - 1) ≤ mc; omega) (by show slots + 6 + (u.2 - 6) ≤ ms; omega) hmc hms hQ hr' (z_lo_any hl' ol4 (fun z j hj => by rw [show j = 3 by omega, ol3]; intro q; cases q) h') (fun v hv => by cases hv)
      obtain ⟨t2, a1, b1⟩ := kx T' rfl X'
      exact ⟨t2, hst2.trans a1, b1⟩
  · exact ho.elim
/-! a call of a method with handlers -/
theorem z_ofWH {l : Launch} {y : MethodName} {ws ws' : List Cond} {rm : Room} {Pc : Array Value → State → Prop} {Qc : Array Value → State → Outcome → State → Prop} {mc ms : Nat} {free : Addr → Prop} {cc : ByteArray} {maxL : Nat} {ret : Option FieldType} {hh : List (Nat × Nat × Nat × Nat)}
    (hy : plainName y.cls = true) (hw : ws = Cond.codeWith y cc maxL ret hh :: ws')
    (body : ∀ p e s m args below meth c s₁, BodyLoose p l y (headSpec ws rm) cc maxL ret e s m args below meth c s₁ → c.maxLocals = maxL → Pc args s →
      W p l e (headSpec ws rm).room s m args below meth c s.heap [] 0 0 (MQ below Qc args s mc ms free) (entryFrame m args maxL)) : Met l y ws rm Pc Qc mc ms free := by
  refine MetFree.of_bodyS (code := cc) (maxLocals := maxL) (ret := ret) hy ?_ ?_
  · intro args s m h hn
    obtain ⟨m9, meth, c, hn9, h1, h2, h3, h4, -, h5, h6, -⟩ := Cond.codeWith_spec (atoms_spec (ws := ws) h _ (by rw [hw]; exact List.mem_cons_self))
    cases hn.symm.trans hn9
    exact ⟨meth, c, h1, h2, h3, h4, h5, h6⟩
  · intro p e s m args below meth c s₁ B hml hP _
    have hh0 : s₁.heap = s.heap := by rw [B.state]; rfl
    obtain ⟨t, a1, o, b1, b2, b3⟩ := body p e s m args below meth c s₁ B hml hP s₁ hh0 (Stand.of_body B)
    exact ⟨t, o, a1, b1, b2, ⟨b3.1, b3.2⟩⟩
def z_wmW : List Cond := Cond.codeWith (z_mY 299) (z_mC 299) (z_mL 299) (z_mR 299) [(0, 10, 13, 13)] :: z_TB
theorem z_wmW_good : GoodIn z_TB z_wmW := by
  intro w h
  rcases List.mem_cons.mp h with rfl | h
  · exact ⟨zx_cw, good_of_word (z_TB_good _ zx_cw)⟩
  · exact ⟨h, good_of_word (z_TB_good _ h)⟩
theorem z_metW {l : Launch} {d : Nat} {b : Nat × Nat} {as : List z_V} {w : z_W} {Q : z_P} {D : va_G} {C : z_C3} {ad : Nat → Nat} {sz : Nat} (hst : l.stackTraces = false) (hJ : z_J d b 299 0 (z_pad as (z_mL 299)) [] w Q) (h8 : z_c8 as (z_mL 299) = true) (hok : ∀ v ∈ as, z_ok (z_N w) v) (hv : z_vals w) :
    Met l (z_mY 299) z_wmW (z_rm d b.1 b.2) (z_pc D C ad w sz as) (z_qc D C ad (z_N w) (z_Ar ad (z_N w) sz) Q) b.1 b.2 (z_Ar ad (z_N w) sz) := by
  refine z_ofWH (cc := z_mC 299) (maxL := z_mL 299) (ret := z_mR 299) (hh := [(0, 10, 13, 13)]) (by decide +kernel) rfl ?_
  intro p e s mi args below meth c s₁ B hml hpc
  obtain ⟨rfl, ⟨hsz, hP, hD, ho⟩, hK, hnm, hnf, hao⟩ := hpc
  have hts := atoms_spec (ws := z_wmW) B.pre
  subst hsz
  have hE : z_env 299 l p s mi (as.map (z_tv ad)).toArray meth c D C (z_Ar ad (z_N w) s.heap.size) := ⟨B.exec, B.bytes, B.returns, hml, findClass_of_methodNamed B.named, fun x hx => hts x (List.mem_cons_of_mem _ hx), B.notSynchronized, (name_of_methodNamed B.named B.method).1, hK, fun q hq => Or.inr hq, hnm, hnf, hao.1, hao.2, ⟨fun h => absurd h (by decide), fun _ => vx_table (x := z_mY 299) B (hts _ List.mem_cons_self)⟩, hst⟩
  rw [lg_entry_eq]
  exact hJ p l e _ s mi _ below meth c D C _ (z_N w) ad b.1 b.2 _ s.heap [] 0 0 _ ad hE (Nat.le_refl _) (Nat.le_refl _) (by omega) (by omega) (Nat.le_refl _) (Nat.le_refl _) ⟨z_RO_MQ hE, fun q => absurd q (by decide)⟩ ⟨hP, hD, va_S.rf, hv, ho, Nat.le_refl _, fun _ _ => rfl⟩ (z_lo_entry hok h8) (fun v hv => by cases hv)
theorem z_s_cw {pc nx : Nat} (hd : decode (z_mC 300) pc = .ok (.invokestatic 42, 3)) (hnx : nx = pc + 3) : z_so 300 pc (z_cb 299 4 5 none (1, 6) nx) := by
  intro d u ls st w Q ho p l e R s mi args below meth cd D C A n0 ad0 mc ms Z H locs cells slots la ad hE h1 h2 hcc hs hmc hms hQ hr hl hst
  unfold z_cb at ho
  split at ho
  · exact ho.elim
  · rename_i d'
    obtain ⟨o1, -, o3, o4, ob1, ob2, P, o5, o6⟩ := ho
    have hst0 : l.stackTraces = false := hE.2.2.2.2.2.2.2.2.2.2.2.2.2.2.2
    obtain ⟨hx, hb, -, hml, hown, hts, -⟩ := id hE
    have hM := z_metW (l := l) (D := D) (C := C) (ad := ad) (sz := H.size) (b := (1, 6)) hst0 o5 o4 (fun v hv => hst v (List.mem_of_mem_take (List.mem_reverse.mp hv))) hr.2.2.2.1
    have hcw : vx_CSW R s args (z_mY 300).cls 42 (z_mY 299) (z_mC 299) (z_mL 299) (z_mR 299) [(0, 10, 13, 13)] z_wmW (z_rm d' 1 6) 1 6 4 := by
      refine ⟨⟨rfl, rfl, h1, ?_, pay_in hts z_wmW_good, List.mem_cons_self⟩, hts _ zx_cw, hts _ zx_inL, by decide +kernel, fun sig h => ?_, hts _ zx_mlL, hts _ zx_stL⟩
      · show 8 + (5 + 11) + 60 * d' ≤ R.locals
        omega
      · have h2 : (parseMethodDescriptor (z_mY 299).desc).map (fun d => d.parameters.length) = some 4 := by decide +kernel
        rw [h] at h2
        exact (Option.some.inj h2).symm
    have hrun := vx_runSW (p := p) (l := l) (e := e) (meth := meth) (below := below) (Ts := z_TB) (n := 4) (g := F0 mi pc la (st.map (z_tv ad))) (rest := (st.drop 4).map (z_tv ad)) (As := ((st.take 4).reverse).map (z_tv ad)) (H := H) (cells := cells) (slots := slots) (locs := locs) ⟨hx, hb, hml, hown, hts⟩ hM hcw ⟨z_pc_blind, fun U hU hW => z_pc_of hE hr _ U hU hW⟩ rfl (by simp; omega) hl.1 (z_split st 4 ad) (lv_room (z_c8_sum ad _ _ o3)) hd ⟨by show cells + 1 ≤ _; have : 1 ≤ u.1 := ob1; omega, by show slots + 6 ≤ _; have : 6 ≤ u.2 := ob2; omega⟩
    exact z_back (b := (1, 6)) hnx hE h1 h2 hcc hs ob1 ob2 hmc hms hQ hr hl hst hrun o6
