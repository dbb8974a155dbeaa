/-! arithmetic, stack, branches -/
theorem z_s_bin {m pc : Nat} {F : Int → Int → Int} {G : Int32 → Int32 → Int32} (hG : ∀ x y, F x y = (G (Int32.ofInt x) (Int32.ofInt y)).toInt)
    (h : ∀ (p : Program) (l : Launch) (e : Env) (R : Room) (s : State) (mi : MethodId) (args : Array Value) (below : List Frame) (meth : Method) (c : Code) (Z : State → Prop) (H : Heap) (locs : List Loc) (cells slots : Nat) (la : Array Slot) (x y : Int32) (rest : List Value), p.tables.exec = Jvm.exec → c.code = z_mC m →
      W p l e R s mi args below meth c H locs cells slots Z (F0 mi (pc + 1) la (.int (G x y) :: rest)) → W p l e R s mi args below meth c H locs cells slots Z (F0 mi pc la (.int y :: .int x :: rest))) : z_so m pc (z_p (f_bin F) (pc + 1)) := by
  refine z_so_p fun p l e R s mi args below meth c D C A Z H locs cells slots la ad n ls st ls' st' hE hf hl hst k => ?_
  obtain ⟨hx, hb, -⟩ := hE
  unfold f_bin at hf
  split at hf
  · rename_i y x st2
    cases hf
    refine h p l e R s mi args below meth c Z H locs cells slots la _ _ _ hx hb ?_
    have := k la hl (z_all (v := z_i (F x y)) (by rw [hG]; exact z_rgT _) (fun v hv => hst v (List.mem_cons_of_mem _ (List.mem_cons_of_mem _ hv))))
    have e1 : Value.int (G (Int32.ofInt x) (Int32.ofInt y)) = z_tv ad (z_i (F x y)) := by show _ = Value.int _; rw [hG, z_to]
    rw [e1]
    exact this
  · cases hf
theorem z_s_iadd {m pc : Nat} (hd : decode (z_mC m) pc = .ok (.iadd, 1)) : z_so m pc (z_p (f_bin z_add) (pc + 1)) := z_s_bin (G := fun x y => x + y) (fun _ _ => rfl) (fun _ _ _ _ _ _ _ _ _ _ _ _ _ _ _ _ _ _ _ hx hb k => lv_iadd hx hb hd k)
theorem z_s_isub {m pc : Nat} (hd : decode (z_mC m) pc = .ok (.isub, 1)) : z_so m pc (z_p (f_bin z_sub) (pc + 1)) := z_s_bin (G := fun x y => x - y) (fun _ _ => rfl) (fun _ _ _ _ _ _ _ _ _ _ _ _ _ _ _ _ _ _ _ hx hb k => lv_isub hx hb hd k)
theorem z_s_imul {m pc : Nat} (hd : decode (z_mC m) pc = .ok (.imul, 1)) : z_so m pc (z_p (f_bin z_mul) (pc + 1)) := z_s_bin (G := fun x y => x * y) (fun _ _ => rfl) (fun _ _ _ _ _ _ _ _ _ _ _ _ _ _ _ _ _ _ _ hx hb k => lv_imul hx hb hd k)
theorem z_s_iand {m pc : Nat} (hd : decode (z_mC m) pc = .ok (.iand, 1)) : z_so m pc (z_p (f_bin z_and) (pc + 1)) := z_s_bin (G := fun x y => x &&& y) (fun _ _ => rfl) (fun _ _ _ _ _ _ _ _ _ _ _ _ _ _ _ _ _ _ _ hx hb k => lv_iand hx hb hd k)
theorem z_s_ior {m pc : Nat} (hd : decode (z_mC m) pc = .ok (.ior, 1)) : z_so m pc (z_p (f_bin z_or) (pc + 1)) := z_s_bin (G := fun x y => x ||| y) (fun _ _ => rfl) (fun _ _ _ _ _ _ _ _ _ _ _ _ _ _ _ _ _ _ _ hx hb k => lv_ior hx hb hd k)
theorem z_s_ixor {m pc : Nat} (hd : decode (z_mC m) pc = .ok (.ixor, 1)) : z_so m pc (z_p (f_bin z_xor) (pc + 1)) := z_s_bin (G := fun x y => x ^^^ y) (fun _ _ => rfl) (fun _ _ _ _ _ _ _ _ _ _ _ _ _ _ _ _ _ _ _ hx hb k => lv_ixor hx hb hd k)
theorem z_s_ishl {m pc : Nat} (hd : decode (z_mC m) pc = .ok (.ishl, 1)) : z_so m pc (z_p (f_bin z_shl) (pc + 1)) := z_s_bin (G := fun x y => x <<< (y &&& 31)) (fun _ _ => rfl) (fun _ _ _ _ _ _ _ _ _ _ _ _ _ _ _ _ _ _ _ hx hb k => lv_ishl hx hb hd k)
theorem z_s_ishr {m pc : Nat} (hd : decode (z_mC m) pc = .ok (.ishr, 1)) : z_so m pc (z_p (f_bin z_shr) (pc + 1)) := z_s_bin (G := fun x y => x >>> (y &&& 31)) (fun _ _ => rfl) (fun _ _ _ _ _ _ _ _ _ _ _ _ _ _ _ _ _ _ _ hx hb k => lv_ishr hx hb hd k)
theorem z_s_iushr {m pc : Nat} (hd : decode (z_mC m) pc = .ok (.iushr, 1)) : z_so m pc (z_p (f_bin z_ush) (pc + 1)) := z_s_bin (G := fun x y => (x.toUInt32 >>> (y.toUInt32 &&& Int32.toUInt32 31)).toInt32) (fun _ _ => rfl) (fun _ _ _ _ _ _ _ _ _ _ _ _ _ _ _ _ _ _ _ hx hb k => lv_iushr hx hb hd rfl k)
theorem z_s_ineg {m pc : Nat} (hd : decode (z_mC m) pc = .ok (.ineg, 1)) : z_so m pc (z_p (f_un z_neg) (pc + 1)) := by
  refine z_so_p fun p l e R s mi args below meth c D C A Z H locs cells slots la ad n ls st ls' st' hE hf hl hst k => ?_
  obtain ⟨hx, hb, -⟩ := hE
  unfold f_un at hf
  split at hf
  · rename_i x st2
    cases hf
    refine lv_ineg hx hb hd ?_
    have := k la hl (z_all (v := z_i (z_neg x)) (z_rgT _) (fun v hv => hst v (List.mem_cons_of_mem _ hv)))
    have e1 : Value.int (-Int32.ofInt x) = z_tv ad (z_i (z_neg x)) := by show _ = Value.int _; rw [z_neg, z_to]
    rw [e1]
    exact this
  · cases hf
theorem z_s_lbin {m pc : Nat} {F : Int → Int → Int} {G : Int64 → Int64 → Int64} (hG : ∀ x y, F x y = (G (Int64.ofInt x) (Int64.ofInt y)).toInt)
    (h : ∀ (p : Program) (l : Launch) (e : Env) (R : Room) (s : State) (mi : MethodId) (args : Array Value) (below : List Frame) (meth : Method) (c : Code) (Z : State → Prop) (H : Heap) (locs : List Loc) (cells slots : Nat) (la : Array Slot) (x y : Int64) (rest : List Value), p.tables.exec = Jvm.exec → c.code = z_mC m →
      W p l e R s mi args below meth c H locs cells slots Z (F0 mi (pc + 1) la (.long (G x y) :: rest)) → W p l e R s mi args below meth c H locs cells slots Z (F0 mi pc la (.long y :: .long x :: rest))) : z_so m pc (z_p (f_lbin F) (pc + 1)) := by
  refine z_so_p fun p l e R s mi args below meth c D C A Z H locs cells slots la ad n ls st ls' st' hE hf hl hst k => ?_
  obtain ⟨hx, hb, -⟩ := hE
  unfold f_lbin at hf
  split at hf
  · rename_i y x st2
    cases hf
    refine h p l e R s mi args below meth c Z H locs cells slots la _ _ _ hx hb ?_
    have := k la hl (z_all (v := z_l (F x y)) (by rw [hG]; exact z_rlT _) (fun v hv => hst v (List.mem_cons_of_mem _ (List.mem_cons_of_mem _ hv))))
    have e1 : Value.long (G (Int64.ofInt x) (Int64.ofInt y)) = z_tv ad (z_l (F x y)) := by show _ = Value.long _; rw [hG, z_tol]
    rw [e1]
    exact this
  · cases hf
theorem z_s_ladd {m pc : Nat} (hd : decode (z_mC m) pc = .ok (.ladd, 1)) : z_so m pc (z_p (f_lbin z_ladd) (pc + 1)) := z_s_lbin (G := fun x y => x + y) (fun _ _ => rfl) (fun _ _ _ _ _ _ _ _ _ _ _ _ _ _ _ _ _ _ _ hx hb k => lv_ladd hx hb hd k)
theorem z_s_lsub {m pc : Nat} (hd : decode (z_mC m) pc = .ok (.lsub, 1)) : z_so m pc (z_p (f_lbin z_lsub) (pc + 1)) := z_s_lbin (G := fun x y => x - y) (fun _ _ => rfl) (fun _ _ _ _ _ _ _ _ _ _ _ _ _ _ _ _ _ _ _ hx hb k => lv_lsub hx hb hd k)
theorem z_s_lmul {m pc : Nat} (hd : decode (z_mC m) pc = .ok (.lmul, 1)) : z_so m pc (z_p (f_lbin z_lmul) (pc + 1)) := z_s_lbin (G := fun x y => x * y) (fun _ _ => rfl) (fun _ _ _ _ _ _ _ _ _ _ _ _ _ _ _ _ _ _ _ hx hb k => lv_lmul hx hb hd k)
theorem z_s_land {m pc : Nat} (hd : decode (z_mC m) pc = .ok (.land, 1)) : z_so m pc (z_p (f_lbin z_land) (pc + 1)) := z_s_lbin (G := fun x y => x &&& y) (fun _ _ => rfl) (fun _ _ _ _ _ _ _ _ _ _ _ _ _ _ _ _ _ _ _ hx hb k => lv_land hx hb hd k)
theorem z_s_lor {m pc : Nat} (hd : decode (z_mC m) pc = .ok (.lor, 1)) : z_so m pc (z_p (f_lbin z_lor) (pc + 1)) := z_s_lbin (G := fun x y => x ||| y) (fun _ _ => rfl) (fun _ _ _ _ _ _ _ _ _ _ _ _ _ _ _ _ _ _ _ hx hb k => lv_lor hx hb hd k)
theorem z_s_lsh {m pc : Nat} {F : Int → Int → Int} {G : Int64 → Int32 → Int64} (hG : ∀ x y, F x y = (G (Int64.ofInt x) (Int32.ofInt y)).toInt)
    (h : ∀ (p : Program) (l : Launch) (e : Env) (R : Room) (s : State) (mi : MethodId) (args : Array Value) (below : List Frame) (meth : Method) (c : Code) (Z : State → Prop) (H : Heap) (locs : List Loc) (cells slots : Nat) (la : Array Slot) (x : Int64) (y : Int32) (rest : List Value), p.tables.exec = Jvm.exec → c.code = z_mC m →
      W p l e R s mi args below meth c H locs cells slots Z (F0 mi (pc + 1) la (.long (G x y) :: rest)) → W p l e R s mi args below meth c H locs cells slots Z (F0 mi pc la (.int y :: .long x :: rest))) : z_so m pc (z_p (f_lsh F) (pc + 1)) := by
  refine z_so_p fun p l e R s mi args below meth c D C A Z H locs cells slots la ad n ls st ls' st' hE hf hl hst k => ?_
  obtain ⟨hx, hb, -⟩ := hE
  unfold f_lsh at hf
  split at hf
  · rename_i y x st2
    cases hf
    refine h p l e R s mi args below meth c Z H locs cells slots la _ _ _ hx hb ?_
    have := k la hl (z_all (v := z_l (F x y)) (by rw [hG]; exact z_rlT _) (fun v hv => hst v (List.mem_cons_of_mem _ (List.mem_cons_of_mem _ hv))))
    have e1 : Value.long (G (Int64.ofInt x) (Int32.ofInt y)) = z_tv ad (z_l (F x y)) := by show _ = Value.long _; rw [hG, z_tol]
    rw [e1]
    exact this
  · cases hf
theorem z_s_lshl {m pc : Nat} (hd : decode (z_mC m) pc = .ok (.lshl, 1)) : z_so m pc (z_p (f_lsh z_lshl) (pc + 1)) := z_s_lsh (G := fun x y => x <<< (y.toInt64 &&& 63)) (fun _ _ => rfl) (fun _ _ _ _ _ _ _ _ _ _ _ _ _ _ _ _ _ _ _ hx hb k => lv_lshl hx hb hd rfl k)
theorem z_s_lushr {m pc : Nat} (hd : decode (z_mC m) pc = .ok (.lushr, 1)) : z_so m pc (z_p (f_lsh z_lush) (pc + 1)) := z_s_lsh (G := fun x y => (x.toUInt64 >>> (y.toInt64.toUInt64 &&& Int64.toUInt64 63)).toInt64) (fun _ _ => rfl) (fun _ _ _ _ _ _ _ _ _ _ _ _ _ _ _ _ _ _ _ hx hb k => lv_lushr hx hb hd rfl k)
theorem z_s_i2l {m pc : Nat} (hd : decode (z_mC m) pc = .ok (.i2l, 1)) : z_so m pc (z_p f_i2l (pc + 1)) := by
  refine z_so_p fun p l e R s mi args below meth c D C A Z H locs cells slots la ad n ls st ls' st' hE hf hl hst k => ?_
  obtain ⟨hx, hb, -⟩ := hE
  unfold f_i2l at hf
  split at hf
  · rename_i x st2
    cases hf
    refine lv_i2l (v := Int64.ofInt (z_i2l x)) hx hb hd (by rw [z_i2l, z_tol]) ?_
    exact k la hl (z_all (v := z_l (z_i2l x)) (z_rlT _) (fun v hv => hst v (List.mem_cons_of_mem _ hv)))
  · cases hf
theorem z_s_l2i {m pc : Nat} (hd : decode (z_mC m) pc = .ok (.l2i, 1)) : z_so m pc (z_p f_l2i (pc + 1)) := by
  refine z_so_p fun p l e R s mi args below meth c D C A Z H locs cells slots la ad n ls st ls' st' hE hf hl hst k => ?_
  obtain ⟨hx, hb, -⟩ := hE
  unfold f_l2i at hf
  split at hf
  · rename_i x st2
    cases hf
    refine lv_l2i (v := Int32.ofInt (z_l2i x)) hx hb hd (by rw [z_l2i, z_to]) ?_
    exact k la hl (z_all (v := z_i (z_l2i x)) (z_rgT _) (fun v hv => hst v (List.mem_cons_of_mem _ hv)))
  · cases hf
theorem z_lcmp_rg (x y : Int) : z_rg (z_lcmp x y) := by
  unfold z_lcmp z_rg
  (repeat' split) <;> omega
theorem z_s_lcmp {m pc : Nat} (hd : decode (z_mC m) pc = .ok (.lcmp, 1)) : z_so m pc (z_p f_lcmp (pc + 1)) := by
  refine z_so_p fun p l e R s mi args below meth c D C A Z H locs cells slots la ad n ls st ls' st' hE hf hl hst k => ?_
  obtain ⟨hx, hb, -⟩ := hE
  unfold f_lcmp at hf
  split at hf
  · rename_i y x st2
    cases hf
    have hy : z_rl y := hst _ List.mem_cons_self
    have hx2 : z_rl x := hst _ (List.mem_cons_of_mem _ List.mem_cons_self)
    refine W.lcmp hx hb hd ?_
    have := k la hl (z_all (v := z_i (z_lcmp x y)) (z_lcmp_rg x y) (fun v hv => hst v (List.mem_cons_of_mem _ (List.mem_cons_of_mem _ hv))))
    have e1 : Value.int (lg_cmp (Int64.ofInt x) (Int64.ofInt y)) = z_tv ad (z_i (z_lcmp x y)) := by
      show _ = Value.int _
      unfold lg_cmp z_lcmp
      congr 1
      have q1 : Int64.ofInt x > Int64.ofInt y ↔ y < x := by rw [gt_iff_lt, Int64.lt_iff_toInt_lt, z_ofl hx2, z_ofl hy]
      have q2 : Int64.ofInt x = Int64.ofInt y ↔ x = y := by rw [← Int64.toInt_inj, z_ofl hx2, z_ofl hy]
      rcases Int.lt_trichotomy x y with q | q | q
      · rw [if_neg (fun z => absurd (q1.mp z) (by omega)), if_neg (fun z => absurd (q2.mp z) (by omega)), if_pos q]; rfl
      · rw [if_neg (fun z => absurd (q1.mp z) (by omega)), if_pos (q2.mpr q), if_neg (by omega), if_pos q]; rfl
      · rw [if_pos (q1.mpr q), if_neg (by omega), if_neg (by omega)]; rfl
    rw [e1]
    exact this
  · cases hf
theorem z_c1_cat {ad : Nat → Nat} {v : z_V} (h : z_c1 v = true) : (z_tv ad v).category = 1 := by
  rcases v with z | z | (_ | (_ | k))
  · rfl
  · cases h
  · cases h
  · rfl
  · rfl
theorem z_s_dup {m pc : Nat} (hd : decode (z_mC m) pc = .ok (.dup, 1)) : z_so m pc (z_p f_dup (pc + 1)) := by
  refine z_so_p fun p l e R s mi args below meth c D C A Z H locs cells slots la ad n ls st ls' st' hE hf hl hst k => ?_
  obtain ⟨hx, hb, -⟩ := hE
  unfold f_dup at hf
  split at hf
  · rename_i v st2
    split at hf
    · rename_i hv
      cases hf
      exact lv_dup hx hb hd (z_c1_cat hv) (k la hl (z_all (hst _ List.mem_cons_self) hst))
    · cases hf
  · cases hf
theorem z_s_pop {m pc : Nat} (hd : decode (z_mC m) pc = .ok (.pop, 1)) : z_so m pc (z_p f_pop (pc + 1)) := by
  refine z_so_p fun p l e R s mi args below meth c D C A Z H locs cells slots la ad n ls st ls' st' hE hf hl hst k => ?_
  obtain ⟨hx, hb, -⟩ := hE
  unfold f_pop at hf
  split at hf
  · rename_i v st2
    split at hf
    · rename_i hv
      cases hf
      exact lv_pop hx hb hd (z_c1_cat hv) (k la hl (fun v hv => hst v (List.mem_cons_of_mem _ hv)))
    · cases hf
  · cases hf
theorem z_s_dup2 {m pc : Nat} (hd : decode (z_mC m) pc = .ok (.dup2, 1)) : z_so m pc (z_p f_dup2 (pc + 1)) := by
  refine z_so_p fun p l e R s mi args below meth c D C A Z H locs cells slots la ad n ls st ls' st' hE hf hl hst k => ?_
  obtain ⟨hx, hb, -⟩ := hE
  unfold f_dup2 at hf
  split at hf
  · rename_i v v2 st2
    split at hf
    · rename_i hv
      cases hf
      exact lv_dup2_11 hx hb hd (z_c1_cat hv.1) (z_c1_cat hv.2) (k la hl (z_all (hst _ List.mem_cons_self) (z_all (hst _ (List.mem_cons_of_mem _ List.mem_cons_self)) hst)))
    · cases hf
  · cases hf
theorem z_s_goto {m pc tgt : Nat} {off : Int} (hd : decode (z_mC m) pc = .ok (.goto off, 3)) (ht : (pc : Int) + off = (tgt : Int)) : z_so m pc (z_p f_go tgt) := by
  refine z_so_p fun p l e R s mi args below meth c D C A Z H locs cells slots la ad n ls st ls' st' hE hf hl hst k => ?_
  obtain ⟨hx, hb, -⟩ := hE
  cases hf
  exact lv_goto hx hb hd ht (k la hl hst)
theorem z_c8_sum (ad : Nat → Nat) : ∀ (st : List z_V) (n : Nat), z_c8 st n = true → ((st.map (z_tv ad)).map fun v => v.category).sum ≤ n
  | [], _, _ => Nat.zero_le _
  | .inl _ :: l, n + 1, h => by
    have := z_c8_sum ad l n h
    simp only [List.map_cons, List.sum_cons]
    show 1 + _ ≤ n + 1
    omega
  | .inr (.inl _) :: l, n + 2, h => by
    have := z_c8_sum ad l n h
    simp only [List.map_cons, List.sum_cons]
    show 2 + _ ≤ n + 2
    omega
  | .inr (.inr (some o)) :: l, n + 1, h => by
    have := z_c8_sum ad l n h
    have e : (z_tv ad (.inr (.inr (some o)))).category = 1 := by cases o <;> rfl
    simp only [List.map_cons, List.sum_cons]
    rw [e]
    omega
theorem z_s_oi {m pc idx : Nat} (hw : (Cond.methodLink (z_mY m).cls idx objectInit) ∈ z_TB) (hw2 : (Cond.instanceMethod objectInit) ∈ z_TB) (hw3 : (Cond.code objectInit ⟨#[0xb1]⟩ 1 none) ∈ z_TB) (hd : decode (z_mC m) pc = .ok (.invokespecial idx, 3)) : z_so m pc (z_io (pc + 3)) := by
  intro d u ls st w Q ho p l e R s mi args below meth cd D C A n0 ad0 mc ms Z H locs cells slots la ad hE h1 h2 hc hs hmc hms hQ hr hl hst
  obtain ⟨hx, hb, -, hml, hown, hts, -⟩ := id hE
  unfold z_io at ho
  split at ho
  · rename_i a st2
    have h8 := lv_room (m := mi) (pc := pc) (ls := la) (rest := (Sum.inr (Sum.inr (some (some a))) :: st2).map (z_tv ad)) (z_c8_sum ad _ _ ho.2.1)
    refine W.objInit hx hb hown (hts _ hw) (hts _ hw2) (hts _ hw3) rfl (hl.1.trans hml.symm) (a := ad a) (rest := st2.map (z_tv ad)) rfl hd (by omega) (by omega) ?_
    exact ho.2.2 p l e R s mi args below meth cd D C A n0 ad0 mc ms Z H locs cells slots la ad hE h1 h2 hc hs hmc hms hQ hr hl (fun v hv => hst v (List.mem_cons_of_mem _ hv))
  · exact ho.elim
/-! branches -/
theorem z_s_if {m pc tgt : Nat} {c : Int → Prop} (h : ∀ (p : Program) (l : Launch) (e : Env) (R : Room) (s : State) (mi : MethodId) (args : Array Value) (below : List Frame) (meth : Method) (cd : Code) (Z : State → Prop) (H : Heap) (locs : List Loc) (cells slots : Nat) (la : Array Slot) (x : Int) (rest : List Value), z_rg x → p.tables.exec = Jvm.exec → cd.code = z_mC m →
      (c x → W p l e R s mi args below meth cd H locs cells slots Z (F0 mi tgt la rest)) → (¬ c x → W p l e R s mi args below meth cd H locs cells slots Z (F0 mi (pc + 3) la rest)) → W p l e R s mi args below meth cd H locs cells slots Z (F0 mi pc la (.int (Int32.ofInt x) :: rest))) : z_so m pc (z_if c tgt (pc + 3)) := by
  intro d u ls st w Q ho p l e R s mi args below meth cd D C A n0 ad0 mc ms Z H locs cells slots la ad hE hd hd2 hc hs hmc hms hQ hr hl hst
  unfold z_if at ho
  split at ho
  · rename_i x st2
    have hst2 : ∀ v ∈ st2, z_ok (z_N w) v := fun v hv => hst v (List.mem_cons_of_mem _ hv)
    exact h p l e R s mi args below meth cd Z H locs cells slots la x _ (hst _ List.mem_cons_self) hE.1 hE.2.1
      (fun q => ho.1 q p l e R s mi args below meth cd D C A n0 ad0 mc ms Z H locs cells slots la ad hE hd hd2 hc hs hmc hms hQ hr hl hst2)
      (fun q => ho.2 q p l e R s mi args below meth cd D C A n0 ad0 mc ms Z H locs cells slots la ad hE hd hd2 hc hs hmc hms hQ hr hl hst2)
  · exact ho.elim
theorem z_s_ifeq {m pc tgt : Nat} {off : Int} (hd : decode (z_mC m) pc = .ok (.ifCond .eq off, 3)) (ht : (pc : Int) + off = (tgt : Int)) : z_so m pc (z_if (fun x => x = 0) tgt (pc + 3)) :=
  z_s_if fun p l e R s mi args below meth cd Z H locs cells slots la x rest hr hx hb k1 k2 => lv_if_eq hx hb hd ht (fun q => k1 ((z_eq hr z_rg0).mp q)) (fun q => k2 (fun z => q ((z_eq hr z_rg0).mpr z)))
theorem z_s_ifne {m pc tgt : Nat} {off : Int} (hd : decode (z_mC m) pc = .ok (.ifCond .ne off, 3)) (ht : (pc : Int) + off = (tgt : Int)) : z_so m pc (z_if (fun x => x ≠ 0) tgt (pc + 3)) :=
  z_s_if fun p l e R s mi args below meth cd Z H locs cells slots la x rest hr hx hb k1 k2 => lv_if_ne hx hb hd ht (fun q => k1 (fun z => q ((z_eq hr z_rg0).mpr z))) (fun q => k2 (fun z => z ((z_eq hr z_rg0).mp q)))
theorem z_s_iflt {m pc tgt : Nat} {off : Int} (hd : decode (z_mC m) pc = .ok (.ifCond .lt off, 3)) (ht : (pc : Int) + off = (tgt : Int)) : z_so m pc (z_if (fun x => x < 0) tgt (pc + 3)) :=
  z_s_if fun p l e R s mi args below meth cd Z H locs cells slots la x rest hr hx hb k1 k2 => lv_if_lt hx hb hd ht (fun q => k1 ((z_lt hr z_rg0).mp q)) (fun q => k2 (fun z => q ((z_lt hr z_rg0).mpr z)))
theorem z_s_ifle {m pc tgt : Nat} {off : Int} (hd : decode (z_mC m) pc = .ok (.ifCond .le off, 3)) (ht : (pc : Int) + off = (tgt : Int)) : z_so m pc (z_if (fun x => x ≤ 0) tgt (pc + 3)) :=
  z_s_if fun p l e R s mi args below meth cd Z H locs cells slots la x rest hr hx hb k1 k2 => lv_if_le hx hb hd ht (fun q => k1 ((z_le hr z_rg0).mp q)) (fun q => k2 (fun z => q ((z_le hr z_rg0).mpr z)))
theorem z_s_ifge {m pc tgt : Nat} {off : Int} (hd : decode (z_mC m) pc = .ok (.ifCond .ge off, 3)) (ht : (pc : Int) + off = (tgt : Int)) : z_so m pc (z_if (fun x => 0 ≤ x) tgt (pc + 3)) :=
  z_s_if fun p l e R s mi args below meth cd Z H locs cells slots la x rest hr hx hb k1 k2 => lv_if_ge hx hb hd ht (fun q => k1 ((z_le z_rg0 hr).mp q)) (fun q => k2 (fun z => q ((z_le z_rg0 hr).mpr z)))
theorem z_s_ifgt {m pc tgt : Nat} {off : Int} (hd : decode (z_mC m) pc = .ok (.ifCond .gt off, 3)) (ht : (pc : Int) + off = (tgt : Int)) : z_so m pc (z_if (fun x => 0 < x) tgt (pc + 3)) :=
  z_s_if fun p l e R s mi args below meth cd Z H locs cells slots la x rest hr hx hb k1 k2 => lv_if_gt hx hb hd ht (fun q => k1 ((z_lt z_rg0 hr).mp q)) (fun q => k2 (fun z => q ((z_lt z_rg0 hr).mpr z)))
theorem z_s_cm {m pc tgt : Nat} {c : Int → Int → Prop} (h : ∀ (p : Program) (l : Launch) (e : Env) (R : Room) (s : State) (mi : MethodId) (args : Array Value) (below : List Frame) (meth : Method) (cd : Code) (Z : State → Prop) (H : Heap) (locs : List Loc) (cells slots : Nat) (la : Array Slot) (x y : Int) (rest : List Value), z_rg x → z_rg y → p.tables.exec = Jvm.exec → cd.code = z_mC m →
      (c x y → W p l e R s mi args below meth cd H locs cells slots Z (F0 mi tgt la rest)) → (¬ c x y → W p l e R s mi args below meth cd H locs cells slots Z (F0 mi (pc + 3) la rest)) → W p l e R s mi args below meth cd H locs cells slots Z (F0 mi pc la (.int (Int32.ofInt y) :: .int (Int32.ofInt x) :: rest))) : z_so m pc (z_cm c tgt (pc + 3)) := by
  intro d u ls st w Q ho p l e R s mi args below meth cd D C A n0 ad0 mc ms Z H locs cells slots la ad hE hd hd2 hc hs hmc hms hQ hr hl hst
  unfold z_cm at ho
  split at ho
  · rename_i y x st2
    have hst2 : ∀ v ∈ st2, z_ok (z_N w) v := fun v hv => hst v (List.mem_cons_of_mem _ (List.mem_cons_of_mem _ hv))
    exact h p l e R s mi args below meth cd Z H locs cells slots la x y _ (hst _ (List.mem_cons_of_mem _ List.mem_cons_self)) (hst _ List.mem_cons_self) hE.1 hE.2.1
      (fun q => ho.1 q p l e R s mi args below meth cd D C A n0 ad0 mc ms Z H locs cells slots la ad hE hd hd2 hc hs hmc hms hQ hr hl hst2)
      (fun q => ho.2 q p l e R s mi args below meth cd D C A n0 ad0 mc ms Z H locs cells slots la ad hE hd hd2 hc hs hmc hms hQ hr hl hst2)
  · exact ho.elim
theorem z_s_icmpeq {m pc tgt : Nat} {off : Int} (hd : decode (z_mC m) pc = .ok (.if_icmp .eq off, 3)) (ht : (pc : Int) + off = (tgt : Int)) : z_so m pc (z_cm (fun x y => x = y) tgt (pc + 3)) :=
  z_s_cm fun p l e R s mi args below meth cd Z H locs cells slots la x y rest h1 h2 hx hb k1 k2 => lv_icmp_eq hx hb hd ht (fun q => k1 ((z_eq h1 h2).mp q)) (fun q => k2 (fun z => q ((z_eq h1 h2).mpr z)))
theorem z_s_icmpne {m pc tgt : Nat} {off : Int} (hd : decode (z_mC m) pc = .ok (.if_icmp .ne off, 3)) (ht : (pc : Int) + off = (tgt : Int)) : z_so m pc (z_cm (fun x y => x ≠ y) tgt (pc + 3)) :=
  z_s_cm fun p l e R s mi args below meth cd Z H locs cells slots la x y rest h1 h2 hx hb k1 k2 => lv_icmp_ne hx hb hd ht (fun q => k1 (fun z => q ((z_eq h1 h2).mpr z))) (fun q => k2 (fun z => z ((z_eq h1 h2).mp q)))
theorem z_s_icmplt {m pc tgt : Nat} {off : Int} (hd : decode (z_mC m) pc = .ok (.if_icmp .lt off, 3)) (ht : (pc : Int) + off = (tgt : Int)) : z_so m pc (z_cm (fun x y => x < y) tgt (pc + 3)) :=
  z_s_cm fun p l e R s mi args below meth cd Z H locs cells slots la x y rest h1 h2 hx hb k1 k2 => lv_icmp_lt hx hb hd ht (fun q => k1 ((z_lt h1 h2).mp q)) (fun q => k2 (fun z => q ((z_lt h1 h2).mpr z)))
theorem z_s_icmple {m pc tgt : Nat} {off : Int} (hd : decode (z_mC m) pc = .ok (.if_icmp .le off, 3)) (ht : (pc : Int) + off = (tgt : Int)) : z_so m pc (z_cm (fun x y => x ≤ y) tgt (pc + 3)) :=
  z_s_cm fun p l e R s mi args below meth cd Z H locs cells slots la x y rest h1 h2 hx hb k1 k2 => lv_icmp_le hx hb hd ht (fun q => k1 ((z_le h1 h2).mp q)) (fun q => k2 (fun z => q ((z_le h1 h2).mpr z)))
theorem z_s_icmpge {m pc tgt : Nat} {off : Int} (hd : decode (z_mC m) pc = .ok (.if_icmp .ge off, 3)) (ht : (pc : Int) + off = (tgt : Int)) : z_so m pc (z_cm (fun x y => y ≤ x) tgt (pc + 3)) :=
  z_s_cm fun p l e R s mi args below meth cd Z H locs cells slots la x y rest h1 h2 hx hb k1 k2 => lv_icmp_ge hx hb hd ht (fun q => k1 ((z_le h2 h1).mp q)) (fun q => k2 (fun z => q ((z_le h2 h1).mpr z)))
theorem z_s_icmpgt {m pc tgt : Nat} {off : Int} (hd : decode (z_mC m) pc = .ok (.if_icmp .gt off, 3)) (ht : (pc : Int) + off = (tgt : Int)) : z_so m pc (z_cm (fun x y => y < x) tgt (pc + 3)) :=
  z_s_cm fun p l e R s mi args below meth cd Z H locs cells slots la x y rest h1 h2 hx hb k1 k2 => lv_icmp_gt hx hb hd ht (fun q => k1 ((z_lt h2 h1).mp q)) (fun q => k2 (fun z => q ((z_lt h2 h1).mpr z)))
theorem z_s_ifnull {m pc tgt : Nat} {off : Int} (hd : decode (z_mC m) pc = .ok (.ifnull off, 3)) (ht : (pc : Int) + off = (tgt : Int)) : z_so m pc (z_nl tgt (pc + 3)) := by
  intro d u ls st w Q ho p l e R s mi args below meth cd D C A n0 ad0 mc ms Z H locs cells slots la ad hE h1 h2 hc hs hmc hms hQ hr hl hst
  unfold z_nl at ho
  split at ho
  · exact lv_ifnullN hE.1 hE.2.1 hd ht (ho p l e R s mi args below meth cd D C A n0 ad0 mc ms Z H locs cells slots la ad hE h1 h2 hc hs hmc hms hQ hr hl (fun v hv => hst v (List.mem_cons_of_mem _ hv)))
  · exact lv_ifnull hE.1 hE.2.1 hd (ho p l e R s mi args below meth cd D C A n0 ad0 mc ms Z H locs cells slots la ad hE h1 h2 hc hs hmc hms hQ hr hl (fun v hv => hst v (List.mem_cons_of_mem _ hv)))
  · exact ho.elim
theorem z_s_ifnonnull {m pc tgt : Nat} {off : Int} (hd : decode (z_mC m) pc = .ok (.ifnonnull off, 3)) (ht : (pc : Int) + off = (tgt : Int)) : z_so m pc (z_nl (pc + 3) tgt) := by
  intro d u ls st w Q ho p l e R s mi args below meth cd D C A n0 ad0 mc ms Z H locs cells slots la ad hE h1 h2 hc hs hmc hms hQ hr hl hst
  unfold z_nl at ho
  split at ho
  · exact lv_ifnonnullN hE.1 hE.2.1 hd (ho p l e R s mi args below meth cd D C A n0 ad0 mc ms Z H locs cells slots la ad hE h1 h2 hc hs hmc hms hQ hr hl (fun v hv => hst v (List.mem_cons_of_mem _ hv)))
  · exact lv_ifnonnull hE.1 hE.2.1 hd ht (ho p l e R s mi args below meth cd D C A n0 ad0 mc ms Z H locs cells slots la ad hE h1 h2 hc hs hmc hms hQ hr hl (fun v hv => hst v (List.mem_cons_of_mem _ hv)))
  · exact ho.elim
