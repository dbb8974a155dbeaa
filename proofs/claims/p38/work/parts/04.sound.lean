/-! What each op is to the machine. -/
def z_TB : List Cond := lw_tbl.filter goodWord
theorem z_cell_eq {C : z_C3} {ad ad' : Nat → Nat} {w w' : z_W} {q : Nat} (hk : z_k w' q = z_k w q) (hl : z_len w' q = z_len w q) (hI : ∀ j, z_I w' q j = z_I w q j) (hR : ∀ j, (z_R w' q j).map ad' = (z_R w q j).map ad) : z_cell C ad' w' q = z_cell C ad w q := by
  unfold z_cell z_fv
  rw [hk, hl]
  simp only [hI, hR]
/-- what a long is kept in -/
def z_lg (w : z_W) (p : Nat) (j : Int) : Prop := z_k w p = 101 ∨ (z_k w p < 13 ∧ z_ty (z_k w p) j.toNat = .long)
def z_vals (w : z_W) : Prop := (∀ p j, z_rl (z_I w p j) ∧ (¬ z_lg w p j → z_rg (z_I w p j))) ∧ (∀ p j q, z_R w p j = some q → q < z_N w) ∧ (∀ p, p < z_N w → 0 ≤ z_len w p ∧ z_len w p ≤ 2147483647) ∧ 2 ≤ z_N w ∧ (∀ p, 2 ≤ p → p < z_N w → z_k w p < 13 ∨ z_k w p = 100 ∨ z_k w p = 101 ∨ z_k w p = 102)
/-- an array of ints that was there: its first L cells, its length as the machine tells it -/
def z_aX (b L : Nat) (xs : Nat → Int32) (U : State) (H : Heap) : Prop := ∃ scr : Cell, H[b]? = some scr ∧ U.isArrayOf scr .int ∧ scr.vm ≠ .unknown ∧ L ≤ scr.slots.size ∧ scr.slots.size.toInt32 = Int32.ofNat L ∧ ∀ j : Nat, j < L → scr.slots[j]? = some (.int (xs j))
theorem z_aX.kept {b L : Nat} {xs : Nat → Int32} {U : State} {H H1 : Heap} (h : z_aX b L xs U H) (hq : H1[b]? = H[b]?) : z_aX b L xs U H1 := by
  obtain ⟨scr, h1, h2⟩ := h
  exact ⟨scr, by rw [hq]; exact h1, h2⟩
theorem z_aX.moved {b L : Nat} {xs : Nat → Int32} {u U : State} {H : Heap} (hvm : u.vm.Alike U.vm) (h : z_aX b L xs u H) : z_aX b L xs U H := by
  obtain ⟨scr, h1, h2, h3⟩ := h
  exact ⟨scr, h1, State.isArrayOf_alike hvm h2, h3⟩
theorem z_aX.T {b L : Nat} {xs : Nat → Int32} {A : Nat → Prop} {U : State} {H : Heap} (h : z_aX b L xs U H) (hA : ¬ A b) : va_T .int b L (fun j => .int (xs j)) A U H := by
  obtain ⟨scr, h1, h2, h3, h4, h5, h6⟩ := h
  exact ⟨scr, h1, h2, h3, h4, h5, h6, hA⟩
theorem z_aX.of {b L : Nat} {xs : Nat → Int32} {U : State} {H : Heap} (h : va_X b L xs U H) : z_aX b L xs U H := by
  obtain ⟨scr, h1, h2, h3, h4, h5⟩ := h
  exact ⟨scr, h1, h2, h3, by omega, congrArg Nat.toInt32 h4, h5⟩
theorem z_aX.ofT {b L : Nat} {xs : Nat → Int32} {A : Nat → Prop} {U : State} {H : Heap} (h : va_T .int b L (fun j => .int (xs j)) A U H) : z_aX b L xs U H := by
  obtain ⟨scr, h1, h2, h3, h4, h5, h6, _⟩ := h
  exact ⟨scr, h1, h2, h3, h4, h5, h6⟩
/-- the two arrays that were there before: the script, NUMBERS_OF_SORT -/
def z_old (ad : Nat → Nat) (w : z_W) (A : Nat → Prop) (s : State) : Prop := (∀ k, k < 2 → z_k w k = 103 ∧ z_aX (ad k) (z_len w k).toNat (fun j => Int32.ofInt (z_I w k j)) s s.heap ∧ ad k < s.heap.size ∧ ¬ A (ad k)) ∧ va_Z "SlabMap" "NUMBERS_OF_SORT" "[I" (.ref (ad 1)) A s s.heap
def z_rep (D : va_G) (C : z_C3) (A : Nat → Prop) (s : State) (n0 : Nat) (ad0 : Nat → Nat) (H : Heap) (locs : List Loc) (ad : Nat → Nat) (w : z_W) : Prop :=
  va_P D z_cls (z_ws C ad w) H ∧ va_D A (z_ws C ad w) ∧ va_S A s.heap H locs ∧ z_vals w ∧ z_old ad w A s ∧ n0 ≤ z_N w ∧ (∀ k, k < n0 → ad k = ad0 k)
def z_nbm : List (String × Nat × MethodName × String) := [("SlabMap", 11, ⟨"SlabMap$Tape", "<init>", "()V"⟩, "SlabMap"), ("SlabMap$Reader", 23, ⟨"SlabMap$Steps", "<init>", "()V"⟩, "SlabMap"), ("SlabMap", 59, ⟨"SlabMap$History", "<init>", "()V"⟩, "SlabMap"), ("SlabMap", 66, ⟨"SlabMap$Log", "<init>", "()V"⟩, "SlabMap"), ("SlabMap", 82, ⟨"SlabMap$Act", "<init>", "()V"⟩, "SlabMap"), ("SlabMap", 89, ⟨"SlabMap$Ends", "<init>", "()V"⟩, "SlabMap"), ("SlabMap", 96, ⟨"SlabMap$Colours", "<init>", "()V"⟩, "SlabMap"), ("SlabMap$Edges", 97, ⟨"SlabMap", "isPoint", "(II)Z"⟩, "SlabMap"), ("SlabMap$Edges", 107, ⟨"SlabMap", "isRegion", "(I)Z"⟩, "SlabMap"), ("SlabMap", 174, ⟨"SlabMap$Steps", "<init>", "()V"⟩, "SlabMap"), ("SlabMap$Colours", 23, ⟨"SlabMap", "isRegion", "(I)Z"⟩, "SlabMap")]
def z_nbf : List (String × Nat × String × String × String × String) := [("SlabMap$Reader", 9, "SlabMap", "NUMBERS_OF_SORT", "[I", "SlabMap"), ("SlabMap$Act", 43, "SlabMap", "NUMBERS_OF_SORT", "[I", "SlabMap")]
/-- what the one throw leans on -/
def z_nbt : List Cond := [.castable "java/util/NoSuchElementException" "java/util/NoSuchElementException", .declares ⟨"java/lang/RuntimeException", "<init>", "()V"⟩, .declares ⟨"java/lang/Exception", "<init>", "()V"⟩, .declares ⟨"java/lang/Throwable", "<init>", "()V"⟩]
def z_th (A : Nat → Prop) (s : State) : Prop := vx_Zq Bundle.tN "UNASSIGNED_STACK" Bundle.steD A s s.heap ∧ vx_Zq Bundle.tN "SUPPRESSED_SENTINEL" Bundle.listD A s s.heap ∧ ∀ q ∈ z_nbt, va_Nw q s
theorem z_nbt_warm {s U : State} (hW : s.WarmedH U.vm) (h : ∀ q ∈ z_nbt, va_Nw q s) : ∀ q ∈ z_nbt, va_Nw q U := by
  intro q hq
  have hz := h q hq
  simp only [z_nbt, List.mem_cons, List.not_mem_nil, or_false] at hq
  rcases hq with rfl | rfl | rfl | rfl
  · exact va_Nw.warmC hW hz
  · exact va_Nw.warmD hW hz
  · exact va_Nw.warmD hW hz
  · exact va_Nw.warmD hW hz
theorem z_nbt_same {s U : State} (e : s.vm = U.vm) (h : ∀ q ∈ z_nbt, va_Nw q s) : ∀ q ∈ z_nbt, va_Nw q U := by
  intro q hq
  have hz := h q hq
  simp only [z_nbt, List.mem_cons, List.not_mem_nil, or_false] at hq
  rcases hq with rfl | rfl | rfl | rfl
  · exact va_Nw.same rfl e hz
  · exact va_Nw.same rfl e hz
  · exact va_Nw.same rfl e hz
  · exact va_Nw.same rfl e hz
/-- the tables of handlers -/
def z_tbl (m : Nat) (c : Code) : Prop := (m = 128 → ∀ x ∈ c.exceptionTable.toList, False) ∧ (m = 299 → c.exceptionTable.toList = tableOf [(0, 10, 13, 13)])
/-- what an activation may lean on -/
def z_env (m : Nat) (l : Launch) (p : Program) (s : State) (mi : MethodId) (args : Array Value) (meth : Method) (c : Code) (D : va_G) (C : z_C3) (A : Nat → Prop) : Prop :=
  p.tables.exec = Jvm.exec ∧ c.code = z_mC m ∧ meth.sig.returnType = z_mR m ∧ c.maxLocals = z_mL m ∧ s.vm.findClass (z_mY m).cls = some mi.cls ∧ (∀ w ∈ z_TB, w.before args s = true) ∧ meth.locks = false ∧ meth.name = (z_mY m).name ∧
  va_K D z_cls [(C.1, .int), (C.2.1, .long), (C.2.2, .object "SlabMap$Steps")] s ∧ (∀ q, s.heap.size ≤ q → A q) ∧
  (∀ q ∈ z_nbm, va_Nw (.methodLinkNest q.1 q.2.1 q.2.2.1 q.2.2.2) s) ∧ (∀ q ∈ z_nbf, va_Nw (.fieldLinkNest q.1 q.2.1 q.2.2.1 q.2.2.2.1 q.2.2.2.2.1 q.2.2.2.2.2) s) ∧ (va_AO "SlabMap$Steps" s ∧ z_th A s ∧ z_tbl m c ∧ l.stackTraces = false)
abbrev z_JW (p : Program) (l : Launch) (e : Env) (R : Room) (s : State) (mi : MethodId) (args : Array Value) (below : List Frame) (meth : Method) (c : Code) (Z : State → Prop) (ad : Nat → Nat) (H : Heap) (locs : List Loc) (cells slots : Nat) (la : Array Slot) (pc : Nat) (st : List z_V) : Prop :=
  W p l e R s mi args below meth c H locs cells slots Z (F0 mi pc la (st.map (z_tv ad)))
/-- how a method may end -/
def z_ri (i : Instr) (r : Option z_V) (ret : Option FieldType) : Prop :=
  (i = .ireturn ∧ ∃ z, r = some (z_i z) ∧ (ret = some .int ∨ (ret = some .boolean ∧ (z = 0 ∨ z = 1)))) ∨ (i = .return_ ∧ r = none ∧ ret = none) ∨ (i = .lreturn ∧ (∃ z, r = some (z_l z)) ∧ ret = some .long) ∨ (i = .areturn ∧ (∃ o, r = some (z_vr o)) ∧ ∃ rt, ret = some rt ∧ ((∃ n, rt = .object n) ∨ ∃ t, rt = .array t))
def z_RO0 (m : Nat) (p : Program) (l : Launch) (e : Env) (R : Room) (s : State) (mi : MethodId) (args : Array Value) (below : List Frame) (meth : Method) (c : Code) (D : va_G) (C : z_C3) (A : Nat → Prop) (n0 : Nat) (ad0 : Nat → Nat) (mc ms : Nat) (Z : State → Prop) (Q : z_P) : Prop :=
  ∀ (H : Heap) (locs : List Loc) (ad : Nat → Nat) (w : z_W) (r : Option z_V) (pc : Nat) (la : Array Slot) (i : Instr), z_rep D C A s n0 ad0 H locs ad w → Q r w → (∀ v, r = some v → z_ok (z_N w) v) → decode (z_mC m) pc = .ok (i, 1) → z_ri i r (z_mR m) →
    z_JW p l e R s mi args below meth c Z ad H locs mc ms la pc r.toList
/-- how SlabMap.edge may end by a throw -/
def z_RX (m : Nat) (p : Program) (l : Launch) (e : Env) (R : Room) (s : State) (mi : MethodId) (args : Array Value) (below : List Frame) (meth : Method) (c : Code) (D : va_G) (C : z_C3) (A : Nat → Prop) (n0 : Nat) (ad0 : Nat → Nat) (mc ms : Nat) (Z : State → Prop) (Q : z_P) : Prop :=
  m = 128 → ∀ (H : Heap) (locs : List Loc) (ad : Nat → Nat) (w : z_W) (la : Array Slot) (cells slots : Nat), z_rep D C A s n0 ad0 H locs ad w → Q (some z_x) w → la.size = z_mL m → cells + 1 ≤ mc → slots + 6 ≤ ms → 6 ≤ R.frames → 360 ≤ R.locals → mc ≤ R.cells → ms ≤ R.slots →
    z_JW p l e R s mi args below meth c Z ad H locs cells slots la 21 []
def z_RO (m : Nat) (p : Program) (l : Launch) (e : Env) (R : Room) (s : State) (mi : MethodId) (args : Array Value) (below : List Frame) (meth : Method) (c : Code) (D : va_G) (C : z_C3) (A : Nat → Prop) (n0 : Nat) (ad0 : Nat → Nat) (mc ms : Nat) (Z : State → Prop) (Q : z_P) : Prop :=
  z_RO0 m p l e R s mi args below meth c D C A n0 ad0 mc ms Z Q ∧ z_RX m p l e R s mi args below meth c D C A n0 ad0 mc ms Z Q
def z_J : z_X := fun d u m pc ls st w Q => ∀ (p : Program) (l : Launch) (e : Env) (R : Room) (s : State) (mi : MethodId) (args : Array Value) (below : List Frame) (meth : Method) (c : Code) (D : va_G) (C : z_C3) (A : Nat → Prop) (n0 : Nat) (ad0 : Nat → Nat) (mc ms : Nat) (Z : State → Prop) (H : Heap) (locs : List Loc) (cells slots : Nat) (la : Array Slot) (ad : Nat → Nat),
  z_env m l p s mi args meth c D C A → d ≤ R.frames → 60 * d ≤ R.locals → cells + u.1 ≤ mc → slots + u.2 ≤ ms → mc ≤ R.cells → ms ≤ R.slots → z_RO m p l e R s mi args below meth c D C A n0 ad0 mc ms Z Q → z_rep D C A s n0 ad0 H locs ad w → z_lo ad (z_N w) (z_mL m) ls la → (∀ v ∈ st, z_ok (z_N w) v) →
  z_JW p l e R s mi args below meth c Z ad H locs cells slots la pc st
def z_so (m pc : Nat) (o : z_O) : Prop := ∀ d u ls st w Q, o z_J d u m ls st w Q → z_J d u m pc ls st w Q
/-- an op on locals and stack alone -/
theorem z_so_p {m pc nx : Nat} {f : z_F} (h : ∀ (p : Program) (l : Launch) (e : Env) (R : Room) (s : State) (mi : MethodId) (args : Array Value) (below : List Frame) (meth : Method) (c : Code) (D : va_G) (C : z_C3) (A : Nat → Prop) (Z : State → Prop) (H : Heap) (locs : List Loc) (cells slots : Nat) (la : Array Slot) (ad : Nat → Nat) (n : Nat) (ls st ls' st' : List z_V), z_env m l p s mi args meth c D C A → f ls st = some (ls', st') → z_lo ad n (z_mL m) ls la → (∀ v ∈ st, z_ok n v) →
    (∀ la', z_lo ad n (z_mL m) ls' la' → (∀ v ∈ st', z_ok n v) → z_JW p l e R s mi args below meth c Z ad H locs cells slots la' nx st') → z_JW p l e R s mi args below meth c Z ad H locs cells slots la pc st) : z_so m pc (z_p f nx) := by
  intro d u ls st w Q ho p l e R s mi args below meth c D C A n0 ad0 mc ms Z H locs cells slots la ad hE hd hd2 hc hs hmc hms hQ hr hl hst
  unfold z_p at ho
  split at ho
  · rename_i ls' st' hf
    exact h p l e R s mi args below meth c D C A Z H locs cells slots la ad (z_N w) ls st ls' st' hE hf hl hst (fun la' hl' hst' => ho p l e R s mi args below meth c D C A n0 ad0 mc ms Z H locs cells slots la' ad hE hd hd2 hc hs hmc hms hQ hr hl' hst')
  · exact ho.elim
theorem z_all {n : Nat} {v : z_V} {st : List z_V} (hv : z_ok n v) (h : ∀ v ∈ st, z_ok n v) : ∀ u ∈ v :: st, z_ok n u := List.forall_mem_cons.mpr ⟨hv, h⟩
theorem z_s_iconst {m pc : Nat} {k : Int} {z : Int} (hd : decode (z_mC m) pc = .ok (.iconst k, 1)) (hz : Int32.ofInt k = Int32.ofInt z ∧ (-2147483648 ≤ z ∧ z ≤ 2147483647)) : z_so m pc (z_p (f_ic z) (pc + 1)) := by
  refine z_so_p fun p l e R s mi args below meth c D C A Z H locs cells slots la ad n ls st ls' st' hE hf hl hst k => ?_
  obtain ⟨hx, hb, -⟩ := hE
  cases hf
  exact lv_iconst hx hb hd hz.1 (k la hl (z_all hz.2 hst))
theorem z_s_bipush {m pc : Nat} {k : Int} {z : Int} (hd : decode (z_mC m) pc = .ok (.bipush k, 2)) (hz : (Int8.ofInt k).toInt32 = Int32.ofInt z ∧ (-2147483648 ≤ z ∧ z ≤ 2147483647)) : z_so m pc (z_p (f_ic z) (pc + 2)) := by
  refine z_so_p fun p l e R s mi args below meth c D C A Z H locs cells slots la ad n ls st ls' st' hE hf hl hst k => ?_
  obtain ⟨hx, hb, -⟩ := hE
  cases hf
  exact lv_bipush hx hb hd hz.1 (k la hl (z_all hz.2 hst))
theorem z_s_sipush {m pc : Nat} {k : Int} {z : Int} (hd : decode (z_mC m) pc = .ok (.sipush k, 3)) (hz : (Int16.ofInt k).toInt32 = Int32.ofInt z ∧ (-2147483648 ≤ z ∧ z ≤ 2147483647)) : z_so m pc (z_p (f_ic z) (pc + 3)) := by
  refine z_so_p fun p l e R s mi args below meth c D C A Z H locs cells slots la ad n ls st ls' st' hE hf hl hst k => ?_
  obtain ⟨hx, hb, -⟩ := hE
  cases hf
  exact lv_sipush hx hb hd hz.1 (k la hl (z_all hz.2 hst))
theorem z_s_lconst {m pc : Nat} {k : Fin 2} {z : Int} (hd : decode (z_mC m) pc = .ok (.lconst k, 1)) (hz : Int64.ofNat (k : Nat) = Int64.ofInt z ∧ (-2147483648 ≤ z ∧ z ≤ 2147483647)) : z_so m pc (z_p (f_lc z) (pc + 1)) := by
  refine z_so_p fun p l e R s mi args below meth c D C A Z H locs cells slots la ad n ls st ls' st' hE hf hl hst k => ?_
  obtain ⟨hx, hb, -⟩ := hE
  cases hf
  exact lv_lconst hx hb hd hz.1 (k la hl (z_all (show z_rl z by unfold z_rl; omega) hst))
theorem z_s_ldc {m pc idx : Nat} {v : Int32} {z : Int} (hw : (Cond.constant (z_mY m).cls idx v) ∈ z_TB) (hd : decode (z_mC m) pc = .ok (.ldc idx, 2)) (hz : v = Int32.ofInt z ∧ (-2147483648 ≤ z ∧ z ≤ 2147483647)) : z_so m pc (z_p (f_ic z) (pc + 2)) := by
  refine z_so_p fun p l e R s mi args below meth c D C A Z H locs cells slots la ad n ls st ls' st' hE hf hl hst k => ?_
  obtain ⟨hx, hb, -, -, hown, hts, -⟩ := hE
  cases hf
  refine lv_ldc (v := v) hx hb hown (hts _ hw) hd ?_
  rw [hz.1]
  exact k la hl (z_all hz.2 hst)
theorem z_s_ldcw {m pc idx : Nat} {v : Int32} {z : Int} (hw : (Cond.constant (z_mY m).cls idx v) ∈ z_TB) (hd : decode (z_mC m) pc = .ok (.ldc_w idx, 3)) (hz : v = Int32.ofInt z ∧ (-2147483648 ≤ z ∧ z ≤ 2147483647)) : z_so m pc (z_p (f_ic z) (pc + 3)) := by
  refine z_so_p fun p l e R s mi args below meth c D C A Z H locs cells slots la ad n ls st ls' st' hE hf hl hst k => ?_
  obtain ⟨hx, hb, -, -, hown, hts, -⟩ := hE
  cases hf
  refine lv_ldcw (v := v) hx hb hown (hts _ hw) hd ?_
  rw [hz.1]
  exact k la hl (z_all hz.2 hst)
theorem z_s_ldc2 {m pc idx : Nat} {v : Int64} {z : Int} (hw : (Cond.constantLong (z_mY m).cls idx v) ∈ z_TB) (hd : decode (z_mC m) pc = .ok (.ldc2_w idx, 3)) (hz : v = Int64.ofInt z ∧ (-9223372036854775808 ≤ z ∧ z ≤ 9223372036854775807)) : z_so m pc (z_p (f_lc z) (pc + 3)) := by
  refine z_so_p fun p l e R s mi args below meth c D C A Z H locs cells slots la ad n ls st ls' st' hE hf hl hst k => ?_
  obtain ⟨hx, hb, -, -, hown, hts, -⟩ := hE
  cases hf
  refine lv_ldc2 (v := v) hx hb hown (hts _ hw) hd ?_
  rw [hz.1]
  exact k la hl (z_all hz.2 hst)
theorem z_s_null {m pc : Nat} (hd : decode (z_mC m) pc = .ok (.aconst_null, 1)) : z_so m pc (z_p f_nc (pc + 1)) := by
  refine z_so_p fun p l e R s mi args below meth c D C A Z H locs cells slots la ad n ls st ls' st' hE hf hl hst k => ?_
  obtain ⟨hx, hb, -⟩ := hE
  cases hf
  exact lv_null hx hb hd (k la hl (z_all (v := z_n) trivial hst))
theorem z_lo_at {ad : Nat → Nat} {n nL : Nat} {ls : List z_V} {la : Array Slot} {i : Nat} {v : z_V} (h : z_lo ad n nL ls la) (hi : ls[i]? = some v) (hx : v ≠ z_x) : z_ok n v ∧ la[i]? = some (.val (z_tv ad v)) := by
  rcases h.2.2.2 i v hi with q | q
  · exact absurd q hx
  · exact q
theorem z_s_iload_n {m pc : Nat} {k : Fin 4} {i : Nat} (hd : decode (z_mC m) pc = .ok (.iload_n k, 1)) (hi : (k : Nat) = i) : z_so m pc (z_p (f_ild i) (pc + 1)) := by
  refine z_so_p fun p l e R s mi args below meth c D C A Z H locs cells slots la ad n ls st ls' st' hE hf hl hst k => ?_
  obtain ⟨hx, hb, -⟩ := hE
  unfold f_ild at hf
  split at hf
  · rename_i z hz
    cases hf
    obtain ⟨q1, q2⟩ := z_lo_at hl hz (fun q => by cases q)
    exact lv_iload_n hx hb hd hi q2 (k la hl (z_all q1 hst))
  · cases hf
theorem z_s_iload {m pc i : Nat} (hd : decode (z_mC m) pc = .ok (.iload i, 2)) : z_so m pc (z_p (f_ild i) (pc + 2)) := by
  refine z_so_p fun p l e R s mi args below meth c D C A Z H locs cells slots la ad n ls st ls' st' hE hf hl hst k => ?_
  obtain ⟨hx, hb, -⟩ := hE
  unfold f_ild at hf
  split at hf
  · rename_i z hz
    cases hf
    obtain ⟨q1, q2⟩ := z_lo_at hl hz (fun q => by cases q)
    exact lv_iload hx hb hd q2 (k la hl (z_all q1 hst))
  · cases hf
theorem z_s_lload_n {m pc : Nat} {k : Fin 4} {i : Nat} (hd : decode (z_mC m) pc = .ok (.lload_n k, 1)) (hi : (k : Nat) = i) : z_so m pc (z_p (f_lld i) (pc + 1)) := by
  refine z_so_p fun p l e R s mi args below meth c D C A Z H locs cells slots la ad n ls st ls' st' hE hf hl hst k => ?_
  obtain ⟨hx, hb, -⟩ := hE
  unfold f_lld at hf
  split at hf
  · rename_i z hz
    cases hf
    obtain ⟨q1, q2⟩ := z_lo_at hl hz (fun q => by cases q)
    exact lv_lload_n hx hb hd hi q2 (k la hl (z_all q1 hst))
  · cases hf
theorem z_s_aload_n {m pc : Nat} {k : Fin 4} {i : Nat} (hd : decode (z_mC m) pc = .ok (.aload_n k, 1)) (hi : (k : Nat) = i) : z_so m pc (z_p (f_ald i) (pc + 1)) := by
  refine z_so_p fun p l e R s mi args below meth c D C A Z H locs cells slots la ad n ls st ls' st' hE hf hl hst k => ?_
  obtain ⟨hx, hb, -⟩ := hE
  unfold f_ald at hf
  split at hf
  · rename_i o hz
    cases hf
    obtain ⟨q1, q2⟩ := z_lo_at hl hz (fun q => by cases q)
    cases o with
    | none => exact lv_aload_nN hx hb hd hi q2 (k la hl (z_all q1 hst))
    | some a => exact lv_aload_n hx hb hd hi q2 (k la hl (z_all q1 hst))
  · cases hf
theorem z_s_aload {m pc i : Nat} (hd : decode (z_mC m) pc = .ok (.aload i, 2)) : z_so m pc (z_p (f_ald i) (pc + 2)) := by
  refine z_so_p fun p l e R s mi args below meth c D C A Z H locs cells slots la ad n ls st ls' st' hE hf hl hst k => ?_
  obtain ⟨hx, hb, -⟩ := hE
  unfold f_ald at hf
  split at hf
  · rename_i o hz
    cases hf
    obtain ⟨q1, q2⟩ := z_lo_at hl hz (fun q => by cases q)
    cases o with
    | none => exact lv_aloadN hx hb hd q2 (k la hl (z_all q1 hst))
    | some a => exact lv_aload hx hb hd q2 (k la hl (z_all q1 hst))
  · cases hf
theorem z_s_istore_n {m pc : Nat} {k : Fin 4} {i : Nat} (hd : decode (z_mC m) pc = .ok (.istore_n k, 1)) (hi : (k : Nat) = i) (hn : i < z_mL m) : z_so m pc (z_p (f_ist i) (pc + 1)) := by
  refine z_so_p fun p l e R s mi args below meth c D C A Z H locs cells slots la ad n ls st ls' st' hE hf hl hst k => ?_
  obtain ⟨hx, hb, -⟩ := hE
  unfold f_ist at hf
  split at hf
  · rename_i z st2
    cases hf
    exact lv_istore_n hx hb hd hi (z_lo_has hl) hn rfl (fun la' h' => k la' (z_lo_set hl (hst _ List.mem_cons_self) h') (fun v hv => hst v (List.mem_cons_of_mem _ hv)))
  · cases hf
theorem z_s_istore {m pc i : Nat} (hd : decode (z_mC m) pc = .ok (.istore i, 2)) (hn : i < z_mL m) : z_so m pc (z_p (f_ist i) (pc + 2)) := by
  refine z_so_p fun p l e R s mi args below meth c D C A Z H locs cells slots la ad n ls st ls' st' hE hf hl hst k => ?_
  obtain ⟨hx, hb, -⟩ := hE
  unfold f_ist at hf
  split at hf
  · rename_i z st2
    cases hf
    exact lv_istore hx hb hd (z_lo_has hl) hn rfl (fun la' h' => k la' (z_lo_set hl (hst _ List.mem_cons_self) h') (fun v hv => hst v (List.mem_cons_of_mem _ hv)))
  · cases hf
theorem z_s_lstore_n {m pc : Nat} {k : Fin 4} {i : Nat} (hd : decode (z_mC m) pc = .ok (.lstore_n k, 1)) (hi : (k : Nat) = i) (hn : i + 1 < z_mL m) : z_so m pc (z_p (f_lst i) (pc + 1)) := by
  refine z_so_p fun p l e R s mi args below meth c D C A Z H locs cells slots la ad n ls st ls' st' hE hf hl hst k => ?_
  obtain ⟨hx, hb, -⟩ := hE
  unfold f_lst at hf
  split at hf
  · rename_i z st2
    cases hf
    exact lv_lstore_n hx hb hd hi (z_lo_has hl) hn rfl (fun la' h' => k la' (z_lo_set2 hl (hst _ List.mem_cons_self) h') (fun v hv => hst v (List.mem_cons_of_mem _ hv)))
  · cases hf
theorem z_s_astore_n {m pc : Nat} {k : Fin 4} {i : Nat} (hd : decode (z_mC m) pc = .ok (.astore_n k, 1)) (hi : (k : Nat) = i) (hn : i < z_mL m) : z_so m pc (z_p (f_ast i) (pc + 1)) := by
  refine z_so_p fun p l e R s mi args below meth c D C A Z H locs cells slots la ad n ls st ls' st' hE hf hl hst k => ?_
  obtain ⟨hx, hb, -⟩ := hE
  unfold f_ast at hf
  split at hf
  · rename_i o st2
    cases hf
    have hv := hst _ List.mem_cons_self
    cases o with
    | none => exact lv_astore_nN hx hb hd hi (z_lo_has hl) hn rfl (fun la' h' => k la' (z_lo_set (v := z_vr none) hl hv h') (fun v hv => hst v (List.mem_cons_of_mem _ hv)))
    | some a => exact lv_astore_n hx hb hd hi (z_lo_has hl) hn rfl (fun la' h' => k la' (z_lo_set (v := z_vr (some a)) hl hv h') (fun v hv => hst v (List.mem_cons_of_mem _ hv)))
  · cases hf
theorem z_s_astore {m pc i : Nat} (hd : decode (z_mC m) pc = .ok (.astore i, 2)) (hn : i < z_mL m) : z_so m pc (z_p (f_ast i) (pc + 2)) := by
  refine z_so_p fun p l e R s mi args below meth c D C A Z H locs cells slots la ad n ls st ls' st' hE hf hl hst k => ?_
  obtain ⟨hx, hb, -⟩ := hE
  unfold f_ast at hf
  split at hf
  · rename_i o st2
    cases hf
    have hv := hst _ List.mem_cons_self
    cases o with
    | none => exact lv_astoreN hx hb hd (z_lo_has hl) hn rfl (fun la' h' => k la' (z_lo_set (v := z_vr none) hl hv h') (fun v hv => hst v (List.mem_cons_of_mem _ hv)))
    | some a => exact lv_astore hx hb hd (z_lo_has hl) hn rfl (fun la' h' => k la' (z_lo_set (v := z_vr (some a)) hl hv h') (fun v hv => hst v (List.mem_cons_of_mem _ hv)))
  · cases hf
theorem z_lv_at (ad : Nat → Nat) {ls : List z_V} {i : Nat} {v : z_V} (h : ls[i]? = some v) (hx : v ≠ z_x) : ∃ k : Nat, (z_lv ad ls 0)[k]? = some (i, z_tv ad v) := by
  apply List.getElem?_of_mem
  exact (z_lv_mem ad ls 0 _).mpr ⟨i, v, h, hx, by rw [Nat.zero_add]⟩
theorem z_s_iinc {m pc i : Nat} {c : Int} (hd : decode (z_mC m) pc = .ok (.iinc i c, 3)) (hn : i < z_mL m) : z_so m pc (z_p (f_inc i c) (pc + 3)) := by
  refine z_so_p fun p l e R s mi args below meth c D C A Z H locs cells slots la ad n ls st ls' st' hE hf hl hst k => ?_
  obtain ⟨hx, hb, -⟩ := hE
  unfold f_inc at hf
  split at hf
  · rename_i z hz
    cases hf
    obtain ⟨k0, hk0⟩ := z_lv_at ad hz (fun q => by cases q)
    exact lv_iinc hx hb hd (z_lo_has hl) hk0 (v := Int32.ofInt (z_add z _)) (by rw [z_add, z_to]) hn rfl (fun la' h' => k la' (z_lo_set (v := z_i (z_add z _)) hl (z_rgT _) h') hst)
  · cases hf
