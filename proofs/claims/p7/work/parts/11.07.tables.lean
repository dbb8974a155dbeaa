def zt301_0 : List (Nat × z_O) := [(0, z_p (f_ald 0) 1),
  (1, z_gI 12 0 4),
  (4, z_rti)]
set_option maxRecDepth 100000 in
theorem zD301_0_0 : (decide (decode (z_mC 301) 0 = .ok (.aload_n 0, 1)) && (decide (decode (z_mC 301) 1 = .ok (.getfield 88, 3)) && (decide (decode (z_mC 301) 4 = .ok (.ireturn, 1)) && (true)))) = true := by decide +kernel
set_option maxRecDepth 100000 in
theorem zs301_0 : ∀ q ∈ zt301_0, z_q 301 q := List.forall_mem_cons.mpr ⟨z_qi (z_s_aload_n (z_b1 zD301_0_0) rfl) (z_mo_p (f_ald 0) 1),
  List.forall_mem_cons.mpr ⟨z_qi (z_s_getI (ci := 12) (N := 39) (k := 0) (Cn := "SlabMapModel") (T := TX12) rfl (by decide) rfl (by first | exact Or.inl rfl | exact Or.inr rfl) zw_1215 (z_b1 (z_b2 zD301_0_0))) (z_mo_gI 12 0 4),
  List.forall_mem_cons.mpr ⟨z_qi (z_s_ireturn rfl (z_b1 (z_b2 (z_b2 zD301_0_0)))) (z_mo_rti),
  fun _ h => absurd h List.not_mem_nil⟩⟩⟩
def zt301 : List (Nat × z_O) := zt301_0
theorem zs301 : ∀ q ∈ zt301, z_q 301 q := zs301_0
